/-! methods of cls, 1 -/
/-! BlackMill.filled(I)I -/
noncomputable def mi_X10_filled : MI := (cX10_filled, 3, RX10, [], [], [], [], [], [], [])
noncomputable def a_X10_filled : St wC (mi_X10_filled) 0 :=
  (sSeq (sSet 1 (eInt 0))
  (sSeq (sBlk (sSeq (sSet 2 (eInt 0))
  (sWh (oCmp .lt (eLoc 2) (eInt 32)) (sSeq (sIf (oCm0 .ne (eBin 3 (eBin 8 (eLoc 0) (eLoc 2)) (eInt 255))) (sInc 1 1))
  (sInc 2 8)))))
  (sRet (eLoc 1))))
def n_X10_filled : MN := (yX10_filled, cX10_filled, 3, (some .int), 1)
noncomputable def ci_X10_filled : CI := (0, 10, [0], 0, denM 3 [0] false a_X10_filled.1.1)
set_option maxRecDepth 100000 in
theorem m_X10_filled : MetD wC n_X10_filled ci_X10_filled := g_meth false (a_X10_filled) rxC_ok (by decide) rfl rfl rfl (by decide) (by decide) (Or.inl ⟨rfl, rfl⟩) (fun h => by cases h) (mkWords (fun _ h => absurd h List.not_mem_nil) (fun _ h => absurd h List.not_mem_nil) (fun _ h => absurd h List.not_mem_nil) (fun _ h => absurd h List.not_mem_nil) (fun _ h => absurd h List.not_mem_nil) (fun _ h => absurd h List.not_mem_nil)) (fun _ h => absurd h List.not_mem_nil) (by decide +kernel)
/-! BlackMill.put([III)V -/
noncomputable def mi_X10_put : MI := (cX10_put, 3, RX10, [], [], [], [], [], [], [])
noncomputable def a_X10_put : St wC (mi_X10_put) 3 :=
  (sSeq (sIf (oAnd (oCm0 .ge (eLoc 1)) (oCmp .lt (eLoc 1) (eLen 0 (eLoc 0)))) (sPutA 0 (eLoc 0) (eLoc 1) (eLoc 2)))
  sReV)
def n_X10_put : MN := (yX10_put, cX10_put, 3, none, 1)
noncomputable def ci_X10_put : CI := (0, 10, [2, 0, 0], 3, denM 3 [2, 0, 0] false a_X10_put.1.1)
set_option maxRecDepth 100000 in
theorem m_X10_put : MetD wC n_X10_put ci_X10_put := g_meth false (a_X10_put) rxC_ok (by decide) rfl rfl rfl (by decide) (by decide) (Or.inr (Or.inr (Or.inr (Or.inr ⟨rfl, rfl⟩)))) (fun h => by cases h) (mkWords (fun _ h => absurd h List.not_mem_nil) (fun _ h => absurd h List.not_mem_nil) (fun _ h => absurd h List.not_mem_nil) (fun _ h => absurd h List.not_mem_nil) (fun _ h => absurd h List.not_mem_nil) (fun _ h => absurd h List.not_mem_nil)) (fun _ h => absurd h List.not_mem_nil) (by decide +kernel)
/-! BlackMill$Tape.addWord(I)V -/
noncomputable def mi_X8_addWord : MI := (cX8_addWord, 4, RX8, [], [], [], [(9, 8, 0), (19, 8, 1)], [], [], [(22, ci_X10_put)])
noncomputable def a_X8_addWord : St wC (mi_X8_addWord) 3 :=
  (sSeq (sBlk (sSeq (sSet 2 (eInt 24))
  (sWh (oCm0 .ge (eLoc 2)) (sSeq (sSeq (sSet 3 (eBin 3 (eBin 8 (eLoc 1) (eLoc 2)) (eInt 255)))
  (sIf (oAnd (oCm0 .ne (eLoc 3)) (oCmp .lt (eFld 8 1 (eLoc 0)) (eLen 0 (eFld 8 0 (eLoc 0))))) (sSeq (sDo 22 ci_X10_put rfl (aA1 (aA1 (aA1 aA0 (eFld 8 0 (eLoc 0))) (eFld 8 1 (eLoc 0))) (eLoc 3)))
  (sUpdF 0 8 1 (eLoc 0) (eInt 1)))))
  (sInc 2 (-8))))))
  sReV)
def n_X8_addWord : MN := (yX8_addWord, cX8_addWord, 4, none, 2)
noncomputable def ci_X8_addWord : CI := (1, 8, [2, 0], 3, denM 4 [2, 0] false a_X8_addWord.1.1)
set_option maxRecDepth 100000 in
theorem m_X8_addWord : MetD wC n_X8_addWord ci_X8_addWord := g_meth false (a_X8_addWord) rxC_ok (by decide) rfl rfl rfl (by decide) (by decide) (Or.inr (Or.inr (Or.inr (Or.inr ⟨rfl, rfl⟩)))) (fun h => by cases h) (mkWords (fun _ h => absurd h List.not_mem_nil) (fun _ h => absurd h List.not_mem_nil) (fun _ h => absurd h List.not_mem_nil) (List.forall_mem_cons.mpr ⟨⟨_, _, _, rfl, by decide, Or.inl fw_X8_9⟩, List.forall_mem_cons.mpr ⟨⟨_, _, _, rfl, by decide, Or.inl fw_X8_19⟩, fun _ h => absurd h List.not_mem_nil⟩⟩) (fun _ h => absurd h List.not_mem_nil) (fun _ h => absurd h List.not_mem_nil)) (List.forall_mem_cons.mpr ⟨clS m_X10_put rfl (by decide) (Or.inr lw_X8_22) (kn_X10_put _) (by decide +kernel), fun _ h => absurd h List.not_mem_nil⟩) (by decide +kernel)
/-! BlackMill.feed(IIIII)I -/
noncomputable def mi_X10_feed : MI := (cX10_feed, 7, RX10, [], [], [], [(10, 10, 0), (103, 8, 1)], [], [], [(99, ci_X10_filled), (106, ci_X8_addWord)])
noncomputable def a_X10_feed : St wC (mi_X10_feed) 0 :=
  (sSeq (sSet 6 (eBin 0 (eBin 0 (eBin 0 (eBin 0 (eCal 99 ci_X10_filled rfl (aA1 aA0 (eLoc 1))) (eCal 99 ci_X10_filled rfl (aA1 aA0 (eLoc 2)))) (eCal 99 ci_X10_filled rfl (aA1 aA0 (eLoc 3)))) (eCal 99 ci_X10_filled rfl (aA1 aA0 (eLoc 4)))) (eCal 99 ci_X10_filled rfl (aA1 aA0 (eLoc 5)))))
  (sSeq (sIf (oCmp .gt (eBin 0 (eFld 8 1 (eFld 10 0 (eLoc 0))) (eLoc 6)) (eInt 240)) (sRet (eInt (-1))))
  (sSeq (sDo 106 ci_X8_addWord rfl (aA1 (aA1 aA0 (eFld 10 0 (eLoc 0))) (eLoc 1)))
  (sSeq (sDo 106 ci_X8_addWord rfl (aA1 (aA1 aA0 (eFld 10 0 (eLoc 0))) (eLoc 2)))
  (sSeq (sDo 106 ci_X8_addWord rfl (aA1 (aA1 aA0 (eFld 10 0 (eLoc 0))) (eLoc 3)))
  (sSeq (sDo 106 ci_X8_addWord rfl (aA1 (aA1 aA0 (eFld 10 0 (eLoc 0))) (eLoc 4)))
  (sSeq (sDo 106 ci_X8_addWord rfl (aA1 (aA1 aA0 (eFld 10 0 (eLoc 0))) (eLoc 5)))
  (sRet (eFld 8 1 (eFld 10 0 (eLoc 0)))))))))))
def n_X10_feed : MN := (yX10_feed, cX10_feed, 7, (some .int), 3)
noncomputable def ci_X10_feed : CI := (1, 10, [2, 0, 0, 0, 0, 0], 0, denM 7 [2, 0, 0, 0, 0, 0] false a_X10_feed.1.1)
set_option maxRecDepth 100000 in
theorem m_X10_feed : MetD wC n_X10_feed ci_X10_feed := g_meth false (a_X10_feed) rxC_ok (by decide) rfl rfl rfl (by decide) (by decide) (Or.inl ⟨rfl, rfl⟩) (fun h => by cases h) (mkWords (fun _ h => absurd h List.not_mem_nil) (fun _ h => absurd h List.not_mem_nil) (fun _ h => absurd h List.not_mem_nil) (List.forall_mem_cons.mpr ⟨⟨_, _, _, rfl, by decide, Or.inl fw_X10_10⟩, List.forall_mem_cons.mpr ⟨⟨_, _, _, rfl, by decide, Or.inr fw_X10_103⟩, fun _ h => absurd h List.not_mem_nil⟩⟩) (fun _ h => absurd h List.not_mem_nil) (fun _ h => absurd h List.not_mem_nil)) (List.forall_mem_cons.mpr ⟨clS m_X10_filled rfl (by decide) (Or.inl lw_X10_99) (kn_X10_filled _) (by decide +kernel), List.forall_mem_cons.mpr ⟨clV m_X8_addWord rfl rfl rfl (by decide) (Or.inl lw_X10_106) (kn_X8_addWord _) (by decide +kernel), fun _ h => absurd h List.not_mem_nil⟩⟩) (by decide +kernel)
/-! BlackMill.end(I)Z -/
noncomputable def mi_X10_end : MI := (cX10_end, 2, RX10, [], [], [], [(10, 10, 0), (103, 8, 1)], [], [], [])
noncomputable def a_X10_end : St wC (mi_X10_end) 0 :=
  (sSeq (sIf (oOr (oCm0 .lt (eLoc 1)) (oCmp .gt (eLoc 1) (eFld 8 1 (eFld 10 0 (eLoc 0))))) (sRet (eInt 0)))
  (sSeq (sPutF 8 1 (eFld 10 0 (eLoc 0)) (eLoc 1))
  (sRet (eInt 1))))
def n_X10_end : MN := (yX10_end, cX10_end, 2, (some .boolean), 1)
noncomputable def ci_X10_end : CI := (1, 10, [2, 0], 0, denM 2 [2, 0] true a_X10_end.1.1)
set_option maxRecDepth 100000 in
theorem m_X10_end : MetD wC n_X10_end ci_X10_end := g_meth true (a_X10_end) rxC_ok (by decide) rfl rfl rfl (by decide) (by decide) (Or.inr (Or.inl ⟨rfl, rfl⟩)) (fun _ => rfl) (mkWords (fun _ h => absurd h List.not_mem_nil) (fun _ h => absurd h List.not_mem_nil) (fun _ h => absurd h List.not_mem_nil) (List.forall_mem_cons.mpr ⟨⟨_, _, _, rfl, by decide, Or.inl fw_X10_10⟩, List.forall_mem_cons.mpr ⟨⟨_, _, _, rfl, by decide, Or.inr fw_X10_103⟩, fun _ h => absurd h List.not_mem_nil⟩⟩) (fun _ h => absurd h List.not_mem_nil) (fun _ h => absurd h List.not_mem_nil)) (fun _ h => absurd h List.not_mem_nil) (by decide +kernel)
/-! BlackMill$Tape.begin()V -/
noncomputable def mi_X8_begin : MI := (cX8_begin, 1, RX8, [], [], [], [(15, 8, 3), (26, 8, 2)], [], [], [])
noncomputable def a_X8_begin : St wC (mi_X8_begin) 3 :=
  (sSeq (sSeq (sPutF 8 2 (eLoc 0) (eInt 0))
  (sPutF 8 3 (eLoc 0) (eInt (-1))))
  sReV)
def n_X8_begin : MN := (yX8_begin, cX8_begin, 1, none, 1)
noncomputable def ci_X8_begin : CI := (1, 8, [2], 3, denM 1 [2] false a_X8_begin.1.1)
set_option maxRecDepth 100000 in
theorem m_X8_begin : MetD wC n_X8_begin ci_X8_begin := g_meth false (a_X8_begin) rxC_ok (by decide) rfl rfl rfl (by decide) (by decide) (Or.inr (Or.inr (Or.inr (Or.inr ⟨rfl, rfl⟩)))) (fun h => by cases h) (mkWords (fun _ h => absurd h List.not_mem_nil) (fun _ h => absurd h List.not_mem_nil) (fun _ h => absurd h List.not_mem_nil) (List.forall_mem_cons.mpr ⟨⟨_, _, _, rfl, by decide, Or.inl fw_X8_15⟩, List.forall_mem_cons.mpr ⟨⟨_, _, _, rfl, by decide, Or.inl fw_X8_26⟩, fun _ h => absurd h List.not_mem_nil⟩⟩) (fun _ h => absurd h List.not_mem_nil) (fun _ h => absurd h List.not_mem_nil)) (fun _ h => absurd h List.not_mem_nil) (by decide +kernel)
/-! BlackMill.move([II[III)V -/
noncomputable def mi_X10_move : MI := (cX10_move, 5, RX10, [], [], [], [], [], [(368, 5)], [])
noncomputable def a_X10_move : St wC (mi_X10_move) 3 :=
  (sSeq (sSeq (sIf (oOr (oOr (oCm0 .lt (eLoc 1)) (oCm0 .lt (eLoc 3))) (oCm0 .lt (eLoc 4))) sReV)
  (sIf (oAnd (oCmp .le (eLoc 4) (eBin 1 (eLen 0 (eLoc 0)) (eLoc 1))) (oCmp .le (eLoc 4) (eBin 1 (eLen 0 (eLoc 2)) (eLoc 3)))) (sCpy (aA1 (aA1 (aA1 (aA1 (aA1 aA0 (eLoc 0)) (eLoc 1)) (eLoc 2)) (eLoc 3)) (eLoc 4)))))
  sReV)
def n_X10_move : MN := (yX10_move, cX10_move, 5, none, 1)
noncomputable def ci_X10_move : CI := (0, 10, [2, 0, 2, 0, 0], 3, denM 5 [2, 0, 2, 0, 0] false a_X10_move.1.1)
set_option maxRecDepth 100000 in
theorem m_X10_move : MetD wC n_X10_move ci_X10_move := g_meth false (a_X10_move) rxC_ok (by decide) rfl rfl rfl (by decide) (by decide) (Or.inr (Or.inr (Or.inr (Or.inr ⟨rfl, rfl⟩)))) (fun h => by cases h) (mkWords (fun _ h => absurd h List.not_mem_nil) (fun _ h => absurd h List.not_mem_nil) (fun _ h => absurd h List.not_mem_nil) (fun _ h => absurd h List.not_mem_nil) (fun _ h => absurd h List.not_mem_nil) (List.forall_mem_cons.mpr ⟨mw_X10_368, fun _ h => absurd h List.not_mem_nil⟩)) (fun _ h => absurd h List.not_mem_nil) (by decide +kernel)
/-! BlackMill$Tape.sign()I -/
noncomputable def mi_X8_sign : MI := (cX8_sign, 1, RX8, [], [], [], [(9, 8, 0), (15, 8, 3), (19, 8, 1), (26, 8, 2)], [], [], [])
noncomputable def a_X8_sign : St wC (mi_X8_sign) 0 :=
  (sSeq (sWh (oAnd (oAnd (oAnd (oCm0 .ge (eFld 8 2 (eLoc 0))) (oCmp .lt (eFld 8 2 (eLoc 0)) (eFld 8 1 (eLoc 0)))) (oCmp .lt (eFld 8 2 (eLoc 0)) (eLen 0 (eFld 8 0 (eLoc 0))))) (oCmp .eq (eAr 0 (eFld 8 0 (eLoc 0)) (eFld 8 2 (eLoc 0))) (eInt 32))) (sUpdF 0 8 2 (eLoc 0) (eInt 1)))
  (sSeq (sIf (oOr (oOr (oOr (oCmp .ne (eFld 8 3 (eLoc 0)) (eInt (-1))) (oCm0 .lt (eFld 8 2 (eLoc 0)))) (oCmp .ge (eFld 8 2 (eLoc 0)) (eFld 8 1 (eLoc 0)))) (oCmp .ge (eFld 8 2 (eLoc 0)) (eLen 0 (eFld 8 0 (eLoc 0))))) (sRet (eInt (-1))))
  (sRet (eAr 0 (eFld 8 0 (eLoc 0)) (eFld 8 2 (eLoc 0))))))
def n_X8_sign : MN := (yX8_sign, cX8_sign, 1, (some .int), 1)
noncomputable def ci_X8_sign : CI := (1, 8, [2], 0, denM 1 [2] false a_X8_sign.1.1)
set_option maxRecDepth 100000 in
theorem m_X8_sign : MetD wC n_X8_sign ci_X8_sign := g_meth false (a_X8_sign) rxC_ok (by decide) rfl rfl rfl (by decide) (by decide) (Or.inl ⟨rfl, rfl⟩) (fun h => by cases h) (mkWords (fun _ h => absurd h List.not_mem_nil) (fun _ h => absurd h List.not_mem_nil) (fun _ h => absurd h List.not_mem_nil) (List.forall_mem_cons.mpr ⟨⟨_, _, _, rfl, by decide, Or.inl fw_X8_9⟩, List.forall_mem_cons.mpr ⟨⟨_, _, _, rfl, by decide, Or.inl fw_X8_15⟩, List.forall_mem_cons.mpr ⟨⟨_, _, _, rfl, by decide, Or.inl fw_X8_19⟩, List.forall_mem_cons.mpr ⟨⟨_, _, _, rfl, by decide, Or.inl fw_X8_26⟩, fun _ h => absurd h List.not_mem_nil⟩⟩⟩⟩) (fun _ h => absurd h List.not_mem_nil) (fun _ h => absurd h List.not_mem_nil)) (fun _ h => absurd h List.not_mem_nil) (by decide +kernel)
/-! BlackMill$Tape.step()V -/
noncomputable def mi_X8_step : MI := (cX8_step, 1, RX8, [], [], [], [(26, 8, 2)], [], [], [])
noncomputable def a_X8_step : St wC (mi_X8_step) 3 :=
  (sSeq (sUpdF 0 8 2 (eLoc 0) (eInt 1))
  sReV)
def n_X8_step : MN := (yX8_step, cX8_step, 1, none, 1)
noncomputable def ci_X8_step : CI := (1, 8, [2], 3, denM 1 [2] false a_X8_step.1.1)
set_option maxRecDepth 100000 in
theorem m_X8_step : MetD wC n_X8_step ci_X8_step := g_meth false (a_X8_step) rxC_ok (by decide) rfl rfl rfl (by decide) (by decide) (Or.inr (Or.inr (Or.inr (Or.inr ⟨rfl, rfl⟩)))) (fun h => by cases h) (mkWords (fun _ h => absurd h List.not_mem_nil) (fun _ h => absurd h List.not_mem_nil) (fun _ h => absurd h List.not_mem_nil) (List.forall_mem_cons.mpr ⟨⟨_, _, _, rfl, by decide, Or.inl fw_X8_26⟩, fun _ h => absurd h List.not_mem_nil⟩) (fun _ h => absurd h List.not_mem_nil) (fun _ h => absurd h List.not_mem_nil)) (fun _ h => absurd h List.not_mem_nil) (by decide +kernel)
/-! BlackMill.placeIn(Ljava/lang/String;I)I -/
noncomputable def mi_X10_placeIn : MI := (cX10_placeIn, 3, RX10, [], [], [], [], [], [], [(377, ci_Slen), (381, ci_Schr)])
noncomputable def a_X10_placeIn : St wC (mi_X10_placeIn) 0 :=
  (sSeq (sBlk (sSeq (sSet 2 (eInt 0))
  (sWh (oCmp .lt (eLoc 2) (eCal 377 ci_Slen rfl (aA1 aA0 (eLoc 0)))) (sSeq (sIf (oCmp .eq (eCal 381 ci_Schr rfl (aA1 (aA1 aA0 (eLoc 0)) (eLoc 2))) (eLoc 1)) (sRet (eLoc 2)))
  (sInc 2 1)))))
  (sRet (eInt (-1))))
def n_X10_placeIn : MN := (yX10_placeIn, cX10_placeIn, 3, (some .int), 7)
noncomputable def ci_X10_placeIn : CI := (0, 10, [2, 0], 0, denM 3 [2, 0] false a_X10_placeIn.1.1)
set_option maxRecDepth 100000 in
theorem m_X10_placeIn : MetD wC n_X10_placeIn ci_X10_placeIn := g_meth false (a_X10_placeIn) rxC_ok (by decide) rfl rfl rfl (by decide) (by decide) (Or.inl ⟨rfl, rfl⟩) (fun h => by cases h) (mkWords (fun _ h => absurd h List.not_mem_nil) (fun _ h => absurd h List.not_mem_nil) (fun _ h => absurd h List.not_mem_nil) (fun _ h => absurd h List.not_mem_nil) (fun _ h => absurd h List.not_mem_nil) (fun _ h => absurd h List.not_mem_nil)) (List.forall_mem_cons.mpr ⟨clT m_Slen rfl rfl (by decide) lw_X10_377 (kn_J0_length_8abf5 _) recS (by decide +kernel), List.forall_mem_cons.mpr ⟨clT m_Schr rfl rfl (by decide) lw_X10_381 (kn_J0_charAt_5068e _) recS (by decide +kernel), fun _ h => absurd h List.not_mem_nil⟩⟩) (by decide +kernel)
/-! BlackMill.isDigit(I)Z -/
noncomputable def mi_X10_isDigit : MI := (cX10_isDigit, 1, RX10, [], [], [], [], [], [], [])
noncomputable def a_X10_isDigit : St wC (mi_X10_isDigit) 0 :=
  (sRet (eBo (oAnd (oCmp .ge (eLoc 0) (eInt 48)) (oCmp .le (eLoc 0) (eInt 57)))))
def n_X10_isDigit : MN := (yX10_isDigit, cX10_isDigit, 1, (some .boolean), 1)
noncomputable def ci_X10_isDigit : CI := (0, 10, [0], 0, denM 1 [0] true a_X10_isDigit.1.1)
set_option maxRecDepth 100000 in
theorem m_X10_isDigit : MetD wC n_X10_isDigit ci_X10_isDigit := g_meth true (a_X10_isDigit) rxC_ok (by decide) rfl rfl rfl (by decide) (by decide) (Or.inr (Or.inl ⟨rfl, rfl⟩)) (fun _ => rfl) (mkWords (fun _ h => absurd h List.not_mem_nil) (fun _ h => absurd h List.not_mem_nil) (fun _ h => absurd h List.not_mem_nil) (fun _ h => absurd h List.not_mem_nil) (fun _ h => absurd h List.not_mem_nil) (fun _ h => absurd h List.not_mem_nil)) (fun _ h => absurd h List.not_mem_nil) (by decide +kernel)
/-! BlackMill$Tape.failAt(I)V -/
noncomputable def mi_X8_failAt : MI := (cX8_failAt, 2, RX8, [], [], [], [(15, 8, 3)], [], [], [])
noncomputable def a_X8_failAt : St wC (mi_X8_failAt) 3 :=
  (sSeq (sIf (oCmp .eq (eFld 8 3 (eLoc 0)) (eInt (-1))) (sPutF 8 3 (eLoc 0) (eLoc 1)))
  sReV)
def n_X8_failAt : MN := (yX8_failAt, cX8_failAt, 2, none, 1)
noncomputable def ci_X8_failAt : CI := (1, 8, [2, 0], 3, denM 2 [2, 0] false a_X8_failAt.1.1)
set_option maxRecDepth 100000 in
theorem m_X8_failAt : MetD wC n_X8_failAt ci_X8_failAt := g_meth false (a_X8_failAt) rxC_ok (by decide) rfl rfl rfl (by decide) (by decide) (Or.inr (Or.inr (Or.inr (Or.inr ⟨rfl, rfl⟩)))) (fun h => by cases h) (mkWords (fun _ h => absurd h List.not_mem_nil) (fun _ h => absurd h List.not_mem_nil) (fun _ h => absurd h List.not_mem_nil) (List.forall_mem_cons.mpr ⟨⟨_, _, _, rfl, by decide, Or.inl fw_X8_15⟩, fun _ h => absurd h List.not_mem_nil⟩) (fun _ h => absurd h List.not_mem_nil) (fun _ h => absurd h List.not_mem_nil)) (fun _ h => absurd h List.not_mem_nil) (by decide +kernel)
/-! BlackMill$Tape.fail()V -/
noncomputable def mi_X8_fail : MI := (cX8_fail, 1, RX8, [], [], [], [(26, 8, 2)], [], [], [(29, ci_X8_failAt)])
noncomputable def a_X8_fail : St wC (mi_X8_fail) 3 :=
  (sSeq (sDo 29 ci_X8_failAt rfl (aA1 (aA1 aA0 (eLoc 0)) (eFld 8 2 (eLoc 0))))
  sReV)
def n_X8_fail : MN := (yX8_fail, cX8_fail, 1, none, 2)
noncomputable def ci_X8_fail : CI := (1, 8, [2], 3, denM 1 [2] false a_X8_fail.1.1)
set_option maxRecDepth 100000 in
theorem m_X8_fail : MetD wC n_X8_fail ci_X8_fail := g_meth false (a_X8_fail) rxC_ok (by decide) rfl rfl rfl (by decide) (by decide) (Or.inr (Or.inr (Or.inr (Or.inr ⟨rfl, rfl⟩)))) (fun h => by cases h) (mkWords (fun _ h => absurd h List.not_mem_nil) (fun _ h => absurd h List.not_mem_nil) (fun _ h => absurd h List.not_mem_nil) (List.forall_mem_cons.mpr ⟨⟨_, _, _, rfl, by decide, Or.inl fw_X8_26⟩, fun _ h => absurd h List.not_mem_nil⟩) (fun _ h => absurd h List.not_mem_nil) (fun _ h => absurd h List.not_mem_nil)) (List.forall_mem_cons.mpr ⟨clV m_X8_failAt rfl rfl rfl (by decide) (Or.inl lw_X8_29) (kn_X8_failAt _) (by decide +kernel), fun _ h => absurd h List.not_mem_nil⟩) (by decide +kernel)
/-! BlackMill.at([II)I -/
noncomputable def mi_X10_at : MI := (cX10_at, 2, RX10, [], [], [], [], [], [], [])
noncomputable def a_X10_at : St wC (mi_X10_at) 0 :=
  (sRet (eCon (oAnd (oCm0 .ge (eLoc 1)) (oCmp .lt (eLoc 1) (eLen 0 (eLoc 0)))) (eAr 0 (eLoc 0) (eLoc 1)) (eInt 0)))
def n_X10_at : MN := (yX10_at, cX10_at, 2, (some .int), 1)
noncomputable def ci_X10_at : CI := (0, 10, [2, 0], 0, denM 2 [2, 0] false a_X10_at.1.1)
set_option maxRecDepth 100000 in
theorem m_X10_at : MetD wC n_X10_at ci_X10_at := g_meth false (a_X10_at) rxC_ok (by decide) rfl rfl rfl (by decide) (by decide) (Or.inl ⟨rfl, rfl⟩) (fun h => by cases h) (mkWords (fun _ h => absurd h List.not_mem_nil) (fun _ h => absurd h List.not_mem_nil) (fun _ h => absurd h List.not_mem_nil) (fun _ h => absurd h List.not_mem_nil) (fun _ h => absurd h List.not_mem_nil) (fun _ h => absurd h List.not_mem_nil)) (fun _ h => absurd h List.not_mem_nil) (by decide +kernel)
/-! BlackMill$Tape.number(I)I -/
noncomputable def mi_X8_number : MI := (cX8_number, 4, RX8, [], [], [], [(9, 8, 0), (19, 8, 1), (26, 8, 2)], [], [], [(33, ci_X8_sign), (40, ci_X8_fail), (43, ci_X10_isDigit), (47, ci_X10_at)])
noncomputable def a_X8_number : St wC (mi_X8_number) 0 :=
  (sSeq (sIf (oNot (oCm0 .ne (eCal 43 ci_X10_isDigit rfl (aA1 aA0 (eCal 33 ci_X8_sign rfl (aA1 aA0 (eLoc 0))))))) (sSeq (sDo 40 ci_X8_fail rfl (aA1 aA0 (eLoc 0)))
  (sRet (eInt 0))))
  (sSeq (sSet 2 (eInt 0))
  (sSeq (sSet 3 (eFld 8 2 (eLoc 0)))
  (sSeq (sWh (oAnd (oCmp .lt (eFld 8 2 (eLoc 0)) (eFld 8 1 (eLoc 0))) (oCm0 .ne (eCal 43 ci_X10_isDigit rfl (aA1 aA0 (eCal 47 ci_X10_at rfl (aA1 (aA1 aA0 (eFld 8 0 (eLoc 0))) (eFld 8 2 (eLoc 0)))))))) (sSeq (sSeq (sIf (oCmp .eq (eBin 1 (eFld 8 2 (eLoc 0)) (eLoc 3)) (eLoc 1)) (sSeq (sDo 40 ci_X8_fail rfl (aA1 aA0 (eLoc 0)))
  (sRet (eLoc 2))))
  (sSet 2 (eBin 1 (eBin 0 (eBin 2 (eLoc 2) (eInt 10)) (eCal 47 ci_X10_at rfl (aA1 (aA1 aA0 (eFld 8 0 (eLoc 0))) (eFld 8 2 (eLoc 0))))) (eInt 48))))
  (sUpdF 0 8 2 (eLoc 0) (eInt 1))))
  (sRet (eLoc 2))))))
def n_X8_number : MN := (yX8_number, cX8_number, 4, (some .int), 3)
noncomputable def ci_X8_number : CI := (1, 8, [2, 0], 0, denM 4 [2, 0] false a_X8_number.1.1)
set_option maxRecDepth 100000 in
theorem m_X8_number : MetD wC n_X8_number ci_X8_number := g_meth false (a_X8_number) rxC_ok (by decide) rfl rfl rfl (by decide) (by decide) (Or.inl ⟨rfl, rfl⟩) (fun h => by cases h) (mkWords (fun _ h => absurd h List.not_mem_nil) (fun _ h => absurd h List.not_mem_nil) (fun _ h => absurd h List.not_mem_nil) (List.forall_mem_cons.mpr ⟨⟨_, _, _, rfl, by decide, Or.inl fw_X8_9⟩, List.forall_mem_cons.mpr ⟨⟨_, _, _, rfl, by decide, Or.inl fw_X8_19⟩, List.forall_mem_cons.mpr ⟨⟨_, _, _, rfl, by decide, Or.inl fw_X8_26⟩, fun _ h => absurd h List.not_mem_nil⟩⟩⟩) (fun _ h => absurd h List.not_mem_nil) (fun _ h => absurd h List.not_mem_nil)) (List.forall_mem_cons.mpr ⟨clV m_X8_sign rfl rfl rfl (by decide) (Or.inl lw_X8_33) (kn_X8_sign _) (by decide +kernel), List.forall_mem_cons.mpr ⟨clV m_X8_fail rfl rfl rfl (by decide) (Or.inl lw_X8_40) (kn_X8_fail _) (by decide +kernel), List.forall_mem_cons.mpr ⟨clS m_X10_isDigit rfl (by decide) (Or.inr lw_X8_43) (kn_X10_isDigit _) (by decide +kernel), List.forall_mem_cons.mpr ⟨clS m_X10_at rfl (by decide) (Or.inr lw_X8_47) (kn_X10_at _) (by decide +kernel), fun _ h => absurd h List.not_mem_nil⟩⟩⟩⟩) (by decide +kernel)
/-! BlackMill$MillText.items(LBlackMill$Tape;Ljava/lang/String;[I[I[II)V -/
noncomputable def mi_X6_items : MI := (cX6_items, 10, RX6, [], [], [], [(125, 8, 2)], [], [], [(48, ci_X8_sign), (52, ci_X8_step), (65, ci_X8_failAt), (109, ci_Slen), (113, ci_X10_placeIn), (117, ci_X8_number), (121, ci_X10_at), (128, ci_X10_put)])
noncomputable def a_X6_items : St wC (mi_X6_items) 3 :=
  (sSeq (sSeq (sSet 6 (eInt 0))
  (sBlk (sSeq (sSet 7 (eInt 0))
  (sWh (oCmp .lt (eLoc 7) (eCal 109 ci_Slen rfl (aA1 aA0 (eLoc 1)))) (sSeq (sSeq (sSet 8 (eCal 113 ci_X10_placeIn rfl (aA1 (aA1 aA0 (eLoc 1)) (eCal 48 ci_X8_sign rfl (aA1 aA0 (eLoc 0))))))
  (sSeq (sIf (oOr (oCmp .eq (eLoc 8) (eInt (-1))) (oCm0 .ne (eBin 3 (eBin 8 (eLoc 6) (eLoc 8)) (eInt 1)))) sReV)
  (sSeq (sSet 6 (eBin 4 (eLoc 6) (eBin 6 (eInt 1) (eLoc 8))))
  (sSeq (sDo 52 ci_X8_step rfl (aA1 aA0 (eLoc 0)))
  (sSeq (sSet 9 (eCal 117 ci_X8_number rfl (aA1 (aA1 aA0 (eLoc 0)) (eInt 2))))
  (sSeq (sIf (oOr (oCmp .lt (eLoc 9) (eCal 121 ci_X10_at rfl (aA1 (aA1 aA0 (eLoc 2)) (eLoc 8)))) (oCmp .gt (eLoc 9) (eCal 121 ci_X10_at rfl (aA1 (aA1 aA0 (eLoc 3)) (eLoc 8))))) (sDo 65 ci_X8_failAt rfl (aA1 (aA1 aA0 (eLoc 0)) (eBin 1 (eFld 8 2 (eLoc 0)) (eInt 1)))))
  (sDo 128 ci_X10_put rfl (aA1 (aA1 (aA1 aA0 (eLoc 4)) (eBin 0 (eLoc 5) (eLoc 8))) (eLoc 9)))))))))
  (sInc 7 1))))))
  sReV)
def n_X6_items : MN := (yX6_items, cX6_items, 10, none, 8)
noncomputable def ci_X6_items : CI := (0, 6, [2, 2, 2, 2, 2, 0], 3, denM 10 [2, 2, 2, 2, 2, 0] false a_X6_items.1.1)
set_option maxRecDepth 100000 in
theorem m_X6_items : MetD wC n_X6_items ci_X6_items := g_meth false (a_X6_items) rxC_ok (by decide) rfl rfl rfl (by decide) (by decide) (Or.inr (Or.inr (Or.inr (Or.inr ⟨rfl, rfl⟩)))) (fun h => by cases h) (mkWords (fun _ h => absurd h List.not_mem_nil) (fun _ h => absurd h List.not_mem_nil) (fun _ h => absurd h List.not_mem_nil) (List.forall_mem_cons.mpr ⟨⟨_, _, _, rfl, by decide, Or.inr fw_X6_125⟩, fun _ h => absurd h List.not_mem_nil⟩) (fun _ h => absurd h List.not_mem_nil) (fun _ h => absurd h List.not_mem_nil)) (List.forall_mem_cons.mpr ⟨clV m_X8_sign rfl rfl rfl (by decide) (Or.inl lw_X6_48) (kn_X8_sign _) (by decide +kernel), List.forall_mem_cons.mpr ⟨clV m_X8_step rfl rfl rfl (by decide) (Or.inl lw_X6_52) (kn_X8_step _) (by decide +kernel), List.forall_mem_cons.mpr ⟨clV m_X8_failAt rfl rfl rfl (by decide) (Or.inl lw_X6_65) (kn_X8_failAt _) (by decide +kernel), List.forall_mem_cons.mpr ⟨clT m_Slen rfl rfl (by decide) lw_X6_109 (kn_J0_length_8abf5 _) recS (by decide +kernel), List.forall_mem_cons.mpr ⟨clS m_X10_placeIn rfl (by decide) (Or.inr lw_X6_113) (kn_X10_placeIn _) (by decide +kernel), List.forall_mem_cons.mpr ⟨clV m_X8_number rfl rfl rfl (by decide) (Or.inl lw_X6_117) (kn_X8_number _) (by decide +kernel), List.forall_mem_cons.mpr ⟨clS m_X10_at rfl (by decide) (Or.inr lw_X6_121) (kn_X10_at _) (by decide +kernel), List.forall_mem_cons.mpr ⟨clS m_X10_put rfl (by decide) (Or.inr lw_X6_128) (kn_X10_put _) (by decide +kernel), fun _ h => absurd h List.not_mem_nil⟩⟩⟩⟩⟩⟩⟩⟩) (by decide +kernel)
/-! BlackMill$MillText.clause(LBlackMill$Tape;)V -/
noncomputable def mi_X6_clause : MI := (cX6_clause, 4, RX6, [], [], [(72, 62), (87, 63), (98, 64)], [(9, 6, 0), (15, 6, 1), (18, 6, 2), (26, 6, 3), (30, 6, 4), (34, 6, 5)], [(74, 52), (77, 53), (84, 57), (89, 55), (92, 56), (95, 60), (100, 58), (103, 59)], [], [(40, ci_X10_move), (48, ci_X8_sign), (52, ci_X8_step), (80, ci_X6_items), (106, ci_X8_fail)])
noncomputable def a_X6_clause : St wC (mi_X6_clause) 3 :=
  (sSeq (sSeq (sSet 2 (eCal 48 ci_X8_sign rfl (aA1 aA0 (eLoc 1))))
  (sIfE (oAnd (oCmp .eq (eLoc 2) (eInt 115)) (oNot (oCm0 .ne (eFld 6 3 (eLoc 0))))) (sSeq (sPutF 6 3 (eLoc 0) (eInt 1))
  (sSeq (sDo 52 ci_X8_step rfl (aA1 aA0 (eLoc 1)))
  (sDo 80 ci_X6_items rfl (aA1 (aA1 (aA1 (aA1 (aA1 (aA1 aA0 (eLoc 1)) (eStr 62)) (eSta 52)) (eSta 53)) (eFld 6 0 (eLoc 0))) (eInt 0)))))
  (sIfE (oAnd (oCmp .eq (eLoc 2) (eInt 108)) (oCmp .lt (eFld 6 4 (eLoc 0)) (eInt 8))) (sSeq (sSet 3 (eBin 2 (eFld 6 4 (eLoc 0)) (eInt 5)))
  (sSeq (sUpdF 0 6 4 (eLoc 0) (eInt 1))
  (sSeq (sDo 52 ci_X8_step rfl (aA1 aA0 (eLoc 1)))
  (sSeq (sDo 40 ci_X10_move rfl (aA1 (aA1 (aA1 (aA1 (aA1 aA0 (eSta 57)) (eInt 0)) (eFld 6 1 (eLoc 0))) (eLoc 3)) (eInt 5)))
  (sDo 80 ci_X6_items rfl (aA1 (aA1 (aA1 (aA1 (aA1 (aA1 aA0 (eLoc 1)) (eStr 63)) (eSta 55)) (eSta 56)) (eFld 6 1 (eLoc 0))) (eLoc 3)))))))
  (sIfE (oAnd (oCmp .eq (eLoc 2) (eInt 119)) (oCmp .lt (eFld 6 5 (eLoc 0)) (eInt 9))) (sSeq (sSet 3 (eBin 2 (eFld 6 5 (eLoc 0)) (eInt 3)))
  (sSeq (sUpdF 0 6 5 (eLoc 0) (eInt 1))
  (sSeq (sDo 52 ci_X8_step rfl (aA1 aA0 (eLoc 1)))
  (sSeq (sDo 40 ci_X10_move rfl (aA1 (aA1 (aA1 (aA1 (aA1 aA0 (eSta 60)) (eInt 0)) (eFld 6 2 (eLoc 0))) (eLoc 3)) (eInt 3)))
  (sDo 80 ci_X6_items rfl (aA1 (aA1 (aA1 (aA1 (aA1 (aA1 aA0 (eLoc 1)) (eStr 64)) (eSta 58)) (eSta 59)) (eFld 6 2 (eLoc 0))) (eLoc 3)))))))
  (sDo 106 ci_X8_fail rfl (aA1 aA0 (eLoc 1)))))))
  sReV)
def n_X6_clause : MN := (yX6_clause, cX6_clause, 4, none, 9)
noncomputable def ci_X6_clause : CI := (1, 6, [2, 2], 3, denM 4 [2, 2] false a_X6_clause.1.1)
set_option maxRecDepth 100000 in
theorem m_X6_clause : MetD wC n_X6_clause ci_X6_clause := g_meth false (a_X6_clause) rxC_ok (by decide) rfl rfl rfl (by decide) (by decide) (Or.inr (Or.inr (Or.inr (Or.inr ⟨rfl, rfl⟩)))) (fun h => by cases h) (mkWords (fun _ h => absurd h List.not_mem_nil) (fun _ h => absurd h List.not_mem_nil) (List.forall_mem_cons.mpr ⟨⟨"plhy", fun A ad s H h => h.2.1⟩, List.forall_mem_cons.mpr ⟨⟨"askfo", fun A ad s H h => h.2.2.1⟩, List.forall_mem_cons.mpr ⟨⟨"abh", fun A ad s H h => h.2.2.2.1⟩, fun _ h => absurd h List.not_mem_nil⟩⟩⟩) (List.forall_mem_cons.mpr ⟨⟨_, _, _, rfl, by decide, Or.inl fw_X6_9⟩, List.forall_mem_cons.mpr ⟨⟨_, _, _, rfl, by decide, Or.inl fw_X6_15⟩, List.forall_mem_cons.mpr ⟨⟨_, _, _, rfl, by decide, Or.inl fw_X6_18⟩, List.forall_mem_cons.mpr ⟨⟨_, _, _, rfl, by decide, Or.inl fw_X6_26⟩, List.forall_mem_cons.mpr ⟨⟨_, _, _, rfl, by decide, Or.inl fw_X6_30⟩, List.forall_mem_cons.mpr ⟨⟨_, _, _, rfl, by decide, Or.inl fw_X6_34⟩, fun _ h => absurd h List.not_mem_nil⟩⟩⟩⟩⟩⟩) (List.forall_mem_cons.mpr ⟨⟨_, List.mem_of_getElem? (i := 0) rfl, rfl, sw_X6_74⟩, List.forall_mem_cons.mpr ⟨⟨_, List.mem_of_getElem? (i := 1) rfl, rfl, sw_X6_77⟩, List.forall_mem_cons.mpr ⟨⟨_, List.mem_of_getElem? (i := 5) rfl, rfl, sw_X6_84⟩, List.forall_mem_cons.mpr ⟨⟨_, List.mem_of_getElem? (i := 3) rfl, rfl, sw_X6_89⟩, List.forall_mem_cons.mpr ⟨⟨_, List.mem_of_getElem? (i := 4) rfl, rfl, sw_X6_92⟩, List.forall_mem_cons.mpr ⟨⟨_, List.mem_of_getElem? (i := 8) rfl, rfl, sw_X6_95⟩, List.forall_mem_cons.mpr ⟨⟨_, List.mem_of_getElem? (i := 6) rfl, rfl, sw_X6_100⟩, List.forall_mem_cons.mpr ⟨⟨_, List.mem_of_getElem? (i := 7) rfl, rfl, sw_X6_103⟩, fun _ h => absurd h List.not_mem_nil⟩⟩⟩⟩⟩⟩⟩⟩) (fun _ h => absurd h List.not_mem_nil)) (List.forall_mem_cons.mpr ⟨clS m_X10_move rfl (by decide) (Or.inr lw_X6_40) (kn_X10_move _) (by decide +kernel), List.forall_mem_cons.mpr ⟨clV m_X8_sign rfl rfl rfl (by decide) (Or.inl lw_X6_48) (kn_X8_sign _) (by decide +kernel), List.forall_mem_cons.mpr ⟨clV m_X8_step rfl rfl rfl (by decide) (Or.inl lw_X6_52) (kn_X8_step _) (by decide +kernel), List.forall_mem_cons.mpr ⟨clS m_X6_items rfl (by decide) (Or.inl lw_X6_80) (kn_X6_items _) (by decide +kernel), List.forall_mem_cons.mpr ⟨clV m_X8_fail rfl rfl rfl (by decide) (Or.inl lw_X6_106) (kn_X8_fail _) (by decide +kernel), fun _ h => absurd h List.not_mem_nil⟩⟩⟩⟩⟩) (by decide +kernel)
/-! BlackMill$Tape.wantOver()V -/
noncomputable def mi_X8_wantOver : MI := (cX8_wantOver, 1, RX8, [], [], [], [], [], [], [(33, ci_X8_sign), (40, ci_X8_fail)])
noncomputable def a_X8_wantOver : St wC (mi_X8_wantOver) 3 :=
  (sSeq (sIf (oCmp .ne (eCal 33 ci_X8_sign rfl (aA1 aA0 (eLoc 0))) (eInt (-1))) (sDo 40 ci_X8_fail rfl (aA1 aA0 (eLoc 0))))
  sReV)
def n_X8_wantOver : MN := (yX8_wantOver, cX8_wantOver, 1, none, 3)
noncomputable def ci_X8_wantOver : CI := (1, 8, [2], 3, denM 1 [2] false a_X8_wantOver.1.1)
set_option maxRecDepth 100000 in
theorem m_X8_wantOver : MetD wC n_X8_wantOver ci_X8_wantOver := g_meth false (a_X8_wantOver) rxC_ok (by decide) rfl rfl rfl (by decide) (by decide) (Or.inr (Or.inr (Or.inr (Or.inr ⟨rfl, rfl⟩)))) (fun h => by cases h) (mkWords (fun _ h => absurd h List.not_mem_nil) (fun _ h => absurd h List.not_mem_nil) (fun _ h => absurd h List.not_mem_nil) (fun _ h => absurd h List.not_mem_nil) (fun _ h => absurd h List.not_mem_nil) (fun _ h => absurd h List.not_mem_nil)) (List.forall_mem_cons.mpr ⟨clV m_X8_sign rfl rfl rfl (by decide) (Or.inl lw_X8_33) (kn_X8_sign _) (by decide +kernel), List.forall_mem_cons.mpr ⟨clV m_X8_fail rfl rfl rfl (by decide) (Or.inl lw_X8_40) (kn_X8_fail _) (by decide +kernel), fun _ h => absurd h List.not_mem_nil⟩⟩) (by decide +kernel)
/-! BlackMill$MillText.item(II)I -/
noncomputable def mi_X6_item : MI := (cX6_item, 3, RX6, [], [], [], [(15, 6, 1)], [], [], [(121, ci_X10_at)])
noncomputable def a_X6_item : St wC (mi_X6_item) 0 :=
  (sRet (eCal 121 ci_X10_at rfl (aA1 (aA1 aA0 (eFld 6 1 (eLoc 0))) (eBin 0 (eBin 2 (eLoc 1) (eInt 5)) (eLoc 2)))))
def n_X6_item : MN := (yX6_item, cX6_item, 3, (some .int), 2)
noncomputable def ci_X6_item : CI := (1, 6, [2, 0, 0], 0, denM 3 [2, 0, 0] false a_X6_item.1.1)
set_option maxRecDepth 100000 in
theorem m_X6_item : MetD wC n_X6_item ci_X6_item := g_meth false (a_X6_item) rxC_ok (by decide) rfl rfl rfl (by decide) (by decide) (Or.inl ⟨rfl, rfl⟩) (fun h => by cases h) (mkWords (fun _ h => absurd h List.not_mem_nil) (fun _ h => absurd h List.not_mem_nil) (fun _ h => absurd h List.not_mem_nil) (List.forall_mem_cons.mpr ⟨⟨_, _, _, rfl, by decide, Or.inl fw_X6_15⟩, fun _ h => absurd h List.not_mem_nil⟩) (fun _ h => absurd h List.not_mem_nil) (fun _ h => absurd h List.not_mem_nil)) (List.forall_mem_cons.mpr ⟨clS m_X10_at rfl (by decide) (Or.inr lw_X6_121) (kn_X10_at _) (by decide +kernel), fun _ h => absurd h List.not_mem_nil⟩) (by decide +kernel)
/-! BlackMill$MillText.isWhole()Z -/
noncomputable def mi_X6_isWhole : MI := (cX6_isWhole, 5, RX6, [], [], [], [(18, 6, 2), (30, 6, 4), (34, 6, 5)], [], [], [(121, ci_X10_at), (132, ci_X6_item)])
noncomputable def a_X6_isWhole : St wC (mi_X6_isWhole) 0 :=
  (sSeq (sSet 1 (eBo (oCmp .ge (eFld 6 4 (eLoc 0)) (eInt 2))))
  (sSeq (sBlk (sSeq (sSet 2 (eInt 0))
  (sWh (oCmp .lt (eLoc 2) (eFld 6 4 (eLoc 0))) (sSeq (sSeq (sSet 3 (eCal 132 ci_X6_item rfl (aA1 (aA1 (aA1 aA0 (eLoc 0)) (eLoc 2)) (eInt 3))))
  (sSeq (sSet 4 (eBo (oOr (oCmp .eq (eLoc 3) (eInt 8)) (oAnd (oCmp .lt (eLoc 3) (eFld 6 4 (eLoc 0))) (oCmp .ne (eLoc 3) (eLoc 2))))))
  (sSet 1 (eBo (oAnd (oAnd (oCm0 .ne (eLoc 1)) (oCm0 .ne (eLoc 4))) (oCmp .le (eCal 132 ci_X6_item rfl (aA1 (aA1 (aA1 aA0 (eLoc 0)) (eLoc 2)) (eInt 1))) (eCal 132 ci_X6_item rfl (aA1 (aA1 (aA1 aA0 (eLoc 0)) (eLoc 2)) (eInt 0)))))))))
  (sInc 2 1)))))
  (sSeq (sBlk (sSeq (sSet 2 (eInt 0))
  (sWh (oCmp .lt (eLoc 2) (eFld 6 5 (eLoc 0))) (sSeq (sSet 1 (eBo (oAnd (oCm0 .ne (eLoc 1)) (oCmp .ne (eCal 121 ci_X10_at rfl (aA1 (aA1 aA0 (eFld 6 2 (eLoc 0))) (eBin 2 (eLoc 2) (eInt 3)))) (eCal 121 ci_X10_at rfl (aA1 (aA1 aA0 (eFld 6 2 (eLoc 0))) (eBin 0 (eBin 2 (eLoc 2) (eInt 3)) (eInt 1))))))))
  (sInc 2 1)))))
  (sRet (eLoc 1)))))
def n_X6_isWhole : MN := (yX6_isWhole, cX6_isWhole, 5, (some .boolean), 3)
noncomputable def ci_X6_isWhole : CI := (1, 6, [2], 0, denM 5 [2] true a_X6_isWhole.1.1)
set_option maxRecDepth 100000 in
theorem m_X6_isWhole : MetD wC n_X6_isWhole ci_X6_isWhole := g_meth true (a_X6_isWhole) rxC_ok (by decide) rfl rfl rfl (by decide) (by decide) (Or.inr (Or.inl ⟨rfl, rfl⟩)) (fun _ => rfl) (mkWords (fun _ h => absurd h List.not_mem_nil) (fun _ h => absurd h List.not_mem_nil) (fun _ h => absurd h List.not_mem_nil) (List.forall_mem_cons.mpr ⟨⟨_, _, _, rfl, by decide, Or.inl fw_X6_18⟩, List.forall_mem_cons.mpr ⟨⟨_, _, _, rfl, by decide, Or.inl fw_X6_30⟩, List.forall_mem_cons.mpr ⟨⟨_, _, _, rfl, by decide, Or.inl fw_X6_34⟩, fun _ h => absurd h List.not_mem_nil⟩⟩⟩) (fun _ h => absurd h List.not_mem_nil) (fun _ h => absurd h List.not_mem_nil)) (List.forall_mem_cons.mpr ⟨clS m_X10_at rfl (by decide) (Or.inr lw_X6_121) (kn_X10_at _) (by decide +kernel), List.forall_mem_cons.mpr ⟨clV m_X6_item rfl rfl rfl (by decide) (Or.inl lw_X6_132) (kn_X6_item _) (by decide +kernel), fun _ h => absurd h List.not_mem_nil⟩⟩) (by decide +kernel)
/-! BlackMill$MillText.read(LBlackMill$Tape;)I -/
noncomputable def mi_X6_read : MI := (cX6_read, 3, RX6, [], [], [], [(9, 6, 0), (26, 6, 3), (30, 6, 4), (34, 6, 5), (62, 8, 1), (69, 8, 3)], [(37, 54)], [], [(21, ci_X8_begin), (40, ci_X10_move), (44, ci_X6_clause), (48, ci_X8_sign), (52, ci_X8_step), (55, ci_X8_wantOver), (58, ci_X6_isWhole), (65, ci_X8_failAt)])
noncomputable def a_X6_read : St wC (mi_X6_read) 0 :=
  (sSeq (sDo 21 ci_X8_begin rfl (aA1 aA0 (eLoc 1)))
  (sSeq (sPutF 6 3 (eLoc 0) (eInt 0))
  (sSeq (sPutF 6 4 (eLoc 0) (eInt 0))
  (sSeq (sPutF 6 5 (eLoc 0) (eInt 0))
  (sSeq (sDo 40 ci_X10_move rfl (aA1 (aA1 (aA1 (aA1 (aA1 aA0 (eSta 54)) (eInt 0)) (eFld 6 0 (eLoc 0))) (eInt 0)) (eLen 0 (eSta 54))))
  (sSeq (sDo 44 ci_X6_clause rfl (aA1 (aA1 aA0 (eLoc 0)) (eLoc 1)))
  (sSeq (sBlk (sSeq (sSet 2 (eInt 0))
  (sWh (oAnd (oCmp .lt (eLoc 2) (eInt 240)) (oCmp .eq (eCal 48 ci_X8_sign rfl (aA1 aA0 (eLoc 1))) (eInt 59))) (sSeq (sSeq (sDo 52 ci_X8_step rfl (aA1 aA0 (eLoc 1)))
  (sDo 44 ci_X6_clause rfl (aA1 (aA1 aA0 (eLoc 0)) (eLoc 1))))
  (sInc 2 1)))))
  (sSeq (sDo 55 ci_X8_wantOver rfl (aA1 aA0 (eLoc 1)))
  (sSeq (sIf (oNot (oCm0 .ne (eCal 58 ci_X6_isWhole rfl (aA1 aA0 (eLoc 0))))) (sDo 65 ci_X8_failAt rfl (aA1 (aA1 aA0 (eLoc 1)) (eFld 8 1 (eLoc 1)))))
  (sRet (eFld 8 3 (eLoc 1))))))))))))
def n_X6_read : MN := (yX6_read, cX6_read, 3, (some .int), 10)
noncomputable def ci_X6_read : CI := (1, 6, [2, 2], 0, denM 3 [2, 2] false a_X6_read.1.1)
set_option maxRecDepth 100000 in
theorem m_X6_read : MetD wC n_X6_read ci_X6_read := g_meth false (a_X6_read) rxC_ok (by decide) rfl rfl rfl (by decide) (by decide) (Or.inl ⟨rfl, rfl⟩) (fun h => by cases h) (mkWords (fun _ h => absurd h List.not_mem_nil) (fun _ h => absurd h List.not_mem_nil) (fun _ h => absurd h List.not_mem_nil) (List.forall_mem_cons.mpr ⟨⟨_, _, _, rfl, by decide, Or.inl fw_X6_9⟩, List.forall_mem_cons.mpr ⟨⟨_, _, _, rfl, by decide, Or.inl fw_X6_26⟩, List.forall_mem_cons.mpr ⟨⟨_, _, _, rfl, by decide, Or.inl fw_X6_30⟩, List.forall_mem_cons.mpr ⟨⟨_, _, _, rfl, by decide, Or.inl fw_X6_34⟩, List.forall_mem_cons.mpr ⟨⟨_, _, _, rfl, by decide, Or.inr fw_X6_62⟩, List.forall_mem_cons.mpr ⟨⟨_, _, _, rfl, by decide, Or.inr fw_X6_69⟩, fun _ h => absurd h List.not_mem_nil⟩⟩⟩⟩⟩⟩) (List.forall_mem_cons.mpr ⟨⟨_, List.mem_of_getElem? (i := 2) rfl, rfl, sw_X6_37⟩, fun _ h => absurd h List.not_mem_nil⟩) (fun _ h => absurd h List.not_mem_nil)) (List.forall_mem_cons.mpr ⟨clV m_X8_begin rfl rfl rfl (by decide) (Or.inl lw_X6_21) (kn_X8_begin _) (by decide +kernel), List.forall_mem_cons.mpr ⟨clS m_X10_move rfl (by decide) (Or.inr lw_X6_40) (kn_X10_move _) (by decide +kernel), List.forall_mem_cons.mpr ⟨clV m_X6_clause rfl rfl rfl (by decide) (Or.inl lw_X6_44) (kn_X6_clause _) (by decide +kernel), List.forall_mem_cons.mpr ⟨clV m_X8_sign rfl rfl rfl (by decide) (Or.inl lw_X6_48) (kn_X8_sign _) (by decide +kernel), List.forall_mem_cons.mpr ⟨clV m_X8_step rfl rfl rfl (by decide) (Or.inl lw_X6_52) (kn_X8_step _) (by decide +kernel), List.forall_mem_cons.mpr ⟨clV m_X8_wantOver rfl rfl rfl (by decide) (Or.inl lw_X6_55) (kn_X8_wantOver _) (by decide +kernel), List.forall_mem_cons.mpr ⟨clV m_X6_isWhole rfl rfl rfl (by decide) (Or.inl lw_X6_58) (kn_X6_isWhole _) (by decide +kernel), List.forall_mem_cons.mpr ⟨clV m_X8_failAt rfl rfl rfl (by decide) (Or.inl lw_X6_65) (kn_X8_failAt _) (by decide +kernel), fun _ h => absurd h List.not_mem_nil⟩⟩⟩⟩⟩⟩⟩⟩) (by decide +kernel)
/-! BlackMill$Tape.want(I)V -/
noncomputable def mi_X8_want : MI := (cX8_want, 2, RX8, [], [], [], [], [], [], [(33, ci_X8_sign), (37, ci_X8_step), (40, ci_X8_fail)])
noncomputable def a_X8_want : St wC (mi_X8_want) 3 :=
  (sSeq (sIfE (oCmp .eq (eCal 33 ci_X8_sign rfl (aA1 aA0 (eLoc 0))) (eLoc 1)) (sDo 37 ci_X8_step rfl (aA1 aA0 (eLoc 0)))
  (sDo 40 ci_X8_fail rfl (aA1 aA0 (eLoc 0))))
  sReV)
def n_X8_want : MN := (yX8_want, cX8_want, 2, none, 3)
noncomputable def ci_X8_want : CI := (1, 8, [2, 0], 3, denM 2 [2, 0] false a_X8_want.1.1)
set_option maxRecDepth 100000 in
theorem m_X8_want : MetD wC n_X8_want ci_X8_want := g_meth false (a_X8_want) rxC_ok (by decide) rfl rfl rfl (by decide) (by decide) (Or.inr (Or.inr (Or.inr (Or.inr ⟨rfl, rfl⟩)))) (fun h => by cases h) (mkWords (fun _ h => absurd h List.not_mem_nil) (fun _ h => absurd h List.not_mem_nil) (fun _ h => absurd h List.not_mem_nil) (fun _ h => absurd h List.not_mem_nil) (fun _ h => absurd h List.not_mem_nil) (fun _ h => absurd h List.not_mem_nil)) (List.forall_mem_cons.mpr ⟨clV m_X8_sign rfl rfl rfl (by decide) (Or.inl lw_X8_33) (kn_X8_sign _) (by decide +kernel), List.forall_mem_cons.mpr ⟨clV m_X8_step rfl rfl rfl (by decide) (Or.inl lw_X8_37) (kn_X8_step _) (by decide +kernel), List.forall_mem_cons.mpr ⟨clV m_X8_fail rfl rfl rfl (by decide) (Or.inl lw_X8_40) (kn_X8_fail _) (by decide +kernel), fun _ h => absurd h List.not_mem_nil⟩⟩⟩) (by decide +kernel)
/-! BlackMill$LawText.write(I)V -/
noncomputable def mi_X3_write : MI := (cX3_write, 2, RX3, [], [], [], [(9, 3, 0), (20, 3, 1)], [], [], [(41, ci_X10_put)])
noncomputable def a_X3_write : St wC (mi_X3_write) 3 :=
  (sSeq (sSeq (sDo 41 ci_X10_put rfl (aA1 (aA1 (aA1 aA0 (eFld 3 0 (eLoc 0))) (eFld 3 1 (eLoc 0))) (eLoc 1)))
  (sUpdF 0 3 1 (eLoc 0) (eInt 1)))
  sReV)
def n_X3_write : MN := (yX3_write, cX3_write, 2, none, 2)
noncomputable def ci_X3_write : CI := (1, 3, [2, 0], 3, denM 2 [2, 0] false a_X3_write.1.1)
set_option maxRecDepth 100000 in
theorem m_X3_write : MetD wC n_X3_write ci_X3_write := g_meth false (a_X3_write) rxC_ok (by decide) rfl rfl rfl (by decide) (by decide) (Or.inr (Or.inr (Or.inr (Or.inr ⟨rfl, rfl⟩)))) (fun h => by cases h) (mkWords (fun _ h => absurd h List.not_mem_nil) (fun _ h => absurd h List.not_mem_nil) (fun _ h => absurd h List.not_mem_nil) (List.forall_mem_cons.mpr ⟨⟨_, _, _, rfl, by decide, Or.inl fw_X3_9⟩, List.forall_mem_cons.mpr ⟨⟨_, _, _, rfl, by decide, Or.inl fw_X3_20⟩, fun _ h => absurd h List.not_mem_nil⟩⟩) (fun _ h => absurd h List.not_mem_nil) (fun _ h => absurd h List.not_mem_nil)) (List.forall_mem_cons.mpr ⟨clS m_X10_put rfl (by decide) (Or.inr lw_X3_41) (kn_X10_put _) (by decide +kernel), fun _ h => absurd h List.not_mem_nil⟩) (by decide +kernel)
/-! BlackMill$LawText.mayNest(LBlackMill$Tape;I)Z -/
noncomputable def mi_X3_mayNest : MI := (cX3_mayNest, 2, RX3, [], [], [], [], [], [], [(32, ci_X8_step), (80, ci_X8_fail)])
noncomputable def a_X3_mayNest : St wC (mi_X3_mayNest) 0 :=
  (sSeq (sIf (oCmp .ge (eLoc 1) (eInt 6)) (sSeq (sDo 80 ci_X8_fail rfl (aA1 aA0 (eLoc 0)))
  (sRet (eInt 0))))
  (sSeq (sDo 32 ci_X8_step rfl (aA1 aA0 (eLoc 0)))
  (sRet (eInt 1))))
def n_X3_mayNest : MN := (yX3_mayNest, cX3_mayNest, 2, (some .boolean), 3)
noncomputable def ci_X3_mayNest : CI := (0, 3, [2, 0], 0, denM 2 [2, 0] true a_X3_mayNest.1.1)
set_option maxRecDepth 100000 in
theorem m_X3_mayNest : MetD wC n_X3_mayNest ci_X3_mayNest := g_meth true (a_X3_mayNest) rxC_ok (by decide) rfl rfl rfl (by decide) (by decide) (Or.inr (Or.inl ⟨rfl, rfl⟩)) (fun _ => rfl) (mkWords (fun _ h => absurd h List.not_mem_nil) (fun _ h => absurd h List.not_mem_nil) (fun _ h => absurd h List.not_mem_nil) (fun _ h => absurd h List.not_mem_nil) (fun _ h => absurd h List.not_mem_nil) (fun _ h => absurd h List.not_mem_nil)) (List.forall_mem_cons.mpr ⟨clV m_X8_step rfl rfl rfl (by decide) (Or.inl lw_X3_32) (kn_X8_step _) (by decide +kernel), List.forall_mem_cons.mpr ⟨clV m_X8_fail rfl rfl rfl (by decide) (Or.inl lw_X3_80) (kn_X8_fail _) (by decide +kernel), fun _ h => absurd h List.not_mem_nil⟩⟩) (by decide +kernel)
/-! BlackMill$LawText.atom(LBlackMill$Tape;I)V, BlackMill$LawText.sum(LBlackMill$Tape;I)V, BlackMill$LawText.term(LBlackMill$Tape;I)V -/
def ci_X3_atom (D : Nat → Den) : CI := (1, 3, [2, 2, 0], 3, D 0)
def ci_X3_sum (D : Nat → Den) : CI := (1, 3, [2, 2, 0], 3, D 1)
def ci_X3_term (D : Nat → Den) : CI := (1, 3, [2, 2, 0], 3, D 2)
noncomputable def mi_X3_atom (D : Nat → Den) : MI := (cX3_atom, 5, RX3, [], [], [(89, 65)], [], [], [], [(28, ci_X8_sign), (32, ci_X8_step), (45, ci_X8_want), (49, (ci_X3_sum D)), (63, ci_X3_write), (72, ci_X3_mayNest), (80, ci_X8_fail), (91, ci_X10_placeIn), (95, ci_X10_isDigit), (98, ci_X8_number)])
noncomputable def a_X3_atom (D : Nat → Den) : St wC (mi_X3_atom D) 3 :=
  (sSeq (sSeq (sSet 3 (eCal 28 ci_X8_sign rfl (aA1 aA0 (eLoc 1))))
  (sSeq (sSet 4 (eCal 91 ci_X10_placeIn rfl (aA1 (aA1 aA0 (eStr 65)) (eLoc 3))))
  (sIfE (oCm0 .ne (eCal 95 ci_X10_isDigit rfl (aA1 aA0 (eLoc 3)))) (sDo 63 ci_X3_write rfl (aA1 (aA1 aA0 (eLoc 0)) (eCal 98 ci_X8_number rfl (aA1 (aA1 aA0 (eLoc 1)) (eInt 4)))))
  (sIfE (oCmp .ne (eLoc 4) (eInt (-1))) (sSeq (sDo 32 ci_X8_step rfl (aA1 aA0 (eLoc 1)))
  (sDo 63 ci_X3_write rfl (aA1 (aA1 aA0 (eLoc 0)) (eBin 0 (eInt 20000) (eLoc 4)))))
  (sIfE (oCmp .ne (eLoc 3) (eInt 91)) (sDo 80 ci_X8_fail rfl (aA1 aA0 (eLoc 1)))
  (sIf (oCm0 .ne (eCal 72 ci_X3_mayNest rfl (aA1 (aA1 aA0 (eLoc 1)) (eLoc 2)))) (sSeq (sDo 49 (ci_X3_sum D) rfl (aA1 (aA1 (aA1 aA0 (eLoc 0)) (eLoc 1)) (eBin 0 (eLoc 2) (eInt 1))))
  (sDo 45 ci_X8_want rfl (aA1 (aA1 aA0 (eLoc 1)) (eInt 93))))))))))
  sReV)
def n_X3_atom (h : Nat) : MN := (yX3_atom, cX3_atom, 5, none, h)
noncomputable def mi_X3_sum (D : Nat → Den) : MI := (cX3_sum, 5, RX3, [], [], [], [], [], [], [(28, ci_X8_sign), (32, ci_X8_step), (63, ci_X3_write), (83, (ci_X3_term D))])
noncomputable def a_X3_sum (D : Nat → Den) : St wC (mi_X3_sum D) 3 :=
  (sSeq (sSeq (sDo 83 (ci_X3_term D) rfl (aA1 (aA1 (aA1 aA0 (eLoc 0)) (eLoc 1)) (eLoc 2)))
  (sSeq (sSet 3 (eCal 28 ci_X8_sign rfl (aA1 aA0 (eLoc 1))))
  (sBlk (sSeq (sSet 4 (eInt 0))
  (sWh (oAnd (oCmp .lt (eLoc 4) (eInt 240)) (oOr (oCmp .eq (eLoc 3) (eInt 43)) (oCmp .eq (eLoc 3) (eInt 45)))) (sSeq (sSeq (sDo 32 ci_X8_step rfl (aA1 aA0 (eLoc 1)))
  (sSeq (sDo 83 (ci_X3_term D) rfl (aA1 (aA1 (aA1 aA0 (eLoc 0)) (eLoc 1)) (eLoc 2)))
  (sSeq (sDo 63 ci_X3_write rfl (aA1 (aA1 aA0 (eLoc 0)) (eBin 0 (eInt 10000) (eLoc 3))))
  (sSet 3 (eCal 28 ci_X8_sign rfl (aA1 aA0 (eLoc 1)))))))
  (sInc 4 1)))))))
  sReV)
def n_X3_sum (h : Nat) : MN := (yX3_sum, cX3_sum, 5, none, h)
noncomputable def mi_X3_term (D : Nat → Den) : MI := (cX3_term, 5, RX3, [], [], [], [], [], [], [(28, ci_X8_sign), (32, ci_X8_step), (63, ci_X3_write), (86, (ci_X3_atom D))])
noncomputable def a_X3_term (D : Nat → Den) : St wC (mi_X3_term D) 3 :=
  (sSeq (sSeq (sDo 86 (ci_X3_atom D) rfl (aA1 (aA1 (aA1 aA0 (eLoc 0)) (eLoc 1)) (eLoc 2)))
  (sSeq (sSet 3 (eCal 28 ci_X8_sign rfl (aA1 aA0 (eLoc 1))))
  (sBlk (sSeq (sSet 4 (eInt 0))
  (sWh (oAnd (oCmp .lt (eLoc 4) (eInt 240)) (oOr (oCmp .eq (eLoc 3) (eInt 42)) (oCmp .eq (eLoc 3) (eInt 47)))) (sSeq (sSeq (sDo 32 ci_X8_step rfl (aA1 aA0 (eLoc 1)))
  (sSeq (sDo 86 (ci_X3_atom D) rfl (aA1 (aA1 (aA1 aA0 (eLoc 0)) (eLoc 1)) (eLoc 2)))
  (sSeq (sDo 63 ci_X3_write rfl (aA1 (aA1 aA0 (eLoc 0)) (eBin 0 (eInt 10000) (eLoc 3))))
  (sSet 3 (eCal 28 ci_X8_sign rfl (aA1 aA0 (eLoc 1)))))))
  (sInc 4 1)))))))
  sReV)
def n_X3_term (h : Nat) : MN := (yX3_term, cX3_term, 5, none, h)
noncomputable def grp_X3_sum : Nat → Nat → Den
  | 0 => fun _ _ _ => none
  | d + 1 => fun k => match k with
    | 0 => denM 5 [2, 2, 0] false (a_X3_atom (grp_X3_sum d)).1.1
    | 1 => denM 5 [2, 2, 0] false (a_X3_sum (grp_X3_sum d)).1.1
    | 2 => denM 5 [2, 2, 0] false (a_X3_term (grp_X3_sum d)).1.1
    | _ => fun _ _ => none
set_option maxRecDepth 100000 in
theorem kc_X3_atom : ∀ d, d < 24 → chkM (a_X3_atom (grp_X3_sum d)).1.2 (layT 5 [2, 2, 0]) = true := by decide +kernel
set_option maxRecDepth 100000 in
theorem kc_X3_sum : ∀ d, d < 24 → chkM (a_X3_sum (grp_X3_sum d)).1.2 (layT 5 [2, 2, 0]) = true := by decide +kernel
set_option maxRecDepth 100000 in
theorem kc_X3_term : ∀ d, d < 24 → chkM (a_X3_term (grp_X3_sum d)).1.2 (layT 5 [2, 2, 0]) = true := by decide +kernel
set_option maxRecDepth 100000 in
theorem m_grp_X3_sum : ∀ d : Nat, d ≤ 24 → MetD wC (n_X3_atom (8 + d)) (ci_X3_atom (grp_X3_sum d)) ∧ MetD wC (n_X3_sum (8 + d)) (ci_X3_sum (grp_X3_sum d)) ∧ MetD wC (n_X3_term (8 + d)) (ci_X3_term (grp_X3_sum d))
  | 0, _ => ⟨met_none (fun _ _ => rfl), met_none (fun _ _ => rfl), met_none (fun _ _ => rfl)⟩
  | d + 1, h => by
    have ih := m_grp_X3_sum d (Nat.le_of_succ_le h)
    exact ⟨g_meth false (a_X3_atom (grp_X3_sum d)) rxC_ok pn_X3 rfl rfl rfl (Nat.le_add_left 1 _) (Nat.le_of_ble_eq_true rfl) (Or.inr (Or.inr (Or.inr (Or.inr ⟨rfl, rfl⟩)))) (fun h => by cases h) (mkWords (fun _ h => absurd h List.not_mem_nil) (fun _ h => absurd h List.not_mem_nil) (List.forall_mem_cons.mpr ⟨⟨"askoyn", fun A ad s H h => h.2.2.2.2.1⟩, fun _ h => absurd h List.not_mem_nil⟩) (fun _ h => absurd h List.not_mem_nil) (fun _ h => absurd h List.not_mem_nil) (fun _ h => absurd h List.not_mem_nil)) (List.forall_mem_cons.mpr ⟨clV m_X8_sign rfl rfl rfl (Nat.le_add_right_of_le (by decide)) (Or.inl lw_X3_28) (kn_X8_sign _) pd_X8_sign, List.forall_mem_cons.mpr ⟨clV m_X8_step rfl rfl rfl (Nat.le_add_right_of_le (by decide)) (Or.inl lw_X3_32) (kn_X8_step _) pd_X8_step, List.forall_mem_cons.mpr ⟨clV m_X8_want rfl rfl rfl (Nat.le_add_right_of_le (by decide)) (Or.inl lw_X3_45) (kn_X8_want _) pd_X8_want, List.forall_mem_cons.mpr ⟨clV ih.2.1 rfl rfl rfl (Nat.le_refl _) (Or.inl lw_X3_49) (kn_X3_sum _) pd_X3_sum, List.forall_mem_cons.mpr ⟨clV m_X3_write rfl rfl rfl (Nat.le_add_right_of_le (by decide)) (Or.inl lw_X3_63) (kn_X3_write _) pd_X3_write, List.forall_mem_cons.mpr ⟨clS m_X3_mayNest rfl (Nat.le_add_right_of_le (by decide)) (Or.inl lw_X3_72) (kn_X3_mayNest _) pd_X3_mayNest, List.forall_mem_cons.mpr ⟨clV m_X8_fail rfl rfl rfl (Nat.le_add_right_of_le (by decide)) (Or.inl lw_X3_80) (kn_X8_fail _) pd_X8_fail, List.forall_mem_cons.mpr ⟨clS m_X10_placeIn rfl (Nat.le_add_right_of_le (by decide)) (Or.inr lw_X3_91) (kn_X10_placeIn _) pd_X10_placeIn, List.forall_mem_cons.mpr ⟨clS m_X10_isDigit rfl (Nat.le_add_right_of_le (by decide)) (Or.inr lw_X3_95) (kn_X10_isDigit _) pd_X10_isDigit, List.forall_mem_cons.mpr ⟨clV m_X8_number rfl rfl rfl (Nat.le_add_right_of_le (by decide)) (Or.inl lw_X3_98) (kn_X8_number _) pd_X8_number, fun _ h => absurd h List.not_mem_nil⟩⟩⟩⟩⟩⟩⟩⟩⟩⟩) (kc_X3_atom d h),
      g_meth false (a_X3_sum (grp_X3_sum d)) rxC_ok pn_X3 rfl rfl rfl (Nat.le_add_left 1 _) (Nat.le_of_ble_eq_true rfl) (Or.inr (Or.inr (Or.inr (Or.inr ⟨rfl, rfl⟩)))) (fun h => by cases h) (mkWords (fun _ h => absurd h List.not_mem_nil) (fun _ h => absurd h List.not_mem_nil) (fun _ h => absurd h List.not_mem_nil) (fun _ h => absurd h List.not_mem_nil) (fun _ h => absurd h List.not_mem_nil) (fun _ h => absurd h List.not_mem_nil)) (List.forall_mem_cons.mpr ⟨clV m_X8_sign rfl rfl rfl (Nat.le_add_right_of_le (by decide)) (Or.inl lw_X3_28) (kn_X8_sign _) pd_X8_sign, List.forall_mem_cons.mpr ⟨clV m_X8_step rfl rfl rfl (Nat.le_add_right_of_le (by decide)) (Or.inl lw_X3_32) (kn_X8_step _) pd_X8_step, List.forall_mem_cons.mpr ⟨clV m_X3_write rfl rfl rfl (Nat.le_add_right_of_le (by decide)) (Or.inl lw_X3_63) (kn_X3_write _) pd_X3_write, List.forall_mem_cons.mpr ⟨clV ih.2.2 rfl rfl rfl (Nat.le_refl _) (Or.inl lw_X3_83) (kn_X3_term _) pd_X3_term, fun _ h => absurd h List.not_mem_nil⟩⟩⟩⟩) (kc_X3_sum d h),
      g_meth false (a_X3_term (grp_X3_sum d)) rxC_ok pn_X3 rfl rfl rfl (Nat.le_add_left 1 _) (Nat.le_of_ble_eq_true rfl) (Or.inr (Or.inr (Or.inr (Or.inr ⟨rfl, rfl⟩)))) (fun h => by cases h) (mkWords (fun _ h => absurd h List.not_mem_nil) (fun _ h => absurd h List.not_mem_nil) (fun _ h => absurd h List.not_mem_nil) (fun _ h => absurd h List.not_mem_nil) (fun _ h => absurd h List.not_mem_nil) (fun _ h => absurd h List.not_mem_nil)) (List.forall_mem_cons.mpr ⟨clV m_X8_sign rfl rfl rfl (Nat.le_add_right_of_le (by decide)) (Or.inl lw_X3_28) (kn_X8_sign _) pd_X8_sign, List.forall_mem_cons.mpr ⟨clV m_X8_step rfl rfl rfl (Nat.le_add_right_of_le (by decide)) (Or.inl lw_X3_32) (kn_X8_step _) pd_X8_step, List.forall_mem_cons.mpr ⟨clV m_X3_write rfl rfl rfl (Nat.le_add_right_of_le (by decide)) (Or.inl lw_X3_63) (kn_X3_write _) pd_X3_write, List.forall_mem_cons.mpr ⟨clV ih.1 rfl rfl rfl (Nat.le_refl _) (Or.inl lw_X3_86) (kn_X3_atom _) pd_X3_atom, fun _ h => absurd h List.not_mem_nil⟩⟩⟩⟩) (kc_X3_term d h)⟩
/-! BlackMill$LawText.isRelation(I)Z -/
noncomputable def mi_X3_isRelation : MI := (cX3_isRelation, 1, RX3, [], [], [], [], [], [], [])
noncomputable def a_X3_isRelation : St wC (mi_X3_isRelation) 0 :=
  (sRet (eBo (oOr (oOr (oCmp .eq (eLoc 0) (eInt 61)) (oCmp .eq (eLoc 0) (eInt 60))) (oCmp .eq (eLoc 0) (eInt 62)))))
def n_X3_isRelation : MN := (yX3_isRelation, cX3_isRelation, 1, (some .boolean), 1)
noncomputable def ci_X3_isRelation : CI := (0, 3, [0], 0, denM 1 [0] true a_X3_isRelation.1.1)
set_option maxRecDepth 100000 in
theorem m_X3_isRelation : MetD wC n_X3_isRelation ci_X3_isRelation := g_meth true (a_X3_isRelation) rxC_ok (by decide) rfl rfl rfl (by decide) (by decide) (Or.inr (Or.inl ⟨rfl, rfl⟩)) (fun _ => rfl) (mkWords (fun _ h => absurd h List.not_mem_nil) (fun _ h => absurd h List.not_mem_nil) (fun _ h => absurd h List.not_mem_nil) (fun _ h => absurd h List.not_mem_nil) (fun _ h => absurd h List.not_mem_nil) (fun _ h => absurd h List.not_mem_nil)) (fun _ h => absurd h List.not_mem_nil) (by decide +kernel)
/-! BlackMill$LawText.condition(LBlackMill$Tape;IZ)V, BlackMill$LawText.nested(LBlackMill$Tape;II)V, BlackMill$LawText.truth(LBlackMill$Tape;IZ)V, BlackMill$LawText.unit(LBlackMill$Tape;IZ)V -/
def ci_X3_condition (D : Nat → Den) : CI := (1, 3, [2, 2, 0, 0], 3, D 0)
def ci_X3_nested (D : Nat → Den) : CI := (1, 3, [2, 2, 0, 0], 3, D 1)
def ci_X3_truth (D : Nat → Den) : CI := (1, 3, [2, 2, 0, 0], 3, D 2)
def ci_X3_unit (D : Nat → Den) : CI := (1, 3, [2, 2, 0, 0], 3, D 3)
noncomputable def mi_X3_condition (D : Nat → Den) : MI := (cX3_condition, 5, RX3, [], [], [], [], [], [], [(28, ci_X8_sign), (32, ci_X8_step), (63, ci_X3_write), (66, (ci_X3_truth D))])
noncomputable def a_X3_condition (D : Nat → Den) : St wC (mi_X3_condition D) 3 :=
  (sSeq (sSeq (sDo 66 (ci_X3_truth D) rfl (aA1 (aA1 (aA1 (aA1 aA0 (eLoc 0)) (eLoc 1)) (eLoc 2)) (eLoc 3)))
  (sBlk (sSeq (sSet 4 (eInt 0))
  (sWh (oAnd (oCmp .lt (eLoc 4) (eInt 240)) (oCmp .eq (eCal 28 ci_X8_sign rfl (aA1 aA0 (eLoc 1))) (eInt 124))) (sSeq (sSeq (sDo 32 ci_X8_step rfl (aA1 aA0 (eLoc 1)))
  (sSeq (sDo 66 (ci_X3_truth D) rfl (aA1 (aA1 (aA1 (aA1 aA0 (eLoc 0)) (eLoc 1)) (eLoc 2)) (eInt 0)))
  (sDo 63 ci_X3_write rfl (aA1 (aA1 aA0 (eLoc 0)) (eInt 10124)))))
  (sInc 4 1))))))
  sReV)
def n_X3_condition (h : Nat) : MN := (yX3_condition, cX3_condition, 5, none, h)
noncomputable def mi_X3_nested (D : Nat → Den) : MI := (cX3_nested, 4, RX3, [], [], [], [], [], [], [(45, ci_X8_want), (57, (ci_X3_condition D)), (63, ci_X3_write), (69, (ci_X3_unit D))])
noncomputable def a_X3_nested (D : Nat → Den) : St wC (mi_X3_nested D) 3 :=
  (sSeq (sIfE (oCmp .eq (eLoc 3) (eInt 33)) (sSeq (sDo 69 (ci_X3_unit D) rfl (aA1 (aA1 (aA1 (aA1 aA0 (eLoc 0)) (eLoc 1)) (eLoc 2)) (eInt 0)))
  (sDo 63 ci_X3_write rfl (aA1 (aA1 aA0 (eLoc 0)) (eInt 10033))))
  (sSeq (sDo 57 (ci_X3_condition D) rfl (aA1 (aA1 (aA1 (aA1 aA0 (eLoc 0)) (eLoc 1)) (eLoc 2)) (eInt 0)))
  (sDo 45 ci_X8_want rfl (aA1 (aA1 aA0 (eLoc 1)) (eInt 41)))))
  sReV)
def n_X3_nested (h : Nat) : MN := (yX3_nested, cX3_nested, 4, none, h)
noncomputable def mi_X3_truth (D : Nat → Den) : MI := (cX3_truth, 5, RX3, [], [], [], [], [], [], [(28, ci_X8_sign), (32, ci_X8_step), (63, ci_X3_write), (69, (ci_X3_unit D))])
noncomputable def a_X3_truth (D : Nat → Den) : St wC (mi_X3_truth D) 3 :=
  (sSeq (sSeq (sDo 69 (ci_X3_unit D) rfl (aA1 (aA1 (aA1 (aA1 aA0 (eLoc 0)) (eLoc 1)) (eLoc 2)) (eLoc 3)))
  (sBlk (sSeq (sSet 4 (eInt 0))
  (sWh (oAnd (oCmp .lt (eLoc 4) (eInt 240)) (oCmp .eq (eCal 28 ci_X8_sign rfl (aA1 aA0 (eLoc 1))) (eInt 38))) (sSeq (sSeq (sDo 32 ci_X8_step rfl (aA1 aA0 (eLoc 1)))
  (sSeq (sDo 69 (ci_X3_unit D) rfl (aA1 (aA1 (aA1 (aA1 aA0 (eLoc 0)) (eLoc 1)) (eLoc 2)) (eInt 0)))
  (sDo 63 ci_X3_write rfl (aA1 (aA1 aA0 (eLoc 0)) (eInt 10038)))))
  (sInc 4 1))))))
  sReV)
def n_X3_truth (h : Nat) : MN := (yX3_truth, cX3_truth, 5, none, h)
noncomputable def mi_X3_unit (D : Nat → Den) : MI := (cX3_unit, 6, RX3, [], [], [], [], [], [], [(28, ci_X8_sign), (32, ci_X8_step), (49, (ci_X3_sum (grp_X3_sum 24))), (53, ci_X3_isRelation), (63, ci_X3_write), (72, ci_X3_mayNest), (76, (ci_X3_nested D)), (80, ci_X8_fail)])
noncomputable def a_X3_unit (D : Nat → Den) : St wC (mi_X3_unit D) 3 :=
  (sSeq (sSeq (sSet 4 (eCal 28 ci_X8_sign rfl (aA1 aA0 (eLoc 1))))
  (sSeq (sIf (oAnd (oNot (oCm0 .ne (eLoc 3))) (oOr (oCmp .eq (eLoc 4) (eInt 33)) (oCmp .eq (eLoc 4) (eInt 40)))) (sSeq (sIf (oCm0 .ne (eCal 72 ci_X3_mayNest rfl (aA1 (aA1 aA0 (eLoc 1)) (eLoc 2)))) (sDo 76 (ci_X3_nested D) rfl (aA1 (aA1 (aA1 (aA1 aA0 (eLoc 0)) (eLoc 1)) (eBin 0 (eLoc 2) (eInt 1))) (eLoc 4))))
  sReV))
  (sSeq (sIf (oNot (oCm0 .ne (eLoc 3))) (sDo 49 (ci_X3_sum (grp_X3_sum 24)) rfl (aA1 (aA1 (aA1 aA0 (eLoc 0)) (eLoc 1)) (eLoc 2))))
  (sSeq (sSet 5 (eCal 28 ci_X8_sign rfl (aA1 aA0 (eLoc 1))))
  (sSeq (sIf (oNot (oCm0 .ne (eCal 53 ci_X3_isRelation rfl (aA1 aA0 (eLoc 5))))) (sSeq (sDo 80 ci_X8_fail rfl (aA1 aA0 (eLoc 1)))
  sReV))
  (sSeq (sDo 32 ci_X8_step rfl (aA1 aA0 (eLoc 1)))
  (sSeq (sDo 49 (ci_X3_sum (grp_X3_sum 24)) rfl (aA1 (aA1 (aA1 aA0 (eLoc 0)) (eLoc 1)) (eLoc 2)))
  (sDo 63 ci_X3_write rfl (aA1 (aA1 aA0 (eLoc 0)) (eBin 0 (eInt 10000) (eLoc 5)))))))))))
  sReV)
def n_X3_unit (h : Nat) : MN := (yX3_unit, cX3_unit, 6, none, h)
noncomputable def grp_X3_condition : Nat → Nat → Den
  | 0 => fun _ _ _ => none
  | d + 1 => fun k => match k with
    | 0 => denM 5 [2, 2, 0, 0] false (a_X3_condition (grp_X3_condition d)).1.1
    | 1 => denM 4 [2, 2, 0, 0] false (a_X3_nested (grp_X3_condition d)).1.1
    | 2 => denM 5 [2, 2, 0, 0] false (a_X3_truth (grp_X3_condition d)).1.1
    | 3 => denM 6 [2, 2, 0, 0] false (a_X3_unit (grp_X3_condition d)).1.1
    | _ => fun _ _ => none
set_option maxRecDepth 100000 in
theorem kc_X3_condition : ∀ d, d < 30 → chkM (a_X3_condition (grp_X3_condition d)).1.2 (layT 5 [2, 2, 0, 0]) = true := by decide +kernel
set_option maxRecDepth 100000 in
theorem kc_X3_nested : ∀ d, d < 30 → chkM (a_X3_nested (grp_X3_condition d)).1.2 (layT 4 [2, 2, 0, 0]) = true := by decide +kernel
set_option maxRecDepth 100000 in
theorem kc_X3_truth : ∀ d, d < 30 → chkM (a_X3_truth (grp_X3_condition d)).1.2 (layT 5 [2, 2, 0, 0]) = true := by decide +kernel
set_option maxRecDepth 100000 in
theorem kc_X3_unit : ∀ d, d < 30 → chkM (a_X3_unit (grp_X3_condition d)).1.2 (layT 6 [2, 2, 0, 0]) = true := by decide +kernel
set_option maxRecDepth 100000 in
theorem m_grp_X3_condition : ∀ d : Nat, d ≤ 30 → MetD wC (n_X3_condition (33 + d)) (ci_X3_condition (grp_X3_condition d)) ∧ MetD wC (n_X3_nested (33 + d)) (ci_X3_nested (grp_X3_condition d)) ∧ MetD wC (n_X3_truth (33 + d)) (ci_X3_truth (grp_X3_condition d)) ∧ MetD wC (n_X3_unit (33 + d)) (ci_X3_unit (grp_X3_condition d))
  | 0, _ => ⟨met_none (fun _ _ => rfl), met_none (fun _ _ => rfl), met_none (fun _ _ => rfl), met_none (fun _ _ => rfl)⟩
  | d + 1, h => by
    have ih := m_grp_X3_condition d (Nat.le_of_succ_le h)
    exact ⟨g_meth false (a_X3_condition (grp_X3_condition d)) rxC_ok pn_X3 rfl rfl rfl (Nat.le_add_left 1 _) (Nat.le_of_ble_eq_true rfl) (Or.inr (Or.inr (Or.inr (Or.inr ⟨rfl, rfl⟩)))) (fun h => by cases h) (mkWords (fun _ h => absurd h List.not_mem_nil) (fun _ h => absurd h List.not_mem_nil) (fun _ h => absurd h List.not_mem_nil) (fun _ h => absurd h List.not_mem_nil) (fun _ h => absurd h List.not_mem_nil) (fun _ h => absurd h List.not_mem_nil)) (List.forall_mem_cons.mpr ⟨clV m_X8_sign rfl rfl rfl (Nat.le_add_right_of_le (by decide)) (Or.inl lw_X3_28) (kn_X8_sign _) pd_X8_sign, List.forall_mem_cons.mpr ⟨clV m_X8_step rfl rfl rfl (Nat.le_add_right_of_le (by decide)) (Or.inl lw_X3_32) (kn_X8_step _) pd_X8_step, List.forall_mem_cons.mpr ⟨clV m_X3_write rfl rfl rfl (Nat.le_add_right_of_le (by decide)) (Or.inl lw_X3_63) (kn_X3_write _) pd_X3_write, List.forall_mem_cons.mpr ⟨clV ih.2.2.1 rfl rfl rfl (Nat.le_refl _) (Or.inl lw_X3_66) (kn_X3_truth _) pd_X3_truth, fun _ h => absurd h List.not_mem_nil⟩⟩⟩⟩) (kc_X3_condition d h),
      g_meth false (a_X3_nested (grp_X3_condition d)) rxC_ok pn_X3 rfl rfl rfl (Nat.le_add_left 1 _) (Nat.le_of_ble_eq_true rfl) (Or.inr (Or.inr (Or.inr (Or.inr ⟨rfl, rfl⟩)))) (fun h => by cases h) (mkWords (fun _ h => absurd h List.not_mem_nil) (fun _ h => absurd h List.not_mem_nil) (fun _ h => absurd h List.not_mem_nil) (fun _ h => absurd h List.not_mem_nil) (fun _ h => absurd h List.not_mem_nil) (fun _ h => absurd h List.not_mem_nil)) (List.forall_mem_cons.mpr ⟨clV m_X8_want rfl rfl rfl (Nat.le_add_right_of_le (by decide)) (Or.inl lw_X3_45) (kn_X8_want _) pd_X8_want, List.forall_mem_cons.mpr ⟨clV ih.1 rfl rfl rfl (Nat.le_refl _) (Or.inl lw_X3_57) (kn_X3_condition _) pd_X3_condition, List.forall_mem_cons.mpr ⟨clV m_X3_write rfl rfl rfl (Nat.le_add_right_of_le (by decide)) (Or.inl lw_X3_63) (kn_X3_write _) pd_X3_write, List.forall_mem_cons.mpr ⟨clV ih.2.2.2 rfl rfl rfl (Nat.le_refl _) (Or.inl lw_X3_69) (kn_X3_unit _) pd_X3_unit, fun _ h => absurd h List.not_mem_nil⟩⟩⟩⟩) (kc_X3_nested d h),
      g_meth false (a_X3_truth (grp_X3_condition d)) rxC_ok pn_X3 rfl rfl rfl (Nat.le_add_left 1 _) (Nat.le_of_ble_eq_true rfl) (Or.inr (Or.inr (Or.inr (Or.inr ⟨rfl, rfl⟩)))) (fun h => by cases h) (mkWords (fun _ h => absurd h List.not_mem_nil) (fun _ h => absurd h List.not_mem_nil) (fun _ h => absurd h List.not_mem_nil) (fun _ h => absurd h List.not_mem_nil) (fun _ h => absurd h List.not_mem_nil) (fun _ h => absurd h List.not_mem_nil)) (List.forall_mem_cons.mpr ⟨clV m_X8_sign rfl rfl rfl (Nat.le_add_right_of_le (by decide)) (Or.inl lw_X3_28) (kn_X8_sign _) pd_X8_sign, List.forall_mem_cons.mpr ⟨clV m_X8_step rfl rfl rfl (Nat.le_add_right_of_le (by decide)) (Or.inl lw_X3_32) (kn_X8_step _) pd_X8_step, List.forall_mem_cons.mpr ⟨clV m_X3_write rfl rfl rfl (Nat.le_add_right_of_le (by decide)) (Or.inl lw_X3_63) (kn_X3_write _) pd_X3_write, List.forall_mem_cons.mpr ⟨clV ih.2.2.2 rfl rfl rfl (Nat.le_refl _) (Or.inl lw_X3_69) (kn_X3_unit _) pd_X3_unit, fun _ h => absurd h List.not_mem_nil⟩⟩⟩⟩) (kc_X3_truth d h),
      g_meth false (a_X3_unit (grp_X3_condition d)) rxC_ok pn_X3 rfl rfl rfl (Nat.le_add_left 1 _) (Nat.le_of_ble_eq_true rfl) (Or.inr (Or.inr (Or.inr (Or.inr ⟨rfl, rfl⟩)))) (fun h => by cases h) (mkWords (fun _ h => absurd h List.not_mem_nil) (fun _ h => absurd h List.not_mem_nil) (fun _ h => absurd h List.not_mem_nil) (fun _ h => absurd h List.not_mem_nil) (fun _ h => absurd h List.not_mem_nil) (fun _ h => absurd h List.not_mem_nil)) (List.forall_mem_cons.mpr ⟨clV m_X8_sign rfl rfl rfl (Nat.le_add_right_of_le (by decide)) (Or.inl lw_X3_28) (kn_X8_sign _) pd_X8_sign, List.forall_mem_cons.mpr ⟨clV m_X8_step rfl rfl rfl (Nat.le_add_right_of_le (by decide)) (Or.inl lw_X3_32) (kn_X8_step _) pd_X8_step, List.forall_mem_cons.mpr ⟨clV (m_grp_X3_sum 24 (Nat.le_refl _)).2.1 rfl rfl rfl (Nat.le_add_right_of_le (by decide)) (Or.inl lw_X3_49) (kn_X3_sum _) pd_X3_sum, List.forall_mem_cons.mpr ⟨clS m_X3_isRelation rfl (Nat.le_add_right_of_le (by decide)) (Or.inl lw_X3_53) (kn_X3_isRelation _) pd_X3_isRelation, List.forall_mem_cons.mpr ⟨clV m_X3_write rfl rfl rfl (Nat.le_add_right_of_le (by decide)) (Or.inl lw_X3_63) (kn_X3_write _) pd_X3_write, List.forall_mem_cons.mpr ⟨clS m_X3_mayNest rfl (Nat.le_add_right_of_le (by decide)) (Or.inl lw_X3_72) (kn_X3_mayNest _) pd_X3_mayNest, List.forall_mem_cons.mpr ⟨clV ih.2.1 rfl rfl rfl (Nat.le_refl _) (Or.inl lw_X3_76) (kn_X3_nested _) pd_X3_nested, List.forall_mem_cons.mpr ⟨clV m_X8_fail rfl rfl rfl (Nat.le_add_right_of_le (by decide)) (Or.inl lw_X3_80) (kn_X8_fail _) pd_X8_fail, fun _ h => absurd h List.not_mem_nil⟩⟩⟩⟩⟩⟩⟩⟩) (kc_X3_unit d h)⟩
/-! BlackMill$LawText.clause(LBlackMill$Tape;)V -/
noncomputable def mi_X3_clause : MI := (cX3_clause, 4, RX3, [], [], [], [], [], [], [(28, ci_X8_sign), (45, ci_X8_want), (49, (ci_X3_sum (grp_X3_sum 24))), (53, ci_X3_isRelation), (57, (ci_X3_condition (grp_X3_condition 30))), (63, ci_X3_write)])
noncomputable def a_X3_clause : St wC (mi_X3_clause) 3 :=
  (sSeq (sSeq (sDo 45 ci_X8_want rfl (aA1 (aA1 aA0 (eLoc 1)) (eInt 121)))
  (sSeq (sDo 45 ci_X8_want rfl (aA1 (aA1 aA0 (eLoc 1)) (eInt 58)))
  (sSeq (sSet 2 (eCal 28 ci_X8_sign rfl (aA1 aA0 (eLoc 1))))
  (sSeq (sSet 3 (eBo (oAnd (oCmp .ne (eLoc 2) (eInt 33)) (oCmp .ne (eLoc 2) (eInt 40)))))
  (sSeq (sIf (oCm0 .ne (eLoc 3)) (sDo 49 (ci_X3_sum (grp_X3_sum 24)) rfl (aA1 (aA1 (aA1 aA0 (eLoc 0)) (eLoc 1)) (eInt 0))))
  (sSeq (sIf (oOr (oNot (oCm0 .ne (eLoc 3))) (oCm0 .ne (eCal 53 ci_X3_isRelation rfl (aA1 aA0 (eCal 28 ci_X8_sign rfl (aA1 aA0 (eLoc 1))))))) (sSeq (sDo 57 (ci_X3_condition (grp_X3_condition 30)) rfl (aA1 (aA1 (aA1 (aA1 aA0 (eLoc 0)) (eLoc 1)) (eInt 0)) (eLoc 3)))
  (sSeq (sDo 45 ci_X8_want rfl (aA1 (aA1 aA0 (eLoc 1)) (eInt 63)))
  (sSeq (sDo 63 ci_X3_write rfl (aA1 (aA1 aA0 (eLoc 0)) (eInt 10063)))
  (sDo 49 (ci_X3_sum (grp_X3_sum 24)) rfl (aA1 (aA1 (aA1 aA0 (eLoc 0)) (eLoc 1)) (eInt 0)))))))
  (sDo 63 ci_X3_write rfl (aA1 (aA1 aA0 (eLoc 0)) (eInt 10059)))))))))
  sReV)
def n_X3_clause : MN := (yX3_clause, cX3_clause, 4, none, 64)
noncomputable def ci_X3_clause : CI := (1, 3, [2, 2], 3, denM 4 [2, 2] false a_X3_clause.1.1)
set_option maxRecDepth 100000 in
theorem m_X3_clause : MetD wC n_X3_clause ci_X3_clause := g_meth false (a_X3_clause) rxC_ok (by decide) rfl rfl rfl (by decide) (by decide) (Or.inr (Or.inr (Or.inr (Or.inr ⟨rfl, rfl⟩)))) (fun h => by cases h) (mkWords (fun _ h => absurd h List.not_mem_nil) (fun _ h => absurd h List.not_mem_nil) (fun _ h => absurd h List.not_mem_nil) (fun _ h => absurd h List.not_mem_nil) (fun _ h => absurd h List.not_mem_nil) (fun _ h => absurd h List.not_mem_nil)) (List.forall_mem_cons.mpr ⟨clV m_X8_sign rfl rfl rfl (by decide) (Or.inl lw_X3_28) (kn_X8_sign _) (by decide +kernel), List.forall_mem_cons.mpr ⟨clV m_X8_want rfl rfl rfl (by decide) (Or.inl lw_X3_45) (kn_X8_want _) (by decide +kernel), List.forall_mem_cons.mpr ⟨clV (m_grp_X3_sum 24 (Nat.le_refl _)).2.1 rfl rfl rfl (by decide) (Or.inl lw_X3_49) (kn_X3_sum _) (by decide +kernel), List.forall_mem_cons.mpr ⟨clS m_X3_isRelation rfl (by decide) (Or.inl lw_X3_53) (kn_X3_isRelation _) (by decide +kernel), List.forall_mem_cons.mpr ⟨clV (m_grp_X3_condition 30 (Nat.le_refl _)).1 rfl rfl rfl (by decide) (Or.inl lw_X3_57) (kn_X3_condition _) (by decide +kernel), List.forall_mem_cons.mpr ⟨clV m_X3_write rfl rfl rfl (by decide) (Or.inl lw_X3_63) (kn_X3_write _) (by decide +kernel), fun _ h => absurd h List.not_mem_nil⟩⟩⟩⟩⟩⟩) (by decide +kernel)
/-! BlackMill$LawText.read(LBlackMill$Tape;)I -/
noncomputable def mi_X3_read : MI := (cX3_read, 3, RX3, [], [], [], [(20, 3, 1), (38, 8, 3)], [], [], [(15, ci_X8_begin), (24, ci_X3_clause), (28, ci_X8_sign), (32, ci_X8_step), (35, ci_X8_wantOver)])
noncomputable def a_X3_read : St wC (mi_X3_read) 0 :=
  (sSeq (sDo 15 ci_X8_begin rfl (aA1 aA0 (eLoc 1)))
  (sSeq (sPutF 3 1 (eLoc 0) (eInt 0))
  (sSeq (sDo 24 ci_X3_clause rfl (aA1 (aA1 aA0 (eLoc 0)) (eLoc 1)))
  (sSeq (sBlk (sSeq (sSet 2 (eInt 0))
  (sWh (oAnd (oCmp .lt (eLoc 2) (eInt 240)) (oCmp .eq (eCal 28 ci_X8_sign rfl (aA1 aA0 (eLoc 1))) (eInt 59))) (sSeq (sSeq (sDo 32 ci_X8_step rfl (aA1 aA0 (eLoc 1)))
  (sDo 24 ci_X3_clause rfl (aA1 (aA1 aA0 (eLoc 0)) (eLoc 1))))
  (sInc 2 1)))))
  (sSeq (sDo 35 ci_X8_wantOver rfl (aA1 aA0 (eLoc 1)))
  (sRet (eFld 8 3 (eLoc 1))))))))
def n_X3_read : MN := (yX3_read, cX3_read, 3, (some .int), 65)
noncomputable def ci_X3_read : CI := (1, 3, [2, 2], 0, denM 3 [2, 2] false a_X3_read.1.1)
set_option maxRecDepth 100000 in
theorem m_X3_read : MetD wC n_X3_read ci_X3_read := g_meth false (a_X3_read) rxC_ok (by decide) rfl rfl rfl (by decide) (by decide) (Or.inl ⟨rfl, rfl⟩) (fun h => by cases h) (mkWords (fun _ h => absurd h List.not_mem_nil) (fun _ h => absurd h List.not_mem_nil) (fun _ h => absurd h List.not_mem_nil) (List.forall_mem_cons.mpr ⟨⟨_, _, _, rfl, by decide, Or.inl fw_X3_20⟩, List.forall_mem_cons.mpr ⟨⟨_, _, _, rfl, by decide, Or.inr fw_X3_38⟩, fun _ h => absurd h List.not_mem_nil⟩⟩) (fun _ h => absurd h List.not_mem_nil) (fun _ h => absurd h List.not_mem_nil)) (List.forall_mem_cons.mpr ⟨clV m_X8_begin rfl rfl rfl (by decide) (Or.inl lw_X3_15) (kn_X8_begin _) (by decide +kernel), List.forall_mem_cons.mpr ⟨clV m_X3_clause rfl rfl rfl (by decide) (Or.inl lw_X3_24) (kn_X3_clause _) (by decide +kernel), List.forall_mem_cons.mpr ⟨clV m_X8_sign rfl rfl rfl (by decide) (Or.inl lw_X3_28) (kn_X8_sign _) (by decide +kernel), List.forall_mem_cons.mpr ⟨clV m_X8_step rfl rfl rfl (by decide) (Or.inl lw_X3_32) (kn_X8_step _) (by decide +kernel), List.forall_mem_cons.mpr ⟨clV m_X8_wantOver rfl rfl rfl (by decide) (Or.inl lw_X3_35) (kn_X8_wantOver _) (by decide +kernel), fun _ h => absurd h List.not_mem_nil⟩⟩⟩⟩⟩) (by decide +kernel)
/-! BlackMill.fault(I)I -/
noncomputable def mi_X10_fault : MI := (cX10_fault, 2, RX10, [], [], [], [(10, 10, 0), (19, 10, 1), (26, 10, 2)], [], [], [(110, ci_X6_read), (114, ci_X3_read)])
noncomputable def a_X10_fault : St wC (mi_X10_fault) 0 :=
  (sSeq (sIf (oCm0 .eq (eLoc 1)) (sRet (eCal 110 ci_X6_read rfl (aA1 (aA1 aA0 (eFld 10 1 (eLoc 0))) (eFld 10 0 (eLoc 0))))))
  (sSeq (sIf (oCmp .eq (eLoc 1) (eInt 1)) (sRet (eCal 114 ci_X3_read rfl (aA1 (aA1 aA0 (eFld 10 2 (eLoc 0))) (eFld 10 0 (eLoc 0))))))
  (sRet (eInt (-2)))))
def n_X10_fault : MN := (yX10_fault, cX10_fault, 2, (some .int), 66)
noncomputable def ci_X10_fault : CI := (1, 10, [2, 0], 0, denM 2 [2, 0] false a_X10_fault.1.1)
set_option maxRecDepth 100000 in
theorem m_X10_fault : MetD wC n_X10_fault ci_X10_fault := g_meth false (a_X10_fault) rxC_ok (by decide) rfl rfl rfl (by decide) (by decide) (Or.inl ⟨rfl, rfl⟩) (fun h => by cases h) (mkWords (fun _ h => absurd h List.not_mem_nil) (fun _ h => absurd h List.not_mem_nil) (fun _ h => absurd h List.not_mem_nil) (List.forall_mem_cons.mpr ⟨⟨_, _, _, rfl, by decide, Or.inl fw_X10_10⟩, List.forall_mem_cons.mpr ⟨⟨_, _, _, rfl, by decide, Or.inl fw_X10_19⟩, List.forall_mem_cons.mpr ⟨⟨_, _, _, rfl, by decide, Or.inl fw_X10_26⟩, fun _ h => absurd h List.not_mem_nil⟩⟩⟩) (fun _ h => absurd h List.not_mem_nil) (fun _ h => absurd h List.not_mem_nil)) (List.forall_mem_cons.mpr ⟨clV m_X6_read rfl rfl rfl (by decide) (Or.inl lw_X10_110) (kn_X6_read _) (by decide +kernel), List.forall_mem_cons.mpr ⟨clV m_X3_read rfl rfl rfl (by decide) (Or.inl lw_X10_114) (kn_X3_read _) (by decide +kernel), fun _ h => absurd h List.not_mem_nil⟩⟩) (by decide +kernel)
/-! BlackMill$House.set(III)V -/
noncomputable def mi_X2_set : MI := (cX2_set, 4, RX2, [], [], [], [(9, 2, 0)], [], [], [(52, ci_X10_put)])
noncomputable def a_X2_set : St wC (mi_X2_set) 3 :=
  (sSeq (sDo 52 ci_X10_put rfl (aA1 (aA1 (aA1 aA0 (eFld 2 0 (eLoc 0))) (eBin 0 (eBin 2 (eLoc 1) (eInt 7)) (eLoc 2))) (eLoc 3)))
  sReV)
def n_X2_set : MN := (yX2_set, cX2_set, 4, none, 2)
noncomputable def ci_X2_set : CI := (1, 2, [2, 0, 0, 0], 3, denM 4 [2, 0, 0, 0] false a_X2_set.1.1)
set_option maxRecDepth 100000 in
theorem m_X2_set : MetD wC n_X2_set ci_X2_set := g_meth false (a_X2_set) rxC_ok (by decide) rfl rfl rfl (by decide) (by decide) (Or.inr (Or.inr (Or.inr (Or.inr ⟨rfl, rfl⟩)))) (fun h => by cases h) (mkWords (fun _ h => absurd h List.not_mem_nil) (fun _ h => absurd h List.not_mem_nil) (fun _ h => absurd h List.not_mem_nil) (List.forall_mem_cons.mpr ⟨⟨_, _, _, rfl, by decide, Or.inl fw_X2_9⟩, fun _ h => absurd h List.not_mem_nil⟩) (fun _ h => absurd h List.not_mem_nil) (fun _ h => absurd h List.not_mem_nil)) (List.forall_mem_cons.mpr ⟨clS m_X10_put rfl (by decide) (Or.inr lw_X2_52) (kn_X10_put _) (by decide +kernel), fun _ h => absurd h List.not_mem_nil⟩) (by decide +kernel)
/-! BlackMill$House.settle(LBlackMill$MillText;)V -/
noncomputable def mi_X2_settle : MI := (cX2_settle, 4, RX2, [], [], [], [(15, 6, 4), (21, 2, 1), (24, 2, 2), (27, 6, 0), (34, 2, 3), (37, 2, 4)], [], [], [(30, ci_X10_at), (40, ci_X6_item), (44, ci_X2_set)])
noncomputable def a_X2_settle : St wC (mi_X2_settle) 3 :=
  (sSeq (sSeq (sPutF 2 1 (eLoc 0) (eFld 6 4 (eLoc 1)))
  (sSeq (sPutF 2 2 (eLoc 0) (eInt 0))
  (sSeq (sPutF 2 3 (eLoc 0) (eCal 30 ci_X10_at rfl (aA1 (aA1 aA0 (eFld 6 0 (eLoc 1))) (eInt 1))))
  (sSeq (sPutF 2 4 (eLoc 0) (eCal 30 ci_X10_at rfl (aA1 (aA1 aA0 (eFld 6 0 (eLoc 1))) (eInt 3))))
  (sBlk (sSeq (sSet 2 (eInt 0))
  (sWh (oCmp .lt (eLoc 2) (eFld 2 1 (eLoc 0))) (sSeq (sSeq (sBlk (sSeq (sSet 3 (eInt 0))
  (sWh (oCmp .le (eLoc 3) (eInt 4)) (sSeq (sDo 44 ci_X2_set rfl (aA1 (aA1 (aA1 (aA1 aA0 (eLoc 0)) (eLoc 2)) (eLoc 3)) (eCal 40 ci_X6_item rfl (aA1 (aA1 (aA1 aA0 (eLoc 1)) (eLoc 2)) (eLoc 3)))))
  (sInc 3 1)))))
  (sSeq (sIf (oCmp .eq (eCal 40 ci_X6_item rfl (aA1 (aA1 (aA1 aA0 (eLoc 1)) (eLoc 2)) (eInt 3))) (eInt 8)) (sDo 44 ci_X2_set rfl (aA1 (aA1 (aA1 (aA1 aA0 (eLoc 0)) (eLoc 2)) (eInt 3)) (eInt (-1)))))
  (sSeq (sDo 44 ci_X2_set rfl (aA1 (aA1 (aA1 (aA1 aA0 (eLoc 0)) (eLoc 2)) (eInt 5)) (eInt 0)))
  (sDo 44 ci_X2_set rfl (aA1 (aA1 (aA1 (aA1 aA0 (eLoc 0)) (eLoc 2)) (eInt 6)) (eInt 0))))))
  (sInc 2 1)))))))))
  sReV)
def n_X2_settle : MN := (yX2_settle, cX2_settle, 4, none, 3)
noncomputable def ci_X2_settle : CI := (1, 2, [2, 2], 3, denM 4 [2, 2] false a_X2_settle.1.1)
set_option maxRecDepth 100000 in
theorem m_X2_settle : MetD wC n_X2_settle ci_X2_settle := g_meth false (a_X2_settle) rxC_ok (by decide) rfl rfl rfl (by decide) (by decide) (Or.inr (Or.inr (Or.inr (Or.inr ⟨rfl, rfl⟩)))) (fun h => by cases h) (mkWords (fun _ h => absurd h List.not_mem_nil) (fun _ h => absurd h List.not_mem_nil) (fun _ h => absurd h List.not_mem_nil) (List.forall_mem_cons.mpr ⟨⟨_, _, _, rfl, by decide, Or.inr fw_X2_15⟩, List.forall_mem_cons.mpr ⟨⟨_, _, _, rfl, by decide, Or.inl fw_X2_21⟩, List.forall_mem_cons.mpr ⟨⟨_, _, _, rfl, by decide, Or.inl fw_X2_24⟩, List.forall_mem_cons.mpr ⟨⟨_, _, _, rfl, by decide, Or.inr fw_X2_27⟩, List.forall_mem_cons.mpr ⟨⟨_, _, _, rfl, by decide, Or.inl fw_X2_34⟩, List.forall_mem_cons.mpr ⟨⟨_, _, _, rfl, by decide, Or.inl fw_X2_37⟩, fun _ h => absurd h List.not_mem_nil⟩⟩⟩⟩⟩⟩) (fun _ h => absurd h List.not_mem_nil) (fun _ h => absurd h List.not_mem_nil)) (List.forall_mem_cons.mpr ⟨clS m_X10_at rfl (by decide) (Or.inr lw_X2_30) (kn_X10_at _) (by decide +kernel), List.forall_mem_cons.mpr ⟨clV m_X6_item rfl rfl rfl (by decide) (Or.inl lw_X2_40) (kn_X6_item _) (by decide +kernel), List.forall_mem_cons.mpr ⟨clV m_X2_set rfl rfl rfl (by decide) (Or.inl lw_X2_44) (kn_X2_set _) (by decide +kernel), fun _ h => absurd h List.not_mem_nil⟩⟩⟩) (by decide +kernel)
/-! BlackMill$Roads.shorten(III)V -/
noncomputable def mi_X7_shorten : MI := (cX7_shorten, 5, RX7, [], [], [], [(15, 7, 1)], [], [], [(34, ci_X10_at), (42, ci_X10_put)])
noncomputable def a_X7_shorten : St wC (mi_X7_shorten) 3 :=
  (sSeq (sSeq (sSet 4 (eBin 0 (eCal 34 ci_X10_at rfl (aA1 (aA1 aA0 (eFld 7 1 (eLoc 0))) (eLoc 1))) (eLoc 3)))
  (sIf (oAnd (oCmp .ne (eCal 34 ci_X10_at rfl (aA1 (aA1 aA0 (eFld 7 1 (eLoc 0))) (eLoc 1))) (eInt (-1))) (oOr (oCmp .eq (eCal 34 ci_X10_at rfl (aA1 (aA1 aA0 (eFld 7 1 (eLoc 0))) (eLoc 2))) (eInt (-1))) (oCmp .lt (eLoc 4) (eCal 34 ci_X10_at rfl (aA1 (aA1 aA0 (eFld 7 1 (eLoc 0))) (eLoc 2)))))) (sDo 42 ci_X10_put rfl (aA1 (aA1 (aA1 aA0 (eFld 7 1 (eLoc 0))) (eLoc 2)) (eLoc 4)))))
  sReV)
def n_X7_shorten : MN := (yX7_shorten, cX7_shorten, 5, none, 2)
noncomputable def ci_X7_shorten : CI := (1, 7, [2, 0, 0, 0], 3, denM 5 [2, 0, 0, 0] false a_X7_shorten.1.1)
set_option maxRecDepth 100000 in
theorem m_X7_shorten : MetD wC n_X7_shorten ci_X7_shorten := g_meth false (a_X7_shorten) rxC_ok (by decide) rfl rfl rfl (by decide) (by decide) (Or.inr (Or.inr (Or.inr (Or.inr ⟨rfl, rfl⟩)))) (fun h => by cases h) (mkWords (fun _ h => absurd h List.not_mem_nil) (fun _ h => absurd h List.not_mem_nil) (fun _ h => absurd h List.not_mem_nil) (List.forall_mem_cons.mpr ⟨⟨_, _, _, rfl, by decide, Or.inl fw_X7_15⟩, fun _ h => absurd h List.not_mem_nil⟩) (fun _ h => absurd h List.not_mem_nil) (fun _ h => absurd h List.not_mem_nil)) (List.forall_mem_cons.mpr ⟨clS m_X10_at rfl (by decide) (Or.inr lw_X7_34) (kn_X10_at _) (by decide +kernel), List.forall_mem_cons.mpr ⟨clS m_X10_put rfl (by decide) (Or.inr lw_X7_42) (kn_X10_put _) (by decide +kernel), fun _ h => absurd h List.not_mem_nil⟩⟩) (by decide +kernel)
/-! BlackMill$Roads.build(LBlackMill$MillText;)V -/
noncomputable def mi_X7_build : MI := (cX7_build, 7, RX7, [], [], [], [(11, 7, 0), (15, 7, 1), (18, 6, 5), (24, 7, 2), (27, 6, 2)], [], [], [(30, ci_X10_move), (34, ci_X10_at), (38, ci_X7_shorten)])
noncomputable def a_X7_build : St wC (mi_X7_build) 3 :=
  (sSeq (sSeq (sPutF 7 2 (eLoc 0) (eFld 6 5 (eLoc 1)))
  (sSeq (sDo 30 ci_X10_move rfl (aA1 (aA1 (aA1 (aA1 (aA1 aA0 (eFld 6 2 (eLoc 1))) (eInt 0)) (eFld 7 0 (eLoc 0))) (eInt 0)) (eLen 0 (eFld 7 0 (eLoc 0)))))
  (sSeq (sBlk (sSeq (sSet 2 (eInt 1))
  (sWh (oCmp .lt (eLoc 2) (eLen 0 (eFld 7 1 (eLoc 0)))) (sSeq (sPutA 0 (eFld 7 1 (eLoc 0)) (eLoc 2) (eInt (-1)))
  (sInc 2 1)))))
  (sBlk (sSeq (sSet 2 (eInt 1))
  (sWh (oCmp .lt (eLoc 2) (eInt 6)) (sSeq (sBlk (sSeq (sSet 3 (eInt 0))
  (sWh (oCmp .lt (eLoc 3) (eFld 7 2 (eLoc 0))) (sSeq (sSeq (sSet 4 (eCal 34 ci_X10_at rfl (aA1 (aA1 aA0 (eFld 7 0 (eLoc 0))) (eBin 2 (eLoc 3) (eInt 3)))))
  (sSeq (sSet 5 (eCal 34 ci_X10_at rfl (aA1 (aA1 aA0 (eFld 7 0 (eLoc 0))) (eBin 0 (eBin 2 (eLoc 3) (eInt 3)) (eInt 1)))))
  (sSeq (sSet 6 (eCal 34 ci_X10_at rfl (aA1 (aA1 aA0 (eFld 7 0 (eLoc 0))) (eBin 0 (eBin 2 (eLoc 3) (eInt 3)) (eInt 2)))))
  (sSeq (sDo 38 ci_X7_shorten rfl (aA1 (aA1 (aA1 (aA1 aA0 (eLoc 0)) (eLoc 4)) (eLoc 5)) (eLoc 6)))
  (sDo 38 ci_X7_shorten rfl (aA1 (aA1 (aA1 (aA1 aA0 (eLoc 0)) (eLoc 5)) (eLoc 4)) (eLoc 6)))))))
  (sInc 3 1)))))
  (sInc 2 1))))))))
  sReV)
def n_X7_build : MN := (yX7_build, cX7_build, 7, none, 3)
noncomputable def ci_X7_build : CI := (1, 7, [2, 2], 3, denM 7 [2, 2] false a_X7_build.1.1)
set_option maxRecDepth 100000 in
theorem m_X7_build : MetD wC n_X7_build ci_X7_build := g_meth false (a_X7_build) rxC_ok (by decide) rfl rfl rfl (by decide) (by decide) (Or.inr (Or.inr (Or.inr (Or.inr ⟨rfl, rfl⟩)))) (fun h => by cases h) (mkWords (fun _ h => absurd h List.not_mem_nil) (fun _ h => absurd h List.not_mem_nil) (fun _ h => absurd h List.not_mem_nil) (List.forall_mem_cons.mpr ⟨⟨_, _, _, rfl, by decide, Or.inl fw_X7_11⟩, List.forall_mem_cons.mpr ⟨⟨_, _, _, rfl, by decide, Or.inl fw_X7_15⟩, List.forall_mem_cons.mpr ⟨⟨_, _, _, rfl, by decide, Or.inr fw_X7_18⟩, List.forall_mem_cons.mpr ⟨⟨_, _, _, rfl, by decide, Or.inl fw_X7_24⟩, List.forall_mem_cons.mpr ⟨⟨_, _, _, rfl, by decide, Or.inr fw_X7_27⟩, fun _ h => absurd h List.not_mem_nil⟩⟩⟩⟩⟩) (fun _ h => absurd h List.not_mem_nil) (fun _ h => absurd h List.not_mem_nil)) (List.forall_mem_cons.mpr ⟨clS m_X10_move rfl (by decide) (Or.inr lw_X7_30) (kn_X10_move _) (by decide +kernel), List.forall_mem_cons.mpr ⟨clS m_X10_at rfl (by decide) (Or.inr lw_X7_34) (kn_X10_at _) (by decide +kernel), List.forall_mem_cons.mpr ⟨clV m_X7_shorten rfl rfl rfl (by decide) (Or.inl lw_X7_38) (kn_X7_shorten _) (by decide +kernel), fun _ h => absurd h List.not_mem_nil⟩⟩⟩) (by decide +kernel)
/-! BlackMill$Clues.forget()V -/
noncomputable def mi_X1_forget : MI := (cX1_forget, 1, RX1, [], [], [], [(28, 1, 5), (32, 1, 6)], [], [], [])
noncomputable def a_X1_forget : St wC (mi_X1_forget) 3 :=
  (sSeq (sSeq (sPutF 1 5 (eLoc 0) (eInt 0))
  (sPutF 1 6 (eLoc 0) (eInt 0)))
  sReV)
def n_X1_forget : MN := (yX1_forget, cX1_forget, 1, none, 1)
noncomputable def ci_X1_forget : CI := (1, 1, [2], 3, denM 1 [2] false a_X1_forget.1.1)
set_option maxRecDepth 100000 in
theorem m_X1_forget : MetD wC n_X1_forget ci_X1_forget := g_meth false (a_X1_forget) rxC_ok (by decide) rfl rfl rfl (by decide) (by decide) (Or.inr (Or.inr (Or.inr (Or.inr ⟨rfl, rfl⟩)))) (fun h => by cases h) (mkWords (fun _ h => absurd h List.not_mem_nil) (fun _ h => absurd h List.not_mem_nil) (fun _ h => absurd h List.not_mem_nil) (List.forall_mem_cons.mpr ⟨⟨_, _, _, rfl, by decide, Or.inl fw_X1_28⟩, List.forall_mem_cons.mpr ⟨⟨_, _, _, rfl, by decide, Or.inl fw_X1_32⟩, fun _ h => absurd h List.not_mem_nil⟩⟩) (fun _ h => absurd h List.not_mem_nil) (fun _ h => absurd h List.not_mem_nil)) (fun _ h => absurd h List.not_mem_nil) (by decide +kernel)
/-! BlackMill$Acts.forget()V -/
noncomputable def mi_X0_forget : MI := (cX0_forget, 1, RX0, [], [], [], [(18, 0, 3)], [], [], [])
noncomputable def a_X0_forget : St wC (mi_X0_forget) 3 :=
  (sSeq (sPutF 0 3 (eLoc 0) (eInt 0))
  sReV)
def n_X0_forget : MN := (yX0_forget, cX0_forget, 1, none, 1)
noncomputable def ci_X0_forget : CI := (1, 0, [2], 3, denM 1 [2] false a_X0_forget.1.1)
set_option maxRecDepth 100000 in
theorem m_X0_forget : MetD wC n_X0_forget ci_X0_forget := g_meth false (a_X0_forget) rxC_ok (by decide) rfl rfl rfl (by decide) (by decide) (Or.inr (Or.inr (Or.inr (Or.inr ⟨rfl, rfl⟩)))) (fun h => by cases h) (mkWords (fun _ h => absurd h List.not_mem_nil) (fun _ h => absurd h List.not_mem_nil) (fun _ h => absurd h List.not_mem_nil) (List.forall_mem_cons.mpr ⟨⟨_, _, _, rfl, by decide, Or.inl fw_X0_18⟩, fun _ h => absurd h List.not_mem_nil⟩) (fun _ h => absurd h List.not_mem_nil) (fun _ h => absurd h List.not_mem_nil)) (fun _ h => absurd h List.not_mem_nil) (by decide +kernel)
/-! BlackMill.found()V -/
noncomputable def mi_X10_found : MI := (cX10_found, 2, RX10, [], [], [], [(19, 10, 1), (37, 10, 4), (44, 10, 5), (67, 10, 10), (81, 10, 12), (88, 10, 13), (132, 6, 0), (147, 10, 16)], [], [], [(133, ci_X10_at), (136, ci_X2_settle), (140, ci_X7_build), (143, ci_X1_forget), (146, ci_X0_forget)])
noncomputable def a_X10_found : St wC (mi_X10_found) 3 :=
  (sSeq (sSeq (sBlk (sSeq (sSet 1 (eInt 0))
  (sWh (oCmp .lt (eLoc 1) (eLen 0 (eFld 10 4 (eLoc 0)))) (sSeq (sPutA 0 (eFld 10 4 (eLoc 0)) (eLoc 1) (eCal 133 ci_X10_at rfl (aA1 (aA1 aA0 (eFld 6 0 (eFld 10 1 (eLoc 0)))) (eLoc 1))))
  (sInc 1 1)))))
  (sSeq (sDo 136 ci_X2_settle rfl (aA1 (aA1 aA0 (eFld 10 5 (eLoc 0))) (eFld 10 1 (eLoc 0))))
  (sSeq (sDo 140 ci_X7_build rfl (aA1 (aA1 aA0 (eFld 10 12 (eLoc 0))) (eFld 10 1 (eLoc 0))))
  (sSeq (sDo 143 ci_X1_forget rfl (aA1 aA0 (eFld 10 13 (eLoc 0))))
  (sSeq (sDo 146 ci_X0_forget rfl (aA1 aA0 (eFld 10 10 (eLoc 0))))
  (sPutF 10 16 (eLoc 0) (eInt 0)))))))
  sReV)
def n_X10_found : MN := (yX10_found, cX10_found, 2, none, 4)
noncomputable def ci_X10_found : CI := (1, 10, [2], 3, denM 2 [2] false a_X10_found.1.1)
set_option maxRecDepth 100000 in
theorem m_X10_found : MetD wC n_X10_found ci_X10_found := g_meth false (a_X10_found) rxC_ok (by decide) rfl rfl rfl (by decide) (by decide) (Or.inr (Or.inr (Or.inr (Or.inr ⟨rfl, rfl⟩)))) (fun h => by cases h) (mkWords (fun _ h => absurd h List.not_mem_nil) (fun _ h => absurd h List.not_mem_nil) (fun _ h => absurd h List.not_mem_nil) (List.forall_mem_cons.mpr ⟨⟨_, _, _, rfl, by decide, Or.inl fw_X10_19⟩, List.forall_mem_cons.mpr ⟨⟨_, _, _, rfl, by decide, Or.inl fw_X10_37⟩, List.forall_mem_cons.mpr ⟨⟨_, _, _, rfl, by decide, Or.inl fw_X10_44⟩, List.forall_mem_cons.mpr ⟨⟨_, _, _, rfl, by decide, Or.inl fw_X10_67⟩, List.forall_mem_cons.mpr ⟨⟨_, _, _, rfl, by decide, Or.inl fw_X10_81⟩, List.forall_mem_cons.mpr ⟨⟨_, _, _, rfl, by decide, Or.inl fw_X10_88⟩, List.forall_mem_cons.mpr ⟨⟨_, _, _, rfl, by decide, Or.inr fw_X10_132⟩, List.forall_mem_cons.mpr ⟨⟨_, _, _, rfl, by decide, Or.inl fw_X10_147⟩, fun _ h => absurd h List.not_mem_nil⟩⟩⟩⟩⟩⟩⟩⟩) (fun _ h => absurd h List.not_mem_nil) (fun _ h => absurd h List.not_mem_nil)) (List.forall_mem_cons.mpr ⟨clS m_X10_at rfl (by decide) (Or.inl lw_X10_133) (kn_X10_at _) (by decide +kernel), List.forall_mem_cons.mpr ⟨clV m_X2_settle rfl rfl rfl (by decide) (Or.inl lw_X10_136) (kn_X2_settle _) (by decide +kernel), List.forall_mem_cons.mpr ⟨clV m_X7_build rfl rfl rfl (by decide) (Or.inl lw_X10_140) (kn_X7_build _) (by decide +kernel), List.forall_mem_cons.mpr ⟨clV m_X1_forget rfl rfl rfl (by decide) (Or.inl lw_X10_143) (kn_X1_forget _) (by decide +kernel), List.forall_mem_cons.mpr ⟨clV m_X0_forget rfl rfl rfl (by decide) (Or.inl lw_X10_146) (kn_X0_forget _) (by decide +kernel), fun _ h => absurd h List.not_mem_nil⟩⟩⟩⟩⟩) (by decide +kernel)
/-! BlackMill$Laws.add([II)I -/
noncomputable def mi_X4_add : MI := (cX4_add, 4, RX4, [], [], [], [(11, 4, 0), (15, 4, 1), (28, 4, 5)], [], [], [(31, ci_X10_move), (35, ci_X10_put)])
noncomputable def a_X4_add : St wC (mi_X4_add) 0 :=
  (sSeq (sSet 3 (eFld 4 5 (eLoc 0)))
  (sSeq (sDo 31 ci_X10_move rfl (aA1 (aA1 (aA1 (aA1 (aA1 aA0 (eLoc 1)) (eInt 0)) (eFld 4 0 (eLoc 0))) (eBin 2 (eLoc 3) (eInt 240))) (eLoc 2)))
  (sSeq (sDo 35 ci_X10_put rfl (aA1 (aA1 (aA1 aA0 (eFld 4 1 (eLoc 0))) (eLoc 3)) (eLoc 2)))
  (sSeq (sUpdF 0 4 5 (eLoc 0) (eInt 1))
  (sRet (eLoc 3))))))
def n_X4_add : MN := (yX4_add, cX4_add, 4, (some .int), 2)
noncomputable def ci_X4_add : CI := (1, 4, [2, 2, 0], 0, denM 4 [2, 2, 0] false a_X4_add.1.1)
set_option maxRecDepth 100000 in
theorem m_X4_add : MetD wC n_X4_add ci_X4_add := g_meth false (a_X4_add) rxC_ok (by decide) rfl rfl rfl (by decide) (by decide) (Or.inl ⟨rfl, rfl⟩) (fun h => by cases h) (mkWords (fun _ h => absurd h List.not_mem_nil) (fun _ h => absurd h List.not_mem_nil) (fun _ h => absurd h List.not_mem_nil) (List.forall_mem_cons.mpr ⟨⟨_, _, _, rfl, by decide, Or.inl fw_X4_11⟩, List.forall_mem_cons.mpr ⟨⟨_, _, _, rfl, by decide, Or.inl fw_X4_15⟩, List.forall_mem_cons.mpr ⟨⟨_, _, _, rfl, by decide, Or.inl fw_X4_28⟩, fun _ h => absurd h List.not_mem_nil⟩⟩⟩) (fun _ h => absurd h List.not_mem_nil) (fun _ h => absurd h List.not_mem_nil)) (List.forall_mem_cons.mpr ⟨clS m_X10_move rfl (by decide) (Or.inr lw_X4_31) (kn_X10_move _) (by decide +kernel), List.forall_mem_cons.mpr ⟨clS m_X10_put rfl (by decide) (Or.inr lw_X4_35) (kn_X10_put _) (by decide +kernel), fun _ h => absurd h List.not_mem_nil⟩⟩) (by decide +kernel)
