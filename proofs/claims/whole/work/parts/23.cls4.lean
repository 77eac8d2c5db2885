/-! methods of cls, 4 -/
/-! BlackMill$Clues.diggers(LBlackMill$House;)I -/
noncomputable def mi_X1_diggers : MI := (cX1_diggers, 4, RX1, [], [], [], [(56, 2, 1)], [], [], [(61, ci_X1_couldDig)])
noncomputable def a_X1_diggers : St wC (mi_X1_diggers) 0 :=
  (sSeq (sSet 2 (eInt 0))
  (sSeq (sBlk (sSeq (sSet 3 (eInt 0))
  (sWh (oCmp .lt (eLoc 3) (eFld 2 1 (eLoc 1))) (sSeq (sIf (oCm0 .ne (eCal 61 ci_X1_couldDig rfl (aA1 (aA1 (aA1 aA0 (eLoc 0)) (eLoc 1)) (eLoc 3)))) (sSet 2 (eBin 4 (eLoc 2) (eBin 6 (eInt 1) (eLoc 3)))))
  (sInc 3 1)))))
  (sRet (eLoc 2))))
def n_X1_diggers : MN := (yX1_diggers, cX1_diggers, 4, (some .int), 3)
noncomputable def ci_X1_diggers : CI := (1, 1, [2, 2], 0, denM 4 [2, 2] false a_X1_diggers.1.1)
set_option maxRecDepth 100000 in
theorem m_X1_diggers : MetD wC n_X1_diggers ci_X1_diggers := g_meth false (a_X1_diggers) rxC_ok (by decide) rfl rfl rfl (by decide) (by decide) (Or.inl ⟨rfl, rfl⟩) (fun h => by cases h) (mkWords (fun _ h => absurd h List.not_mem_nil) (fun _ h => absurd h List.not_mem_nil) (fun _ h => absurd h List.not_mem_nil) (List.forall_mem_cons.mpr ⟨⟨_, _, _, rfl, by decide, Or.inr fw_X1_56⟩, fun _ h => absurd h List.not_mem_nil⟩) (fun _ h => absurd h List.not_mem_nil) (fun _ h => absurd h List.not_mem_nil)) (List.forall_mem_cons.mpr ⟨clV m_X1_couldDig rfl rfl rfl (by decide) (Or.inl lw_X1_61) (kn_X1_couldDig _) (by decide +kernel), fun _ h => absurd h List.not_mem_nil⟩) (by decide +kernel)
/-! BlackMill.dug()I -/
noncomputable def mi_X10_dug : MI := (cX10_dug, 1, RX10, [], [], [], [(44, 10, 5), (88, 10, 13)], [], [], [(151, ci_X10_isTold), (332, ci_X1_diggers)])
noncomputable def a_X10_dug : St wC (mi_X10_dug) 0 :=
  (sRet (eCon (oCm0 .ne (eCal 151 ci_X10_isTold rfl (aA1 aA0 (eLoc 0)))) (eCal 332 ci_X1_diggers rfl (aA1 (aA1 aA0 (eFld 10 13 (eLoc 0))) (eFld 10 5 (eLoc 0)))) (eInt (-1))))
def n_X10_dug : MN := (yX10_dug, cX10_dug, 1, (some .int), 4)
noncomputable def ci_X10_dug : CI := (1, 10, [2], 0, denM 1 [2] false a_X10_dug.1.1)
set_option maxRecDepth 100000 in
theorem m_X10_dug : MetD wC n_X10_dug ci_X10_dug := g_meth false (a_X10_dug) rxC_ok (by decide) rfl rfl rfl (by decide) (by decide) (Or.inl ⟨rfl, rfl⟩) (fun h => by cases h) (mkWords (fun _ h => absurd h List.not_mem_nil) (fun _ h => absurd h List.not_mem_nil) (fun _ h => absurd h List.not_mem_nil) (List.forall_mem_cons.mpr ⟨⟨_, _, _, rfl, by decide, Or.inl fw_X10_44⟩, List.forall_mem_cons.mpr ⟨⟨_, _, _, rfl, by decide, Or.inl fw_X10_88⟩, fun _ h => absurd h List.not_mem_nil⟩⟩) (fun _ h => absurd h List.not_mem_nil) (fun _ h => absurd h List.not_mem_nil)) (List.forall_mem_cons.mpr ⟨clV m_X10_isTold rfl rfl rfl (by decide) (Or.inl lw_X10_151) (kn_X10_isTold _) (by decide +kernel), List.forall_mem_cons.mpr ⟨clV m_X1_diggers rfl rfl rfl (by decide) (Or.inl lw_X10_332) (kn_X1_diggers _) (by decide +kernel), fun _ h => absurd h List.not_mem_nil⟩⟩) (by decide +kernel)
/-! BlackMill$Roads.hoursTo(I)I -/
noncomputable def mi_X7_hoursTo : MI := (cX7_hoursTo, 2, RX7, [], [], [], [(15, 7, 1)], [], [], [])
noncomputable def a_X7_hoursTo : St wC (mi_X7_hoursTo) 0 :=
  (sRet (eCon (oAnd (oCm0 .ge (eLoc 1)) (oCmp .lt (eLoc 1) (eLen 0 (eFld 7 1 (eLoc 0))))) (eAr 0 (eFld 7 1 (eLoc 0)) (eLoc 1)) (eInt (-1))))
def n_X7_hoursTo : MN := (yX7_hoursTo, cX7_hoursTo, 2, (some .int), 1)
noncomputable def ci_X7_hoursTo : CI := (1, 7, [2, 0], 0, denM 2 [2, 0] false a_X7_hoursTo.1.1)
set_option maxRecDepth 100000 in
theorem m_X7_hoursTo : MetD wC n_X7_hoursTo ci_X7_hoursTo := g_meth false (a_X7_hoursTo) rxC_ok (by decide) rfl rfl rfl (by decide) (by decide) (Or.inl ⟨rfl, rfl⟩) (fun h => by cases h) (mkWords (fun _ h => absurd h List.not_mem_nil) (fun _ h => absurd h List.not_mem_nil) (fun _ h => absurd h List.not_mem_nil) (List.forall_mem_cons.mpr ⟨⟨_, _, _, rfl, by decide, Or.inl fw_X7_15⟩, fun _ h => absurd h List.not_mem_nil⟩) (fun _ h => absurd h List.not_mem_nil) (fun _ h => absurd h List.not_mem_nil)) (fun _ h => absurd h List.not_mem_nil) (by decide +kernel)
/-! BlackMill.flight(I)I -/
noncomputable def mi_X10_flight : MI := (cX10_flight, 2, RX10, [], [], [], [(81, 10, 12)], [], [], [(151, ci_X10_isTold), (336, ci_X7_hoursTo)])
noncomputable def a_X10_flight : St wC (mi_X10_flight) 0 :=
  (sRet (eCon (oCm0 .ne (eCal 151 ci_X10_isTold rfl (aA1 aA0 (eLoc 0)))) (eCal 336 ci_X7_hoursTo rfl (aA1 (aA1 aA0 (eFld 10 12 (eLoc 0))) (eLoc 1))) (eInt (-1))))
def n_X10_flight : MN := (yX10_flight, cX10_flight, 2, (some .int), 2)
noncomputable def ci_X10_flight : CI := (1, 10, [2, 0], 0, denM 2 [2, 0] false a_X10_flight.1.1)
set_option maxRecDepth 100000 in
theorem m_X10_flight : MetD wC n_X10_flight ci_X10_flight := g_meth false (a_X10_flight) rxC_ok (by decide) rfl rfl rfl (by decide) (by decide) (Or.inl ⟨rfl, rfl⟩) (fun h => by cases h) (mkWords (fun _ h => absurd h List.not_mem_nil) (fun _ h => absurd h List.not_mem_nil) (fun _ h => absurd h List.not_mem_nil) (List.forall_mem_cons.mpr ⟨⟨_, _, _, rfl, by decide, Or.inl fw_X10_81⟩, fun _ h => absurd h List.not_mem_nil⟩) (fun _ h => absurd h List.not_mem_nil) (fun _ h => absurd h List.not_mem_nil)) (List.forall_mem_cons.mpr ⟨clV m_X10_isTold rfl rfl rfl (by decide) (Or.inl lw_X10_151) (kn_X10_isTold _) (by decide +kernel), List.forall_mem_cons.mpr ⟨clV m_X7_hoursTo rfl rfl rfl (by decide) (Or.inl lw_X10_336) (kn_X7_hoursTo _) (by decide +kernel), fun _ h => absurd h List.not_mem_nil⟩⟩) (by decide +kernel)
/-! BlackMill.reach()I -/
noncomputable def mi_X10_reach : MI := (cX10_reach, 4, RX10, [], [], [], [(37, 10, 4), (81, 10, 12)], [], [], [(133, ci_X10_at), (151, ci_X10_isTold), (336, ci_X7_hoursTo)])
noncomputable def a_X10_reach : St wC (mi_X10_reach) 0 :=
  (sSeq (sIf (oNot (oCm0 .ne (eCal 151 ci_X10_isTold rfl (aA1 aA0 (eLoc 0))))) (sRet (eInt (-1))))
  (sSeq (sSet 1 (eInt 0))
  (sSeq (sBlk (sSeq (sSet 2 (eInt 0))
  (sWh (oCmp .lt (eLoc 2) (eInt 6)) (sSeq (sSeq (sSet 3 (eCal 336 ci_X7_hoursTo rfl (aA1 (aA1 aA0 (eFld 10 12 (eLoc 0))) (eLoc 2))))
  (sIf (oAnd (oCmp .ne (eLoc 3) (eInt (-1))) (oCmp .le (eBin 2 (eInt 2) (eLoc 3)) (eCal 133 ci_X10_at rfl (aA1 (aA1 aA0 (eFld 10 4 (eLoc 0))) (eInt 2))))) (sSet 1 (eBin 4 (eLoc 1) (eBin 6 (eInt 1) (eLoc 2))))))
  (sInc 2 1)))))
  (sRet (eLoc 1)))))
def n_X10_reach : MN := (yX10_reach, cX10_reach, 4, (some .int), 2)
noncomputable def ci_X10_reach : CI := (1, 10, [2], 0, denM 4 [2] false a_X10_reach.1.1)
set_option maxRecDepth 100000 in
theorem m_X10_reach : MetD wC n_X10_reach ci_X10_reach := g_meth false (a_X10_reach) rxC_ok (by decide) rfl rfl rfl (by decide) (by decide) (Or.inl ⟨rfl, rfl⟩) (fun h => by cases h) (mkWords (fun _ h => absurd h List.not_mem_nil) (fun _ h => absurd h List.not_mem_nil) (fun _ h => absurd h List.not_mem_nil) (List.forall_mem_cons.mpr ⟨⟨_, _, _, rfl, by decide, Or.inl fw_X10_37⟩, List.forall_mem_cons.mpr ⟨⟨_, _, _, rfl, by decide, Or.inl fw_X10_81⟩, fun _ h => absurd h List.not_mem_nil⟩⟩) (fun _ h => absurd h List.not_mem_nil) (fun _ h => absurd h List.not_mem_nil)) (List.forall_mem_cons.mpr ⟨clS m_X10_at rfl (by decide) (Or.inl lw_X10_133) (kn_X10_at _) (by decide +kernel), List.forall_mem_cons.mpr ⟨clV m_X10_isTold rfl rfl rfl (by decide) (Or.inl lw_X10_151) (kn_X10_isTold _) (by decide +kernel), List.forall_mem_cons.mpr ⟨clV m_X7_hoursTo rfl rfl rfl (by decide) (Or.inl lw_X10_336) (kn_X7_hoursTo _) (by decide +kernel), fun _ h => absurd h List.not_mem_nil⟩⟩⟩) (by decide +kernel)
/-! BlackMill$House.fewestWith(I)I -/
noncomputable def mi_X2_fewestWith : MI := (cX2_fewestWith, 6, RX2, [], [], [], [(21, 2, 1)], [], [], [(66, ci_X2_living), (70, ci_J6_bitCount_0f7a4C), (76, ci_X2_artOf)])
noncomputable def a_X2_fewestWith : St wC (mi_X2_fewestWith) 0 :=
  (sSeq (sSet 2 (eCal 66 ci_X2_living rfl (aA1 aA0 (eLoc 0))))
  (sSeq (sSet 3 (eInt (-1)))
  (sSeq (sBlk (sSeq (sSet 4 (eInt 1))
  (sWh (oCmp .lt (eLoc 4) (eBin 6 (eInt 1) (eFld 2 1 (eLoc 0)))) (sSeq (sSeq (sSet 5 (eBo (oOr (oCmp .eq (eLoc 3) (eInt (-1))) (oCmp .lt (eCal 70 ci_J6_bitCount_0f7a4C rfl (aA1 aA0 (eLoc 4))) (eCal 70 ci_J6_bitCount_0f7a4C rfl (aA1 aA0 (eLoc 3)))))))
  (sIf (oAnd (oAnd (oCm0 .ne (eLoc 5)) (oCm0 .eq (eBin 3 (eLoc 4) (eBin 5 (eLoc 2) (eInt (-1)))))) (oCmp .ge (eCal 76 ci_X2_artOf rfl (aA1 (aA1 aA0 (eLoc 0)) (eLoc 4))) (eLoc 1))) (sSet 3 (eLoc 4))))
  (sInc 4 1)))))
  (sRet (eLoc 3)))))
def n_X2_fewestWith : MN := (yX2_fewestWith, cX2_fewestWith, 6, (some .int), 4)
noncomputable def ci_X2_fewestWith : CI := (1, 2, [2, 0], 0, denM 6 [2, 0] false a_X2_fewestWith.1.1)
set_option maxRecDepth 100000 in
theorem m_X2_fewestWith : MetD wC n_X2_fewestWith ci_X2_fewestWith := g_meth false (a_X2_fewestWith) rxC_ok (by decide) rfl rfl rfl (by decide) (by decide) (Or.inl ⟨rfl, rfl⟩) (fun h => by cases h) (mkWords (fun _ h => absurd h List.not_mem_nil) (fun _ h => absurd h List.not_mem_nil) (fun _ h => absurd h List.not_mem_nil) (List.forall_mem_cons.mpr ⟨⟨_, _, _, rfl, by decide, Or.inl fw_X2_21⟩, fun _ h => absurd h List.not_mem_nil⟩) (fun _ h => absurd h List.not_mem_nil) (fun _ h => absurd h List.not_mem_nil)) (List.forall_mem_cons.mpr ⟨clV m_X2_living rfl rfl rfl (by decide) (Or.inl lw_X2_66) (kn_X2_living _) (by decide +kernel), List.forall_mem_cons.mpr ⟨clS m_J6_bitCount_0f7a4C rfl (by decide) (Or.inl lw_X2_70) (kn_J6_bitCount_0f7a4 _) (by decide +kernel), List.forall_mem_cons.mpr ⟨clV m_X2_artOf rfl rfl rfl (by decide) (Or.inl lw_X2_76) (kn_X2_artOf _) (by decide +kernel), fun _ h => absurd h List.not_mem_nil⟩⟩⟩) (by decide +kernel)
/-! BlackMill.dare()I -/
noncomputable def mi_X10_dare : MI := (cX10_dare, 1, RX10, [], [], [], [(37, 10, 4), (44, 10, 5)], [], [], [(133, ci_X10_at), (151, ci_X10_isTold), (339, ci_X2_fewestWith)])
noncomputable def a_X10_dare : St wC (mi_X10_dare) 0 :=
  (sRet (eCon (oCm0 .ne (eCal 151 ci_X10_isTold rfl (aA1 aA0 (eLoc 0)))) (eCal 339 ci_X2_fewestWith rfl (aA1 (aA1 aA0 (eFld 10 5 (eLoc 0))) (eCal 133 ci_X10_at rfl (aA1 (aA1 aA0 (eFld 10 4 (eLoc 0))) (eInt 0))))) (eInt (-1))))
def n_X10_dare : MN := (yX10_dare, cX10_dare, 1, (some .int), 5)
noncomputable def ci_X10_dare : CI := (1, 10, [2], 0, denM 1 [2] false a_X10_dare.1.1)
set_option maxRecDepth 100000 in
theorem m_X10_dare : MetD wC n_X10_dare ci_X10_dare := g_meth false (a_X10_dare) rxC_ok (by decide) rfl rfl rfl (by decide) (by decide) (Or.inl ⟨rfl, rfl⟩) (fun h => by cases h) (mkWords (fun _ h => absurd h List.not_mem_nil) (fun _ h => absurd h List.not_mem_nil) (fun _ h => absurd h List.not_mem_nil) (List.forall_mem_cons.mpr ⟨⟨_, _, _, rfl, by decide, Or.inl fw_X10_37⟩, List.forall_mem_cons.mpr ⟨⟨_, _, _, rfl, by decide, Or.inl fw_X10_44⟩, fun _ h => absurd h List.not_mem_nil⟩⟩) (fun _ h => absurd h List.not_mem_nil) (fun _ h => absurd h List.not_mem_nil)) (List.forall_mem_cons.mpr ⟨clS m_X10_at rfl (by decide) (Or.inl lw_X10_133) (kn_X10_at _) (by decide +kernel), List.forall_mem_cons.mpr ⟨clV m_X10_isTold rfl rfl rfl (by decide) (Or.inl lw_X10_151) (kn_X10_isTold _) (by decide +kernel), List.forall_mem_cons.mpr ⟨clV m_X2_fewestWith rfl rfl rfl (by decide) (Or.inl lw_X10_339) (kn_X2_fewestWith _) (by decide +kernel), fun _ h => absurd h List.not_mem_nil⟩⟩⟩) (by decide +kernel)
/-! BlackMill$House.turningOrders(II)I -/
noncomputable def mi_X2_turningOrders : MI := (cX2_turningOrders, 9, RX2, [], [], [], [(21, 2, 1)], [(113, 61)], [], [(30, ci_X10_at), (60, ci_X2_get), (66, ci_X2_living), (70, ci_J6_bitCount_0f7a4C), (76, ci_X2_artOf)])
noncomputable def a_X2_turningOrders : St wC (mi_X2_turningOrders) 0 :=
  (sSeq (sSet 3 (eBin 3 (eCal 66 ci_X2_living rfl (aA1 aA0 (eLoc 0))) (eBin 5 (eBin 6 (eInt 1) (eLoc 1)) (eInt (-1)))))
  (sSeq (sSet 4 (eCal 70 ci_J6_bitCount_0f7a4C rfl (aA1 aA0 (eLoc 3))))
  (sSeq (sSet 5 (eInt 0))
  (sSeq (sBlk (sSeq (sSet 6 (eInt 0))
  (sWh (oCmp .lt (eLoc 6) (eBin 6 (eInt 1) (eFld 2 1 (eLoc 0)))) (sSeq (sSeq (sSet 7 (eCal 76 ci_X2_artOf rfl (aA1 (aA1 aA0 (eLoc 0)) (eLoc 6))))
  (sIf (oAnd (oAnd (oCm0 .eq (eBin 3 (eLoc 6) (eBin 5 (eLoc 3) (eInt (-1))))) (oCmp .lt (eLoc 7) (eLoc 2))) (oCmp .ge (eBin 0 (eLoc 7) (eCal 60 ci_X2_get rfl (aA1 (aA1 (aA1 aA0 (eLoc 0)) (eLoc 1)) (eInt 0)))) (eLoc 2))) (sSeq (sSet 8 (eCal 70 ci_J6_bitCount_0f7a4C rfl (aA1 aA0 (eLoc 6))))
  (sSet 5 (eBin 0 (eLoc 5) (eBin 2 (eCal 30 ci_X10_at rfl (aA1 (aA1 aA0 (eSta 61)) (eLoc 8))) (eCal 30 ci_X10_at rfl (aA1 (aA1 aA0 (eSta 61)) (eBin 1 (eLoc 4) (eLoc 8))))))))))
  (sInc 6 1)))))
  (sRet (eLoc 5))))))
def n_X2_turningOrders : MN := (yX2_turningOrders, cX2_turningOrders, 9, (some .int), 4)
noncomputable def ci_X2_turningOrders : CI := (1, 2, [2, 0, 0], 0, denM 9 [2, 0, 0] false a_X2_turningOrders.1.1)
set_option maxRecDepth 100000 in
theorem m_X2_turningOrders : MetD wC n_X2_turningOrders ci_X2_turningOrders := g_meth false (a_X2_turningOrders) rxC_ok (by decide) rfl rfl rfl (by decide) (by decide) (Or.inl ⟨rfl, rfl⟩) (fun h => by cases h) (mkWords (fun _ h => absurd h List.not_mem_nil) (fun _ h => absurd h List.not_mem_nil) (fun _ h => absurd h List.not_mem_nil) (List.forall_mem_cons.mpr ⟨⟨_, _, _, rfl, by decide, Or.inl fw_X2_21⟩, fun _ h => absurd h List.not_mem_nil⟩) (List.forall_mem_cons.mpr ⟨⟨_, List.mem_of_getElem? (i := 9) rfl, rfl, sw_X2_113⟩, fun _ h => absurd h List.not_mem_nil⟩) (fun _ h => absurd h List.not_mem_nil)) (List.forall_mem_cons.mpr ⟨clS m_X10_at rfl (by decide) (Or.inr lw_X2_30) (kn_X10_at _) (by decide +kernel), List.forall_mem_cons.mpr ⟨clV m_X2_get rfl rfl rfl (by decide) (Or.inl lw_X2_60) (kn_X2_get _) (by decide +kernel), List.forall_mem_cons.mpr ⟨clV m_X2_living rfl rfl rfl (by decide) (Or.inl lw_X2_66) (kn_X2_living _) (by decide +kernel), List.forall_mem_cons.mpr ⟨clS m_J6_bitCount_0f7a4C rfl (by decide) (Or.inl lw_X2_70) (kn_J6_bitCount_0f7a4 _) (by decide +kernel), List.forall_mem_cons.mpr ⟨clV m_X2_artOf rfl rfl rfl (by decide) (Or.inl lw_X2_76) (kn_X2_artOf _) (by decide +kernel), fun _ h => absurd h List.not_mem_nil⟩⟩⟩⟩⟩) (by decide +kernel)
/-! BlackMill.shares(I)I -/
noncomputable def mi_X10_shares : MI := (cX10_shares, 2, RX10, [(186, -1000000)], [], [], [(37, 10, 4), (44, 10, 5)], [], [], [(133, ci_X10_at), (183, ci_X2_lives), (198, ci_X2_manyLive), (342, ci_X2_turningOrders)])
noncomputable def a_X10_shares : St wC (mi_X10_shares) 0 :=
  (sSeq (sIf (oOr (oNot (oCm0 .ne (eCal 183 ci_X2_lives rfl (aA1 (aA1 aA0 (eFld 10 5 (eLoc 0))) (eLoc 1))))) (oCmp .gt (eCal 198 ci_X2_manyLive rfl (aA1 aA0 (eFld 10 5 (eLoc 0)))) (eInt 5))) (sRet (eInt (-1000000))))
  (sRet (eCal 342 ci_X2_turningOrders rfl (aA1 (aA1 (aA1 aA0 (eFld 10 5 (eLoc 0))) (eLoc 1)) (eCal 133 ci_X10_at rfl (aA1 (aA1 aA0 (eFld 10 4 (eLoc 0))) (eInt 0)))))))
def n_X10_shares : MN := (yX10_shares, cX10_shares, 2, (some .int), 5)
noncomputable def ci_X10_shares : CI := (1, 10, [2, 0], 0, denM 2 [2, 0] false a_X10_shares.1.1)
set_option maxRecDepth 100000 in
theorem m_X10_shares : MetD wC n_X10_shares ci_X10_shares := g_meth false (a_X10_shares) rxC_ok (by decide) rfl rfl rfl (by decide) (by decide) (Or.inl ⟨rfl, rfl⟩) (fun h => by cases h) (mkWords (List.forall_mem_cons.mpr ⟨cw_X10_186, fun _ h => absurd h List.not_mem_nil⟩) (fun _ h => absurd h List.not_mem_nil) (fun _ h => absurd h List.not_mem_nil) (List.forall_mem_cons.mpr ⟨⟨_, _, _, rfl, by decide, Or.inl fw_X10_37⟩, List.forall_mem_cons.mpr ⟨⟨_, _, _, rfl, by decide, Or.inl fw_X10_44⟩, fun _ h => absurd h List.not_mem_nil⟩⟩) (fun _ h => absurd h List.not_mem_nil) (fun _ h => absurd h List.not_mem_nil)) (List.forall_mem_cons.mpr ⟨clS m_X10_at rfl (by decide) (Or.inl lw_X10_133) (kn_X10_at _) (by decide +kernel), List.forall_mem_cons.mpr ⟨clV m_X2_lives rfl rfl rfl (by decide) (Or.inl lw_X10_183) (kn_X2_lives _) (by decide +kernel), List.forall_mem_cons.mpr ⟨clV m_X2_manyLive rfl rfl rfl (by decide) (Or.inl lw_X10_198) (kn_X2_manyLive _) (by decide +kernel), List.forall_mem_cons.mpr ⟨clV m_X2_turningOrders rfl rfl rfl (by decide) (Or.inl lw_X10_342) (kn_X2_turningOrders _) (by decide +kernel), fun _ h => absurd h List.not_mem_nil⟩⟩⟩⟩) (by decide +kernel)
/-! BlackMill.canPlay(II)Z -/
noncomputable def mi_X10_canPlay : MI := (cX10_canPlay, 3, RX10, [], [], [], [(44, 10, 5)], [], [], [(183, ci_X2_lives)])
noncomputable def a_X10_canPlay : St wC (mi_X10_canPlay) 0 :=
  (sRet (eBo (oAnd (oAnd (oCmp .ne (eLoc 1) (eLoc 2)) (oCm0 .ne (eCal 183 ci_X2_lives rfl (aA1 (aA1 aA0 (eFld 10 5 (eLoc 0))) (eLoc 1))))) (oCm0 .ne (eCal 183 ci_X2_lives rfl (aA1 (aA1 aA0 (eFld 10 5 (eLoc 0))) (eLoc 2)))))))
def n_X10_canPlay : MN := (yX10_canPlay, cX10_canPlay, 3, (some .boolean), 3)
noncomputable def ci_X10_canPlay : CI := (1, 10, [2, 0, 0], 0, denM 3 [2, 0, 0] true a_X10_canPlay.1.1)
set_option maxRecDepth 100000 in
theorem m_X10_canPlay : MetD wC n_X10_canPlay ci_X10_canPlay := g_meth true (a_X10_canPlay) rxC_ok (by decide) rfl rfl rfl (by decide) (by decide) (Or.inr (Or.inl ⟨rfl, rfl⟩)) (fun _ => rfl) (mkWords (fun _ h => absurd h List.not_mem_nil) (fun _ h => absurd h List.not_mem_nil) (fun _ h => absurd h List.not_mem_nil) (List.forall_mem_cons.mpr ⟨⟨_, _, _, rfl, by decide, Or.inl fw_X10_44⟩, fun _ h => absurd h List.not_mem_nil⟩) (fun _ h => absurd h List.not_mem_nil) (fun _ h => absurd h List.not_mem_nil)) (List.forall_mem_cons.mpr ⟨clV m_X2_lives rfl rfl rfl (by decide) (Or.inl lw_X10_183) (kn_X2_lives _) (by decide +kernel), fun _ h => absurd h List.not_mem_nil⟩) (by decide +kernel)
/-! BlackMill.played(IIIII)I -/
noncomputable def mi_X10_played : MI := (cX10_played, 8, RX10, [], [], [], [(33, 10, 3), (44, 10, 5), (48, 10, 6)], [], [], [(172, ci_X2_get), (194, ci_X2_set), (198, ci_X2_manyLive), (258, ci_X2_copy), (264, ci_X2_living), (267, ci_X2_mostFeared), (288, ci_X4_lessonOf)])
noncomputable def a_X10_played : St wC (mi_X10_played) 0 :=
  (sSeq (sDo 258 ci_X2_copy rfl (aA1 (aA1 aA0 (eFld 10 6 (eLoc 0))) (eFld 10 5 (eLoc 0))))
  (sSeq (sDo 194 ci_X2_set rfl (aA1 (aA1 (aA1 (aA1 aA0 (eFld 10 6 (eLoc 0))) (eLoc 1)) (eInt 1)) (eCon (oCmp .eq (eLoc 3) (eInt 1)) (eCal 172 ci_X2_get rfl (aA1 (aA1 (aA1 aA0 (eFld 10 6 (eLoc 0))) (eLoc 1)) (eInt 0))) (eInt 0))))
  (sSeq (sDo 194 ci_X2_set rfl (aA1 (aA1 (aA1 (aA1 aA0 (eFld 10 6 (eLoc 0))) (eLoc 2)) (eInt 1)) (eCon (oCmp .eq (eLoc 4) (eInt 1)) (eCal 172 ci_X2_get rfl (aA1 (aA1 (aA1 aA0 (eFld 10 6 (eLoc 0))) (eLoc 2)) (eInt 0))) (eInt 0))))
  (sSeq (sSet 6 (eCon (oCm0 .eq (eLoc 5)) (eLoc 1) (eLoc 2)))
  (sSeq (sSet 7 (eCal 288 ci_X4_lessonOf rfl (aA1 (aA1 (aA1 (aA1 aA0 (eFld 10 3 (eLoc 0))) (eFld 10 6 (eLoc 0))) (eLoc 6)) (eCal 198 ci_X2_manyLive rfl (aA1 aA0 (eFld 10 6 (eLoc 0)))))))
  (sRet (eCon (oCmp .eq (eCal 267 ci_X2_mostFeared rfl (aA1 (aA1 aA0 (eFld 10 6 (eLoc 0))) (eCal 264 ci_X2_living rfl (aA1 aA0 (eFld 10 6 (eLoc 0)))))) (eLoc 6)) (eBin 1 (eLoc 7) (eInt 50)) (eLoc 7))))))))
def n_X10_played : MN := (yX10_played, cX10_played, 8, (some .int), 5)
noncomputable def ci_X10_played : CI := (1, 10, [2, 0, 0, 0, 0, 0], 0, denM 8 [2, 0, 0, 0, 0, 0] false a_X10_played.1.1)
set_option maxRecDepth 100000 in
theorem m_X10_played : MetD wC n_X10_played ci_X10_played := g_meth false (a_X10_played) rxC_ok (by decide) rfl rfl rfl (by decide) (by decide) (Or.inl ⟨rfl, rfl⟩) (fun h => by cases h) (mkWords (fun _ h => absurd h List.not_mem_nil) (fun _ h => absurd h List.not_mem_nil) (fun _ h => absurd h List.not_mem_nil) (List.forall_mem_cons.mpr ⟨⟨_, _, _, rfl, by decide, Or.inl fw_X10_33⟩, List.forall_mem_cons.mpr ⟨⟨_, _, _, rfl, by decide, Or.inl fw_X10_44⟩, List.forall_mem_cons.mpr ⟨⟨_, _, _, rfl, by decide, Or.inl fw_X10_48⟩, fun _ h => absurd h List.not_mem_nil⟩⟩⟩) (fun _ h => absurd h List.not_mem_nil) (fun _ h => absurd h List.not_mem_nil)) (List.forall_mem_cons.mpr ⟨clV m_X2_get rfl rfl rfl (by decide) (Or.inl lw_X10_172) (kn_X2_get _) (by decide +kernel), List.forall_mem_cons.mpr ⟨clV m_X2_set rfl rfl rfl (by decide) (Or.inl lw_X10_194) (kn_X2_set _) (by decide +kernel), List.forall_mem_cons.mpr ⟨clV m_X2_manyLive rfl rfl rfl (by decide) (Or.inl lw_X10_198) (kn_X2_manyLive _) (by decide +kernel), List.forall_mem_cons.mpr ⟨clV m_X2_copy rfl rfl rfl (by decide) (Or.inl lw_X10_258) (kn_X2_copy _) (by decide +kernel), List.forall_mem_cons.mpr ⟨clV m_X2_living rfl rfl rfl (by decide) (Or.inl lw_X10_264) (kn_X2_living _) (by decide +kernel), List.forall_mem_cons.mpr ⟨clV m_X2_mostFeared rfl rfl rfl (by decide) (Or.inl lw_X10_267) (kn_X2_mostFeared _) (by decide +kernel), List.forall_mem_cons.mpr ⟨clV m_X4_lessonOf rfl rfl rfl (by decide) (Or.inl lw_X10_288) (kn_X4_lessonOf _) (by decide +kernel), fun _ h => absurd h List.not_mem_nil⟩⟩⟩⟩⟩⟩⟩) (by decide +kernel)
/-! BlackMill.game(IIIII)I -/
noncomputable def mi_X10_game : MI := (cX10_game, 6, RX10, [(186, -1000000)], [], [], [], [], [], [(345, ci_X10_canPlay), (348, ci_X10_played)])
noncomputable def a_X10_game : St wC (mi_X10_game) 0 :=
  (sSeq (sIf (oOr (oOr (oOr (oOr (oOr (oOr (oNot (oCm0 .ne (eCal 345 ci_X10_canPlay rfl (aA1 (aA1 (aA1 aA0 (eLoc 0)) (eLoc 1)) (eLoc 2))))) (oCm0 .lt (eLoc 3))) (oCmp .gt (eLoc 3) (eInt 1))) (oCm0 .lt (eLoc 4))) (oCmp .gt (eLoc 4) (eInt 1))) (oCm0 .lt (eLoc 5))) (oCmp .gt (eLoc 5) (eInt 1))) (sRet (eInt (-1000000))))
  (sRet (eCal 348 ci_X10_played rfl (aA1 (aA1 (aA1 (aA1 (aA1 (aA1 aA0 (eLoc 0)) (eLoc 1)) (eLoc 2)) (eLoc 3)) (eLoc 4)) (eLoc 5)))))
def n_X10_game : MN := (yX10_game, cX10_game, 6, (some .int), 6)
noncomputable def ci_X10_game : CI := (1, 10, [2, 0, 0, 0, 0, 0], 0, denM 6 [2, 0, 0, 0, 0, 0] false a_X10_game.1.1)
set_option maxRecDepth 100000 in
theorem m_X10_game : MetD wC n_X10_game ci_X10_game := g_meth false (a_X10_game) rxC_ok (by decide) rfl rfl rfl (by decide) (by decide) (Or.inl ⟨rfl, rfl⟩) (fun h => by cases h) (mkWords (List.forall_mem_cons.mpr ⟨cw_X10_186, fun _ h => absurd h List.not_mem_nil⟩) (fun _ h => absurd h List.not_mem_nil) (fun _ h => absurd h List.not_mem_nil) (fun _ h => absurd h List.not_mem_nil) (fun _ h => absurd h List.not_mem_nil) (fun _ h => absurd h List.not_mem_nil)) (List.forall_mem_cons.mpr ⟨clV m_X10_canPlay rfl rfl rfl (by decide) (Or.inl lw_X10_345) (kn_X10_canPlay _) (by decide +kernel), List.forall_mem_cons.mpr ⟨clV m_X10_played rfl rfl rfl (by decide) (Or.inl lw_X10_348) (kn_X10_played _) (by decide +kernel), fun _ h => absurd h List.not_mem_nil⟩⟩) (by decide +kernel)
/-! BlackMill.isRest(IIII)Z -/
noncomputable def mi_X10_isRest : MI := (cX10_isRest, 5, RX10, [], [], [], [], [], [], [(348, ci_X10_played)])
noncomputable def a_X10_isRest : St wC (mi_X10_isRest) 0 :=
  (sRet (eBo (oAnd (oCmp .ge (eCal 348 ci_X10_played rfl (aA1 (aA1 (aA1 (aA1 (aA1 (aA1 aA0 (eLoc 0)) (eLoc 1)) (eLoc 2)) (eLoc 3)) (eLoc 4)) (eInt 0))) (eCal 348 ci_X10_played rfl (aA1 (aA1 (aA1 (aA1 (aA1 (aA1 aA0 (eLoc 0)) (eLoc 1)) (eLoc 2)) (eBin 1 (eInt 1) (eLoc 3))) (eLoc 4)) (eInt 0)))) (oCmp .ge (eCal 348 ci_X10_played rfl (aA1 (aA1 (aA1 (aA1 (aA1 (aA1 aA0 (eLoc 0)) (eLoc 1)) (eLoc 2)) (eLoc 3)) (eLoc 4)) (eInt 1))) (eCal 348 ci_X10_played rfl (aA1 (aA1 (aA1 (aA1 (aA1 (aA1 aA0 (eLoc 0)) (eLoc 1)) (eLoc 2)) (eLoc 3)) (eBin 1 (eInt 1) (eLoc 4))) (eInt 1)))))))
def n_X10_isRest : MN := (yX10_isRest, cX10_isRest, 5, (some .boolean), 6)
noncomputable def ci_X10_isRest : CI := (1, 10, [2, 0, 0, 0, 0], 0, denM 5 [2, 0, 0, 0, 0] true a_X10_isRest.1.1)
set_option maxRecDepth 100000 in
theorem m_X10_isRest : MetD wC n_X10_isRest ci_X10_isRest := g_meth true (a_X10_isRest) rxC_ok (by decide) rfl rfl rfl (by decide) (by decide) (Or.inr (Or.inl ⟨rfl, rfl⟩)) (fun _ => rfl) (mkWords (fun _ h => absurd h List.not_mem_nil) (fun _ h => absurd h List.not_mem_nil) (fun _ h => absurd h List.not_mem_nil) (fun _ h => absurd h List.not_mem_nil) (fun _ h => absurd h List.not_mem_nil) (fun _ h => absurd h List.not_mem_nil)) (List.forall_mem_cons.mpr ⟨clV m_X10_played rfl rfl rfl (by decide) (Or.inl lw_X10_348) (kn_X10_played _) (by decide +kernel), fun _ h => absurd h List.not_mem_nil⟩) (by decide +kernel)
/-! BlackMill.rests(III)I -/
noncomputable def mi_X10_rests : MI := (cX10_rests, 8, RX10, [], [], [], [], [], [], [(345, ci_X10_canPlay), (352, ci_X10_isRest)])
noncomputable def a_X10_rests : St wC (mi_X10_rests) 0 :=
  (sSeq (sIf (oOr (oNot (oCm0 .ne (eCal 345 ci_X10_canPlay rfl (aA1 (aA1 (aA1 aA0 (eLoc 0)) (eLoc 1)) (eLoc 2))))) (oCmp .lt (eLoc 3) (eInt (-1)))) (sRet (eInt (-1))))
  (sSeq (sSet 4 (eInt 0))
  (sSeq (sBlk (sSeq (sSet 5 (eInt 0))
  (sWh (oCmp .lt (eLoc 5) (eInt 4)) (sSeq (sSeq (sSet 6 (eDiv 0 (eLoc 5) (eInt 2)))
  (sSeq (sSet 7 (eDiv 1 (eLoc 5) (eInt 2)))
  (sIf (oCm0 .ne (eCal 352 ci_X10_isRest rfl (aA1 (aA1 (aA1 (aA1 (aA1 aA0 (eLoc 0)) (eLoc 1)) (eLoc 2)) (eLoc 6)) (eLoc 7)))) (sSeq (sIf (oCmp .eq (eLoc 4) (eLoc 3)) (sRet (eBin 0 (eBin 2 (eInt 10) (eLoc 6)) (eLoc 7))))
  (sInc 4 1)))))
  (sInc 5 1)))))
  (sRet (eCon (oCmp .eq (eLoc 3) (eInt (-1))) (eLoc 4) (eInt (-1)))))))
def n_X10_rests : MN := (yX10_rests, cX10_rests, 8, (some .int), 7)
noncomputable def ci_X10_rests : CI := (1, 10, [2, 0, 0, 0], 0, denM 8 [2, 0, 0, 0] false a_X10_rests.1.1)
set_option maxRecDepth 100000 in
theorem m_X10_rests : MetD wC n_X10_rests ci_X10_rests := g_meth false (a_X10_rests) rxC_ok (by decide) rfl rfl rfl (by decide) (by decide) (Or.inl ⟨rfl, rfl⟩) (fun h => by cases h) (mkWords (fun _ h => absurd h List.not_mem_nil) (fun _ h => absurd h List.not_mem_nil) (fun _ h => absurd h List.not_mem_nil) (fun _ h => absurd h List.not_mem_nil) (fun _ h => absurd h List.not_mem_nil) (fun _ h => absurd h List.not_mem_nil)) (List.forall_mem_cons.mpr ⟨clV m_X10_canPlay rfl rfl rfl (by decide) (Or.inl lw_X10_345) (kn_X10_canPlay _) (by decide +kernel), List.forall_mem_cons.mpr ⟨clV m_X10_isRest rfl rfl rfl (by decide) (Or.inl lw_X10_352) (kn_X10_isRest _) (by decide +kernel), fun _ h => absurd h List.not_mem_nil⟩⟩) (by decide +kernel)
/-! BlackMill$House.mostOf(I)I -/
noncomputable def mi_X2_mostOf : MI := (cX2_mostOf, 4, RX2, [], [], [], [(21, 2, 1)], [], [], [(60, ci_X2_get), (63, ci_X2_lives)])
noncomputable def a_X2_mostOf : St wC (mi_X2_mostOf) 0 :=
  (sSeq (sSet 2 (eInt (-1)))
  (sSeq (sBlk (sSeq (sSet 3 (eInt 0))
  (sWh (oCmp .lt (eLoc 3) (eFld 2 1 (eLoc 0))) (sSeq (sIf (oAnd (oCm0 .ne (eCal 63 ci_X2_lives rfl (aA1 (aA1 aA0 (eLoc 0)) (eLoc 3)))) (oOr (oCmp .eq (eLoc 2) (eInt (-1))) (oCmp .gt (eCal 60 ci_X2_get rfl (aA1 (aA1 (aA1 aA0 (eLoc 0)) (eLoc 3)) (eLoc 1))) (eCal 60 ci_X2_get rfl (aA1 (aA1 (aA1 aA0 (eLoc 0)) (eLoc 2)) (eLoc 1)))))) (sSet 2 (eLoc 3)))
  (sInc 3 1)))))
  (sRet (eLoc 2))))
def n_X2_mostOf : MN := (yX2_mostOf, cX2_mostOf, 4, (some .int), 3)
noncomputable def ci_X2_mostOf : CI := (1, 2, [2, 0], 0, denM 4 [2, 0] false a_X2_mostOf.1.1)
set_option maxRecDepth 100000 in
theorem m_X2_mostOf : MetD wC n_X2_mostOf ci_X2_mostOf := g_meth false (a_X2_mostOf) rxC_ok (by decide) rfl rfl rfl (by decide) (by decide) (Or.inl ⟨rfl, rfl⟩) (fun h => by cases h) (mkWords (fun _ h => absurd h List.not_mem_nil) (fun _ h => absurd h List.not_mem_nil) (fun _ h => absurd h List.not_mem_nil) (List.forall_mem_cons.mpr ⟨⟨_, _, _, rfl, by decide, Or.inl fw_X2_21⟩, fun _ h => absurd h List.not_mem_nil⟩) (fun _ h => absurd h List.not_mem_nil) (fun _ h => absurd h List.not_mem_nil)) (List.forall_mem_cons.mpr ⟨clV m_X2_get rfl rfl rfl (by decide) (Or.inl lw_X2_60) (kn_X2_get _) (by decide +kernel), List.forall_mem_cons.mpr ⟨clV m_X2_lives rfl rfl rfl (by decide) (Or.inl lw_X2_63) (kn_X2_lives _) (by decide +kernel), fun _ h => absurd h List.not_mem_nil⟩⟩) (by decide +kernel)
/-! BlackMill.ablest()I -/
noncomputable def mi_X10_ablest : MI := (cX10_ablest, 1, RX10, [], [], [], [(44, 10, 5)], [], [], [(356, ci_X2_mostOf)])
noncomputable def a_X10_ablest : St wC (mi_X10_ablest) 0 :=
  (sRet (eCal 356 ci_X2_mostOf rfl (aA1 (aA1 aA0 (eFld 10 5 (eLoc 0))) (eInt 0))))
def n_X10_ablest : MN := (yX10_ablest, cX10_ablest, 1, (some .int), 4)
noncomputable def ci_X10_ablest : CI := (1, 10, [2], 0, denM 1 [2] false a_X10_ablest.1.1)
set_option maxRecDepth 100000 in
theorem m_X10_ablest : MetD wC n_X10_ablest ci_X10_ablest := g_meth false (a_X10_ablest) rxC_ok (by decide) rfl rfl rfl (by decide) (by decide) (Or.inl ⟨rfl, rfl⟩) (fun h => by cases h) (mkWords (fun _ h => absurd h List.not_mem_nil) (fun _ h => absurd h List.not_mem_nil) (fun _ h => absurd h List.not_mem_nil) (List.forall_mem_cons.mpr ⟨⟨_, _, _, rfl, by decide, Or.inl fw_X10_44⟩, fun _ h => absurd h List.not_mem_nil⟩) (fun _ h => absurd h List.not_mem_nil) (fun _ h => absurd h List.not_mem_nil)) (List.forall_mem_cons.mpr ⟨clV m_X2_mostOf rfl rfl rfl (by decide) (Or.inl lw_X10_356) (kn_X2_mostOf _) (by decide +kernel), fun _ h => absurd h List.not_mem_nil⟩) (by decide +kernel)
/-! BlackMill.oldest()I -/
noncomputable def mi_X10_oldest : MI := (cX10_oldest, 1, RX10, [], [], [], [(44, 10, 5)], [], [], [(356, ci_X2_mostOf)])
noncomputable def a_X10_oldest : St wC (mi_X10_oldest) 0 :=
  (sRet (eCal 356 ci_X2_mostOf rfl (aA1 (aA1 aA0 (eFld 10 5 (eLoc 0))) (eInt 4))))
def n_X10_oldest : MN := (yX10_oldest, cX10_oldest, 1, (some .int), 4)
noncomputable def ci_X10_oldest : CI := (1, 10, [2], 0, denM 1 [2] false a_X10_oldest.1.1)
set_option maxRecDepth 100000 in
theorem m_X10_oldest : MetD wC n_X10_oldest ci_X10_oldest := g_meth false (a_X10_oldest) rxC_ok (by decide) rfl rfl rfl (by decide) (by decide) (Or.inl ⟨rfl, rfl⟩) (fun h => by cases h) (mkWords (fun _ h => absurd h List.not_mem_nil) (fun _ h => absurd h List.not_mem_nil) (fun _ h => absurd h List.not_mem_nil) (List.forall_mem_cons.mpr ⟨⟨_, _, _, rfl, by decide, Or.inl fw_X10_44⟩, fun _ h => absurd h List.not_mem_nil⟩) (fun _ h => absurd h List.not_mem_nil) (fun _ h => absurd h List.not_mem_nil)) (List.forall_mem_cons.mpr ⟨clV m_X2_mostOf rfl rfl rfl (by decide) (Or.inl lw_X10_356) (kn_X2_mostOf _) (by decide +kernel), fun _ h => absurd h List.not_mem_nil⟩) (by decide +kernel)
/-! BlackMill.hides(I)I -/
noncomputable def mi_X10_hides : MI := (cX10_hides, 2, RX10, [], [], [], [(44, 10, 5)], [], [], [(172, ci_X2_get), (183, ci_X2_lives)])
noncomputable def a_X10_hides : St wC (mi_X10_hides) 0 :=
  (sRet (eCon (oCm0 .ne (eCal 183 ci_X2_lives rfl (aA1 (aA1 aA0 (eFld 10 5 (eLoc 0))) (eLoc 1)))) (eBin 1 (eCal 172 ci_X2_get rfl (aA1 (aA1 (aA1 aA0 (eFld 10 5 (eLoc 0))) (eLoc 1)) (eInt 0))) (eCal 172 ci_X2_get rfl (aA1 (aA1 (aA1 aA0 (eFld 10 5 (eLoc 0))) (eLoc 1)) (eInt 1)))) (eInt (-1))))
def n_X10_hides : MN := (yX10_hides, cX10_hides, 2, (some .int), 3)
noncomputable def ci_X10_hides : CI := (1, 10, [2, 0], 0, denM 2 [2, 0] false a_X10_hides.1.1)
set_option maxRecDepth 100000 in
theorem m_X10_hides : MetD wC n_X10_hides ci_X10_hides := g_meth false (a_X10_hides) rxC_ok (by decide) rfl rfl rfl (by decide) (by decide) (Or.inl ⟨rfl, rfl⟩) (fun h => by cases h) (mkWords (fun _ h => absurd h List.not_mem_nil) (fun _ h => absurd h List.not_mem_nil) (fun _ h => absurd h List.not_mem_nil) (List.forall_mem_cons.mpr ⟨⟨_, _, _, rfl, by decide, Or.inl fw_X10_44⟩, fun _ h => absurd h List.not_mem_nil⟩) (fun _ h => absurd h List.not_mem_nil) (fun _ h => absurd h List.not_mem_nil)) (List.forall_mem_cons.mpr ⟨clV m_X2_get rfl rfl rfl (by decide) (Or.inl lw_X10_172) (kn_X2_get _) (by decide +kernel), List.forall_mem_cons.mpr ⟨clV m_X2_lives rfl rfl rfl (by decide) (Or.inl lw_X10_183) (kn_X2_lives _) (by decide +kernel), fun _ h => absurd h List.not_mem_nil⟩⟩) (by decide +kernel)
/-! BlackMill$House.warned()I -/
noncomputable def mi_X2_warned : MI := (cX2_warned, 3, RX2, [], [], [], [(21, 2, 1)], [], [], [(60, ci_X2_get)])
noncomputable def a_X2_warned : St wC (mi_X2_warned) 0 :=
  (sSeq (sSet 1 (eInt 0))
  (sSeq (sBlk (sSeq (sSet 2 (eInt 0))
  (sWh (oCmp .lt (eLoc 2) (eFld 2 1 (eLoc 0))) (sSeq (sIf (oCm0 .ne (eCal 60 ci_X2_get rfl (aA1 (aA1 (aA1 aA0 (eLoc 0)) (eLoc 2)) (eInt 6)))) (sSet 1 (eBin 4 (eLoc 1) (eBin 6 (eInt 1) (eLoc 2)))))
  (sInc 2 1)))))
  (sRet (eLoc 1))))
def n_X2_warned : MN := (yX2_warned, cX2_warned, 3, (some .int), 2)
noncomputable def ci_X2_warned : CI := (1, 2, [2], 0, denM 3 [2] false a_X2_warned.1.1)
set_option maxRecDepth 100000 in
theorem m_X2_warned : MetD wC n_X2_warned ci_X2_warned := g_meth false (a_X2_warned) rxC_ok (by decide) rfl rfl rfl (by decide) (by decide) (Or.inl ⟨rfl, rfl⟩) (fun h => by cases h) (mkWords (fun _ h => absurd h List.not_mem_nil) (fun _ h => absurd h List.not_mem_nil) (fun _ h => absurd h List.not_mem_nil) (List.forall_mem_cons.mpr ⟨⟨_, _, _, rfl, by decide, Or.inl fw_X2_21⟩, fun _ h => absurd h List.not_mem_nil⟩) (fun _ h => absurd h List.not_mem_nil) (fun _ h => absurd h List.not_mem_nil)) (List.forall_mem_cons.mpr ⟨clV m_X2_get rfl rfl rfl (by decide) (Or.inl lw_X2_60) (kn_X2_get _) (by decide +kernel), fun _ h => absurd h List.not_mem_nil⟩) (by decide +kernel)
/-! BlackMill.count(I)I -/
noncomputable def mi_X10_count : MI := (cX10_count, 2, RX10, [(186, -1000000)], [], [], [(10, 10, 0), (33, 10, 3), (44, 10, 5), (67, 10, 10), (81, 10, 12), (88, 10, 13), (95, 10, 15), (103, 8, 1), (118, 2, 1), (121, 4, 5), (176, 7, 2), (180, 4, 6), (205, 2, 2), (244, 0, 3), (362, 1, 5), (365, 1, 6)], [], [], [(215, ci_X2_artOfAll), (248, ci_X10_logLength), (264, ci_X2_living), (359, ci_X2_warned)])
noncomputable def a_X10_count : St wC (mi_X10_count) 0 :=
  (sSw (eLoc 1) (wCs 0 (sRet (eFld 2 1 (eFld 10 5 (eLoc 0))))
  (wCs 1 (sRet (eFld 7 2 (eFld 10 12 (eLoc 0))))
  (wCs 2 (sRet (eFld 4 5 (eFld 10 3 (eLoc 0))))
  (wCs 3 (sRet (eFld 8 1 (eFld 10 0 (eLoc 0))))
  (wCs 4 (sRet (eFld 4 6 (eFld 10 3 (eLoc 0))))
  (wCs 5 (sRet (eFld 2 2 (eFld 10 5 (eLoc 0))))
  (wCs 6 (sRet (eCal 264 ci_X2_living rfl (aA1 aA0 (eFld 10 5 (eLoc 0)))))
  (wCs 7 (sRet (eCal 215 ci_X2_artOfAll rfl (aA1 aA0 (eFld 10 5 (eLoc 0)))))
  (wCs 8 (sRet (eCal 359 ci_X2_warned rfl (aA1 aA0 (eFld 10 5 (eLoc 0)))))
  (wCs 9 (sRet (eFld 10 15 (eLoc 0)))
  (wCs 10 (sRet (eFld 1 5 (eFld 10 13 (eLoc 0))))
  (wCs 11 (sRet (eFld 1 6 (eFld 10 13 (eLoc 0))))
  (wCs 12 (sRet (eCal 248 ci_X10_logLength rfl (aA1 aA0 (eLoc 0))))
  (wCs 13 (sRet (eFld 0 3 (eFld 10 10 (eLoc 0))))
  (wDf (sRet (eInt (-1000000)))))))))))))))))))
def n_X10_count : MN := (yX10_count, cX10_count, 2, (some .int), 5)
noncomputable def ci_X10_count : CI := (1, 10, [2, 0], 0, denM 2 [2, 0] false a_X10_count.1.1)
set_option maxRecDepth 100000 in
theorem m_X10_count : MetD wC n_X10_count ci_X10_count := g_meth false (a_X10_count) rxC_ok (by decide) rfl rfl rfl (by decide) (by decide) (Or.inl ⟨rfl, rfl⟩) (fun h => by cases h) (mkWords (List.forall_mem_cons.mpr ⟨cw_X10_186, fun _ h => absurd h List.not_mem_nil⟩) (fun _ h => absurd h List.not_mem_nil) (fun _ h => absurd h List.not_mem_nil) (List.forall_mem_cons.mpr ⟨⟨_, _, _, rfl, by decide, Or.inl fw_X10_10⟩, List.forall_mem_cons.mpr ⟨⟨_, _, _, rfl, by decide, Or.inl fw_X10_33⟩, List.forall_mem_cons.mpr ⟨⟨_, _, _, rfl, by decide, Or.inl fw_X10_44⟩, List.forall_mem_cons.mpr ⟨⟨_, _, _, rfl, by decide, Or.inl fw_X10_67⟩, List.forall_mem_cons.mpr ⟨⟨_, _, _, rfl, by decide, Or.inl fw_X10_81⟩, List.forall_mem_cons.mpr ⟨⟨_, _, _, rfl, by decide, Or.inl fw_X10_88⟩, List.forall_mem_cons.mpr ⟨⟨_, _, _, rfl, by decide, Or.inl fw_X10_95⟩, List.forall_mem_cons.mpr ⟨⟨_, _, _, rfl, by decide, Or.inr fw_X10_103⟩, List.forall_mem_cons.mpr ⟨⟨_, _, _, rfl, by decide, Or.inr fw_X10_118⟩, List.forall_mem_cons.mpr ⟨⟨_, _, _, rfl, by decide, Or.inr fw_X10_121⟩, List.forall_mem_cons.mpr ⟨⟨_, _, _, rfl, by decide, Or.inr fw_X10_176⟩, List.forall_mem_cons.mpr ⟨⟨_, _, _, rfl, by decide, Or.inr fw_X10_180⟩, List.forall_mem_cons.mpr ⟨⟨_, _, _, rfl, by decide, Or.inr fw_X10_205⟩, List.forall_mem_cons.mpr ⟨⟨_, _, _, rfl, by decide, Or.inr fw_X10_244⟩, List.forall_mem_cons.mpr ⟨⟨_, _, _, rfl, by decide, Or.inr fw_X10_362⟩, List.forall_mem_cons.mpr ⟨⟨_, _, _, rfl, by decide, Or.inr fw_X10_365⟩, fun _ h => absurd h List.not_mem_nil⟩⟩⟩⟩⟩⟩⟩⟩⟩⟩⟩⟩⟩⟩⟩⟩) (fun _ h => absurd h List.not_mem_nil) (fun _ h => absurd h List.not_mem_nil)) (List.forall_mem_cons.mpr ⟨clV m_X2_artOfAll rfl rfl rfl (by decide) (Or.inl lw_X10_215) (kn_X2_artOfAll _) (by decide +kernel), List.forall_mem_cons.mpr ⟨clV m_X10_logLength rfl rfl rfl (by decide) (Or.inl lw_X10_248) (kn_X10_logLength _) (by decide +kernel), List.forall_mem_cons.mpr ⟨clV m_X2_living rfl rfl rfl (by decide) (Or.inl lw_X10_264) (kn_X2_living _) (by decide +kernel), List.forall_mem_cons.mpr ⟨clV m_X2_warned rfl rfl rfl (by decide) (Or.inl lw_X10_359) (kn_X2_warned _) (by decide +kernel), fun _ h => absurd h List.not_mem_nil⟩⟩⟩⟩) (by decide +kernel)
