/-! methods of cls, 3 -/
/-! BlackMill$Ledger.read(II)I -/
noncomputable def mi_X5_read : MI := (cX5_read, 3, RX5, [], [], [], [(11, 5, 0)], [], [], [(21, ci_X10_at)])
noncomputable def a_X5_read : St wC (mi_X5_read) 0 :=
  (sRet (eCal 21 ci_X10_at rfl (aA1 (aA1 aA0 (eFld 5 0 (eLoc 0))) (eBin 0 (eBin 2 (eDiv 1 (eLoc 1) (eInt 100)) (eInt 3)) (eLoc 2)))))
def n_X5_read : MN := (yX5_read, cX5_read, 3, (some .int), 2)
noncomputable def ci_X5_read : CI := (1, 5, [2, 0, 0], 0, denM 3 [2, 0, 0] false a_X5_read.1.1)
set_option maxRecDepth 100000 in
theorem m_X5_read : MetD wC n_X5_read ci_X5_read := g_meth false (a_X5_read) rxC_ok (by decide) rfl rfl rfl (by decide) (by decide) (Or.inl ⟨rfl, rfl⟩) (fun h => by cases h) (mkWords (fun _ h => absurd h List.not_mem_nil) (fun _ h => absurd h List.not_mem_nil) (fun _ h => absurd h List.not_mem_nil) (List.forall_mem_cons.mpr ⟨⟨_, _, _, rfl, by decide, Or.inl fw_X5_11⟩, fun _ h => absurd h List.not_mem_nil⟩) (fun _ h => absurd h List.not_mem_nil) (fun _ h => absurd h List.not_mem_nil)) (List.forall_mem_cons.mpr ⟨clS m_X10_at rfl (by decide) (Or.inr lw_X5_21) (kn_X10_at _) (by decide +kernel), fun _ h => absurd h List.not_mem_nil⟩) (by decide +kernel)
/-! BlackMill.log(II)I -/
noncomputable def mi_X10_log : MI := (cX10_log, 3, RX10, [(186, -1000000)], [], [], [(44, 10, 5), (57, 10, 8), (205, 2, 2)], [], [], [(248, ci_X10_logLength), (251, ci_X5_read)])
noncomputable def a_X10_log : St wC (mi_X10_log) 0 :=
  (sSeq (sIf (oOr (oOr (oOr (oCm0 .lt (eLoc 1)) (oCmp .ge (eLoc 1) (eCal 248 ci_X10_logLength rfl (aA1 aA0 (eLoc 0))))) (oCm0 .lt (eLoc 2))) (oCmp .ge (eLoc 2) (eInt 3))) (sRet (eInt (-1000000))))
  (sRet (eCal 251 ci_X5_read rfl (aA1 (aA1 (aA1 aA0 (eFld 10 8 (eLoc 0))) (eBin 1 (eBin 1 (eFld 2 2 (eFld 10 5 (eLoc 0))) (eInt 1)) (eLoc 1))) (eLoc 2)))))
def n_X10_log : MN := (yX10_log, cX10_log, 3, (some .int), 3)
noncomputable def ci_X10_log : CI := (1, 10, [2, 0, 0], 0, denM 3 [2, 0, 0] false a_X10_log.1.1)
set_option maxRecDepth 100000 in
theorem m_X10_log : MetD wC n_X10_log ci_X10_log := g_meth false (a_X10_log) rxC_ok (by decide) rfl rfl rfl (by decide) (by decide) (Or.inl ⟨rfl, rfl⟩) (fun h => by cases h) (mkWords (List.forall_mem_cons.mpr ⟨cw_X10_186, fun _ h => absurd h List.not_mem_nil⟩) (fun _ h => absurd h List.not_mem_nil) (fun _ h => absurd h List.not_mem_nil) (List.forall_mem_cons.mpr ⟨⟨_, _, _, rfl, by decide, Or.inl fw_X10_44⟩, List.forall_mem_cons.mpr ⟨⟨_, _, _, rfl, by decide, Or.inl fw_X10_57⟩, List.forall_mem_cons.mpr ⟨⟨_, _, _, rfl, by decide, Or.inr fw_X10_205⟩, fun _ h => absurd h List.not_mem_nil⟩⟩⟩) (fun _ h => absurd h List.not_mem_nil) (fun _ h => absurd h List.not_mem_nil)) (List.forall_mem_cons.mpr ⟨clV m_X10_logLength rfl rfl rfl (by decide) (Or.inl lw_X10_248) (kn_X10_logLength _) (by decide +kernel), List.forall_mem_cons.mpr ⟨clV m_X5_read rfl rfl rfl (by decide) (Or.inl lw_X10_251) (kn_X5_read _) (by decide +kernel), fun _ h => absurd h List.not_mem_nil⟩⟩) (by decide +kernel)
/-! BlackMill$House.copy(LBlackMill$House;)V -/
noncomputable def mi_X2_copy : MI := (cX2_copy, 2, RX2, [], [], [], [(9, 2, 0), (21, 2, 1), (24, 2, 2), (34, 2, 3), (37, 2, 4)], [], [], [(48, ci_X10_move)])
noncomputable def a_X2_copy : St wC (mi_X2_copy) 3 :=
  (sSeq (sSeq (sDo 48 ci_X10_move rfl (aA1 (aA1 (aA1 (aA1 (aA1 aA0 (eFld 2 0 (eLoc 1))) (eInt 0)) (eFld 2 0 (eLoc 0))) (eInt 0)) (eLen 0 (eFld 2 0 (eLoc 0)))))
  (sSeq (sPutF 2 1 (eLoc 0) (eFld 2 1 (eLoc 1)))
  (sSeq (sPutF 2 2 (eLoc 0) (eFld 2 2 (eLoc 1)))
  (sSeq (sPutF 2 3 (eLoc 0) (eFld 2 3 (eLoc 1)))
  (sPutF 2 4 (eLoc 0) (eFld 2 4 (eLoc 1)))))))
  sReV)
def n_X2_copy : MN := (yX2_copy, cX2_copy, 2, none, 2)
noncomputable def ci_X2_copy : CI := (1, 2, [2, 2], 3, denM 2 [2, 2] false a_X2_copy.1.1)
set_option maxRecDepth 100000 in
theorem m_X2_copy : MetD wC n_X2_copy ci_X2_copy := g_meth false (a_X2_copy) rxC_ok (by decide) rfl rfl rfl (by decide) (by decide) (Or.inr (Or.inr (Or.inr (Or.inr ⟨rfl, rfl⟩)))) (fun h => by cases h) (mkWords (fun _ h => absurd h List.not_mem_nil) (fun _ h => absurd h List.not_mem_nil) (fun _ h => absurd h List.not_mem_nil) (List.forall_mem_cons.mpr ⟨⟨_, _, _, rfl, by decide, Or.inl fw_X2_9⟩, List.forall_mem_cons.mpr ⟨⟨_, _, _, rfl, by decide, Or.inl fw_X2_21⟩, List.forall_mem_cons.mpr ⟨⟨_, _, _, rfl, by decide, Or.inl fw_X2_24⟩, List.forall_mem_cons.mpr ⟨⟨_, _, _, rfl, by decide, Or.inl fw_X2_34⟩, List.forall_mem_cons.mpr ⟨⟨_, _, _, rfl, by decide, Or.inl fw_X2_37⟩, fun _ h => absurd h List.not_mem_nil⟩⟩⟩⟩⟩) (fun _ h => absurd h List.not_mem_nil) (fun _ h => absurd h List.not_mem_nil)) (List.forall_mem_cons.mpr ⟨clS m_X10_move rfl (by decide) (Or.inr lw_X2_48) (kn_X10_move _) (by decide +kernel), fun _ h => absurd h List.not_mem_nil⟩) (by decide +kernel)
/-! BlackMill$Ledger.copy(LBlackMill$Ledger;)V -/
noncomputable def mi_X5_copy : MI := (cX5_copy, 2, RX5, [], [], [], [(11, 5, 0)], [], [], [(25, ci_X10_move)])
noncomputable def a_X5_copy : St wC (mi_X5_copy) 3 :=
  (sSeq (sDo 25 ci_X10_move rfl (aA1 (aA1 (aA1 (aA1 (aA1 aA0 (eFld 5 0 (eLoc 1))) (eInt 0)) (eFld 5 0 (eLoc 0))) (eInt 0)) (eLen 0 (eFld 5 0 (eLoc 0)))))
  sReV)
def n_X5_copy : MN := (yX5_copy, cX5_copy, 2, none, 2)
noncomputable def ci_X5_copy : CI := (1, 5, [2, 2], 3, denM 2 [2, 2] false a_X5_copy.1.1)
set_option maxRecDepth 100000 in
theorem m_X5_copy : MetD wC n_X5_copy ci_X5_copy := g_meth false (a_X5_copy) rxC_ok (by decide) rfl rfl rfl (by decide) (by decide) (Or.inr (Or.inr (Or.inr (Or.inr ⟨rfl, rfl⟩)))) (fun h => by cases h) (mkWords (fun _ h => absurd h List.not_mem_nil) (fun _ h => absurd h List.not_mem_nil) (fun _ h => absurd h List.not_mem_nil) (List.forall_mem_cons.mpr ⟨⟨_, _, _, rfl, by decide, Or.inl fw_X5_11⟩, fun _ h => absurd h List.not_mem_nil⟩) (fun _ h => absurd h List.not_mem_nil) (fun _ h => absurd h List.not_mem_nil)) (List.forall_mem_cons.mpr ⟨clS m_X10_move rfl (by decide) (Or.inr lw_X5_25) (kn_X10_move _) (by decide +kernel), fun _ h => absurd h List.not_mem_nil⟩) (by decide +kernel)
/-! BlackMill.image()I -/
noncomputable def mi_X10_image : MI := (cX10_image, 1, RX10, [], [], [], [(44, 10, 5), (51, 10, 7), (57, 10, 8), (61, 10, 9), (147, 10, 16), (205, 2, 2)], [], [], [(151, ci_X10_isTold), (258, ci_X2_copy), (261, ci_X5_copy)])
noncomputable def a_X10_image : St wC (mi_X10_image) 0 :=
  (sSeq (sIf (oNot (oCm0 .ne (eCal 151 ci_X10_isTold rfl (aA1 aA0 (eLoc 0))))) (sRet (eInt (-1))))
  (sSeq (sDo 258 ci_X2_copy rfl (aA1 (aA1 aA0 (eFld 10 7 (eLoc 0))) (eFld 10 5 (eLoc 0))))
  (sSeq (sDo 261 ci_X5_copy rfl (aA1 (aA1 aA0 (eFld 10 9 (eLoc 0))) (eFld 10 8 (eLoc 0))))
  (sSeq (sPutF 10 16 (eLoc 0) (eInt 1))
  (sRet (eFld 2 2 (eFld 10 5 (eLoc 0))))))))
def n_X10_image : MN := (yX10_image, cX10_image, 1, (some .int), 3)
noncomputable def ci_X10_image : CI := (1, 10, [2], 0, denM 1 [2] false a_X10_image.1.1)
set_option maxRecDepth 100000 in
theorem m_X10_image : MetD wC n_X10_image ci_X10_image := g_meth false (a_X10_image) rxC_ok (by decide) rfl rfl rfl (by decide) (by decide) (Or.inl ⟨rfl, rfl⟩) (fun h => by cases h) (mkWords (fun _ h => absurd h List.not_mem_nil) (fun _ h => absurd h List.not_mem_nil) (fun _ h => absurd h List.not_mem_nil) (List.forall_mem_cons.mpr ⟨⟨_, _, _, rfl, by decide, Or.inl fw_X10_44⟩, List.forall_mem_cons.mpr ⟨⟨_, _, _, rfl, by decide, Or.inl fw_X10_51⟩, List.forall_mem_cons.mpr ⟨⟨_, _, _, rfl, by decide, Or.inl fw_X10_57⟩, List.forall_mem_cons.mpr ⟨⟨_, _, _, rfl, by decide, Or.inl fw_X10_61⟩, List.forall_mem_cons.mpr ⟨⟨_, _, _, rfl, by decide, Or.inl fw_X10_147⟩, List.forall_mem_cons.mpr ⟨⟨_, _, _, rfl, by decide, Or.inr fw_X10_205⟩, fun _ h => absurd h List.not_mem_nil⟩⟩⟩⟩⟩⟩) (fun _ h => absurd h List.not_mem_nil) (fun _ h => absurd h List.not_mem_nil)) (List.forall_mem_cons.mpr ⟨clV m_X10_isTold rfl rfl rfl (by decide) (Or.inl lw_X10_151) (kn_X10_isTold _) (by decide +kernel), List.forall_mem_cons.mpr ⟨clV m_X2_copy rfl rfl rfl (by decide) (Or.inl lw_X10_258) (kn_X2_copy _) (by decide +kernel), List.forall_mem_cons.mpr ⟨clV m_X5_copy rfl rfl rfl (by decide) (Or.inl lw_X10_261) (kn_X5_copy _) (by decide +kernel), fun _ h => absurd h List.not_mem_nil⟩⟩⟩) (by decide +kernel)
/-! BlackMill.back()I -/
noncomputable def mi_X10_back : MI := (cX10_back, 1, RX10, [], [], [], [(44, 10, 5), (51, 10, 7), (57, 10, 8), (61, 10, 9), (67, 10, 10), (147, 10, 16), (205, 2, 2)], [], [], [(146, ci_X0_forget), (258, ci_X2_copy), (261, ci_X5_copy)])
noncomputable def a_X10_back : St wC (mi_X10_back) 0 :=
  (sSeq (sIf (oNot (oCm0 .ne (eFld 10 16 (eLoc 0)))) (sRet (eInt (-1))))
  (sSeq (sDo 258 ci_X2_copy rfl (aA1 (aA1 aA0 (eFld 10 5 (eLoc 0))) (eFld 10 7 (eLoc 0))))
  (sSeq (sDo 261 ci_X5_copy rfl (aA1 (aA1 aA0 (eFld 10 8 (eLoc 0))) (eFld 10 9 (eLoc 0))))
  (sSeq (sDo 146 ci_X0_forget rfl (aA1 aA0 (eFld 10 10 (eLoc 0))))
  (sRet (eFld 2 2 (eFld 10 5 (eLoc 0))))))))
def n_X10_back : MN := (yX10_back, cX10_back, 1, (some .int), 3)
noncomputable def ci_X10_back : CI := (1, 10, [2], 0, denM 1 [2] false a_X10_back.1.1)
set_option maxRecDepth 100000 in
theorem m_X10_back : MetD wC n_X10_back ci_X10_back := g_meth false (a_X10_back) rxC_ok (by decide) rfl rfl rfl (by decide) (by decide) (Or.inl ⟨rfl, rfl⟩) (fun h => by cases h) (mkWords (fun _ h => absurd h List.not_mem_nil) (fun _ h => absurd h List.not_mem_nil) (fun _ h => absurd h List.not_mem_nil) (List.forall_mem_cons.mpr ⟨⟨_, _, _, rfl, by decide, Or.inl fw_X10_44⟩, List.forall_mem_cons.mpr ⟨⟨_, _, _, rfl, by decide, Or.inl fw_X10_51⟩, List.forall_mem_cons.mpr ⟨⟨_, _, _, rfl, by decide, Or.inl fw_X10_57⟩, List.forall_mem_cons.mpr ⟨⟨_, _, _, rfl, by decide, Or.inl fw_X10_61⟩, List.forall_mem_cons.mpr ⟨⟨_, _, _, rfl, by decide, Or.inl fw_X10_67⟩, List.forall_mem_cons.mpr ⟨⟨_, _, _, rfl, by decide, Or.inl fw_X10_147⟩, List.forall_mem_cons.mpr ⟨⟨_, _, _, rfl, by decide, Or.inr fw_X10_205⟩, fun _ h => absurd h List.not_mem_nil⟩⟩⟩⟩⟩⟩⟩) (fun _ h => absurd h List.not_mem_nil) (fun _ h => absurd h List.not_mem_nil)) (List.forall_mem_cons.mpr ⟨clV m_X0_forget rfl rfl rfl (by decide) (Or.inl lw_X10_146) (kn_X0_forget _) (by decide +kernel), List.forall_mem_cons.mpr ⟨clV m_X2_copy rfl rfl rfl (by decide) (Or.inl lw_X10_258) (kn_X2_copy _) (by decide +kernel), List.forall_mem_cons.mpr ⟨clV m_X5_copy rfl rfl rfl (by decide) (Or.inl lw_X10_261) (kn_X5_copy _) (by decide +kernel), fun _ h => absurd h List.not_mem_nil⟩⟩⟩) (by decide +kernel)
/-! BlackMill.chosen()I -/
noncomputable def mi_X10_chosen : MI := (cX10_chosen, 1, RX10, [], [], [], [(44, 10, 5)], [], [], [(264, ci_X2_living), (267, ci_X2_mostFeared)])
noncomputable def a_X10_chosen : St wC (mi_X10_chosen) 0 :=
  (sRet (eCal 267 ci_X2_mostFeared rfl (aA1 (aA1 aA0 (eFld 10 5 (eLoc 0))) (eCal 264 ci_X2_living rfl (aA1 aA0 (eFld 10 5 (eLoc 0)))))))
def n_X10_chosen : MN := (yX10_chosen, cX10_chosen, 1, (some .int), 4)
noncomputable def ci_X10_chosen : CI := (1, 10, [2], 0, denM 1 [2] false a_X10_chosen.1.1)
set_option maxRecDepth 100000 in
theorem m_X10_chosen : MetD wC n_X10_chosen ci_X10_chosen := g_meth false (a_X10_chosen) rxC_ok (by decide) rfl rfl rfl (by decide) (by decide) (Or.inl ⟨rfl, rfl⟩) (fun h => by cases h) (mkWords (fun _ h => absurd h List.not_mem_nil) (fun _ h => absurd h List.not_mem_nil) (fun _ h => absurd h List.not_mem_nil) (List.forall_mem_cons.mpr ⟨⟨_, _, _, rfl, by decide, Or.inl fw_X10_44⟩, fun _ h => absurd h List.not_mem_nil⟩) (fun _ h => absurd h List.not_mem_nil) (fun _ h => absurd h List.not_mem_nil)) (List.forall_mem_cons.mpr ⟨clV m_X2_living rfl rfl rfl (by decide) (Or.inl lw_X10_264) (kn_X2_living _) (by decide +kernel), List.forall_mem_cons.mpr ⟨clV m_X2_mostFeared rfl rfl rfl (by decide) (Or.inl lw_X10_267) (kn_X2_mostFeared _) (by decide +kernel), fun _ h => absurd h List.not_mem_nil⟩⟩) (by decide +kernel)
/-! BlackMill$House.rankedByFear()I -/
noncomputable def mi_X2_rankedByFear : MI := (cX2_rankedByFear, 5, RX2, [], [], [], [], [], [], [(66, ci_X2_living), (70, ci_J6_bitCount_0f7a4C), (92, ci_X2_mostFeared)])
noncomputable def a_X2_rankedByFear : St wC (mi_X2_rankedByFear) 0 :=
  (sSeq (sSet 1 (eCal 66 ci_X2_living rfl (aA1 aA0 (eLoc 0))))
  (sSeq (sSet 2 (eInt 0))
  (sSeq (sBlk (sSeq (sSet 3 (eCal 70 ci_J6_bitCount_0f7a4C rfl (aA1 aA0 (eLoc 1))))
  (sWh (oCm0 .gt (eLoc 3)) (sSeq (sSeq (sSet 4 (eCal 92 ci_X2_mostFeared rfl (aA1 (aA1 aA0 (eLoc 0)) (eLoc 1))))
  (sSeq (sSet 2 (eBin 0 (eBin 2 (eLoc 2) (eInt 10)) (eLoc 4)))
  (sSet 1 (eBin 3 (eLoc 1) (eBin 5 (eBin 6 (eInt 1) (eLoc 4)) (eInt (-1)))))))
  (sInc 3 (-1))))))
  (sRet (eLoc 2)))))
def n_X2_rankedByFear : MN := (yX2_rankedByFear, cX2_rankedByFear, 5, (some .int), 4)
noncomputable def ci_X2_rankedByFear : CI := (1, 2, [2], 0, denM 5 [2] false a_X2_rankedByFear.1.1)
set_option maxRecDepth 100000 in
theorem m_X2_rankedByFear : MetD wC n_X2_rankedByFear ci_X2_rankedByFear := g_meth false (a_X2_rankedByFear) rxC_ok (by decide) rfl rfl rfl (by decide) (by decide) (Or.inl ⟨rfl, rfl⟩) (fun h => by cases h) (mkWords (fun _ h => absurd h List.not_mem_nil) (fun _ h => absurd h List.not_mem_nil) (fun _ h => absurd h List.not_mem_nil) (fun _ h => absurd h List.not_mem_nil) (fun _ h => absurd h List.not_mem_nil) (fun _ h => absurd h List.not_mem_nil)) (List.forall_mem_cons.mpr ⟨clV m_X2_living rfl rfl rfl (by decide) (Or.inl lw_X2_66) (kn_X2_living _) (by decide +kernel), List.forall_mem_cons.mpr ⟨clS m_J6_bitCount_0f7a4C rfl (by decide) (Or.inl lw_X2_70) (kn_J6_bitCount_0f7a4 _) (by decide +kernel), List.forall_mem_cons.mpr ⟨clV m_X2_mostFeared rfl rfl rfl (by decide) (Or.inl lw_X2_92) (kn_X2_mostFeared _) (by decide +kernel), fun _ h => absurd h List.not_mem_nil⟩⟩⟩) (by decide +kernel)
/-! BlackMill.order()I -/
noncomputable def mi_X10_order : MI := (cX10_order, 1, RX10, [], [], [], [(44, 10, 5)], [], [], [(151, ci_X10_isTold), (270, ci_X2_rankedByFear)])
noncomputable def a_X10_order : St wC (mi_X10_order) 0 :=
  (sRet (eCon (oCm0 .ne (eCal 151 ci_X10_isTold rfl (aA1 aA0 (eLoc 0)))) (eCal 270 ci_X2_rankedByFear rfl (aA1 aA0 (eFld 10 5 (eLoc 0)))) (eInt (-1))))
def n_X10_order : MN := (yX10_order, cX10_order, 1, (some .int), 5)
noncomputable def ci_X10_order : CI := (1, 10, [2], 0, denM 1 [2] false a_X10_order.1.1)
set_option maxRecDepth 100000 in
theorem m_X10_order : MetD wC n_X10_order ci_X10_order := g_meth false (a_X10_order) rxC_ok (by decide) rfl rfl rfl (by decide) (by decide) (Or.inl ⟨rfl, rfl⟩) (fun h => by cases h) (mkWords (fun _ h => absurd h List.not_mem_nil) (fun _ h => absurd h List.not_mem_nil) (fun _ h => absurd h List.not_mem_nil) (List.forall_mem_cons.mpr ⟨⟨_, _, _, rfl, by decide, Or.inl fw_X10_44⟩, fun _ h => absurd h List.not_mem_nil⟩) (fun _ h => absurd h List.not_mem_nil) (fun _ h => absurd h List.not_mem_nil)) (List.forall_mem_cons.mpr ⟨clV m_X10_isTold rfl rfl rfl (by decide) (Or.inl lw_X10_151) (kn_X10_isTold _) (by decide +kernel), List.forall_mem_cons.mpr ⟨clV m_X2_rankedByFear rfl rfl rfl (by decide) (Or.inl lw_X10_270) (kn_X2_rankedByFear _) (by decide +kernel), fun _ h => absurd h List.not_mem_nil⟩⟩) (by decide +kernel)
/-! BlackMill.safe(I)I -/
noncomputable def mi_X10_safe : MI := (cX10_safe, 3, RX10, [], [], [], [(44, 10, 5), (48, 10, 6)], [], [], [(172, ci_X2_get), (183, ci_X2_lives), (194, ci_X2_set), (258, ci_X2_copy), (264, ci_X2_living), (267, ci_X2_mostFeared)])
noncomputable def a_X10_safe : St wC (mi_X10_safe) 0 :=
  (sSeq (sIf (oNot (oCm0 .ne (eCal 183 ci_X2_lives rfl (aA1 (aA1 aA0 (eFld 10 5 (eLoc 0))) (eLoc 1))))) (sRet (eInt (-1))))
  (sSeq (sDo 258 ci_X2_copy rfl (aA1 (aA1 aA0 (eFld 10 6 (eLoc 0))) (eFld 10 5 (eLoc 0))))
  (sSeq (sBlk (sSeq (sSet 2 (eCal 172 ci_X2_get rfl (aA1 (aA1 (aA1 aA0 (eFld 10 5 (eLoc 0))) (eLoc 1)) (eInt 0))))
  (sWh (oCm0 .ge (eLoc 2)) (sSeq (sSeq (sDo 194 ci_X2_set rfl (aA1 (aA1 (aA1 (aA1 aA0 (eFld 10 6 (eLoc 0))) (eLoc 1)) (eInt 1)) (eLoc 2)))
  (sIf (oCmp .ne (eCal 267 ci_X2_mostFeared rfl (aA1 (aA1 aA0 (eFld 10 6 (eLoc 0))) (eCal 264 ci_X2_living rfl (aA1 aA0 (eFld 10 6 (eLoc 0)))))) (eLoc 1)) (sRet (eLoc 2))))
  (sInc 2 (-1))))))
  (sRet (eInt (-1))))))
def n_X10_safe : MN := (yX10_safe, cX10_safe, 3, (some .int), 4)
noncomputable def ci_X10_safe : CI := (1, 10, [2, 0], 0, denM 3 [2, 0] false a_X10_safe.1.1)
set_option maxRecDepth 100000 in
theorem m_X10_safe : MetD wC n_X10_safe ci_X10_safe := g_meth false (a_X10_safe) rxC_ok (by decide) rfl rfl rfl (by decide) (by decide) (Or.inl ⟨rfl, rfl⟩) (fun h => by cases h) (mkWords (fun _ h => absurd h List.not_mem_nil) (fun _ h => absurd h List.not_mem_nil) (fun _ h => absurd h List.not_mem_nil) (List.forall_mem_cons.mpr ⟨⟨_, _, _, rfl, by decide, Or.inl fw_X10_44⟩, List.forall_mem_cons.mpr ⟨⟨_, _, _, rfl, by decide, Or.inl fw_X10_48⟩, fun _ h => absurd h List.not_mem_nil⟩⟩) (fun _ h => absurd h List.not_mem_nil) (fun _ h => absurd h List.not_mem_nil)) (List.forall_mem_cons.mpr ⟨clV m_X2_get rfl rfl rfl (by decide) (Or.inl lw_X10_172) (kn_X2_get _) (by decide +kernel), List.forall_mem_cons.mpr ⟨clV m_X2_lives rfl rfl rfl (by decide) (Or.inl lw_X10_183) (kn_X2_lives _) (by decide +kernel), List.forall_mem_cons.mpr ⟨clV m_X2_set rfl rfl rfl (by decide) (Or.inl lw_X10_194) (kn_X2_set _) (by decide +kernel), List.forall_mem_cons.mpr ⟨clV m_X2_copy rfl rfl rfl (by decide) (Or.inl lw_X10_258) (kn_X2_copy _) (by decide +kernel), List.forall_mem_cons.mpr ⟨clV m_X2_living rfl rfl rfl (by decide) (Or.inl lw_X10_264) (kn_X2_living _) (by decide +kernel), List.forall_mem_cons.mpr ⟨clV m_X2_mostFeared rfl rfl rfl (by decide) (Or.inl lw_X10_267) (kn_X2_mostFeared _) (by decide +kernel), fun _ h => absurd h List.not_mem_nil⟩⟩⟩⟩⟩⟩) (by decide +kernel)
/-! BlackMill$Trail.stepAt(I)LBlackMill$House; -/
noncomputable def mi_X9_stepAt : MI := (cX9_stepAt, 2, RX9, [], [], [], [(11, 9, 0)], [], [], [])
noncomputable def a_X9_stepAt : St wC (mi_X9_stepAt) 2 :=
  (sRet (eCon (oAnd (oCm0 .ge (eLoc 1)) (oCmp .lt (eLoc 1) (eLen 2 (eFld 9 0 (eLoc 0))))) (eRo (eFld 9 0 (eLoc 0)) (eLoc 1)) eNll))
def n_X9_stepAt : MN := (yX9_stepAt, cX9_stepAt, 2, (some (.object "BlackMill$House")), 1)
noncomputable def ci_X9_stepAt : CI := (1, 9, [2, 0], 2, denM 2 [2, 0] false a_X9_stepAt.1.1)
set_option maxRecDepth 100000 in
theorem m_X9_stepAt : MetD wC n_X9_stepAt ci_X9_stepAt := g_meth false (a_X9_stepAt) rxC_ok (by decide) rfl rfl rfl (by decide) (by decide) (Or.inr (Or.inr (Or.inr (Or.inl ⟨rfl, _, rfl⟩)))) (fun h => by cases h) (mkWords (fun _ h => absurd h List.not_mem_nil) (fun _ h => absurd h List.not_mem_nil) (fun _ h => absurd h List.not_mem_nil) (List.forall_mem_cons.mpr ⟨⟨_, _, _, rfl, by decide, Or.inl fw_X9_11⟩, fun _ h => absurd h List.not_mem_nil⟩) (fun _ h => absurd h List.not_mem_nil) (fun _ h => absurd h List.not_mem_nil)) (fun _ h => absurd h List.not_mem_nil) (by decide +kernel)
/-! BlackMill$Trail.tread(IIIILBlackMill$Laws;)V -/
def ci_X9_tread (D : Nat → Den) : CI := (1, 9, [2, 0, 0, 0, 0, 2], 3, D 0)
noncomputable def mi_X9_tread (D : Nat → Den) : MI := (cX9_tread, 9, RX9, [], [], [], [(18, 9, 1), (22, 9, 2)], [], [], [(25, ci_X9_stepAt), (29, ci_X2_copy), (33, (ci_X9_tread D)), (37, ci_X2_get), (41, ci_X2_set), (45, ci_X2_pass), (49, ci_X2_lives)])
noncomputable def a_X9_tread (D : Nat → Den) : St wC (mi_X9_tread D) 3 :=
  (sSeq (sSeq (sSet 6 (eCal 25 ci_X9_stepAt rfl (aA1 (aA1 aA0 (eLoc 0)) (eLoc 2))))
  (sSeq (sSet 7 (eCal 25 ci_X9_stepAt rfl (aA1 (aA1 aA0 (eLoc 0)) (eBin 0 (eLoc 2) (eInt 1)))))
  (sSeq (sIf (oNul (eLoc 6)) sReV)
  (sSeq (sIf (oCmp .eq (eLoc 2) (eLoc 3)) (sSeq (sIf (oCmp .gt (eCal 37 ci_X2_get rfl (aA1 (aA1 (aA1 aA0 (eLoc 6)) (eLoc 1)) (eInt 0))) (eFld 9 2 (eLoc 0))) (sSeq (sPutF 9 2 (eLoc 0) (eCal 37 ci_X2_get rfl (aA1 (aA1 (aA1 aA0 (eLoc 6)) (eLoc 1)) (eInt 0))))
  (sPutF 9 1 (eLoc 0) (eLoc 4))))
  sReV))
  (sBlk (sSeq (sSet 8 (eInt 0))
  (sWh (oAnd (oCmp .le (eLoc 8) (eInt 2)) (oNot (oNul (eLoc 7)))) (sSeq (sSeq (sDo 29 ci_X2_copy rfl (aA1 (aA1 aA0 (eLoc 7)) (eLoc 6)))
  (sSeq (sDo 41 ci_X2_set rfl (aA1 (aA1 (aA1 (aA1 aA0 (eLoc 7)) (eLoc 1)) (eInt 1)) (eDiv 0 (eBin 2 (eCal 37 ci_X2_get rfl (aA1 (aA1 (aA1 aA0 (eLoc 7)) (eLoc 1)) (eInt 0))) (eLoc 8)) (eInt 2))))
  (sSeq (sDo 45 ci_X2_pass rfl (aA1 (aA1 aA0 (eLoc 7)) (eLoc 5)))
  (sIf (oCm0 .ne (eCal 49 ci_X2_lives rfl (aA1 (aA1 aA0 (eLoc 7)) (eLoc 1)))) (sDo 33 (ci_X9_tread D) rfl (aA1 (aA1 (aA1 (aA1 (aA1 (aA1 aA0 (eLoc 0)) (eLoc 1)) (eBin 0 (eLoc 2) (eInt 1))) (eLoc 3)) (eBin 0 (eBin 2 (eLoc 4) (eInt 10)) (eLoc 8))) (eLoc 5)))))))
  (sInc 8 1)))))))))
  sReV)
def n_X9_tread (h : Nat) : MN := (yX9_tread, cX9_tread, 9, none, h)
noncomputable def grp_X9_tread : Nat → Nat → Den
  | 0 => fun _ _ _ => none
  | d + 1 => fun k => match k with
    | 0 => denM 9 [2, 0, 0, 0, 0, 2] false (a_X9_tread (grp_X9_tread d)).1.1
    | _ => fun _ _ => none
set_option maxRecDepth 100000 in
theorem kc_X9_tread : ∀ d, d < 7 → chkM (a_X9_tread (grp_X9_tread d)).1.2 (layT 9 [2, 0, 0, 0, 0, 2]) = true := by decide +kernel
set_option maxRecDepth 100000 in
theorem m_grp_X9_tread : ∀ d : Nat, d ≤ 7 → MetD wC (n_X9_tread (6 + d)) (ci_X9_tread (grp_X9_tread d))
  | 0, _ => met_none (fun _ _ => rfl)
  | d + 1, h => by
    have ih := m_grp_X9_tread d (Nat.le_of_succ_le h)
    exact g_meth false (a_X9_tread (grp_X9_tread d)) rxC_ok pn_X9 rfl rfl rfl (Nat.le_add_left 1 _) (Nat.le_of_ble_eq_true rfl) (Or.inr (Or.inr (Or.inr (Or.inr ⟨rfl, rfl⟩)))) (fun h => by cases h) (mkWords (fun _ h => absurd h List.not_mem_nil) (fun _ h => absurd h List.not_mem_nil) (fun _ h => absurd h List.not_mem_nil) (List.forall_mem_cons.mpr ⟨⟨_, _, _, rfl, by decide, Or.inl fw_X9_18⟩, List.forall_mem_cons.mpr ⟨⟨_, _, _, rfl, by decide, Or.inl fw_X9_22⟩, fun _ h => absurd h List.not_mem_nil⟩⟩) (fun _ h => absurd h List.not_mem_nil) (fun _ h => absurd h List.not_mem_nil)) (List.forall_mem_cons.mpr ⟨clV m_X9_stepAt rfl rfl rfl (Nat.le_add_right_of_le (by decide)) (Or.inl lw_X9_25) (kn_X9_stepAt _) pd_X9_stepAt, List.forall_mem_cons.mpr ⟨clV m_X2_copy rfl rfl rfl (Nat.le_add_right_of_le (by decide)) (Or.inl lw_X9_29) (kn_X2_copy _) pd_X2_copy, List.forall_mem_cons.mpr ⟨clV ih rfl rfl rfl (Nat.le_refl _) (Or.inl lw_X9_33) (kn_X9_tread _) pd_X9_tread, List.forall_mem_cons.mpr ⟨clV m_X2_get rfl rfl rfl (Nat.le_add_right_of_le (by decide)) (Or.inl lw_X9_37) (kn_X2_get _) pd_X2_get, List.forall_mem_cons.mpr ⟨clV m_X2_set rfl rfl rfl (Nat.le_add_right_of_le (by decide)) (Or.inl lw_X9_41) (kn_X2_set _) pd_X2_set, List.forall_mem_cons.mpr ⟨clV m_X2_pass rfl rfl rfl (Nat.le_add_right_of_le (by decide)) (Or.inl lw_X9_45) (kn_X2_pass _) pd_X2_pass, List.forall_mem_cons.mpr ⟨clV m_X2_lives rfl rfl rfl (Nat.le_add_right_of_le (by decide)) (Or.inl lw_X9_49) (kn_X2_lives _) pd_X2_lives, fun _ h => absurd h List.not_mem_nil⟩⟩⟩⟩⟩⟩⟩) (kc_X9_tread d h)
/-! BlackMill$Trail.search(LBlackMill$House;IILBlackMill$Laws;)V -/
noncomputable def mi_X9_search : MI := (cX9_search, 6, RX9, [], [], [], [(18, 9, 1), (22, 9, 2)], [], [], [(25, ci_X9_stepAt), (29, ci_X2_copy), (33, (ci_X9_tread (grp_X9_tread 7)))])
noncomputable def a_X9_search : St wC (mi_X9_search) 3 :=
  (sSeq (sSeq (sPutF 9 1 (eLoc 0) (eInt (-1)))
  (sSeq (sPutF 9 2 (eLoc 0) (eInt (-1)))
  (sSeq (sSet 5 (eCal 25 ci_X9_stepAt rfl (aA1 (aA1 aA0 (eLoc 0)) (eInt 0))))
  (sIf (oNot (oNul (eLoc 5))) (sSeq (sDo 29 ci_X2_copy rfl (aA1 (aA1 aA0 (eLoc 5)) (eLoc 1)))
  (sDo 33 (ci_X9_tread (grp_X9_tread 7)) rfl (aA1 (aA1 (aA1 (aA1 (aA1 (aA1 aA0 (eLoc 0)) (eLoc 2)) (eInt 0)) (eLoc 3)) (eInt 0)) (eLoc 4))))))))
  sReV)
def n_X9_search : MN := (yX9_search, cX9_search, 6, none, 14)
noncomputable def ci_X9_search : CI := (1, 9, [2, 2, 0, 0, 2], 3, denM 6 [2, 2, 0, 0, 2] false a_X9_search.1.1)
set_option maxRecDepth 100000 in
theorem m_X9_search : MetD wC n_X9_search ci_X9_search := g_meth false (a_X9_search) rxC_ok (by decide) rfl rfl rfl (by decide) (by decide) (Or.inr (Or.inr (Or.inr (Or.inr ⟨rfl, rfl⟩)))) (fun h => by cases h) (mkWords (fun _ h => absurd h List.not_mem_nil) (fun _ h => absurd h List.not_mem_nil) (fun _ h => absurd h List.not_mem_nil) (List.forall_mem_cons.mpr ⟨⟨_, _, _, rfl, by decide, Or.inl fw_X9_18⟩, List.forall_mem_cons.mpr ⟨⟨_, _, _, rfl, by decide, Or.inl fw_X9_22⟩, fun _ h => absurd h List.not_mem_nil⟩⟩) (fun _ h => absurd h List.not_mem_nil) (fun _ h => absurd h List.not_mem_nil)) (List.forall_mem_cons.mpr ⟨clV m_X9_stepAt rfl rfl rfl (by decide) (Or.inl lw_X9_25) (kn_X9_stepAt _) (by decide +kernel), List.forall_mem_cons.mpr ⟨clV m_X2_copy rfl rfl rfl (by decide) (Or.inl lw_X9_29) (kn_X2_copy _) (by decide +kernel), List.forall_mem_cons.mpr ⟨clV (m_grp_X9_tread 7 (Nat.le_refl _)) rfl rfl rfl (by decide) (Or.inl lw_X9_33) (kn_X9_tread _) (by decide +kernel), fun _ h => absurd h List.not_mem_nil⟩⟩⟩) (by decide +kernel)
/-! BlackMill.path(III)I -/
noncomputable def mi_X10_path : MI := (cX10_path, 4, RX10, [], [], [], [(33, 10, 3), (44, 10, 5), (74, 10, 11), (277, 9, 1), (280, 9, 2)], [], [], [(183, ci_X2_lives), (273, ci_X9_search)])
noncomputable def a_X10_path : St wC (mi_X10_path) 0 :=
  (sSeq (sIf (oOr (oOr (oOr (oOr (oNot (oCm0 .ne (eCal 183 ci_X2_lives rfl (aA1 (aA1 aA0 (eFld 10 5 (eLoc 0))) (eLoc 1))))) (oCmp .lt (eLoc 2) (eInt 1))) (oCmp .gt (eLoc 2) (eInt 5))) (oCm0 .lt (eLoc 3))) (oCmp .gt (eLoc 3) (eInt 1))) (sRet (eInt (-1))))
  (sSeq (sDo 273 ci_X9_search rfl (aA1 (aA1 (aA1 (aA1 (aA1 aA0 (eFld 10 11 (eLoc 0))) (eFld 10 5 (eLoc 0))) (eLoc 1)) (eLoc 2)) (eFld 10 3 (eLoc 0))))
  (sRet (eCon (oCm0 .eq (eLoc 3)) (eFld 9 1 (eFld 10 11 (eLoc 0))) (eFld 9 2 (eFld 10 11 (eLoc 0)))))))
def n_X10_path : MN := (yX10_path, cX10_path, 4, (some .int), 15)
noncomputable def ci_X10_path : CI := (1, 10, [2, 0, 0, 0], 0, denM 4 [2, 0, 0, 0] false a_X10_path.1.1)
set_option maxRecDepth 100000 in
theorem m_X10_path : MetD wC n_X10_path ci_X10_path := g_meth false (a_X10_path) rxC_ok (by decide) rfl rfl rfl (by decide) (by decide) (Or.inl ⟨rfl, rfl⟩) (fun h => by cases h) (mkWords (fun _ h => absurd h List.not_mem_nil) (fun _ h => absurd h List.not_mem_nil) (fun _ h => absurd h List.not_mem_nil) (List.forall_mem_cons.mpr ⟨⟨_, _, _, rfl, by decide, Or.inl fw_X10_33⟩, List.forall_mem_cons.mpr ⟨⟨_, _, _, rfl, by decide, Or.inl fw_X10_44⟩, List.forall_mem_cons.mpr ⟨⟨_, _, _, rfl, by decide, Or.inl fw_X10_74⟩, List.forall_mem_cons.mpr ⟨⟨_, _, _, rfl, by decide, Or.inr fw_X10_277⟩, List.forall_mem_cons.mpr ⟨⟨_, _, _, rfl, by decide, Or.inr fw_X10_280⟩, fun _ h => absurd h List.not_mem_nil⟩⟩⟩⟩⟩) (fun _ h => absurd h List.not_mem_nil) (fun _ h => absurd h List.not_mem_nil)) (List.forall_mem_cons.mpr ⟨clV m_X2_lives rfl rfl rfl (by decide) (Or.inl lw_X10_183) (kn_X2_lives _) (by decide +kernel), List.forall_mem_cons.mpr ⟨clV m_X9_search rfl rfl rfl (by decide) (Or.inl lw_X10_273) (kn_X9_search _) (by decide +kernel), fun _ h => absurd h List.not_mem_nil⟩⟩) (by decide +kernel)
/-! BlackMill.holds(I)I -/
noncomputable def mi_X10_holds : MI := (cX10_holds, 3, RX10, [], [], [], [(33, 10, 3), (44, 10, 5), (48, 10, 6)], [], [], [(183, ci_X2_lives), (211, ci_X2_pass), (258, ci_X2_copy)])
noncomputable def a_X10_holds : St wC (mi_X10_holds) 0 :=
  (sSeq (sIf (oNot (oCm0 .ne (eCal 183 ci_X2_lives rfl (aA1 (aA1 aA0 (eFld 10 5 (eLoc 0))) (eLoc 1))))) (sRet (eInt (-1))))
  (sSeq (sDo 258 ci_X2_copy rfl (aA1 (aA1 aA0 (eFld 10 6 (eLoc 0))) (eFld 10 5 (eLoc 0))))
  (sSeq (sBlk (sSeq (sSet 2 (eInt 1))
  (sWh (oCmp .le (eLoc 2) (eInt 30)) (sSeq (sSeq (sDo 211 ci_X2_pass rfl (aA1 (aA1 aA0 (eFld 10 6 (eLoc 0))) (eFld 10 3 (eLoc 0))))
  (sIf (oNot (oCm0 .ne (eCal 183 ci_X2_lives rfl (aA1 (aA1 aA0 (eFld 10 6 (eLoc 0))) (eLoc 1))))) (sRet (eLoc 2))))
  (sInc 2 1)))))
  (sRet (eInt (-1))))))
def n_X10_holds : MN := (yX10_holds, cX10_holds, 3, (some .int), 6)
noncomputable def ci_X10_holds : CI := (1, 10, [2, 0], 0, denM 3 [2, 0] false a_X10_holds.1.1)
set_option maxRecDepth 100000 in
theorem m_X10_holds : MetD wC n_X10_holds ci_X10_holds := g_meth false (a_X10_holds) rxC_ok (by decide) rfl rfl rfl (by decide) (by decide) (Or.inl ⟨rfl, rfl⟩) (fun h => by cases h) (mkWords (fun _ h => absurd h List.not_mem_nil) (fun _ h => absurd h List.not_mem_nil) (fun _ h => absurd h List.not_mem_nil) (List.forall_mem_cons.mpr ⟨⟨_, _, _, rfl, by decide, Or.inl fw_X10_33⟩, List.forall_mem_cons.mpr ⟨⟨_, _, _, rfl, by decide, Or.inl fw_X10_44⟩, List.forall_mem_cons.mpr ⟨⟨_, _, _, rfl, by decide, Or.inl fw_X10_48⟩, fun _ h => absurd h List.not_mem_nil⟩⟩⟩) (fun _ h => absurd h List.not_mem_nil) (fun _ h => absurd h List.not_mem_nil)) (List.forall_mem_cons.mpr ⟨clV m_X2_lives rfl rfl rfl (by decide) (Or.inl lw_X10_183) (kn_X2_lives _) (by decide +kernel), List.forall_mem_cons.mpr ⟨clV m_X2_pass rfl rfl rfl (by decide) (Or.inl lw_X10_211) (kn_X2_pass _) (by decide +kernel), List.forall_mem_cons.mpr ⟨clV m_X2_copy rfl rfl rfl (by decide) (Or.inl lw_X10_258) (kn_X2_copy _) (by decide +kernel), fun _ h => absurd h List.not_mem_nil⟩⟩⟩) (by decide +kernel)
/-! BlackMill$House.lotsOfAll()I -/
noncomputable def mi_X2_lotsOfAll : MI := (cX2_lotsOfAll, 3, RX2, [], [], [], [(21, 2, 1)], [], [], [(63, ci_X2_lives), (100, ci_X2_fear)])
noncomputable def a_X2_lotsOfAll : St wC (mi_X2_lotsOfAll) 0 :=
  (sSeq (sSet 1 (eInt 0))
  (sSeq (sBlk (sSeq (sSet 2 (eInt 0))
  (sWh (oCmp .lt (eLoc 2) (eFld 2 1 (eLoc 0))) (sSeq (sIf (oCm0 .ne (eCal 63 ci_X2_lives rfl (aA1 (aA1 aA0 (eLoc 0)) (eLoc 2)))) (sSet 1 (eBin 0 (eLoc 1) (eBin 0 (eCal 100 ci_X2_fear rfl (aA1 (aA1 aA0 (eLoc 0)) (eLoc 2))) (eInt 1)))))
  (sInc 2 1)))))
  (sRet (eLoc 1))))
def n_X2_lotsOfAll : MN := (yX2_lotsOfAll, cX2_lotsOfAll, 3, (some .int), 3)
noncomputable def ci_X2_lotsOfAll : CI := (1, 2, [2], 0, denM 3 [2] false a_X2_lotsOfAll.1.1)
set_option maxRecDepth 100000 in
theorem m_X2_lotsOfAll : MetD wC n_X2_lotsOfAll ci_X2_lotsOfAll := g_meth false (a_X2_lotsOfAll) rxC_ok (by decide) rfl rfl rfl (by decide) (by decide) (Or.inl ⟨rfl, rfl⟩) (fun h => by cases h) (mkWords (fun _ h => absurd h List.not_mem_nil) (fun _ h => absurd h List.not_mem_nil) (fun _ h => absurd h List.not_mem_nil) (List.forall_mem_cons.mpr ⟨⟨_, _, _, rfl, by decide, Or.inl fw_X2_21⟩, fun _ h => absurd h List.not_mem_nil⟩) (fun _ h => absurd h List.not_mem_nil) (fun _ h => absurd h List.not_mem_nil)) (List.forall_mem_cons.mpr ⟨clV m_X2_lives rfl rfl rfl (by decide) (Or.inl lw_X2_63) (kn_X2_lives _) (by decide +kernel), List.forall_mem_cons.mpr ⟨clV m_X2_fear rfl rfl rfl (by decide) (Or.inl lw_X2_100) (kn_X2_fear _) (by decide +kernel), fun _ h => absurd h List.not_mem_nil⟩⟩) (by decide +kernel)
/-! BlackMill.odds(II)I -/
noncomputable def mi_X10_odds : MI := (cX10_odds, 10, RX10, [], [(286, 1000000000)], [], [(44, 10, 5)], [], [], [(166, ci_X2_fear), (183, ci_X2_lives), (283, ci_X2_lotsOfAll)])
noncomputable def a_X10_odds : St wC (mi_X10_odds) 0 :=
  (sSeq (sIf (oOr (oOr (oNot (oCm0 .ne (eCal 183 ci_X2_lives rfl (aA1 (aA1 aA0 (eFld 10 5 (eLoc 0))) (eLoc 1))))) (oCm0 .lt (eLoc 2))) (oCmp .gt (eLoc 2) (eInt 30))) (sRet (eInt (-1))))
  (sSeq (sSet 3 (eI2L (eBin 0 (eCal 166 ci_X2_fear rfl (aA1 (aA1 aA0 (eFld 10 5 (eLoc 0))) (eLoc 1))) (eInt 1))))
  (sSeq (sSet 5 (eI2L (eCal 283 ci_X2_lotsOfAll rfl (aA1 aA0 (eFld 10 5 (eLoc 0))))))
  (sSeq (sSet 7 (eLng 1000000000))
  (sSeq (sBlk (sSeq (sSet 9 (eInt 0))
  (sWh (oAnd (oCmp .lt (eLoc 9) (eLoc 2)) (oCmpL .gt (eLoc 5) (eLng 0))) (sSeq (sSet 7 (eBin 10 (eLoc 7) (eDiv 2 (eBin 11 (eLoc 7) (eLoc 3)) (eLoc 5))))
  (sInc 9 1)))))
  (sRet (eL2I (eLoc 7))))))))
def n_X10_odds : MN := (yX10_odds, cX10_odds, 10, (some .int), 4)
noncomputable def ci_X10_odds : CI := (1, 10, [2, 0, 0], 0, denM 10 [2, 0, 0] false a_X10_odds.1.1)
set_option maxRecDepth 100000 in
theorem m_X10_odds : MetD wC n_X10_odds ci_X10_odds := g_meth false (a_X10_odds) rxC_ok (by decide) rfl rfl rfl (by decide) (by decide) (Or.inl ⟨rfl, rfl⟩) (fun h => by cases h) (mkWords (fun _ h => absurd h List.not_mem_nil) (List.forall_mem_cons.mpr ⟨cw_X10_286, fun _ h => absurd h List.not_mem_nil⟩) (fun _ h => absurd h List.not_mem_nil) (List.forall_mem_cons.mpr ⟨⟨_, _, _, rfl, by decide, Or.inl fw_X10_44⟩, fun _ h => absurd h List.not_mem_nil⟩) (fun _ h => absurd h List.not_mem_nil) (fun _ h => absurd h List.not_mem_nil)) (List.forall_mem_cons.mpr ⟨clV m_X2_fear rfl rfl rfl (by decide) (Or.inl lw_X10_166) (kn_X2_fear _) (by decide +kernel), List.forall_mem_cons.mpr ⟨clV m_X2_lives rfl rfl rfl (by decide) (Or.inl lw_X10_183) (kn_X2_lives _) (by decide +kernel), List.forall_mem_cons.mpr ⟨clV m_X2_lotsOfAll rfl rfl rfl (by decide) (Or.inl lw_X10_283) (kn_X2_lotsOfAll _) (by decide +kernel), fun _ h => absurd h List.not_mem_nil⟩⟩⟩) (by decide +kernel)
/-! BlackMill.learns(I)I -/
noncomputable def mi_X10_learns : MI := (cX10_learns, 2, RX10, [], [], [], [(33, 10, 3), (44, 10, 5)], [], [], [(183, ci_X2_lives), (198, ci_X2_manyLive), (288, ci_X4_lessonOf)])
noncomputable def a_X10_learns : St wC (mi_X10_learns) 0 :=
  (sRet (eCon (oCm0 .ne (eCal 183 ci_X2_lives rfl (aA1 (aA1 aA0 (eFld 10 5 (eLoc 0))) (eLoc 1)))) (eCal 288 ci_X4_lessonOf rfl (aA1 (aA1 (aA1 (aA1 aA0 (eFld 10 3 (eLoc 0))) (eFld 10 5 (eLoc 0))) (eLoc 1)) (eCal 198 ci_X2_manyLive rfl (aA1 aA0 (eFld 10 5 (eLoc 0)))))) (eInt (-1))))
def n_X10_learns : MN := (yX10_learns, cX10_learns, 2, (some .int), 5)
noncomputable def ci_X10_learns : CI := (1, 10, [2, 0], 0, denM 2 [2, 0] false a_X10_learns.1.1)
set_option maxRecDepth 100000 in
theorem m_X10_learns : MetD wC n_X10_learns ci_X10_learns := g_meth false (a_X10_learns) rxC_ok (by decide) rfl rfl rfl (by decide) (by decide) (Or.inl ⟨rfl, rfl⟩) (fun h => by cases h) (mkWords (fun _ h => absurd h List.not_mem_nil) (fun _ h => absurd h List.not_mem_nil) (fun _ h => absurd h List.not_mem_nil) (List.forall_mem_cons.mpr ⟨⟨_, _, _, rfl, by decide, Or.inl fw_X10_33⟩, List.forall_mem_cons.mpr ⟨⟨_, _, _, rfl, by decide, Or.inl fw_X10_44⟩, fun _ h => absurd h List.not_mem_nil⟩⟩) (fun _ h => absurd h List.not_mem_nil) (fun _ h => absurd h List.not_mem_nil)) (List.forall_mem_cons.mpr ⟨clV m_X2_lives rfl rfl rfl (by decide) (Or.inl lw_X10_183) (kn_X2_lives _) (by decide +kernel), List.forall_mem_cons.mpr ⟨clV m_X2_manyLive rfl rfl rfl (by decide) (Or.inl lw_X10_198) (kn_X2_manyLive _) (by decide +kernel), List.forall_mem_cons.mpr ⟨clV m_X4_lessonOf rfl rfl rfl (by decide) (Or.inl lw_X10_288) (kn_X4_lessonOf _) (by decide +kernel), fun _ h => absurd h List.not_mem_nil⟩⟩⟩) (by decide +kernel)
/-! BlackMill$House.befriending(I)I -/
noncomputable def mi_X2_befriending : MI := (cX2_befriending, 4, RX2, [], [], [], [(21, 2, 1)], [], [], [(60, ci_X2_get)])
noncomputable def a_X2_befriending : St wC (mi_X2_befriending) 0 :=
  (sSeq (sSet 2 (eInt 0))
  (sSeq (sBlk (sSeq (sSet 3 (eInt 0))
  (sWh (oCmp .lt (eLoc 3) (eFld 2 1 (eLoc 0))) (sSeq (sIf (oCmp .eq (eCal 60 ci_X2_get rfl (aA1 (aA1 (aA1 aA0 (eLoc 0)) (eLoc 3)) (eInt 3))) (eLoc 1)) (sSet 2 (eBin 4 (eLoc 2) (eBin 6 (eInt 1) (eLoc 3)))))
  (sInc 3 1)))))
  (sRet (eLoc 2))))
def n_X2_befriending : MN := (yX2_befriending, cX2_befriending, 4, (some .int), 2)
noncomputable def ci_X2_befriending : CI := (1, 2, [2, 0], 0, denM 4 [2, 0] false a_X2_befriending.1.1)
set_option maxRecDepth 100000 in
theorem m_X2_befriending : MetD wC n_X2_befriending ci_X2_befriending := g_meth false (a_X2_befriending) rxC_ok (by decide) rfl rfl rfl (by decide) (by decide) (Or.inl ⟨rfl, rfl⟩) (fun h => by cases h) (mkWords (fun _ h => absurd h List.not_mem_nil) (fun _ h => absurd h List.not_mem_nil) (fun _ h => absurd h List.not_mem_nil) (List.forall_mem_cons.mpr ⟨⟨_, _, _, rfl, by decide, Or.inl fw_X2_21⟩, fun _ h => absurd h List.not_mem_nil⟩) (fun _ h => absurd h List.not_mem_nil) (fun _ h => absurd h List.not_mem_nil)) (List.forall_mem_cons.mpr ⟨clV m_X2_get rfl rfl rfl (by decide) (Or.inl lw_X2_60) (kn_X2_get _) (by decide +kernel), fun _ h => absurd h List.not_mem_nil⟩) (by decide +kernel)
/-! BlackMill$House.signs(I)I -/
noncomputable def mi_X2_signs : MI := (cX2_signs, 3, RX2, [], [], [], [], [], [], [(60, ci_X2_get), (63, ci_X2_lives), (66, ci_X2_living), (103, ci_X2_befriending)])
noncomputable def a_X2_signs : St wC (mi_X2_signs) 0 :=
  (sSeq (sSet 2 (eCon (oCmp .ge (eCal 60 ci_X2_get rfl (aA1 (aA1 (aA1 aA0 (eLoc 0)) (eLoc 1)) (eInt 0))) (eInt 20)) (eInt 1) (eInt 0)))
  (sSeq (sSet 2 (eBin 4 (eLoc 2) (eCon (oCmp .ge (eCal 60 ci_X2_get rfl (aA1 (aA1 (aA1 aA0 (eLoc 0)) (eLoc 1)) (eInt 1))) (eInt 10)) (eInt 2) (eInt 0))))
  (sSeq (sSet 2 (eBin 4 (eLoc 2) (eCon (oCmp .ge (eCal 60 ci_X2_get rfl (aA1 (aA1 (aA1 aA0 (eLoc 0)) (eLoc 1)) (eInt 4))) (eInt 20)) (eInt 4) (eInt 0))))
  (sSeq (sSet 2 (eBin 4 (eLoc 2) (eCon (oCm0 .gt (eCal 60 ci_X2_get rfl (aA1 (aA1 (aA1 aA0 (eLoc 0)) (eLoc 1)) (eInt 2)))) (eInt 8) (eInt 0))))
  (sSeq (sSet 2 (eBin 4 (eLoc 2) (eCon (oCm0 .ne (eCal 63 ci_X2_lives rfl (aA1 (aA1 aA0 (eLoc 0)) (eCal 60 ci_X2_get rfl (aA1 (aA1 (aA1 aA0 (eLoc 0)) (eLoc 1)) (eInt 3)))))) (eInt 16) (eInt 0))))
  (sSeq (sSet 2 (eBin 4 (eLoc 2) (eCon (oCm0 .ne (eBin 3 (eCal 103 ci_X2_befriending rfl (aA1 (aA1 aA0 (eLoc 0)) (eLoc 1))) (eCal 66 ci_X2_living rfl (aA1 aA0 (eLoc 0))))) (eInt 32) (eInt 0))))
  (sRet (eLoc 2))))))))
def n_X2_signs : MN := (yX2_signs, cX2_signs, 3, (some .int), 4)
noncomputable def ci_X2_signs : CI := (1, 2, [2, 0], 0, denM 3 [2, 0] false a_X2_signs.1.1)
set_option maxRecDepth 100000 in
theorem m_X2_signs : MetD wC n_X2_signs ci_X2_signs := g_meth false (a_X2_signs) rxC_ok (by decide) rfl rfl rfl (by decide) (by decide) (Or.inl ⟨rfl, rfl⟩) (fun h => by cases h) (mkWords (fun _ h => absurd h List.not_mem_nil) (fun _ h => absurd h List.not_mem_nil) (fun _ h => absurd h List.not_mem_nil) (fun _ h => absurd h List.not_mem_nil) (fun _ h => absurd h List.not_mem_nil) (fun _ h => absurd h List.not_mem_nil)) (List.forall_mem_cons.mpr ⟨clV m_X2_get rfl rfl rfl (by decide) (Or.inl lw_X2_60) (kn_X2_get _) (by decide +kernel), List.forall_mem_cons.mpr ⟨clV m_X2_lives rfl rfl rfl (by decide) (Or.inl lw_X2_63) (kn_X2_lives _) (by decide +kernel), List.forall_mem_cons.mpr ⟨clV m_X2_living rfl rfl rfl (by decide) (Or.inl lw_X2_66) (kn_X2_living _) (by decide +kernel), List.forall_mem_cons.mpr ⟨clV m_X2_befriending rfl rfl rfl (by decide) (Or.inl lw_X2_103) (kn_X2_befriending _) (by decide +kernel), fun _ h => absurd h List.not_mem_nil⟩⟩⟩⟩) (by decide +kernel)
/-! BlackMill$House.differsFromAll(II)Z -/
noncomputable def mi_X2_differsFromAll : MI := (cX2_differsFromAll, 5, RX2, [], [], [], [(21, 2, 1)], [], [], [(63, ci_X2_lives), (110, ci_X2_signs)])
noncomputable def a_X2_differsFromAll : St wC (mi_X2_differsFromAll) 0 :=
  (sSeq (sSet 3 (eCal 110 ci_X2_signs rfl (aA1 (aA1 aA0 (eLoc 0)) (eLoc 1))))
  (sSeq (sBlk (sSeq (sSet 4 (eInt 0))
  (sWh (oCmp .lt (eLoc 4) (eFld 2 1 (eLoc 0))) (sSeq (sIf (oAnd (oAnd (oCmp .ne (eLoc 4) (eLoc 1)) (oCm0 .ne (eCal 63 ci_X2_lives rfl (aA1 (aA1 aA0 (eLoc 0)) (eLoc 4))))) (oCm0 .eq (eBin 3 (eBin 5 (eLoc 3) (eCal 110 ci_X2_signs rfl (aA1 (aA1 aA0 (eLoc 0)) (eLoc 4)))) (eLoc 2)))) (sRet (eInt 0)))
  (sInc 4 1)))))
  (sRet (eInt 1))))
def n_X2_differsFromAll : MN := (yX2_differsFromAll, cX2_differsFromAll, 5, (some .boolean), 5)
noncomputable def ci_X2_differsFromAll : CI := (1, 2, [2, 0, 0], 0, denM 5 [2, 0, 0] true a_X2_differsFromAll.1.1)
set_option maxRecDepth 100000 in
theorem m_X2_differsFromAll : MetD wC n_X2_differsFromAll ci_X2_differsFromAll := g_meth true (a_X2_differsFromAll) rxC_ok (by decide) rfl rfl rfl (by decide) (by decide) (Or.inr (Or.inl ⟨rfl, rfl⟩)) (fun _ => rfl) (mkWords (fun _ h => absurd h List.not_mem_nil) (fun _ h => absurd h List.not_mem_nil) (fun _ h => absurd h List.not_mem_nil) (List.forall_mem_cons.mpr ⟨⟨_, _, _, rfl, by decide, Or.inl fw_X2_21⟩, fun _ h => absurd h List.not_mem_nil⟩) (fun _ h => absurd h List.not_mem_nil) (fun _ h => absurd h List.not_mem_nil)) (List.forall_mem_cons.mpr ⟨clV m_X2_lives rfl rfl rfl (by decide) (Or.inl lw_X2_63) (kn_X2_lives _) (by decide +kernel), List.forall_mem_cons.mpr ⟨clV m_X2_signs rfl rfl rfl (by decide) (Or.inl lw_X2_110) (kn_X2_signs _) (by decide +kernel), fun _ h => absurd h List.not_mem_nil⟩⟩) (by decide +kernel)
/-! BlackMill$House.tellingSigns(I)I -/
noncomputable def mi_X2_tellingSigns : MI := (cX2_tellingSigns, 5, RX2, [], [], [], [], [], [], [(70, ci_J6_bitCount_0f7a4C), (106, ci_X2_differsFromAll)])
noncomputable def a_X2_tellingSigns : St wC (mi_X2_tellingSigns) 0 :=
  (sSeq (sSet 2 (eInt (-1)))
  (sSeq (sBlk (sSeq (sSet 3 (eInt 0))
  (sWh (oCmp .lt (eLoc 3) (eInt 64)) (sSeq (sSeq (sSet 4 (eBo (oOr (oCmp .eq (eLoc 2) (eInt (-1))) (oCmp .lt (eCal 70 ci_J6_bitCount_0f7a4C rfl (aA1 aA0 (eLoc 3))) (eCal 70 ci_J6_bitCount_0f7a4C rfl (aA1 aA0 (eLoc 2)))))))
  (sIf (oAnd (oCm0 .ne (eLoc 4)) (oCm0 .ne (eCal 106 ci_X2_differsFromAll rfl (aA1 (aA1 (aA1 aA0 (eLoc 0)) (eLoc 1)) (eLoc 3))))) (sSet 2 (eLoc 3))))
  (sInc 3 1)))))
  (sRet (eLoc 2))))
def n_X2_tellingSigns : MN := (yX2_tellingSigns, cX2_tellingSigns, 5, (some .int), 6)
noncomputable def ci_X2_tellingSigns : CI := (1, 2, [2, 0], 0, denM 5 [2, 0] false a_X2_tellingSigns.1.1)
set_option maxRecDepth 100000 in
theorem m_X2_tellingSigns : MetD wC n_X2_tellingSigns ci_X2_tellingSigns := g_meth false (a_X2_tellingSigns) rxC_ok (by decide) rfl rfl rfl (by decide) (by decide) (Or.inl ⟨rfl, rfl⟩) (fun h => by cases h) (mkWords (fun _ h => absurd h List.not_mem_nil) (fun _ h => absurd h List.not_mem_nil) (fun _ h => absurd h List.not_mem_nil) (fun _ h => absurd h List.not_mem_nil) (fun _ h => absurd h List.not_mem_nil) (fun _ h => absurd h List.not_mem_nil)) (List.forall_mem_cons.mpr ⟨clS m_J6_bitCount_0f7a4C rfl (by decide) (Or.inl lw_X2_70) (kn_J6_bitCount_0f7a4 _) (by decide +kernel), List.forall_mem_cons.mpr ⟨clV m_X2_differsFromAll rfl rfl rfl (by decide) (Or.inl lw_X2_106) (kn_X2_differsFromAll _) (by decide +kernel), fun _ h => absurd h List.not_mem_nil⟩⟩) (by decide +kernel)
/-! BlackMill.tells(I)I -/
noncomputable def mi_X10_tells : MI := (cX10_tells, 2, RX10, [], [], [], [(44, 10, 5)], [], [], [(183, ci_X2_lives), (292, ci_X2_tellingSigns)])
noncomputable def a_X10_tells : St wC (mi_X10_tells) 0 :=
  (sRet (eCon (oCm0 .ne (eCal 183 ci_X2_lives rfl (aA1 (aA1 aA0 (eFld 10 5 (eLoc 0))) (eLoc 1)))) (eCal 292 ci_X2_tellingSigns rfl (aA1 (aA1 aA0 (eFld 10 5 (eLoc 0))) (eLoc 1))) (eInt (-1))))
def n_X10_tells : MN := (yX10_tells, cX10_tells, 2, (some .int), 7)
noncomputable def ci_X10_tells : CI := (1, 10, [2, 0], 0, denM 2 [2, 0] false a_X10_tells.1.1)
set_option maxRecDepth 100000 in
theorem m_X10_tells : MetD wC n_X10_tells ci_X10_tells := g_meth false (a_X10_tells) rxC_ok (by decide) rfl rfl rfl (by decide) (by decide) (Or.inl ⟨rfl, rfl⟩) (fun h => by cases h) (mkWords (fun _ h => absurd h List.not_mem_nil) (fun _ h => absurd h List.not_mem_nil) (fun _ h => absurd h List.not_mem_nil) (List.forall_mem_cons.mpr ⟨⟨_, _, _, rfl, by decide, Or.inl fw_X10_44⟩, fun _ h => absurd h List.not_mem_nil⟩) (fun _ h => absurd h List.not_mem_nil) (fun _ h => absurd h List.not_mem_nil)) (List.forall_mem_cons.mpr ⟨clV m_X2_lives rfl rfl rfl (by decide) (Or.inl lw_X10_183) (kn_X2_lives _) (by decide +kernel), List.forall_mem_cons.mpr ⟨clV m_X2_tellingSigns rfl rfl rfl (by decide) (Or.inl lw_X10_292) (kn_X2_tellingSigns _) (by decide +kernel), fun _ h => absurd h List.not_mem_nil⟩⟩) (by decide +kernel)
/-! BlackMill$House.areTwins(II)Z -/
noncomputable def mi_X2_areTwins : MI := (cX2_areTwins, 3, RX2, [], [], [], [], [], [], [(63, ci_X2_lives), (110, ci_X2_signs)])
noncomputable def a_X2_areTwins : St wC (mi_X2_areTwins) 0 :=
  (sRet (eBo (oAnd (oAnd (oCm0 .ne (eCal 63 ci_X2_lives rfl (aA1 (aA1 aA0 (eLoc 0)) (eLoc 1)))) (oCm0 .ne (eCal 63 ci_X2_lives rfl (aA1 (aA1 aA0 (eLoc 0)) (eLoc 2))))) (oCmp .eq (eCal 110 ci_X2_signs rfl (aA1 (aA1 aA0 (eLoc 0)) (eLoc 1))) (eCal 110 ci_X2_signs rfl (aA1 (aA1 aA0 (eLoc 0)) (eLoc 2)))))))
def n_X2_areTwins : MN := (yX2_areTwins, cX2_areTwins, 3, (some .boolean), 5)
noncomputable def ci_X2_areTwins : CI := (1, 2, [2, 0, 0], 0, denM 3 [2, 0, 0] true a_X2_areTwins.1.1)
set_option maxRecDepth 100000 in
theorem m_X2_areTwins : MetD wC n_X2_areTwins ci_X2_areTwins := g_meth true (a_X2_areTwins) rxC_ok (by decide) rfl rfl rfl (by decide) (by decide) (Or.inr (Or.inl ⟨rfl, rfl⟩)) (fun _ => rfl) (mkWords (fun _ h => absurd h List.not_mem_nil) (fun _ h => absurd h List.not_mem_nil) (fun _ h => absurd h List.not_mem_nil) (fun _ h => absurd h List.not_mem_nil) (fun _ h => absurd h List.not_mem_nil) (fun _ h => absurd h List.not_mem_nil)) (List.forall_mem_cons.mpr ⟨clV m_X2_lives rfl rfl rfl (by decide) (Or.inl lw_X2_63) (kn_X2_lives _) (by decide +kernel), List.forall_mem_cons.mpr ⟨clV m_X2_signs rfl rfl rfl (by decide) (Or.inl lw_X2_110) (kn_X2_signs _) (by decide +kernel), fun _ h => absurd h List.not_mem_nil⟩⟩) (by decide +kernel)
/-! BlackMill.twins(I)I -/
noncomputable def mi_X10_twins : MI := (cX10_twins, 5, RX10, [], [], [], [(44, 10, 5), (118, 2, 1)], [], [], [(151, ci_X10_isTold), (295, ci_X2_areTwins)])
noncomputable def a_X10_twins : St wC (mi_X10_twins) 0 :=
  (sSeq (sIf (oOr (oNot (oCm0 .ne (eCal 151 ci_X10_isTold rfl (aA1 aA0 (eLoc 0))))) (oCmp .lt (eLoc 1) (eInt (-1)))) (sRet (eInt (-1))))
  (sSeq (sSet 2 (eInt 0))
  (sSeq (sBlk (sSeq (sSet 3 (eInt 0))
  (sWh (oCmp .lt (eLoc 3) (eFld 2 1 (eFld 10 5 (eLoc 0)))) (sSeq (sBlk (sSeq (sSet 4 (eBin 0 (eLoc 3) (eInt 1)))
  (sWh (oCmp .lt (eLoc 4) (eFld 2 1 (eFld 10 5 (eLoc 0)))) (sSeq (sIf (oCm0 .ne (eCal 295 ci_X2_areTwins rfl (aA1 (aA1 (aA1 aA0 (eFld 10 5 (eLoc 0))) (eLoc 3)) (eLoc 4)))) (sSeq (sIf (oCmp .eq (eLoc 2) (eLoc 1)) (sRet (eBin 0 (eBin 2 (eLoc 3) (eInt 10)) (eLoc 4))))
  (sInc 2 1)))
  (sInc 4 1)))))
  (sInc 3 1)))))
  (sRet (eCon (oCmp .eq (eLoc 1) (eInt (-1))) (eLoc 2) (eInt (-1)))))))
def n_X10_twins : MN := (yX10_twins, cX10_twins, 5, (some .int), 6)
noncomputable def ci_X10_twins : CI := (1, 10, [2, 0], 0, denM 5 [2, 0] false a_X10_twins.1.1)
set_option maxRecDepth 100000 in
theorem m_X10_twins : MetD wC n_X10_twins ci_X10_twins := g_meth false (a_X10_twins) rxC_ok (by decide) rfl rfl rfl (by decide) (by decide) (Or.inl ⟨rfl, rfl⟩) (fun h => by cases h) (mkWords (fun _ h => absurd h List.not_mem_nil) (fun _ h => absurd h List.not_mem_nil) (fun _ h => absurd h List.not_mem_nil) (List.forall_mem_cons.mpr ⟨⟨_, _, _, rfl, by decide, Or.inl fw_X10_44⟩, List.forall_mem_cons.mpr ⟨⟨_, _, _, rfl, by decide, Or.inr fw_X10_118⟩, fun _ h => absurd h List.not_mem_nil⟩⟩) (fun _ h => absurd h List.not_mem_nil) (fun _ h => absurd h List.not_mem_nil)) (List.forall_mem_cons.mpr ⟨clV m_X10_isTold rfl rfl rfl (by decide) (Or.inl lw_X10_151) (kn_X10_isTold _) (by decide +kernel), List.forall_mem_cons.mpr ⟨clV m_X2_areTwins rfl rfl rfl (by decide) (Or.inl lw_X10_295) (kn_X2_areTwins _) (by decide +kernel), fun _ h => absurd h List.not_mem_nil⟩⟩) (by decide +kernel)
/-! BlackMill$House.stepsBetween(II)I -/
noncomputable def mi_X2_stepsBetween : MI := (cX2_stepsBetween, 5, RX2, [], [], [], [(21, 2, 1)], [], [], [(60, ci_X2_get), (63, ci_X2_lives)])
noncomputable def a_X2_stepsBetween : St wC (mi_X2_stepsBetween) 0 :=
  (sSeq (sSet 3 (eLoc 1))
  (sSeq (sBlk (sSeq (sSet 4 (eInt 0))
  (sWh (oAnd (oCmp .lt (eLoc 4) (eFld 2 1 (eLoc 0))) (oCm0 .ne (eCal 63 ci_X2_lives rfl (aA1 (aA1 aA0 (eLoc 0)) (eLoc 3))))) (sSeq (sSeq (sIf (oCmp .eq (eLoc 3) (eLoc 2)) (sRet (eLoc 4)))
  (sSet 3 (eCal 60 ci_X2_get rfl (aA1 (aA1 (aA1 aA0 (eLoc 0)) (eLoc 3)) (eInt 3)))))
  (sInc 4 1)))))
  (sRet (eInt (-1)))))
def n_X2_stepsBetween : MN := (yX2_stepsBetween, cX2_stepsBetween, 5, (some .int), 3)
noncomputable def ci_X2_stepsBetween : CI := (1, 2, [2, 0, 0], 0, denM 5 [2, 0, 0] false a_X2_stepsBetween.1.1)
set_option maxRecDepth 100000 in
theorem m_X2_stepsBetween : MetD wC n_X2_stepsBetween ci_X2_stepsBetween := g_meth false (a_X2_stepsBetween) rxC_ok (by decide) rfl rfl rfl (by decide) (by decide) (Or.inl ⟨rfl, rfl⟩) (fun h => by cases h) (mkWords (fun _ h => absurd h List.not_mem_nil) (fun _ h => absurd h List.not_mem_nil) (fun _ h => absurd h List.not_mem_nil) (List.forall_mem_cons.mpr ⟨⟨_, _, _, rfl, by decide, Or.inl fw_X2_21⟩, fun _ h => absurd h List.not_mem_nil⟩) (fun _ h => absurd h List.not_mem_nil) (fun _ h => absurd h List.not_mem_nil)) (List.forall_mem_cons.mpr ⟨clV m_X2_get rfl rfl rfl (by decide) (Or.inl lw_X2_60) (kn_X2_get _) (by decide +kernel), List.forall_mem_cons.mpr ⟨clV m_X2_lives rfl rfl rfl (by decide) (Or.inl lw_X2_63) (kn_X2_lives _) (by decide +kernel), fun _ h => absurd h List.not_mem_nil⟩⟩) (by decide +kernel)
/-! BlackMill.chain(II)I -/
noncomputable def mi_X10_chain : MI := (cX10_chain, 3, RX10, [], [], [], [(44, 10, 5)], [], [], [(183, ci_X2_lives), (299, ci_X2_stepsBetween)])
noncomputable def a_X10_chain : St wC (mi_X10_chain) 0 :=
  (sRet (eCon (oAnd (oCm0 .ne (eCal 183 ci_X2_lives rfl (aA1 (aA1 aA0 (eFld 10 5 (eLoc 0))) (eLoc 1)))) (oCm0 .ne (eCal 183 ci_X2_lives rfl (aA1 (aA1 aA0 (eFld 10 5 (eLoc 0))) (eLoc 2))))) (eCal 299 ci_X2_stepsBetween rfl (aA1 (aA1 (aA1 aA0 (eFld 10 5 (eLoc 0))) (eLoc 1)) (eLoc 2))) (eInt (-1))))
def n_X10_chain : MN := (yX10_chain, cX10_chain, 3, (some .int), 4)
noncomputable def ci_X10_chain : CI := (1, 10, [2, 0, 0], 0, denM 3 [2, 0, 0] false a_X10_chain.1.1)
set_option maxRecDepth 100000 in
theorem m_X10_chain : MetD wC n_X10_chain ci_X10_chain := g_meth false (a_X10_chain) rxC_ok (by decide) rfl rfl rfl (by decide) (by decide) (Or.inl ⟨rfl, rfl⟩) (fun h => by cases h) (mkWords (fun _ h => absurd h List.not_mem_nil) (fun _ h => absurd h List.not_mem_nil) (fun _ h => absurd h List.not_mem_nil) (List.forall_mem_cons.mpr ⟨⟨_, _, _, rfl, by decide, Or.inl fw_X10_44⟩, fun _ h => absurd h List.not_mem_nil⟩) (fun _ h => absurd h List.not_mem_nil) (fun _ h => absurd h List.not_mem_nil)) (List.forall_mem_cons.mpr ⟨clV m_X2_lives rfl rfl rfl (by decide) (Or.inl lw_X10_183) (kn_X2_lives _) (by decide +kernel), List.forall_mem_cons.mpr ⟨clV m_X2_stepsBetween rfl rfl rfl (by decide) (Or.inl lw_X10_299) (kn_X2_stepsBetween _) (by decide +kernel), fun _ h => absurd h List.not_mem_nil⟩⟩) (by decide +kernel)
/-! BlackMill$House.trusted(I)I -/
noncomputable def mi_X2_trusted : MI := (cX2_trusted, 5, RX2, [], [], [], [(21, 2, 1)], [], [], [(60, ci_X2_get), (63, ci_X2_lives)])
noncomputable def a_X2_trusted : St wC (mi_X2_trusted) 0 :=
  (sSeq (sSet 2 (eBin 6 (eInt 1) (eLoc 1)))
  (sSeq (sSet 3 (eCal 60 ci_X2_get rfl (aA1 (aA1 (aA1 aA0 (eLoc 0)) (eLoc 1)) (eInt 3))))
  (sSeq (sBlk (sSeq (sSet 4 (eInt 0))
  (sWh (oAnd (oAnd (oCmp .lt (eLoc 4) (eFld 2 1 (eLoc 0))) (oCm0 .ne (eCal 63 ci_X2_lives rfl (aA1 (aA1 aA0 (eLoc 0)) (eLoc 3))))) (oCmp .ne (eCal 60 ci_X2_get rfl (aA1 (aA1 (aA1 aA0 (eLoc 0)) (eLoc 3)) (eInt 2))) (eInt 3))) (sSeq (sSeq (sSet 2 (eBin 4 (eLoc 2) (eBin 6 (eInt 1) (eLoc 3))))
  (sSet 3 (eCal 60 ci_X2_get rfl (aA1 (aA1 (aA1 aA0 (eLoc 0)) (eLoc 3)) (eInt 3)))))
  (sInc 4 1)))))
  (sRet (eLoc 2)))))
def n_X2_trusted : MN := (yX2_trusted, cX2_trusted, 5, (some .int), 3)
noncomputable def ci_X2_trusted : CI := (1, 2, [2, 0], 0, denM 5 [2, 0] false a_X2_trusted.1.1)
set_option maxRecDepth 100000 in
theorem m_X2_trusted : MetD wC n_X2_trusted ci_X2_trusted := g_meth false (a_X2_trusted) rxC_ok (by decide) rfl rfl rfl (by decide) (by decide) (Or.inl ⟨rfl, rfl⟩) (fun h => by cases h) (mkWords (fun _ h => absurd h List.not_mem_nil) (fun _ h => absurd h List.not_mem_nil) (fun _ h => absurd h List.not_mem_nil) (List.forall_mem_cons.mpr ⟨⟨_, _, _, rfl, by decide, Or.inl fw_X2_21⟩, fun _ h => absurd h List.not_mem_nil⟩) (fun _ h => absurd h List.not_mem_nil) (fun _ h => absurd h List.not_mem_nil)) (List.forall_mem_cons.mpr ⟨clV m_X2_get rfl rfl rfl (by decide) (Or.inl lw_X2_60) (kn_X2_get _) (by decide +kernel), List.forall_mem_cons.mpr ⟨clV m_X2_lives rfl rfl rfl (by decide) (Or.inl lw_X2_63) (kn_X2_lives _) (by decide +kernel), fun _ h => absurd h List.not_mem_nil⟩⟩) (by decide +kernel)
/-! BlackMill.trusts(I)I -/
noncomputable def mi_X10_trusts : MI := (cX10_trusts, 2, RX10, [], [], [], [(44, 10, 5)], [], [], [(183, ci_X2_lives), (302, ci_X2_trusted)])
noncomputable def a_X10_trusts : St wC (mi_X10_trusts) 0 :=
  (sRet (eCon (oCm0 .ne (eCal 183 ci_X2_lives rfl (aA1 (aA1 aA0 (eFld 10 5 (eLoc 0))) (eLoc 1)))) (eCal 302 ci_X2_trusted rfl (aA1 (aA1 aA0 (eFld 10 5 (eLoc 0))) (eLoc 1))) (eInt (-1))))
def n_X10_trusts : MN := (yX10_trusts, cX10_trusts, 2, (some .int), 4)
noncomputable def ci_X10_trusts : CI := (1, 10, [2, 0], 0, denM 2 [2, 0] false a_X10_trusts.1.1)
set_option maxRecDepth 100000 in
theorem m_X10_trusts : MetD wC n_X10_trusts ci_X10_trusts := g_meth false (a_X10_trusts) rxC_ok (by decide) rfl rfl rfl (by decide) (by decide) (Or.inl ⟨rfl, rfl⟩) (fun h => by cases h) (mkWords (fun _ h => absurd h List.not_mem_nil) (fun _ h => absurd h List.not_mem_nil) (fun _ h => absurd h List.not_mem_nil) (List.forall_mem_cons.mpr ⟨⟨_, _, _, rfl, by decide, Or.inl fw_X10_44⟩, fun _ h => absurd h List.not_mem_nil⟩) (fun _ h => absurd h List.not_mem_nil) (fun _ h => absurd h List.not_mem_nil)) (List.forall_mem_cons.mpr ⟨clV m_X2_lives rfl rfl rfl (by decide) (Or.inl lw_X10_183) (kn_X2_lives _) (by decide +kernel), List.forall_mem_cons.mpr ⟨clV m_X2_trusted rfl rfl rfl (by decide) (Or.inl lw_X10_302) (kn_X2_trusted _) (by decide +kernel), fun _ h => absurd h List.not_mem_nil⟩⟩) (by decide +kernel)
/-! BlackMill.friends(I)I -/
noncomputable def mi_X10_friends : MI := (cX10_friends, 2, RX10, [], [], [], [(44, 10, 5)], [], [], [(155, ci_X2_has), (305, ci_X2_befriending)])
noncomputable def a_X10_friends : St wC (mi_X10_friends) 0 :=
  (sRet (eCon (oCm0 .ne (eCal 155 ci_X2_has rfl (aA1 (aA1 aA0 (eFld 10 5 (eLoc 0))) (eLoc 1)))) (eCal 305 ci_X2_befriending rfl (aA1 (aA1 aA0 (eFld 10 5 (eLoc 0))) (eLoc 1))) (eInt (-1))))
def n_X10_friends : MN := (yX10_friends, cX10_friends, 2, (some .int), 3)
noncomputable def ci_X10_friends : CI := (1, 10, [2, 0], 0, denM 2 [2, 0] false a_X10_friends.1.1)
set_option maxRecDepth 100000 in
theorem m_X10_friends : MetD wC n_X10_friends ci_X10_friends := g_meth false (a_X10_friends) rxC_ok (by decide) rfl rfl rfl (by decide) (by decide) (Or.inl ⟨rfl, rfl⟩) (fun h => by cases h) (mkWords (fun _ h => absurd h List.not_mem_nil) (fun _ h => absurd h List.not_mem_nil) (fun _ h => absurd h List.not_mem_nil) (List.forall_mem_cons.mpr ⟨⟨_, _, _, rfl, by decide, Or.inl fw_X10_44⟩, fun _ h => absurd h List.not_mem_nil⟩) (fun _ h => absurd h List.not_mem_nil) (fun _ h => absurd h List.not_mem_nil)) (List.forall_mem_cons.mpr ⟨clV m_X2_has rfl rfl rfl (by decide) (Or.inl lw_X10_155) (kn_X2_has _) (by decide +kernel), List.forall_mem_cons.mpr ⟨clV m_X2_befriending rfl rfl rfl (by decide) (Or.inl lw_X10_305) (kn_X2_befriending _) (by decide +kernel), fun _ h => absurd h List.not_mem_nil⟩⟩) (by decide +kernel)
/-! BlackMill$Clues.addSecret(IZ)I -/
noncomputable def mi_X1_addSecret : MI := (cX1_addSecret, 3, RX1, [], [], [], [(11, 1, 0), (15, 1, 1), (28, 1, 5)], [], [], [(35, ci_X10_put)])
noncomputable def a_X1_addSecret : St wC (mi_X1_addSecret) 0 :=
  (sSeq (sIf (oOr (oCm0 .lt (eFld 1 5 (eLoc 0))) (oCmp .ge (eFld 1 5 (eLoc 0)) (eLen 1 (eFld 1 1 (eLoc 0))))) (sRet (eInt (-1))))
  (sSeq (sDo 35 ci_X10_put rfl (aA1 (aA1 (aA1 aA0 (eFld 1 0 (eLoc 0))) (eFld 1 5 (eLoc 0))) (eLoc 1)))
  (sSeq (sPutA 1 (eFld 1 1 (eLoc 0)) (eFld 1 5 (eLoc 0)) (eLoc 2))
  (sSeq (sUpdF 0 1 5 (eLoc 0) (eInt 1))
  (sRet (eFld 1 5 (eLoc 0)))))))
def n_X1_addSecret : MN := (yX1_addSecret, cX1_addSecret, 3, (some .int), 2)
noncomputable def ci_X1_addSecret : CI := (1, 1, [2, 0, 0], 0, denM 3 [2, 0, 0] false a_X1_addSecret.1.1)
set_option maxRecDepth 100000 in
theorem m_X1_addSecret : MetD wC n_X1_addSecret ci_X1_addSecret := g_meth false (a_X1_addSecret) rxC_ok (by decide) rfl rfl rfl (by decide) (by decide) (Or.inl ⟨rfl, rfl⟩) (fun h => by cases h) (mkWords (fun _ h => absurd h List.not_mem_nil) (fun _ h => absurd h List.not_mem_nil) (fun _ h => absurd h List.not_mem_nil) (List.forall_mem_cons.mpr ⟨⟨_, _, _, rfl, by decide, Or.inl fw_X1_11⟩, List.forall_mem_cons.mpr ⟨⟨_, _, _, rfl, by decide, Or.inl fw_X1_15⟩, List.forall_mem_cons.mpr ⟨⟨_, _, _, rfl, by decide, Or.inl fw_X1_28⟩, fun _ h => absurd h List.not_mem_nil⟩⟩⟩) (fun _ h => absurd h List.not_mem_nil) (fun _ h => absurd h List.not_mem_nil)) (List.forall_mem_cons.mpr ⟨clS m_X10_put rfl (by decide) (Or.inr lw_X1_35) (kn_X10_put _) (by decide +kernel), fun _ h => absurd h List.not_mem_nil⟩) (by decide +kernel)
/-! BlackMill.out(IZ)I -/
noncomputable def mi_X10_out : MI := (cX10_out, 3, RX10, [], [], [], [(44, 10, 5), (88, 10, 13), (118, 2, 1)], [], [], [(308, ci_X1_addSecret)])
noncomputable def a_X10_out : St wC (mi_X10_out) 0 :=
  (sRet (eCon (oAnd (oCm0 .gt (eLoc 1)) (oCmp .lt (eLoc 1) (eBin 6 (eInt 1) (eFld 2 1 (eFld 10 5 (eLoc 0)))))) (eCal 308 ci_X1_addSecret rfl (aA1 (aA1 (aA1 aA0 (eFld 10 13 (eLoc 0))) (eLoc 1)) (eLoc 2))) (eInt (-1))))
def n_X10_out : MN := (yX10_out, cX10_out, 3, (some .int), 3)
noncomputable def ci_X10_out : CI := (1, 10, [2, 0, 0], 0, denM 3 [2, 0, 0] false a_X10_out.1.1)
set_option maxRecDepth 100000 in
theorem m_X10_out : MetD wC n_X10_out ci_X10_out := g_meth false (a_X10_out) rxC_ok (by decide) rfl rfl rfl (by decide) (by decide) (Or.inl ⟨rfl, rfl⟩) (fun h => by cases h) (mkWords (fun _ h => absurd h List.not_mem_nil) (fun _ h => absurd h List.not_mem_nil) (fun _ h => absurd h List.not_mem_nil) (List.forall_mem_cons.mpr ⟨⟨_, _, _, rfl, by decide, Or.inl fw_X10_44⟩, List.forall_mem_cons.mpr ⟨⟨_, _, _, rfl, by decide, Or.inl fw_X10_88⟩, List.forall_mem_cons.mpr ⟨⟨_, _, _, rfl, by decide, Or.inr fw_X10_118⟩, fun _ h => absurd h List.not_mem_nil⟩⟩⟩) (fun _ h => absurd h List.not_mem_nil) (fun _ h => absurd h List.not_mem_nil)) (List.forall_mem_cons.mpr ⟨clV m_X1_addSecret rfl rfl rfl (by decide) (Or.inl lw_X10_308) (kn_X1_addSecret _) (by decide +kernel), fun _ h => absurd h List.not_mem_nil⟩) (by decide +kernel)
/-! BlackMill.asksForSpies(I)Z -/
noncomputable def mi_X10_asksForSpies : MI := (cX10_asksForSpies, 2, RX10, [], [], [], [], [], [], [(151, ci_X10_isTold)])
noncomputable def a_X10_asksForSpies : St wC (mi_X10_asksForSpies) 0 :=
  (sRet (eBo (oAnd (oAnd (oCm0 .ne (eCal 151 ci_X10_isTold rfl (aA1 aA0 (eLoc 0)))) (oCmp .ge (eLoc 1) (eInt 1))) (oCmp .le (eLoc 1) (eInt 3)))))
def n_X10_asksForSpies : MN := (yX10_asksForSpies, cX10_asksForSpies, 2, (some .boolean), 2)
noncomputable def ci_X10_asksForSpies : CI := (1, 10, [2, 0], 0, denM 2 [2, 0] true a_X10_asksForSpies.1.1)
set_option maxRecDepth 100000 in
theorem m_X10_asksForSpies : MetD wC n_X10_asksForSpies ci_X10_asksForSpies := g_meth true (a_X10_asksForSpies) rxC_ok (by decide) rfl rfl rfl (by decide) (by decide) (Or.inr (Or.inl ⟨rfl, rfl⟩)) (fun _ => rfl) (mkWords (fun _ h => absurd h List.not_mem_nil) (fun _ h => absurd h List.not_mem_nil) (fun _ h => absurd h List.not_mem_nil) (fun _ h => absurd h List.not_mem_nil) (fun _ h => absurd h List.not_mem_nil) (fun _ h => absurd h List.not_mem_nil)) (List.forall_mem_cons.mpr ⟨clV m_X10_isTold rfl rfl rfl (by decide) (Or.inl lw_X10_151) (kn_X10_isTold _) (by decide +kernel), fun _ h => absurd h List.not_mem_nil⟩) (by decide +kernel)
/-! BlackMill$Clues.fits(I)Z -/
noncomputable def mi_X1_fits : MI := (cX1_fits, 3, RX1, [], [], [], [(11, 1, 0), (15, 1, 1), (28, 1, 5)], [], [], [(39, ci_X10_at)])
noncomputable def a_X1_fits : St wC (mi_X1_fits) 0 :=
  (sSeq (sBlk (sSeq (sSet 2 (eInt 0))
  (sWh (oAnd (oCmp .lt (eLoc 2) (eFld 1 5 (eLoc 0))) (oCmp .lt (eLoc 2) (eLen 1 (eFld 1 1 (eLoc 0))))) (sSeq (sIf (oCmp .ne (eBo (oCm0 .ne (eBin 3 (eCal 39 ci_X10_at rfl (aA1 (aA1 aA0 (eFld 1 0 (eLoc 0))) (eLoc 2))) (eLoc 1)))) (eAr 1 (eFld 1 1 (eLoc 0)) (eLoc 2))) (sRet (eInt 0)))
  (sInc 2 1)))))
  (sRet (eInt 1)))
def n_X1_fits : MN := (yX1_fits, cX1_fits, 3, (some .boolean), 2)
noncomputable def ci_X1_fits : CI := (1, 1, [2, 0], 0, denM 3 [2, 0] true a_X1_fits.1.1)
set_option maxRecDepth 100000 in
theorem m_X1_fits : MetD wC n_X1_fits ci_X1_fits := g_meth true (a_X1_fits) rxC_ok (by decide) rfl rfl rfl (by decide) (by decide) (Or.inr (Or.inl ⟨rfl, rfl⟩)) (fun _ => rfl) (mkWords (fun _ h => absurd h List.not_mem_nil) (fun _ h => absurd h List.not_mem_nil) (fun _ h => absurd h List.not_mem_nil) (List.forall_mem_cons.mpr ⟨⟨_, _, _, rfl, by decide, Or.inl fw_X1_11⟩, List.forall_mem_cons.mpr ⟨⟨_, _, _, rfl, by decide, Or.inl fw_X1_15⟩, List.forall_mem_cons.mpr ⟨⟨_, _, _, rfl, by decide, Or.inl fw_X1_28⟩, fun _ h => absurd h List.not_mem_nil⟩⟩⟩) (fun _ h => absurd h List.not_mem_nil) (fun _ h => absurd h List.not_mem_nil)) (List.forall_mem_cons.mpr ⟨clS m_X10_at rfl (by decide) (Or.inr lw_X1_39) (kn_X10_at _) (by decide +kernel), fun _ h => absurd h List.not_mem_nil⟩) (by decide +kernel)
/-! BlackMill$Clues.fits(II)Z -/
noncomputable def mi_X1_fits_ : MI := (cX1_fits_, 3, RX1, [], [], [], [], [], [], [(43, ci_J6_bitCount_0f7a4C), (49, ci_X1_fits)])
noncomputable def a_X1_fits_ : St wC (mi_X1_fits_) 0 :=
  (sRet (eBo (oAnd (oCmp .eq (eCal 43 ci_J6_bitCount_0f7a4C rfl (aA1 aA0 (eLoc 1))) (eLoc 2)) (oCm0 .ne (eCal 49 ci_X1_fits rfl (aA1 (aA1 aA0 (eLoc 0)) (eLoc 1)))))))
def n_X1_fits_ : MN := (yX1_fits_, cX1_fits_, 3, (some .boolean), 3)
noncomputable def ci_X1_fits_ : CI := (1, 1, [2, 0, 0], 0, denM 3 [2, 0, 0] true a_X1_fits_.1.1)
set_option maxRecDepth 100000 in
theorem m_X1_fits_ : MetD wC n_X1_fits_ ci_X1_fits_ := g_meth true (a_X1_fits_) rxC_ok (by decide) rfl rfl rfl (by decide) (by decide) (Or.inr (Or.inl ⟨rfl, rfl⟩)) (fun _ => rfl) (mkWords (fun _ h => absurd h List.not_mem_nil) (fun _ h => absurd h List.not_mem_nil) (fun _ h => absurd h List.not_mem_nil) (fun _ h => absurd h List.not_mem_nil) (fun _ h => absurd h List.not_mem_nil) (fun _ h => absurd h List.not_mem_nil)) (List.forall_mem_cons.mpr ⟨clS m_J6_bitCount_0f7a4C rfl (by decide) (Or.inl lw_X1_43) (kn_J6_bitCount_0f7a4 _) (by decide +kernel), List.forall_mem_cons.mpr ⟨clV m_X1_fits rfl rfl rfl (by decide) (Or.inl lw_X1_49) (kn_X1_fits _) (by decide +kernel), fun _ h => absurd h List.not_mem_nil⟩⟩) (by decide +kernel)
/-! BlackMill$Clues.manyFitting(II)I -/
noncomputable def mi_X1_manyFitting : MI := (cX1_manyFitting, 5, RX1, [], [], [], [], [], [], [(53, ci_X1_fits_)])
noncomputable def a_X1_manyFitting : St wC (mi_X1_manyFitting) 0 :=
  (sSeq (sSet 3 (eInt 0))
  (sSeq (sBlk (sSeq (sSet 4 (eInt 1))
  (sWh (oCmp .lt (eLoc 4) (eBin 6 (eInt 1) (eLoc 2))) (sSeq (sIf (oCm0 .ne (eCal 53 ci_X1_fits_ rfl (aA1 (aA1 (aA1 aA0 (eLoc 0)) (eLoc 4)) (eLoc 1)))) (sInc 3 1))
  (sInc 4 1)))))
  (sRet (eLoc 3))))
def n_X1_manyFitting : MN := (yX1_manyFitting, cX1_manyFitting, 5, (some .int), 4)
noncomputable def ci_X1_manyFitting : CI := (1, 1, [2, 0, 0], 0, denM 5 [2, 0, 0] false a_X1_manyFitting.1.1)
set_option maxRecDepth 100000 in
theorem m_X1_manyFitting : MetD wC n_X1_manyFitting ci_X1_manyFitting := g_meth false (a_X1_manyFitting) rxC_ok (by decide) rfl rfl rfl (by decide) (by decide) (Or.inl ⟨rfl, rfl⟩) (fun h => by cases h) (mkWords (fun _ h => absurd h List.not_mem_nil) (fun _ h => absurd h List.not_mem_nil) (fun _ h => absurd h List.not_mem_nil) (fun _ h => absurd h List.not_mem_nil) (fun _ h => absurd h List.not_mem_nil) (fun _ h => absurd h List.not_mem_nil)) (List.forall_mem_cons.mpr ⟨clV m_X1_fits_ rfl rfl rfl (by decide) (Or.inl lw_X1_53) (kn_X1_fits_ _) (by decide +kernel), fun _ h => absurd h List.not_mem_nil⟩) (by decide +kernel)
/-! BlackMill$Clues.fitting(III)I -/
noncomputable def mi_X1_fitting : MI := (cX1_fitting, 6, RX1, [], [], [], [], [], [], [(53, ci_X1_fits_)])
noncomputable def a_X1_fitting : St wC (mi_X1_fitting) 0 :=
  (sSeq (sSet 4 (eInt 0))
  (sSeq (sBlk (sSeq (sSet 5 (eInt 1))
  (sWh (oCmp .lt (eLoc 5) (eBin 6 (eInt 1) (eLoc 2))) (sSeq (sIf (oCm0 .ne (eCal 53 ci_X1_fits_ rfl (aA1 (aA1 (aA1 aA0 (eLoc 0)) (eLoc 5)) (eLoc 1)))) (sSeq (sIf (oCmp .eq (eLoc 4) (eLoc 3)) (sRet (eLoc 5)))
  (sInc 4 1)))
  (sInc 5 1)))))
  (sRet (eInt (-1)))))
def n_X1_fitting : MN := (yX1_fitting, cX1_fitting, 6, (some .int), 4)
noncomputable def ci_X1_fitting : CI := (1, 1, [2, 0, 0, 0], 0, denM 6 [2, 0, 0, 0] false a_X1_fitting.1.1)
set_option maxRecDepth 100000 in
theorem m_X1_fitting : MetD wC n_X1_fitting ci_X1_fitting := g_meth false (a_X1_fitting) rxC_ok (by decide) rfl rfl rfl (by decide) (by decide) (Or.inl ⟨rfl, rfl⟩) (fun h => by cases h) (mkWords (fun _ h => absurd h List.not_mem_nil) (fun _ h => absurd h List.not_mem_nil) (fun _ h => absurd h List.not_mem_nil) (fun _ h => absurd h List.not_mem_nil) (fun _ h => absurd h List.not_mem_nil) (fun _ h => absurd h List.not_mem_nil)) (List.forall_mem_cons.mpr ⟨clV m_X1_fits_ rfl rfl rfl (by decide) (Or.inl lw_X1_53) (kn_X1_fits_ _) (by decide +kernel), fun _ h => absurd h List.not_mem_nil⟩) (by decide +kernel)
/-! BlackMill.spies(II)I -/
noncomputable def mi_X10_spies : MI := (cX10_spies, 3, RX10, [], [], [], [(44, 10, 5), (88, 10, 13), (118, 2, 1)], [], [], [(312, ci_X10_asksForSpies), (315, ci_X1_manyFitting), (318, ci_X1_fitting)])
noncomputable def a_X10_spies : St wC (mi_X10_spies) 0 :=
  (sSeq (sIf (oOr (oNot (oCm0 .ne (eCal 312 ci_X10_asksForSpies rfl (aA1 (aA1 aA0 (eLoc 0)) (eLoc 1))))) (oCmp .lt (eLoc 2) (eInt (-1)))) (sRet (eInt (-1))))
  (sRet (eCon (oCmp .eq (eLoc 2) (eInt (-1))) (eCal 315 ci_X1_manyFitting rfl (aA1 (aA1 (aA1 aA0 (eFld 10 13 (eLoc 0))) (eLoc 1)) (eFld 2 1 (eFld 10 5 (eLoc 0))))) (eCal 318 ci_X1_fitting rfl (aA1 (aA1 (aA1 (aA1 aA0 (eFld 10 13 (eLoc 0))) (eLoc 1)) (eFld 2 1 (eFld 10 5 (eLoc 0)))) (eLoc 2))))))
def n_X10_spies : MN := (yX10_spies, cX10_spies, 3, (some .int), 5)
noncomputable def ci_X10_spies : CI := (1, 10, [2, 0, 0], 0, denM 3 [2, 0, 0] false a_X10_spies.1.1)
set_option maxRecDepth 100000 in
theorem m_X10_spies : MetD wC n_X10_spies ci_X10_spies := g_meth false (a_X10_spies) rxC_ok (by decide) rfl rfl rfl (by decide) (by decide) (Or.inl ⟨rfl, rfl⟩) (fun h => by cases h) (mkWords (fun _ h => absurd h List.not_mem_nil) (fun _ h => absurd h List.not_mem_nil) (fun _ h => absurd h List.not_mem_nil) (List.forall_mem_cons.mpr ⟨⟨_, _, _, rfl, by decide, Or.inl fw_X10_44⟩, List.forall_mem_cons.mpr ⟨⟨_, _, _, rfl, by decide, Or.inl fw_X10_88⟩, List.forall_mem_cons.mpr ⟨⟨_, _, _, rfl, by decide, Or.inr fw_X10_118⟩, fun _ h => absurd h List.not_mem_nil⟩⟩⟩) (fun _ h => absurd h List.not_mem_nil) (fun _ h => absurd h List.not_mem_nil)) (List.forall_mem_cons.mpr ⟨clV m_X10_asksForSpies rfl rfl rfl (by decide) (Or.inl lw_X10_312) (kn_X10_asksForSpies _) (by decide +kernel), List.forall_mem_cons.mpr ⟨clV m_X1_manyFitting rfl rfl rfl (by decide) (Or.inl lw_X10_315) (kn_X1_manyFitting _) (by decide +kernel), List.forall_mem_cons.mpr ⟨clV m_X1_fitting rfl rfl rfl (by decide) (Or.inl lw_X10_318) (kn_X1_fitting _) (by decide +kernel), fun _ h => absurd h List.not_mem_nil⟩⟩⟩) (by decide +kernel)
/-! BlackMill$Clues.manyFittingWith(III)I -/
noncomputable def mi_X1_manyFittingWith : MI := (cX1_manyFittingWith, 6, RX1, [], [], [], [], [], [], [(53, ci_X1_fits_)])
noncomputable def a_X1_manyFittingWith : St wC (mi_X1_manyFittingWith) 0 :=
  (sSeq (sSet 4 (eInt 0))
  (sSeq (sBlk (sSeq (sSet 5 (eInt 1))
  (sWh (oCmp .lt (eLoc 5) (eBin 6 (eInt 1) (eLoc 2))) (sSeq (sIf (oAnd (oCm0 .ne (eBin 3 (eBin 8 (eLoc 5) (eLoc 3)) (eInt 1))) (oCm0 .ne (eCal 53 ci_X1_fits_ rfl (aA1 (aA1 (aA1 aA0 (eLoc 0)) (eLoc 5)) (eLoc 1))))) (sInc 4 1))
  (sInc 5 1)))))
  (sRet (eLoc 4))))
def n_X1_manyFittingWith : MN := (yX1_manyFittingWith, cX1_manyFittingWith, 6, (some .int), 4)
noncomputable def ci_X1_manyFittingWith : CI := (1, 1, [2, 0, 0, 0], 0, denM 6 [2, 0, 0, 0] false a_X1_manyFittingWith.1.1)
set_option maxRecDepth 100000 in
theorem m_X1_manyFittingWith : MetD wC n_X1_manyFittingWith ci_X1_manyFittingWith := g_meth false (a_X1_manyFittingWith) rxC_ok (by decide) rfl rfl rfl (by decide) (by decide) (Or.inl ⟨rfl, rfl⟩) (fun h => by cases h) (mkWords (fun _ h => absurd h List.not_mem_nil) (fun _ h => absurd h List.not_mem_nil) (fun _ h => absurd h List.not_mem_nil) (fun _ h => absurd h List.not_mem_nil) (fun _ h => absurd h List.not_mem_nil) (fun _ h => absurd h List.not_mem_nil)) (List.forall_mem_cons.mpr ⟨clV m_X1_fits_ rfl rfl rfl (by decide) (Or.inl lw_X1_53) (kn_X1_fits_ _) (by decide +kernel), fun _ h => absurd h List.not_mem_nil⟩) (by decide +kernel)
/-! BlackMill.clear(I)I -/
noncomputable def mi_X10_clear : MI := (cX10_clear, 4, RX10, [], [], [], [(44, 10, 5), (88, 10, 13), (118, 2, 1)], [], [], [(312, ci_X10_asksForSpies), (315, ci_X1_manyFitting), (322, ci_X1_manyFittingWith)])
noncomputable def a_X10_clear : St wC (mi_X10_clear) 0 :=
  (sSeq (sIf (oOr (oNot (oCm0 .ne (eCal 312 ci_X10_asksForSpies rfl (aA1 (aA1 aA0 (eLoc 0)) (eLoc 1))))) (oCm0 .eq (eCal 315 ci_X1_manyFitting rfl (aA1 (aA1 (aA1 aA0 (eFld 10 13 (eLoc 0))) (eLoc 1)) (eFld 2 1 (eFld 10 5 (eLoc 0))))))) (sRet (eInt (-1))))
  (sSeq (sSet 2 (eInt 0))
  (sSeq (sBlk (sSeq (sSet 3 (eInt 0))
  (sWh (oCmp .lt (eLoc 3) (eFld 2 1 (eFld 10 5 (eLoc 0)))) (sSeq (sIf (oCm0 .eq (eCal 322 ci_X1_manyFittingWith rfl (aA1 (aA1 (aA1 (aA1 aA0 (eFld 10 13 (eLoc 0))) (eLoc 1)) (eFld 2 1 (eFld 10 5 (eLoc 0)))) (eLoc 3)))) (sSet 2 (eBin 4 (eLoc 2) (eBin 6 (eInt 1) (eLoc 3)))))
  (sInc 3 1)))))
  (sRet (eLoc 2)))))
def n_X10_clear : MN := (yX10_clear, cX10_clear, 4, (some .int), 5)
noncomputable def ci_X10_clear : CI := (1, 10, [2, 0], 0, denM 4 [2, 0] false a_X10_clear.1.1)
set_option maxRecDepth 100000 in
theorem m_X10_clear : MetD wC n_X10_clear ci_X10_clear := g_meth false (a_X10_clear) rxC_ok (by decide) rfl rfl rfl (by decide) (by decide) (Or.inl ⟨rfl, rfl⟩) (fun h => by cases h) (mkWords (fun _ h => absurd h List.not_mem_nil) (fun _ h => absurd h List.not_mem_nil) (fun _ h => absurd h List.not_mem_nil) (List.forall_mem_cons.mpr ⟨⟨_, _, _, rfl, by decide, Or.inl fw_X10_44⟩, List.forall_mem_cons.mpr ⟨⟨_, _, _, rfl, by decide, Or.inl fw_X10_88⟩, List.forall_mem_cons.mpr ⟨⟨_, _, _, rfl, by decide, Or.inr fw_X10_118⟩, fun _ h => absurd h List.not_mem_nil⟩⟩⟩) (fun _ h => absurd h List.not_mem_nil) (fun _ h => absurd h List.not_mem_nil)) (List.forall_mem_cons.mpr ⟨clV m_X10_asksForSpies rfl rfl rfl (by decide) (Or.inl lw_X10_312) (kn_X10_asksForSpies _) (by decide +kernel), List.forall_mem_cons.mpr ⟨clV m_X1_manyFitting rfl rfl rfl (by decide) (Or.inl lw_X10_315) (kn_X1_manyFitting _) (by decide +kernel), List.forall_mem_cons.mpr ⟨clV m_X1_manyFittingWith rfl rfl rfl (by decide) (Or.inl lw_X10_322) (kn_X1_manyFittingWith _) (by decide +kernel), fun _ h => absurd h List.not_mem_nil⟩⟩⟩) (by decide +kernel)
/-! BlackMill.best(I)I -/
noncomputable def mi_X10_best : MI := (cX10_best, 7, RX10, [], [], [], [(44, 10, 5), (88, 10, 13), (118, 2, 1)], [], [(325, 2)], [(312, ci_X10_asksForSpies), (315, ci_X1_manyFitting), (322, ci_X1_manyFittingWith)])
noncomputable def a_X10_best : St wC (mi_X10_best) 0 :=
  (sSeq (sIf (oNot (oCm0 .ne (eCal 312 ci_X10_asksForSpies rfl (aA1 (aA1 aA0 (eLoc 0)) (eLoc 1))))) (sRet (eInt (-1))))
  (sSeq (sSet 2 (eCal 315 ci_X1_manyFitting rfl (aA1 (aA1 (aA1 aA0 (eFld 10 13 (eLoc 0))) (eLoc 1)) (eFld 2 1 (eFld 10 5 (eLoc 0))))))
  (sSeq (sSet 3 (eInt (-1)))
  (sSeq (sSet 4 (eInt 0))
  (sSeq (sBlk (sSeq (sSet 5 (eInt 0))
  (sWh (oAnd (oCmp .lt (eLoc 5) (eFld 2 1 (eFld 10 5 (eLoc 0)))) (oCm0 .gt (eLoc 2))) (sSeq (sSeq (sSet 6 (eAbs (eBin 1 (eLoc 2) (eBin 2 (eInt 2) (eCal 322 ci_X1_manyFittingWith rfl (aA1 (aA1 (aA1 (aA1 aA0 (eFld 10 13 (eLoc 0))) (eLoc 1)) (eFld 2 1 (eFld 10 5 (eLoc 0)))) (eLoc 5)))))))
  (sIf (oOr (oCmp .eq (eLoc 3) (eInt (-1))) (oCmp .lt (eLoc 6) (eLoc 4))) (sSeq (sSet 3 (eLoc 5))
  (sSet 4 (eLoc 6)))))
  (sInc 5 1)))))
  (sRet (eLoc 3)))))))
def n_X10_best : MN := (yX10_best, cX10_best, 7, (some .int), 5)
noncomputable def ci_X10_best : CI := (1, 10, [2, 0], 0, denM 7 [2, 0] false a_X10_best.1.1)
set_option maxRecDepth 100000 in
theorem m_X10_best : MetD wC n_X10_best ci_X10_best := g_meth false (a_X10_best) rxC_ok (by decide) rfl rfl rfl (by decide) (by decide) (Or.inl ⟨rfl, rfl⟩) (fun h => by cases h) (mkWords (fun _ h => absurd h List.not_mem_nil) (fun _ h => absurd h List.not_mem_nil) (fun _ h => absurd h List.not_mem_nil) (List.forall_mem_cons.mpr ⟨⟨_, _, _, rfl, by decide, Or.inl fw_X10_44⟩, List.forall_mem_cons.mpr ⟨⟨_, _, _, rfl, by decide, Or.inl fw_X10_88⟩, List.forall_mem_cons.mpr ⟨⟨_, _, _, rfl, by decide, Or.inr fw_X10_118⟩, fun _ h => absurd h List.not_mem_nil⟩⟩⟩) (fun _ h => absurd h List.not_mem_nil) (List.forall_mem_cons.mpr ⟨mw_X10_325, fun _ h => absurd h List.not_mem_nil⟩)) (List.forall_mem_cons.mpr ⟨clV m_X10_asksForSpies rfl rfl rfl (by decide) (Or.inl lw_X10_312) (kn_X10_asksForSpies _) (by decide +kernel), List.forall_mem_cons.mpr ⟨clV m_X1_manyFitting rfl rfl rfl (by decide) (Or.inl lw_X10_315) (kn_X1_manyFitting _) (by decide +kernel), List.forall_mem_cons.mpr ⟨clV m_X1_manyFittingWith rfl rfl rfl (by decide) (Or.inl lw_X10_322) (kn_X1_manyFittingWith _) (by decide +kernel), fun _ h => absurd h List.not_mem_nil⟩⟩⟩) (by decide +kernel)
/-! BlackMill$Clues.addGrave(IIZ)I -/
noncomputable def mi_X1_addGrave : MI := (cX1_addGrave, 4, RX1, [], [], [], [(19, 1, 2), (22, 1, 3), (25, 1, 4), (32, 1, 6)], [], [], [(35, ci_X10_put)])
noncomputable def a_X1_addGrave : St wC (mi_X1_addGrave) 0 :=
  (sSeq (sIf (oOr (oCm0 .lt (eFld 1 6 (eLoc 0))) (oCmp .ge (eFld 1 6 (eLoc 0)) (eLen 1 (eFld 1 4 (eLoc 0))))) (sRet (eInt (-1))))
  (sSeq (sDo 35 ci_X10_put rfl (aA1 (aA1 (aA1 aA0 (eFld 1 2 (eLoc 0))) (eFld 1 6 (eLoc 0))) (eLoc 1)))
  (sSeq (sDo 35 ci_X10_put rfl (aA1 (aA1 (aA1 aA0 (eFld 1 3 (eLoc 0))) (eFld 1 6 (eLoc 0))) (eLoc 2)))
  (sSeq (sPutA 1 (eFld 1 4 (eLoc 0)) (eFld 1 6 (eLoc 0)) (eLoc 3))
  (sSeq (sUpdF 0 1 6 (eLoc 0) (eInt 1))
  (sRet (eFld 1 6 (eLoc 0))))))))
def n_X1_addGrave : MN := (yX1_addGrave, cX1_addGrave, 4, (some .int), 2)
noncomputable def ci_X1_addGrave : CI := (1, 1, [2, 0, 0, 0], 0, denM 4 [2, 0, 0, 0] false a_X1_addGrave.1.1)
set_option maxRecDepth 100000 in
theorem m_X1_addGrave : MetD wC n_X1_addGrave ci_X1_addGrave := g_meth false (a_X1_addGrave) rxC_ok (by decide) rfl rfl rfl (by decide) (by decide) (Or.inl ⟨rfl, rfl⟩) (fun h => by cases h) (mkWords (fun _ h => absurd h List.not_mem_nil) (fun _ h => absurd h List.not_mem_nil) (fun _ h => absurd h List.not_mem_nil) (List.forall_mem_cons.mpr ⟨⟨_, _, _, rfl, by decide, Or.inl fw_X1_19⟩, List.forall_mem_cons.mpr ⟨⟨_, _, _, rfl, by decide, Or.inl fw_X1_22⟩, List.forall_mem_cons.mpr ⟨⟨_, _, _, rfl, by decide, Or.inl fw_X1_25⟩, List.forall_mem_cons.mpr ⟨⟨_, _, _, rfl, by decide, Or.inl fw_X1_32⟩, fun _ h => absurd h List.not_mem_nil⟩⟩⟩⟩) (fun _ h => absurd h List.not_mem_nil) (fun _ h => absurd h List.not_mem_nil)) (List.forall_mem_cons.mpr ⟨clS m_X10_put rfl (by decide) (Or.inr lw_X1_35) (kn_X10_put _) (by decide +kernel), fun _ h => absurd h List.not_mem_nil⟩) (by decide +kernel)
/-! BlackMill.grave(IIZ)I -/
noncomputable def mi_X10_grave : MI := (cX10_grave, 5, RX10, [], [], [], [(88, 10, 13)], [], [], [(151, ci_X10_isTold), (328, ci_X1_addGrave)])
noncomputable def a_X10_grave : St wC (mi_X10_grave) 0 :=
  (sSeq (sSet 4 (eBo (oAnd (oCm0 .ne (eCal 151 ci_X10_isTold rfl (aA1 aA0 (eLoc 0)))) (oOr (oCm0 .eq (eLoc 1)) (oCmp .eq (eLoc 1) (eInt 1))))))
  (sRet (eCon (oAnd (oAnd (oCm0 .ne (eLoc 4)) (oCm0 .ge (eLoc 2))) (oCmp .le (eLoc 2) (eInt 99))) (eCal 328 ci_X1_addGrave rfl (aA1 (aA1 (aA1 (aA1 aA0 (eFld 10 13 (eLoc 0))) (eLoc 1)) (eLoc 2)) (eLoc 3))) (eInt (-1)))))
def n_X10_grave : MN := (yX10_grave, cX10_grave, 5, (some .int), 3)
noncomputable def ci_X10_grave : CI := (1, 10, [2, 0, 0, 0], 0, denM 5 [2, 0, 0, 0] false a_X10_grave.1.1)
set_option maxRecDepth 100000 in
theorem m_X10_grave : MetD wC n_X10_grave ci_X10_grave := g_meth false (a_X10_grave) rxC_ok (by decide) rfl rfl rfl (by decide) (by decide) (Or.inl ⟨rfl, rfl⟩) (fun h => by cases h) (mkWords (fun _ h => absurd h List.not_mem_nil) (fun _ h => absurd h List.not_mem_nil) (fun _ h => absurd h List.not_mem_nil) (List.forall_mem_cons.mpr ⟨⟨_, _, _, rfl, by decide, Or.inl fw_X10_88⟩, fun _ h => absurd h List.not_mem_nil⟩) (fun _ h => absurd h List.not_mem_nil) (fun _ h => absurd h List.not_mem_nil)) (List.forall_mem_cons.mpr ⟨clV m_X10_isTold rfl rfl rfl (by decide) (Or.inl lw_X10_151) (kn_X10_isTold _) (by decide +kernel), List.forall_mem_cons.mpr ⟨clV m_X1_addGrave rfl rfl rfl (by decide) (Or.inl lw_X10_328) (kn_X1_addGrave _) (by decide +kernel), fun _ h => absurd h List.not_mem_nil⟩⟩) (by decide +kernel)
/-! BlackMill$Clues.couldDig(LBlackMill$House;I)Z -/
noncomputable def mi_X1_couldDig : MI := (cX1_couldDig, 5, RX1, [], [], [], [(19, 1, 2), (22, 1, 3), (25, 1, 4), (32, 1, 6)], [], [], [(39, ci_X10_at), (65, ci_X2_get)])
noncomputable def a_X1_couldDig : St wC (mi_X1_couldDig) 0 :=
  (sSeq (sBlk (sSeq (sSet 3 (eInt 0))
  (sWh (oAnd (oCmp .lt (eLoc 3) (eFld 1 6 (eLoc 0))) (oCmp .lt (eLoc 3) (eLen 1 (eFld 1 4 (eLoc 0))))) (sSeq (sSeq (sSet 4 (eCal 65 ci_X2_get rfl (aA1 (aA1 (aA1 aA0 (eLoc 1)) (eLoc 2)) (eCon (oCm0 .eq (eCal 39 ci_X10_at rfl (aA1 (aA1 aA0 (eFld 1 2 (eLoc 0))) (eLoc 3)))) (eInt 4) (eInt 0)))))
  (sIf (oCmp .ne (eBo (oCmp .ge (eLoc 4) (eCal 39 ci_X10_at rfl (aA1 (aA1 aA0 (eFld 1 3 (eLoc 0))) (eLoc 3))))) (eAr 1 (eFld 1 4 (eLoc 0)) (eLoc 3))) (sRet (eInt 0))))
  (sInc 3 1)))))
  (sRet (eInt 1)))
def n_X1_couldDig : MN := (yX1_couldDig, cX1_couldDig, 5, (some .boolean), 2)
noncomputable def ci_X1_couldDig : CI := (1, 1, [2, 2, 0], 0, denM 5 [2, 2, 0] true a_X1_couldDig.1.1)
set_option maxRecDepth 100000 in
theorem m_X1_couldDig : MetD wC n_X1_couldDig ci_X1_couldDig := g_meth true (a_X1_couldDig) rxC_ok (by decide) rfl rfl rfl (by decide) (by decide) (Or.inr (Or.inl ⟨rfl, rfl⟩)) (fun _ => rfl) (mkWords (fun _ h => absurd h List.not_mem_nil) (fun _ h => absurd h List.not_mem_nil) (fun _ h => absurd h List.not_mem_nil) (List.forall_mem_cons.mpr ⟨⟨_, _, _, rfl, by decide, Or.inl fw_X1_19⟩, List.forall_mem_cons.mpr ⟨⟨_, _, _, rfl, by decide, Or.inl fw_X1_22⟩, List.forall_mem_cons.mpr ⟨⟨_, _, _, rfl, by decide, Or.inl fw_X1_25⟩, List.forall_mem_cons.mpr ⟨⟨_, _, _, rfl, by decide, Or.inl fw_X1_32⟩, fun _ h => absurd h List.not_mem_nil⟩⟩⟩⟩) (fun _ h => absurd h List.not_mem_nil) (fun _ h => absurd h List.not_mem_nil)) (List.forall_mem_cons.mpr ⟨clS m_X10_at rfl (by decide) (Or.inr lw_X1_39) (kn_X10_at _) (by decide +kernel), List.forall_mem_cons.mpr ⟨clV m_X2_get rfl rfl rfl (by decide) (Or.inl lw_X1_65) (kn_X2_get _) (by decide +kernel), fun _ h => absurd h List.not_mem_nil⟩⟩) (by decide +kernel)
