/-! methods of cls, 2 -/
/-! BlackMill.text(I)I -/
noncomputable def mi_X10_text : MI := (cX10_text, 2, RX10, [], [], [], [(10, 10, 0), (19, 10, 1), (26, 10, 2), (33, 10, 3), (44, 10, 5), (103, 8, 1), (118, 2, 1), (121, 4, 5), (124, 3, 0), (127, 3, 1)], [], [], [(110, ci_X6_read), (114, ci_X3_read), (115, ci_X10_found), (128, ci_X4_add)])
noncomputable def a_X10_text : St wC (mi_X10_text) 0 :=
  (sSeq (sIf (oAnd (oCm0 .eq (eLoc 1)) (oCmp .eq (eCal 110 ci_X6_read rfl (aA1 (aA1 aA0 (eFld 10 1 (eLoc 0))) (eFld 10 0 (eLoc 0)))) (eInt (-1)))) (sSeq (sDo 115 ci_X10_found rfl (aA1 aA0 (eLoc 0)))
  (sSeq (sPutF 8 1 (eFld 10 0 (eLoc 0)) (eInt 0))
  (sRet (eFld 2 1 (eFld 10 5 (eLoc 0)))))))
  (sSeq (sIf (oAnd (oAnd (oCmp .eq (eLoc 1) (eInt 1)) (oCmp .lt (eFld 4 5 (eFld 10 3 (eLoc 0))) (eInt 4))) (oCmp .eq (eCal 114 ci_X3_read rfl (aA1 (aA1 aA0 (eFld 10 2 (eLoc 0))) (eFld 10 0 (eLoc 0)))) (eInt (-1)))) (sSeq (sPutF 8 1 (eFld 10 0 (eLoc 0)) (eInt 0))
  (sRet (eCal 128 ci_X4_add rfl (aA1 (aA1 (aA1 aA0 (eFld 10 3 (eLoc 0))) (eFld 3 0 (eFld 10 2 (eLoc 0)))) (eFld 3 1 (eFld 10 2 (eLoc 0))))))))
  (sRet (eInt (-1)))))
def n_X10_text : MN := (yX10_text, cX10_text, 2, (some .int), 66)
noncomputable def ci_X10_text : CI := (1, 10, [2, 0], 0, denM 2 [2, 0] false a_X10_text.1.1)
set_option maxRecDepth 100000 in
theorem m_X10_text : MetD wC n_X10_text ci_X10_text := g_meth false (a_X10_text) rxC_ok (by decide) rfl rfl rfl (by decide) (by decide) (Or.inl ⟨rfl, rfl⟩) (fun h => by cases h) (mkWords (fun _ h => absurd h List.not_mem_nil) (fun _ h => absurd h List.not_mem_nil) (fun _ h => absurd h List.not_mem_nil) (List.forall_mem_cons.mpr ⟨⟨_, _, _, rfl, by decide, Or.inl fw_X10_10⟩, List.forall_mem_cons.mpr ⟨⟨_, _, _, rfl, by decide, Or.inl fw_X10_19⟩, List.forall_mem_cons.mpr ⟨⟨_, _, _, rfl, by decide, Or.inl fw_X10_26⟩, List.forall_mem_cons.mpr ⟨⟨_, _, _, rfl, by decide, Or.inl fw_X10_33⟩, List.forall_mem_cons.mpr ⟨⟨_, _, _, rfl, by decide, Or.inl fw_X10_44⟩, List.forall_mem_cons.mpr ⟨⟨_, _, _, rfl, by decide, Or.inr fw_X10_103⟩, List.forall_mem_cons.mpr ⟨⟨_, _, _, rfl, by decide, Or.inr fw_X10_118⟩, List.forall_mem_cons.mpr ⟨⟨_, _, _, rfl, by decide, Or.inr fw_X10_121⟩, List.forall_mem_cons.mpr ⟨⟨_, _, _, rfl, by decide, Or.inr fw_X10_124⟩, List.forall_mem_cons.mpr ⟨⟨_, _, _, rfl, by decide, Or.inr fw_X10_127⟩, fun _ h => absurd h List.not_mem_nil⟩⟩⟩⟩⟩⟩⟩⟩⟩⟩) (fun _ h => absurd h List.not_mem_nil) (fun _ h => absurd h List.not_mem_nil)) (List.forall_mem_cons.mpr ⟨clV m_X6_read rfl rfl rfl (by decide) (Or.inl lw_X10_110) (kn_X6_read _) (by decide +kernel), List.forall_mem_cons.mpr ⟨clV m_X3_read rfl rfl rfl (by decide) (Or.inl lw_X10_114) (kn_X3_read _) (by decide +kernel), List.forall_mem_cons.mpr ⟨clV m_X10_found rfl rfl rfl (by decide) (Or.inl lw_X10_115) (kn_X10_found _) (by decide +kernel), List.forall_mem_cons.mpr ⟨clV m_X4_add rfl rfl rfl (by decide) (Or.inl lw_X10_128) (kn_X4_add _) (by decide +kernel), fun _ h => absurd h List.not_mem_nil⟩⟩⟩⟩) (by decide +kernel)
/-! BlackMill.isTold()Z -/
noncomputable def mi_X10_isTold : MI := (cX10_isTold, 1, RX10, [], [], [], [(44, 10, 5), (118, 2, 1)], [], [], [])
noncomputable def a_X10_isTold : St wC (mi_X10_isTold) 0 :=
  (sRet (eBo (oCm0 .gt (eFld 2 1 (eFld 10 5 (eLoc 0))))))
def n_X10_isTold : MN := (yX10_isTold, cX10_isTold, 1, (some .boolean), 1)
noncomputable def ci_X10_isTold : CI := (1, 10, [2], 0, denM 1 [2] true a_X10_isTold.1.1)
set_option maxRecDepth 100000 in
theorem m_X10_isTold : MetD wC n_X10_isTold ci_X10_isTold := g_meth true (a_X10_isTold) rxC_ok (by decide) rfl rfl rfl (by decide) (by decide) (Or.inr (Or.inl ⟨rfl, rfl⟩)) (fun _ => rfl) (mkWords (fun _ h => absurd h List.not_mem_nil) (fun _ h => absurd h List.not_mem_nil) (fun _ h => absurd h List.not_mem_nil) (List.forall_mem_cons.mpr ⟨⟨_, _, _, rfl, by decide, Or.inl fw_X10_44⟩, List.forall_mem_cons.mpr ⟨⟨_, _, _, rfl, by decide, Or.inr fw_X10_118⟩, fun _ h => absurd h List.not_mem_nil⟩⟩) (fun _ h => absurd h List.not_mem_nil) (fun _ h => absurd h List.not_mem_nil)) (fun _ h => absurd h List.not_mem_nil) (by decide +kernel)
/-! BlackMill.master(I)I -/
noncomputable def mi_X10_master : MI := (cX10_master, 2, RX10, [], [], [], [(37, 10, 4)], [], [], [(151, ci_X10_isTold)])
noncomputable def a_X10_master : St wC (mi_X10_master) 0 :=
  (sRet (eCon (oAnd (oAnd (oCm0 .ne (eCal 151 ci_X10_isTold rfl (aA1 aA0 (eLoc 0)))) (oCm0 .ge (eLoc 1))) (oCmp .lt (eLoc 1) (eLen 0 (eFld 10 4 (eLoc 0))))) (eAr 0 (eFld 10 4 (eLoc 0)) (eLoc 1)) (eInt (-1))))
def n_X10_master : MN := (yX10_master, cX10_master, 2, (some .int), 2)
noncomputable def ci_X10_master : CI := (1, 10, [2, 0], 0, denM 2 [2, 0] false a_X10_master.1.1)
set_option maxRecDepth 100000 in
theorem m_X10_master : MetD wC n_X10_master ci_X10_master := g_meth false (a_X10_master) rxC_ok (by decide) rfl rfl rfl (by decide) (by decide) (Or.inl ⟨rfl, rfl⟩) (fun h => by cases h) (mkWords (fun _ h => absurd h List.not_mem_nil) (fun _ h => absurd h List.not_mem_nil) (fun _ h => absurd h List.not_mem_nil) (List.forall_mem_cons.mpr ⟨⟨_, _, _, rfl, by decide, Or.inl fw_X10_37⟩, fun _ h => absurd h List.not_mem_nil⟩) (fun _ h => absurd h List.not_mem_nil) (fun _ h => absurd h List.not_mem_nil)) (List.forall_mem_cons.mpr ⟨clV m_X10_isTold rfl rfl rfl (by decide) (Or.inl lw_X10_151) (kn_X10_isTold _) (by decide +kernel), fun _ h => absurd h List.not_mem_nil⟩) (by decide +kernel)
/-! BlackMill.way(II)I -/
noncomputable def mi_X10_way : MI := (cX10_way, 4, RX10, [], [], [], [(81, 10, 12), (176, 7, 2), (177, 7, 0)], [], [], [(133, ci_X10_at)])
noncomputable def a_X10_way : St wC (mi_X10_way) 0 :=
  (sSeq (sSet 3 (eBo (oAnd (oAnd (oAnd (oCm0 .ge (eLoc 1)) (oCmp .lt (eLoc 1) (eFld 7 2 (eFld 10 12 (eLoc 0))))) (oCm0 .ge (eLoc 2))) (oCmp .lt (eLoc 2) (eInt 3)))))
  (sRet (eCon (oCm0 .ne (eLoc 3)) (eCal 133 ci_X10_at rfl (aA1 (aA1 aA0 (eFld 7 0 (eFld 10 12 (eLoc 0)))) (eBin 0 (eBin 2 (eLoc 1) (eInt 3)) (eLoc 2)))) (eInt (-1)))))
def n_X10_way : MN := (yX10_way, cX10_way, 4, (some .int), 2)
noncomputable def ci_X10_way : CI := (1, 10, [2, 0, 0], 0, denM 4 [2, 0, 0] false a_X10_way.1.1)
set_option maxRecDepth 100000 in
theorem m_X10_way : MetD wC n_X10_way ci_X10_way := g_meth false (a_X10_way) rxC_ok (by decide) rfl rfl rfl (by decide) (by decide) (Or.inl ⟨rfl, rfl⟩) (fun h => by cases h) (mkWords (fun _ h => absurd h List.not_mem_nil) (fun _ h => absurd h List.not_mem_nil) (fun _ h => absurd h List.not_mem_nil) (List.forall_mem_cons.mpr ⟨⟨_, _, _, rfl, by decide, Or.inl fw_X10_81⟩, List.forall_mem_cons.mpr ⟨⟨_, _, _, rfl, by decide, Or.inr fw_X10_176⟩, List.forall_mem_cons.mpr ⟨⟨_, _, _, rfl, by decide, Or.inr fw_X10_177⟩, fun _ h => absurd h List.not_mem_nil⟩⟩⟩) (fun _ h => absurd h List.not_mem_nil) (fun _ h => absurd h List.not_mem_nil)) (List.forall_mem_cons.mpr ⟨clS m_X10_at rfl (by decide) (Or.inl lw_X10_133) (kn_X10_at _) (by decide +kernel), fun _ h => absurd h List.not_mem_nil⟩) (by decide +kernel)
/-! BlackMill.law(I)Z -/
noncomputable def mi_X10_law : MI := (cX10_law, 2, RX10, [], [], [], [(33, 10, 3), (121, 4, 5), (180, 4, 6)], [], [], [])
noncomputable def a_X10_law : St wC (mi_X10_law) 0 :=
  (sSeq (sIf (oOr (oCmp .lt (eLoc 1) (eInt (-1))) (oCmp .ge (eLoc 1) (eFld 4 5 (eFld 10 3 (eLoc 0))))) (sRet (eInt 0)))
  (sSeq (sPutF 4 6 (eFld 10 3 (eLoc 0)) (eLoc 1))
  (sRet (eInt 1))))
def n_X10_law : MN := (yX10_law, cX10_law, 2, (some .boolean), 1)
noncomputable def ci_X10_law : CI := (1, 10, [2, 0], 0, denM 2 [2, 0] true a_X10_law.1.1)
set_option maxRecDepth 100000 in
theorem m_X10_law : MetD wC n_X10_law ci_X10_law := g_meth true (a_X10_law) rxC_ok (by decide) rfl rfl rfl (by decide) (by decide) (Or.inr (Or.inl ⟨rfl, rfl⟩)) (fun _ => rfl) (mkWords (fun _ h => absurd h List.not_mem_nil) (fun _ h => absurd h List.not_mem_nil) (fun _ h => absurd h List.not_mem_nil) (List.forall_mem_cons.mpr ⟨⟨_, _, _, rfl, by decide, Or.inl fw_X10_33⟩, List.forall_mem_cons.mpr ⟨⟨_, _, _, rfl, by decide, Or.inr fw_X10_121⟩, List.forall_mem_cons.mpr ⟨⟨_, _, _, rfl, by decide, Or.inr fw_X10_180⟩, fun _ h => absurd h List.not_mem_nil⟩⟩⟩) (fun _ h => absurd h List.not_mem_nil) (fun _ h => absurd h List.not_mem_nil)) (fun _ h => absurd h List.not_mem_nil) (by decide +kernel)
/-! BlackMill$House.has(I)Z -/
noncomputable def mi_X2_has : MI := (cX2_has, 2, RX2, [], [], [], [(21, 2, 1)], [], [], [])
noncomputable def a_X2_has : St wC (mi_X2_has) 0 :=
  (sRet (eBo (oAnd (oCm0 .ge (eLoc 1)) (oCmp .lt (eLoc 1) (eFld 2 1 (eLoc 0))))))
def n_X2_has : MN := (yX2_has, cX2_has, 2, (some .boolean), 1)
noncomputable def ci_X2_has : CI := (1, 2, [2, 0], 0, denM 2 [2, 0] true a_X2_has.1.1)
set_option maxRecDepth 100000 in
theorem m_X2_has : MetD wC n_X2_has ci_X2_has := g_meth true (a_X2_has) rxC_ok (by decide) rfl rfl rfl (by decide) (by decide) (Or.inr (Or.inl ⟨rfl, rfl⟩)) (fun _ => rfl) (mkWords (fun _ h => absurd h List.not_mem_nil) (fun _ h => absurd h List.not_mem_nil) (fun _ h => absurd h List.not_mem_nil) (List.forall_mem_cons.mpr ⟨⟨_, _, _, rfl, by decide, Or.inl fw_X2_21⟩, fun _ h => absurd h List.not_mem_nil⟩) (fun _ h => absurd h List.not_mem_nil) (fun _ h => absurd h List.not_mem_nil)) (fun _ h => absurd h List.not_mem_nil) (by decide +kernel)
/-! BlackMill$House.get(II)I -/
noncomputable def mi_X2_get : MI := (cX2_get, 4, RX2, [], [], [], [(9, 2, 0)], [], [], [])
noncomputable def a_X2_get : St wC (mi_X2_get) 0 :=
  (sSeq (sSet 3 (eBin 0 (eBin 2 (eLoc 1) (eInt 7)) (eLoc 2)))
  (sRet (eCon (oAnd (oCm0 .ge (eLoc 3)) (oCmp .lt (eLoc 3) (eLen 0 (eFld 2 0 (eLoc 0))))) (eAr 0 (eFld 2 0 (eLoc 0)) (eLoc 3)) (eInt 0))))
def n_X2_get : MN := (yX2_get, cX2_get, 4, (some .int), 1)
noncomputable def ci_X2_get : CI := (1, 2, [2, 0, 0], 0, denM 4 [2, 0, 0] false a_X2_get.1.1)
set_option maxRecDepth 100000 in
theorem m_X2_get : MetD wC n_X2_get ci_X2_get := g_meth false (a_X2_get) rxC_ok (by decide) rfl rfl rfl (by decide) (by decide) (Or.inl ⟨rfl, rfl⟩) (fun h => by cases h) (mkWords (fun _ h => absurd h List.not_mem_nil) (fun _ h => absurd h List.not_mem_nil) (fun _ h => absurd h List.not_mem_nil) (List.forall_mem_cons.mpr ⟨⟨_, _, _, rfl, by decide, Or.inl fw_X2_9⟩, fun _ h => absurd h List.not_mem_nil⟩) (fun _ h => absurd h List.not_mem_nil) (fun _ h => absurd h List.not_mem_nil)) (fun _ h => absurd h List.not_mem_nil) (by decide +kernel)
/-! BlackMill$House.lives(I)Z -/
noncomputable def mi_X2_lives : MI := (cX2_lives, 2, RX2, [], [], [], [], [], [], [(56, ci_X2_has), (60, ci_X2_get)])
noncomputable def a_X2_lives : St wC (mi_X2_lives) 0 :=
  (sRet (eBo (oAnd (oCm0 .ne (eCal 56 ci_X2_has rfl (aA1 (aA1 aA0 (eLoc 0)) (eLoc 1)))) (oCm0 .eq (eCal 60 ci_X2_get rfl (aA1 (aA1 (aA1 aA0 (eLoc 0)) (eLoc 1)) (eInt 5)))))))
def n_X2_lives : MN := (yX2_lives, cX2_lives, 2, (some .boolean), 2)
noncomputable def ci_X2_lives : CI := (1, 2, [2, 0], 0, denM 2 [2, 0] true a_X2_lives.1.1)
set_option maxRecDepth 100000 in
theorem m_X2_lives : MetD wC n_X2_lives ci_X2_lives := g_meth true (a_X2_lives) rxC_ok (by decide) rfl rfl rfl (by decide) (by decide) (Or.inr (Or.inl ⟨rfl, rfl⟩)) (fun _ => rfl) (mkWords (fun _ h => absurd h List.not_mem_nil) (fun _ h => absurd h List.not_mem_nil) (fun _ h => absurd h List.not_mem_nil) (fun _ h => absurd h List.not_mem_nil) (fun _ h => absurd h List.not_mem_nil) (fun _ h => absurd h List.not_mem_nil)) (List.forall_mem_cons.mpr ⟨clV m_X2_has rfl rfl rfl (by decide) (Or.inl lw_X2_56) (kn_X2_has _) (by decide +kernel), List.forall_mem_cons.mpr ⟨clV m_X2_get rfl rfl rfl (by decide) (Or.inl lw_X2_60) (kn_X2_get _) (by decide +kernel), fun _ h => absurd h List.not_mem_nil⟩⟩) (by decide +kernel)
/-! BlackMill.refuse(II)I -/
noncomputable def mi_X10_refuse : MI := (cX10_refuse, 3, RX10, [], [], [], [(92, 10, 14)], [], [], [(133, ci_X10_at), (222, ci_X10_put)])
noncomputable def a_X10_refuse : St wC (mi_X10_refuse) 0 :=
  (sSeq (sDo 222 ci_X10_put rfl (aA1 (aA1 (aA1 aA0 (eFld 10 14 (eLoc 0))) (eLoc 1)) (eBin 0 (eCal 133 ci_X10_at rfl (aA1 (aA1 aA0 (eFld 10 14 (eLoc 0))) (eLoc 1))) (eInt 1))))
  (sRet (eLoc 2)))
def n_X10_refuse : MN := (yX10_refuse, cX10_refuse, 3, (some .int), 2)
noncomputable def ci_X10_refuse : CI := (1, 10, [2, 0, 0], 0, denM 3 [2, 0, 0] false a_X10_refuse.1.1)
set_option maxRecDepth 100000 in
theorem m_X10_refuse : MetD wC n_X10_refuse ci_X10_refuse := g_meth false (a_X10_refuse) rxC_ok (by decide) rfl rfl rfl (by decide) (by decide) (Or.inl ⟨rfl, rfl⟩) (fun h => by cases h) (mkWords (fun _ h => absurd h List.not_mem_nil) (fun _ h => absurd h List.not_mem_nil) (fun _ h => absurd h List.not_mem_nil) (List.forall_mem_cons.mpr ⟨⟨_, _, _, rfl, by decide, Or.inl fw_X10_92⟩, fun _ h => absurd h List.not_mem_nil⟩) (fun _ h => absurd h List.not_mem_nil) (fun _ h => absurd h List.not_mem_nil)) (List.forall_mem_cons.mpr ⟨clS m_X10_at rfl (by decide) (Or.inl lw_X10_133) (kn_X10_at _) (by decide +kernel), List.forall_mem_cons.mpr ⟨clS m_X10_put rfl (by decide) (Or.inl lw_X10_222) (kn_X10_put _) (by decide +kernel), fun _ h => absurd h List.not_mem_nil⟩⟩) (by decide +kernel)
/-! BlackMill$Acts.keep(LBlackMill$House;)V -/
noncomputable def mi_X0_keep : MI := (cX0_keep, 2, RX0, [], [], [], [(11, 0, 0), (15, 0, 1), (18, 0, 3), (22, 2, 0), (25, 0, 2), (32, 2, 2)], [], [(39, 1)], [(28, ci_X10_move), (35, ci_X10_put)])
noncomputable def a_X0_keep : St wC (mi_X0_keep) 3 :=
  (sSeq (sSeq (sDo 28 ci_X10_move rfl (aA1 (aA1 (aA1 (aA1 (aA1 aA0 (eFld 2 0 (eLoc 1))) (eInt 0)) (eFld 0 0 (eLoc 0))) (eBin 2 (eFld 0 2 (eLoc 0)) (eInt 56))) (eInt 56)))
  (sSeq (sDo 35 ci_X10_put rfl (aA1 (aA1 (aA1 aA0 (eFld 0 1 (eLoc 0))) (eFld 0 2 (eLoc 0))) (eFld 2 2 (eLoc 1))))
  (sSeq (sPutF 0 2 (eLoc 0) (eDiv 1 (eBin 0 (eFld 0 2 (eLoc 0)) (eInt 1)) (eInt 40)))
  (sPutF 0 3 (eLoc 0) (eMt 1 (eInt 40) (eBin 0 (eFld 0 3 (eLoc 0)) (eInt 1)))))))
  sReV)
def n_X0_keep : MN := (yX0_keep, cX0_keep, 2, none, 2)
noncomputable def ci_X0_keep : CI := (1, 0, [2, 2], 3, denM 2 [2, 2] false a_X0_keep.1.1)
set_option maxRecDepth 100000 in
theorem m_X0_keep : MetD wC n_X0_keep ci_X0_keep := g_meth false (a_X0_keep) rxC_ok (by decide) rfl rfl rfl (by decide) (by decide) (Or.inr (Or.inr (Or.inr (Or.inr ⟨rfl, rfl⟩)))) (fun h => by cases h) (mkWords (fun _ h => absurd h List.not_mem_nil) (fun _ h => absurd h List.not_mem_nil) (fun _ h => absurd h List.not_mem_nil) (List.forall_mem_cons.mpr ⟨⟨_, _, _, rfl, by decide, Or.inl fw_X0_11⟩, List.forall_mem_cons.mpr ⟨⟨_, _, _, rfl, by decide, Or.inl fw_X0_15⟩, List.forall_mem_cons.mpr ⟨⟨_, _, _, rfl, by decide, Or.inl fw_X0_18⟩, List.forall_mem_cons.mpr ⟨⟨_, _, _, rfl, by decide, Or.inr fw_X0_22⟩, List.forall_mem_cons.mpr ⟨⟨_, _, _, rfl, by decide, Or.inl fw_X0_25⟩, List.forall_mem_cons.mpr ⟨⟨_, _, _, rfl, by decide, Or.inr fw_X0_32⟩, fun _ h => absurd h List.not_mem_nil⟩⟩⟩⟩⟩⟩) (fun _ h => absurd h List.not_mem_nil) (List.forall_mem_cons.mpr ⟨mw_X0_39, fun _ h => absurd h List.not_mem_nil⟩)) (List.forall_mem_cons.mpr ⟨clS m_X10_move rfl (by decide) (Or.inr lw_X0_28) (kn_X10_move _) (by decide +kernel), List.forall_mem_cons.mpr ⟨clS m_X10_put rfl (by decide) (Or.inr lw_X0_35) (kn_X10_put _) (by decide +kernel), fun _ h => absurd h List.not_mem_nil⟩⟩) (by decide +kernel)
/-! BlackMill$House.fear(I)I -/
noncomputable def mi_X2_fear : MI := (cX2_fear, 4, RX2, [], [], [], [], [], [], [(60, ci_X2_get)])
noncomputable def a_X2_fear : St wC (mi_X2_fear) 0 :=
  (sSeq (sSet 2 (eCal 60 ci_X2_get rfl (aA1 (aA1 (aA1 aA0 (eLoc 0)) (eLoc 1)) (eInt 2))))
  (sSeq (sIf (oCmp .eq (eLoc 2) (eInt 3)) (sRet (eInt (-1))))
  (sSeq (sSet 3 (eCal 60 ci_X2_get rfl (aA1 (aA1 (aA1 aA0 (eLoc 0)) (eLoc 1)) (eInt 1))))
  (sSeq (sIf (oCmp .eq (eLoc 2) (eInt 1)) (sSet 3 (eDiv 0 (eLoc 3) (eInt 2))))
  (sSeq (sIf (oCm0 .ne (eCal 60 ci_X2_get rfl (aA1 (aA1 (aA1 aA0 (eLoc 0)) (eLoc 1)) (eInt 6)))) (sSet 3 (eDiv 0 (eLoc 3) (eInt 2))))
  (sRet (eCon (oCmp .eq (eLoc 2) (eInt 2)) (eBin 0 (eLoc 3) (eInt 10)) (eLoc 3))))))))
def n_X2_fear : MN := (yX2_fear, cX2_fear, 4, (some .int), 2)
noncomputable def ci_X2_fear : CI := (1, 2, [2, 0], 0, denM 4 [2, 0] false a_X2_fear.1.1)
set_option maxRecDepth 100000 in
theorem m_X2_fear : MetD wC n_X2_fear ci_X2_fear := g_meth false (a_X2_fear) rxC_ok (by decide) rfl rfl rfl (by decide) (by decide) (Or.inl ⟨rfl, rfl⟩) (fun h => by cases h) (mkWords (fun _ h => absurd h List.not_mem_nil) (fun _ h => absurd h List.not_mem_nil) (fun _ h => absurd h List.not_mem_nil) (fun _ h => absurd h List.not_mem_nil) (fun _ h => absurd h List.not_mem_nil) (fun _ h => absurd h List.not_mem_nil)) (List.forall_mem_cons.mpr ⟨clV m_X2_get rfl rfl rfl (by decide) (Or.inl lw_X2_60) (kn_X2_get _) (by decide +kernel), fun _ h => absurd h List.not_mem_nil⟩) (by decide +kernel)
/-! BlackMill.show(II)I -/
noncomputable def mi_X10_show : MI := (cX10_show, 3, RX10, [(186, -1000000)], [], [], [(44, 10, 5), (67, 10, 10)], [], [], [(155, ci_X2_has), (166, ci_X2_fear), (172, ci_X2_get), (183, ci_X2_lives), (187, ci_X10_refuse), (190, ci_X0_keep), (194, ci_X2_set)])
noncomputable def a_X10_show : St wC (mi_X10_show) 0 :=
  (sSeq (sIf (oNot (oCm0 .ne (eCal 183 ci_X2_lives rfl (aA1 (aA1 aA0 (eFld 10 5 (eLoc 0))) (eLoc 1))))) (sRet (eCal 187 ci_X10_refuse rfl (aA1 (aA1 (aA1 aA0 (eLoc 0)) (eCon (oCm0 .ne (eCal 155 ci_X2_has rfl (aA1 (aA1 aA0 (eFld 10 5 (eLoc 0))) (eLoc 1)))) (eInt 1) (eInt 0))) (eInt (-1000000))))))
  (sSeq (sIf (oOr (oCm0 .lt (eLoc 2)) (oCmp .gt (eLoc 2) (eCal 172 ci_X2_get rfl (aA1 (aA1 (aA1 aA0 (eFld 10 5 (eLoc 0))) (eLoc 1)) (eInt 0))))) (sRet (eCal 187 ci_X10_refuse rfl (aA1 (aA1 (aA1 aA0 (eLoc 0)) (eInt 2)) (eInt (-1000000))))))
  (sSeq (sDo 190 ci_X0_keep rfl (aA1 (aA1 aA0 (eFld 10 10 (eLoc 0))) (eFld 10 5 (eLoc 0))))
  (sSeq (sDo 194 ci_X2_set rfl (aA1 (aA1 (aA1 (aA1 aA0 (eFld 10 5 (eLoc 0))) (eLoc 1)) (eInt 1)) (eLoc 2)))
  (sRet (eCal 166 ci_X2_fear rfl (aA1 (aA1 aA0 (eFld 10 5 (eLoc 0))) (eLoc 1))))))))
def n_X10_show : MN := (yX10_show, cX10_show, 3, (some .int), 3)
noncomputable def ci_X10_show : CI := (1, 10, [2, 0, 0], 0, denM 3 [2, 0, 0] false a_X10_show.1.1)
set_option maxRecDepth 100000 in
theorem m_X10_show : MetD wC n_X10_show ci_X10_show := g_meth false (a_X10_show) rxC_ok (by decide) rfl rfl rfl (by decide) (by decide) (Or.inl ⟨rfl, rfl⟩) (fun h => by cases h) (mkWords (List.forall_mem_cons.mpr ⟨cw_X10_186, fun _ h => absurd h List.not_mem_nil⟩) (fun _ h => absurd h List.not_mem_nil) (fun _ h => absurd h List.not_mem_nil) (List.forall_mem_cons.mpr ⟨⟨_, _, _, rfl, by decide, Or.inl fw_X10_44⟩, List.forall_mem_cons.mpr ⟨⟨_, _, _, rfl, by decide, Or.inl fw_X10_67⟩, fun _ h => absurd h List.not_mem_nil⟩⟩) (fun _ h => absurd h List.not_mem_nil) (fun _ h => absurd h List.not_mem_nil)) (List.forall_mem_cons.mpr ⟨clV m_X2_has rfl rfl rfl (by decide) (Or.inl lw_X10_155) (kn_X2_has _) (by decide +kernel), List.forall_mem_cons.mpr ⟨clV m_X2_fear rfl rfl rfl (by decide) (Or.inl lw_X10_166) (kn_X2_fear _) (by decide +kernel), List.forall_mem_cons.mpr ⟨clV m_X2_get rfl rfl rfl (by decide) (Or.inl lw_X10_172) (kn_X2_get _) (by decide +kernel), List.forall_mem_cons.mpr ⟨clV m_X2_lives rfl rfl rfl (by decide) (Or.inl lw_X10_183) (kn_X2_lives _) (by decide +kernel), List.forall_mem_cons.mpr ⟨clV m_X10_refuse rfl rfl rfl (by decide) (Or.inl lw_X10_187) (kn_X10_refuse _) (by decide +kernel), List.forall_mem_cons.mpr ⟨clV m_X0_keep rfl rfl rfl (by decide) (Or.inl lw_X10_190) (kn_X0_keep _) (by decide +kernel), List.forall_mem_cons.mpr ⟨clV m_X2_set rfl rfl rfl (by decide) (Or.inl lw_X10_194) (kn_X2_set _) (by decide +kernel), fun _ h => absurd h List.not_mem_nil⟩⟩⟩⟩⟩⟩⟩) (by decide +kernel)
/-! BlackMill.warn(I)I -/
noncomputable def mi_X10_warn : MI := (cX10_warn, 3, RX10, [], [], [], [(44, 10, 5), (67, 10, 10)], [], [], [(155, ci_X2_has), (172, ci_X2_get), (183, ci_X2_lives), (187, ci_X10_refuse), (190, ci_X0_keep), (194, ci_X2_set)])
noncomputable def a_X10_warn : St wC (mi_X10_warn) 0 :=
  (sSeq (sIf (oNot (oCm0 .ne (eCal 155 ci_X2_has rfl (aA1 (aA1 aA0 (eFld 10 5 (eLoc 0))) (eLoc 1))))) (sRet (eCal 187 ci_X10_refuse rfl (aA1 (aA1 (aA1 aA0 (eLoc 0)) (eInt 0)) (eInt (-1))))))
  (sSeq (sSet 2 (eCal 172 ci_X2_get rfl (aA1 (aA1 (aA1 aA0 (eFld 10 5 (eLoc 0))) (eLoc 1)) (eInt 3))))
  (sSeq (sIf (oOr (oNot (oCm0 .ne (eCal 183 ci_X2_lives rfl (aA1 (aA1 aA0 (eFld 10 5 (eLoc 0))) (eLoc 1))))) (oAnd (oCm0 .ne (eCal 155 ci_X2_has rfl (aA1 (aA1 aA0 (eFld 10 5 (eLoc 0))) (eLoc 2)))) (oNot (oCm0 .ne (eCal 183 ci_X2_lives rfl (aA1 (aA1 aA0 (eFld 10 5 (eLoc 0))) (eLoc 2))))))) (sRet (eCal 187 ci_X10_refuse rfl (aA1 (aA1 (aA1 aA0 (eLoc 0)) (eInt 1)) (eInt (-1))))))
  (sSeq (sIf (oOr (oNot (oCm0 .ne (eCal 155 ci_X2_has rfl (aA1 (aA1 aA0 (eFld 10 5 (eLoc 0))) (eLoc 2))))) (oCm0 .ne (eCal 172 ci_X2_get rfl (aA1 (aA1 (aA1 aA0 (eFld 10 5 (eLoc 0))) (eLoc 2)) (eInt 6))))) (sRet (eCal 187 ci_X10_refuse rfl (aA1 (aA1 (aA1 aA0 (eLoc 0)) (eInt 3)) (eInt (-1))))))
  (sSeq (sDo 190 ci_X0_keep rfl (aA1 (aA1 aA0 (eFld 10 10 (eLoc 0))) (eFld 10 5 (eLoc 0))))
  (sSeq (sDo 194 ci_X2_set rfl (aA1 (aA1 (aA1 (aA1 aA0 (eFld 10 5 (eLoc 0))) (eLoc 2)) (eInt 6)) (eInt 1)))
  (sRet (eLoc 2))))))))
def n_X10_warn : MN := (yX10_warn, cX10_warn, 3, (some .int), 3)
noncomputable def ci_X10_warn : CI := (1, 10, [2, 0], 0, denM 3 [2, 0] false a_X10_warn.1.1)
set_option maxRecDepth 100000 in
theorem m_X10_warn : MetD wC n_X10_warn ci_X10_warn := g_meth false (a_X10_warn) rxC_ok (by decide) rfl rfl rfl (by decide) (by decide) (Or.inl ⟨rfl, rfl⟩) (fun h => by cases h) (mkWords (fun _ h => absurd h List.not_mem_nil) (fun _ h => absurd h List.not_mem_nil) (fun _ h => absurd h List.not_mem_nil) (List.forall_mem_cons.mpr ⟨⟨_, _, _, rfl, by decide, Or.inl fw_X10_44⟩, List.forall_mem_cons.mpr ⟨⟨_, _, _, rfl, by decide, Or.inl fw_X10_67⟩, fun _ h => absurd h List.not_mem_nil⟩⟩) (fun _ h => absurd h List.not_mem_nil) (fun _ h => absurd h List.not_mem_nil)) (List.forall_mem_cons.mpr ⟨clV m_X2_has rfl rfl rfl (by decide) (Or.inl lw_X10_155) (kn_X2_has _) (by decide +kernel), List.forall_mem_cons.mpr ⟨clV m_X2_get rfl rfl rfl (by decide) (Or.inl lw_X10_172) (kn_X2_get _) (by decide +kernel), List.forall_mem_cons.mpr ⟨clV m_X2_lives rfl rfl rfl (by decide) (Or.inl lw_X10_183) (kn_X2_lives _) (by decide +kernel), List.forall_mem_cons.mpr ⟨clV m_X10_refuse rfl rfl rfl (by decide) (Or.inl lw_X10_187) (kn_X10_refuse _) (by decide +kernel), List.forall_mem_cons.mpr ⟨clV m_X0_keep rfl rfl rfl (by decide) (Or.inl lw_X10_190) (kn_X0_keep _) (by decide +kernel), List.forall_mem_cons.mpr ⟨clV m_X2_set rfl rfl rfl (by decide) (Or.inl lw_X10_194) (kn_X2_set _) (by decide +kernel), fun _ h => absurd h List.not_mem_nil⟩⟩⟩⟩⟩⟩) (by decide +kernel)
/-! BlackMill$House.living()I -/
noncomputable def mi_X2_living : MI := (cX2_living, 3, RX2, [], [], [], [(21, 2, 1)], [], [], [(63, ci_X2_lives)])
noncomputable def a_X2_living : St wC (mi_X2_living) 0 :=
  (sSeq (sSet 1 (eInt 0))
  (sSeq (sBlk (sSeq (sSet 2 (eInt 0))
  (sWh (oCmp .lt (eLoc 2) (eFld 2 1 (eLoc 0))) (sSeq (sIf (oCm0 .ne (eCal 63 ci_X2_lives rfl (aA1 (aA1 aA0 (eLoc 0)) (eLoc 2)))) (sSet 1 (eBin 4 (eLoc 1) (eBin 6 (eInt 1) (eLoc 2)))))
  (sInc 2 1)))))
  (sRet (eLoc 1))))
def n_X2_living : MN := (yX2_living, cX2_living, 3, (some .int), 3)
noncomputable def ci_X2_living : CI := (1, 2, [2], 0, denM 3 [2] false a_X2_living.1.1)
set_option maxRecDepth 100000 in
theorem m_X2_living : MetD wC n_X2_living ci_X2_living := g_meth false (a_X2_living) rxC_ok (by decide) rfl rfl rfl (by decide) (by decide) (Or.inl ⟨rfl, rfl⟩) (fun h => by cases h) (mkWords (fun _ h => absurd h List.not_mem_nil) (fun _ h => absurd h List.not_mem_nil) (fun _ h => absurd h List.not_mem_nil) (List.forall_mem_cons.mpr ⟨⟨_, _, _, rfl, by decide, Or.inl fw_X2_21⟩, fun _ h => absurd h List.not_mem_nil⟩) (fun _ h => absurd h List.not_mem_nil) (fun _ h => absurd h List.not_mem_nil)) (List.forall_mem_cons.mpr ⟨clV m_X2_lives rfl rfl rfl (by decide) (Or.inl lw_X2_63) (kn_X2_lives _) (by decide +kernel), fun _ h => absurd h List.not_mem_nil⟩) (by decide +kernel)
/-! java/lang/Integer.bitCount(I)I -/
noncomputable def mi_J6_bitCount_0f7a4C : MI := (cJ6_bitCount_0f7a4, 1, RJ6, [(265, 1431655765), (266, 858993459), (267, 252645135)], [], [], [], [], [], [])
noncomputable def a_J6_bitCount_0f7a4C : St wC (mi_J6_bitCount_0f7a4C) 0 :=
  (sSeq (sSet 0 (eBin 1 (eLoc 0) (eBin 3 (eBin 8 (eLoc 0) (eInt 1)) (eInt 1431655765))))
  (sSeq (sSet 0 (eBin 0 (eBin 3 (eLoc 0) (eInt 858993459)) (eBin 3 (eBin 8 (eLoc 0) (eInt 2)) (eInt 858993459))))
  (sSeq (sSet 0 (eBin 3 (eBin 0 (eLoc 0) (eBin 8 (eLoc 0) (eInt 4))) (eInt 252645135)))
  (sSeq (sSet 0 (eBin 0 (eLoc 0) (eBin 8 (eLoc 0) (eInt 8))))
  (sSeq (sSet 0 (eBin 0 (eLoc 0) (eBin 8 (eLoc 0) (eInt 16))))
  (sRet (eBin 3 (eLoc 0) (eInt 63))))))))
def n_J6_bitCount_0f7a4C : MN := (yJ6_bitCount_0f7a4, cJ6_bitCount_0f7a4, 1, (some .int), 1)
noncomputable def ci_J6_bitCount_0f7a4C : CI := (0, 0, [0], 0, denM 1 [0] false a_J6_bitCount_0f7a4C.1.1)
set_option maxRecDepth 100000 in
theorem m_J6_bitCount_0f7a4C : MetD wC n_J6_bitCount_0f7a4C ci_J6_bitCount_0f7a4C := g_meth false (a_J6_bitCount_0f7a4C) rxC_ok (by decide) rfl rfl rfl (by decide) (by decide) (Or.inl ⟨rfl, rfl⟩) (fun h => by cases h) (mkWords (List.forall_mem_cons.mpr ⟨cw_J6_265, List.forall_mem_cons.mpr ⟨cw_J6_266, List.forall_mem_cons.mpr ⟨cw_J6_267, fun _ h => absurd h List.not_mem_nil⟩⟩⟩) (fun _ h => absurd h List.not_mem_nil) (fun _ h => absurd h List.not_mem_nil) (fun _ h => absurd h List.not_mem_nil) (fun _ h => absurd h List.not_mem_nil) (fun _ h => absurd h List.not_mem_nil)) (fun _ h => absurd h List.not_mem_nil) (by decide +kernel)
/-! BlackMill$House.manyLive()I -/
noncomputable def mi_X2_manyLive : MI := (cX2_manyLive, 1, RX2, [], [], [], [], [], [], [(66, ci_X2_living), (70, ci_J6_bitCount_0f7a4C)])
noncomputable def a_X2_manyLive : St wC (mi_X2_manyLive) 0 :=
  (sRet (eCal 70 ci_J6_bitCount_0f7a4C rfl (aA1 aA0 (eCal 66 ci_X2_living rfl (aA1 aA0 (eLoc 0))))))
def n_X2_manyLive : MN := (yX2_manyLive, cX2_manyLive, 1, (some .int), 4)
noncomputable def ci_X2_manyLive : CI := (1, 2, [2], 0, denM 1 [2] false a_X2_manyLive.1.1)
set_option maxRecDepth 100000 in
theorem m_X2_manyLive : MetD wC n_X2_manyLive ci_X2_manyLive := g_meth false (a_X2_manyLive) rxC_ok (by decide) rfl rfl rfl (by decide) (by decide) (Or.inl ⟨rfl, rfl⟩) (fun h => by cases h) (mkWords (fun _ h => absurd h List.not_mem_nil) (fun _ h => absurd h List.not_mem_nil) (fun _ h => absurd h List.not_mem_nil) (fun _ h => absurd h List.not_mem_nil) (fun _ h => absurd h List.not_mem_nil) (fun _ h => absurd h List.not_mem_nil)) (List.forall_mem_cons.mpr ⟨clV m_X2_living rfl rfl rfl (by decide) (Or.inl lw_X2_66) (kn_X2_living _) (by decide +kernel), List.forall_mem_cons.mpr ⟨clS m_J6_bitCount_0f7a4C rfl (by decide) (Or.inl lw_X2_70) (kn_J6_bitCount_0f7a4 _) (by decide +kernel), fun _ h => absurd h List.not_mem_nil⟩⟩) (by decide +kernel)
/-! BlackMill.leave(I)I -/
noncomputable def mi_X10_leave : MI := (cX10_leave, 2, RX10, [], [], [], [(44, 10, 5), (67, 10, 10)], [], [], [(155, ci_X2_has), (183, ci_X2_lives), (187, ci_X10_refuse), (190, ci_X0_keep), (194, ci_X2_set), (198, ci_X2_manyLive)])
noncomputable def a_X10_leave : St wC (mi_X10_leave) 0 :=
  (sSeq (sIf (oNot (oCm0 .ne (eCal 183 ci_X2_lives rfl (aA1 (aA1 aA0 (eFld 10 5 (eLoc 0))) (eLoc 1))))) (sRet (eCal 187 ci_X10_refuse rfl (aA1 (aA1 (aA1 aA0 (eLoc 0)) (eCon (oCm0 .ne (eCal 155 ci_X2_has rfl (aA1 (aA1 aA0 (eFld 10 5 (eLoc 0))) (eLoc 1)))) (eInt 1) (eInt 0))) (eInt (-1))))))
  (sSeq (sIf (oCmp .lt (eCal 198 ci_X2_manyLive rfl (aA1 aA0 (eFld 10 5 (eLoc 0)))) (eInt 2)) (sRet (eCal 187 ci_X10_refuse rfl (aA1 (aA1 (aA1 aA0 (eLoc 0)) (eInt 3)) (eInt (-1))))))
  (sSeq (sDo 190 ci_X0_keep rfl (aA1 (aA1 aA0 (eFld 10 10 (eLoc 0))) (eFld 10 5 (eLoc 0))))
  (sSeq (sDo 194 ci_X2_set rfl (aA1 (aA1 (aA1 (aA1 aA0 (eFld 10 5 (eLoc 0))) (eLoc 1)) (eInt 5)) (eInt 2)))
  (sRet (eCal 198 ci_X2_manyLive rfl (aA1 aA0 (eFld 10 5 (eLoc 0)))))))))
def n_X10_leave : MN := (yX10_leave, cX10_leave, 2, (some .int), 5)
noncomputable def ci_X10_leave : CI := (1, 10, [2, 0], 0, denM 2 [2, 0] false a_X10_leave.1.1)
set_option maxRecDepth 100000 in
theorem m_X10_leave : MetD wC n_X10_leave ci_X10_leave := g_meth false (a_X10_leave) rxC_ok (by decide) rfl rfl rfl (by decide) (by decide) (Or.inl ⟨rfl, rfl⟩) (fun h => by cases h) (mkWords (fun _ h => absurd h List.not_mem_nil) (fun _ h => absurd h List.not_mem_nil) (fun _ h => absurd h List.not_mem_nil) (List.forall_mem_cons.mpr ⟨⟨_, _, _, rfl, by decide, Or.inl fw_X10_44⟩, List.forall_mem_cons.mpr ⟨⟨_, _, _, rfl, by decide, Or.inl fw_X10_67⟩, fun _ h => absurd h List.not_mem_nil⟩⟩) (fun _ h => absurd h List.not_mem_nil) (fun _ h => absurd h List.not_mem_nil)) (List.forall_mem_cons.mpr ⟨clV m_X2_has rfl rfl rfl (by decide) (Or.inl lw_X10_155) (kn_X2_has _) (by decide +kernel), List.forall_mem_cons.mpr ⟨clV m_X2_lives rfl rfl rfl (by decide) (Or.inl lw_X10_183) (kn_X2_lives _) (by decide +kernel), List.forall_mem_cons.mpr ⟨clV m_X10_refuse rfl rfl rfl (by decide) (Or.inl lw_X10_187) (kn_X10_refuse _) (by decide +kernel), List.forall_mem_cons.mpr ⟨clV m_X0_keep rfl rfl rfl (by decide) (Or.inl lw_X10_190) (kn_X0_keep _) (by decide +kernel), List.forall_mem_cons.mpr ⟨clV m_X2_set rfl rfl rfl (by decide) (Or.inl lw_X10_194) (kn_X2_set _) (by decide +kernel), List.forall_mem_cons.mpr ⟨clV m_X2_manyLive rfl rfl rfl (by decide) (Or.inl lw_X10_198) (kn_X2_manyLive _) (by decide +kernel), fun _ h => absurd h List.not_mem_nil⟩⟩⟩⟩⟩⟩) (by decide +kernel)
/-! BlackMill$House.welcome(I)V -/
noncomputable def mi_X2_welcome : MI := (cX2_welcome, 2, RX2, [], [], [], [], [], [], [(44, ci_X2_set)])
noncomputable def a_X2_welcome : St wC (mi_X2_welcome) 3 :=
  (sSeq (sSeq (sDo 44 ci_X2_set rfl (aA1 (aA1 (aA1 (aA1 aA0 (eLoc 0)) (eLoc 1)) (eInt 0)) (eInt 0)))
  (sSeq (sDo 44 ci_X2_set rfl (aA1 (aA1 (aA1 (aA1 aA0 (eLoc 0)) (eLoc 1)) (eInt 1)) (eInt 0)))
  (sSeq (sDo 44 ci_X2_set rfl (aA1 (aA1 (aA1 (aA1 aA0 (eLoc 0)) (eLoc 1)) (eInt 2)) (eInt 0)))
  (sSeq (sDo 44 ci_X2_set rfl (aA1 (aA1 (aA1 (aA1 aA0 (eLoc 0)) (eLoc 1)) (eInt 3)) (eInt (-1))))
  (sSeq (sDo 44 ci_X2_set rfl (aA1 (aA1 (aA1 (aA1 aA0 (eLoc 0)) (eLoc 1)) (eInt 4)) (eInt 14)))
  (sSeq (sDo 44 ci_X2_set rfl (aA1 (aA1 (aA1 (aA1 aA0 (eLoc 0)) (eLoc 1)) (eInt 5)) (eInt 0)))
  (sDo 44 ci_X2_set rfl (aA1 (aA1 (aA1 (aA1 aA0 (eLoc 0)) (eLoc 1)) (eInt 6)) (eInt 0)))))))))
  sReV)
def n_X2_welcome : MN := (yX2_welcome, cX2_welcome, 2, none, 3)
noncomputable def ci_X2_welcome : CI := (1, 2, [2, 0], 3, denM 2 [2, 0] false a_X2_welcome.1.1)
set_option maxRecDepth 100000 in
theorem m_X2_welcome : MetD wC n_X2_welcome ci_X2_welcome := g_meth false (a_X2_welcome) rxC_ok (by decide) rfl rfl rfl (by decide) (by decide) (Or.inr (Or.inr (Or.inr (Or.inr ⟨rfl, rfl⟩)))) (fun h => by cases h) (mkWords (fun _ h => absurd h List.not_mem_nil) (fun _ h => absurd h List.not_mem_nil) (fun _ h => absurd h List.not_mem_nil) (fun _ h => absurd h List.not_mem_nil) (fun _ h => absurd h List.not_mem_nil) (fun _ h => absurd h List.not_mem_nil)) (List.forall_mem_cons.mpr ⟨clV m_X2_set rfl rfl rfl (by decide) (Or.inl lw_X2_44) (kn_X2_set _) (by decide +kernel), fun _ h => absurd h List.not_mem_nil⟩) (by decide +kernel)
/-! BlackMill.come(I)I -/
noncomputable def mi_X10_come : MI := (cX10_come, 2, RX10, [], [], [], [(44, 10, 5), (67, 10, 10)], [], [], [(155, ci_X2_has), (183, ci_X2_lives), (187, ci_X10_refuse), (190, ci_X0_keep), (198, ci_X2_manyLive), (202, ci_X2_welcome)])
noncomputable def a_X10_come : St wC (mi_X10_come) 0 :=
  (sSeq (sIf (oOr (oNot (oCm0 .ne (eCal 155 ci_X2_has rfl (aA1 (aA1 aA0 (eFld 10 5 (eLoc 0))) (eLoc 1))))) (oCm0 .ne (eCal 183 ci_X2_lives rfl (aA1 (aA1 aA0 (eFld 10 5 (eLoc 0))) (eLoc 1))))) (sRet (eCal 187 ci_X10_refuse rfl (aA1 (aA1 (aA1 aA0 (eLoc 0)) (eCon (oCm0 .ne (eCal 155 ci_X2_has rfl (aA1 (aA1 aA0 (eFld 10 5 (eLoc 0))) (eLoc 1)))) (eInt 1) (eInt 0))) (eInt (-1))))))
  (sSeq (sDo 190 ci_X0_keep rfl (aA1 (aA1 aA0 (eFld 10 10 (eLoc 0))) (eFld 10 5 (eLoc 0))))
  (sSeq (sDo 202 ci_X2_welcome rfl (aA1 (aA1 aA0 (eFld 10 5 (eLoc 0))) (eLoc 1)))
  (sRet (eCal 198 ci_X2_manyLive rfl (aA1 aA0 (eFld 10 5 (eLoc 0))))))))
def n_X10_come : MN := (yX10_come, cX10_come, 2, (some .int), 5)
noncomputable def ci_X10_come : CI := (1, 10, [2, 0], 0, denM 2 [2, 0] false a_X10_come.1.1)
set_option maxRecDepth 100000 in
theorem m_X10_come : MetD wC n_X10_come ci_X10_come := g_meth false (a_X10_come) rxC_ok (by decide) rfl rfl rfl (by decide) (by decide) (Or.inl ⟨rfl, rfl⟩) (fun h => by cases h) (mkWords (fun _ h => absurd h List.not_mem_nil) (fun _ h => absurd h List.not_mem_nil) (fun _ h => absurd h List.not_mem_nil) (List.forall_mem_cons.mpr ⟨⟨_, _, _, rfl, by decide, Or.inl fw_X10_44⟩, List.forall_mem_cons.mpr ⟨⟨_, _, _, rfl, by decide, Or.inl fw_X10_67⟩, fun _ h => absurd h List.not_mem_nil⟩⟩) (fun _ h => absurd h List.not_mem_nil) (fun _ h => absurd h List.not_mem_nil)) (List.forall_mem_cons.mpr ⟨clV m_X2_has rfl rfl rfl (by decide) (Or.inl lw_X10_155) (kn_X2_has _) (by decide +kernel), List.forall_mem_cons.mpr ⟨clV m_X2_lives rfl rfl rfl (by decide) (Or.inl lw_X10_183) (kn_X2_lives _) (by decide +kernel), List.forall_mem_cons.mpr ⟨clV m_X10_refuse rfl rfl rfl (by decide) (Or.inl lw_X10_187) (kn_X10_refuse _) (by decide +kernel), List.forall_mem_cons.mpr ⟨clV m_X0_keep rfl rfl rfl (by decide) (Or.inl lw_X10_190) (kn_X0_keep _) (by decide +kernel), List.forall_mem_cons.mpr ⟨clV m_X2_manyLive rfl rfl rfl (by decide) (Or.inl lw_X10_198) (kn_X2_manyLive _) (by decide +kernel), List.forall_mem_cons.mpr ⟨clV m_X2_welcome rfl rfl rfl (by decide) (Or.inl lw_X10_202) (kn_X2_welcome _) (by decide +kernel), fun _ h => absurd h List.not_mem_nil⟩⟩⟩⟩⟩⟩) (by decide +kernel)
/-! BlackMill.within(III)I -/
noncomputable def mi_X10_within : MI := (cX10_within, 3, RX10, [], [], [], [], [], [(253, 1), (374, 0)], [])
noncomputable def a_X10_within : St wC (mi_X10_within) 0 :=
  (sRet (eMt 0 (eLoc 0) (eMt 1 (eLoc 1) (eLoc 2))))
def n_X10_within : MN := (yX10_within, cX10_within, 3, (some .int), 1)
noncomputable def ci_X10_within : CI := (0, 10, [0, 0, 0], 0, denM 3 [0, 0, 0] false a_X10_within.1.1)
set_option maxRecDepth 100000 in
theorem m_X10_within : MetD wC n_X10_within ci_X10_within := g_meth false (a_X10_within) rxC_ok (by decide) rfl rfl rfl (by decide) (by decide) (Or.inl ⟨rfl, rfl⟩) (fun h => by cases h) (mkWords (fun _ h => absurd h List.not_mem_nil) (fun _ h => absurd h List.not_mem_nil) (fun _ h => absurd h List.not_mem_nil) (fun _ h => absurd h List.not_mem_nil) (fun _ h => absurd h List.not_mem_nil) (List.forall_mem_cons.mpr ⟨mw_X10_253, List.forall_mem_cons.mpr ⟨mw_X10_374, fun _ h => absurd h List.not_mem_nil⟩⟩)) (fun _ h => absurd h List.not_mem_nil) (by decide +kernel)
/-! BlackMill$Laws.pop()I -/
noncomputable def mi_X4_pop : MI := (cX4_pop, 1, RX4, [], [], [], [(21, 4, 3), (63, 4, 4)], [], [], [])
noncomputable def a_X4_pop : St wC (mi_X4_pop) 0 :=
  (sSeq (sIf (oOr (oCm0 .le (eFld 4 4 (eLoc 0))) (oCmp .gt (eFld 4 4 (eLoc 0)) (eLen 0 (eFld 4 3 (eLoc 0))))) (sRet (eInt 0)))
  (sSeq (sUpdF 1 4 4 (eLoc 0) (eInt 1))
  (sRet (eAr 0 (eFld 4 3 (eLoc 0)) (eFld 4 4 (eLoc 0))))))
def n_X4_pop : MN := (yX4_pop, cX4_pop, 1, (some .int), 1)
noncomputable def ci_X4_pop : CI := (1, 4, [2], 0, denM 1 [2] false a_X4_pop.1.1)
set_option maxRecDepth 100000 in
theorem m_X4_pop : MetD wC n_X4_pop ci_X4_pop := g_meth false (a_X4_pop) rxC_ok (by decide) rfl rfl rfl (by decide) (by decide) (Or.inl ⟨rfl, rfl⟩) (fun h => by cases h) (mkWords (fun _ h => absurd h List.not_mem_nil) (fun _ h => absurd h List.not_mem_nil) (fun _ h => absurd h List.not_mem_nil) (List.forall_mem_cons.mpr ⟨⟨_, _, _, rfl, by decide, Or.inl fw_X4_21⟩, List.forall_mem_cons.mpr ⟨⟨_, _, _, rfl, by decide, Or.inl fw_X4_63⟩, fun _ h => absurd h List.not_mem_nil⟩⟩) (fun _ h => absurd h List.not_mem_nil) (fun _ h => absurd h List.not_mem_nil)) (fun _ h => absurd h List.not_mem_nil) (by decide +kernel)
/-! BlackMill$Laws.push(I)V -/
noncomputable def mi_X4_push : MI := (cX4_push, 2, RX4, [], [], [], [(21, 4, 3), (63, 4, 4)], [], [], [])
noncomputable def a_X4_push : St wC (mi_X4_push) 3 :=
  (sSeq (sIf (oAnd (oCm0 .ge (eFld 4 4 (eLoc 0))) (oCmp .lt (eFld 4 4 (eLoc 0)) (eLen 0 (eFld 4 3 (eLoc 0))))) (sSeq (sPutA 0 (eFld 4 3 (eLoc 0)) (eFld 4 4 (eLoc 0)) (eLoc 1))
  (sUpdF 0 4 4 (eLoc 0) (eInt 1))))
  sReV)
def n_X4_push : MN := (yX4_push, cX4_push, 2, none, 1)
noncomputable def ci_X4_push : CI := (1, 4, [2, 0], 3, denM 2 [2, 0] false a_X4_push.1.1)
set_option maxRecDepth 100000 in
theorem m_X4_push : MetD wC n_X4_push ci_X4_push := g_meth false (a_X4_push) rxC_ok (by decide) rfl rfl rfl (by decide) (by decide) (Or.inr (Or.inr (Or.inr (Or.inr ⟨rfl, rfl⟩)))) (fun h => by cases h) (mkWords (fun _ h => absurd h List.not_mem_nil) (fun _ h => absurd h List.not_mem_nil) (fun _ h => absurd h List.not_mem_nil) (List.forall_mem_cons.mpr ⟨⟨_, _, _, rfl, by decide, Or.inl fw_X4_21⟩, List.forall_mem_cons.mpr ⟨⟨_, _, _, rfl, by decide, Or.inl fw_X4_63⟩, fun _ h => absurd h List.not_mem_nil⟩⟩) (fun _ h => absurd h List.not_mem_nil) (fun _ h => absurd h List.not_mem_nil)) (fun _ h => absurd h List.not_mem_nil) (by decide +kernel)
/-! BlackMill$Laws.result(IJJ)J -/
noncomputable def mi_X4_result : MI := (cX4_result, 5, RX4, [], [], [], [], [], [], [])
noncomputable def a_X4_result : St wC (mi_X4_result) 1 :=
  (sSw (eLoc 0) (wCs 43 (sRet (eBin 9 (eLoc 1) (eLoc 3)))
  (wCs 45 (sRet (eBin 10 (eLoc 1) (eLoc 3)))
  (wCs 42 (sRet (eBin 11 (eLoc 1) (eLoc 3)))
  (wCs 47 (sRet (eCon (oCmpL .eq (eLoc 3) (eLng 0)) (eLng 0) (eDiv 2 (eLoc 1) (eLoc 3))))
  (wCs 61 (sRet (eCon (oCmpL .eq (eLoc 1) (eLoc 3)) (eLng 1) (eLng 0)))
  (wCs 60 (sRet (eCon (oCmpL .lt (eLoc 1) (eLoc 3)) (eLng 1) (eLng 0)))
  (wCs 62 (sRet (eCon (oCmpL .gt (eLoc 1) (eLoc 3)) (eLng 1) (eLng 0)))
  (wCs 38 (sRet (eBin 12 (eLoc 1) (eLoc 3)))
  (wCs 124 (sRet (eBin 13 (eLoc 1) (eLoc 3)))
  (wDf (sRet (eLng 0)))))))))))))
def n_X4_result : MN := (yX4_result, cX4_result, 5, (some .long), 1)
noncomputable def ci_X4_result : CI := (0, 4, [0, 1, 1], 1, denM 5 [0, 1, 1] false a_X4_result.1.1)
set_option maxRecDepth 100000 in
theorem m_X4_result : MetD wC n_X4_result ci_X4_result := g_meth false (a_X4_result) rxC_ok (by decide) rfl rfl rfl (by decide) (by decide) (Or.inr (Or.inr (Or.inl ⟨rfl, rfl⟩))) (fun h => by cases h) (mkWords (fun _ h => absurd h List.not_mem_nil) (fun _ h => absurd h List.not_mem_nil) (fun _ h => absurd h List.not_mem_nil) (fun _ h => absurd h List.not_mem_nil) (fun _ h => absurd h List.not_mem_nil) (fun _ h => absurd h List.not_mem_nil)) (fun _ h => absurd h List.not_mem_nil) (by decide +kernel)
/-! BlackMill$Laws.held(J)I -/
noncomputable def mi_X4_held : MI := (cX4_held, 2, RX4, [], [(84, -1000000), (86, 1000000)], [], [], [], [(88, 4), (94, 3)], [])
noncomputable def a_X4_held : St wC (mi_X4_held) 0 :=
  (sRet (eL2I (eMt 3 (eLng (-1000000)) (eMt 4 (eLng 1000000) (eLoc 0)))))
def n_X4_held : MN := (yX4_held, cX4_held, 2, (some .int), 1)
noncomputable def ci_X4_held : CI := (0, 4, [1], 0, denM 2 [1] false a_X4_held.1.1)
set_option maxRecDepth 100000 in
theorem m_X4_held : MetD wC n_X4_held ci_X4_held := g_meth false (a_X4_held) rxC_ok (by decide) rfl rfl rfl (by decide) (by decide) (Or.inl ⟨rfl, rfl⟩) (fun h => by cases h) (mkWords (fun _ h => absurd h List.not_mem_nil) (List.forall_mem_cons.mpr ⟨cw_X4_84, List.forall_mem_cons.mpr ⟨cw_X4_86, fun _ h => absurd h List.not_mem_nil⟩⟩) (fun _ h => absurd h List.not_mem_nil) (fun _ h => absurd h List.not_mem_nil) (fun _ h => absurd h List.not_mem_nil) (List.forall_mem_cons.mpr ⟨mw_X4_88, List.forall_mem_cons.mpr ⟨mw_X4_94, fun _ h => absurd h List.not_mem_nil⟩⟩)) (fun _ h => absurd h List.not_mem_nil) (by decide +kernel)
/-! BlackMill$Laws.work(I)V -/
noncomputable def mi_X4_work : MI := (cX4_work, 4, RX4, [], [], [], [(18, 4, 2)], [], [], [(59, ci_X10_at), (66, ci_X4_pop), (73, ci_X4_push), (76, ci_X4_result), (80, ci_X4_held)])
noncomputable def a_X4_work : St wC (mi_X4_work) 3 :=
  (sSeq (sIfE (oCmp .lt (eLoc 1) (eInt 10000)) (sDo 73 ci_X4_push rfl (aA1 (aA1 aA0 (eLoc 0)) (eLoc 1)))
  (sIfE (oCmp .ge (eLoc 1) (eInt 20000)) (sDo 73 ci_X4_push rfl (aA1 (aA1 aA0 (eLoc 0)) (eCal 59 ci_X10_at rfl (aA1 (aA1 aA0 (eFld 4 2 (eLoc 0))) (eBin 1 (eLoc 1) (eInt 20000))))))
  (sIfE (oCmp .eq (eLoc 1) (eInt 10033)) (sDo 73 ci_X4_push rfl (aA1 (aA1 aA0 (eLoc 0)) (eBin 1 (eInt 1) (eCal 66 ci_X4_pop rfl (aA1 aA0 (eLoc 0))))))
  (sSeq (sSet 2 (eCal 66 ci_X4_pop rfl (aA1 aA0 (eLoc 0))))
  (sSeq (sSet 3 (eCal 66 ci_X4_pop rfl (aA1 aA0 (eLoc 0))))
  (sDo 73 ci_X4_push rfl (aA1 (aA1 aA0 (eLoc 0)) (eCal 80 ci_X4_held rfl (aA1 aA0 (eCal 76 ci_X4_result rfl (aA1 (aA1 (aA1 aA0 (eBin 1 (eLoc 1) (eInt 10000))) (eI2L (eLoc 3))) (eI2L (eLoc 2)))))))))))))
  sReV)
def n_X4_work : MN := (yX4_work, cX4_work, 4, none, 2)
noncomputable def ci_X4_work : CI := (1, 4, [2, 0], 3, denM 4 [2, 0] false a_X4_work.1.1)
set_option maxRecDepth 100000 in
theorem m_X4_work : MetD wC n_X4_work ci_X4_work := g_meth false (a_X4_work) rxC_ok (by decide) rfl rfl rfl (by decide) (by decide) (Or.inr (Or.inr (Or.inr (Or.inr ⟨rfl, rfl⟩)))) (fun h => by cases h) (mkWords (fun _ h => absurd h List.not_mem_nil) (fun _ h => absurd h List.not_mem_nil) (fun _ h => absurd h List.not_mem_nil) (List.forall_mem_cons.mpr ⟨⟨_, _, _, rfl, by decide, Or.inl fw_X4_18⟩, fun _ h => absurd h List.not_mem_nil⟩) (fun _ h => absurd h List.not_mem_nil) (fun _ h => absurd h List.not_mem_nil)) (List.forall_mem_cons.mpr ⟨clS m_X10_at rfl (by decide) (Or.inr lw_X4_59) (kn_X10_at _) (by decide +kernel), List.forall_mem_cons.mpr ⟨clV m_X4_pop rfl rfl rfl (by decide) (Or.inl lw_X4_66) (kn_X4_pop _) (by decide +kernel), List.forall_mem_cons.mpr ⟨clV m_X4_push rfl rfl rfl (by decide) (Or.inl lw_X4_73) (kn_X4_push _) (by decide +kernel), List.forall_mem_cons.mpr ⟨clS m_X4_result rfl (by decide) (Or.inl lw_X4_76) (kn_X4_result _) (by decide +kernel), List.forall_mem_cons.mpr ⟨clS m_X4_held rfl (by decide) (Or.inl lw_X4_80) (kn_X4_held _) (by decide +kernel), fun _ h => absurd h List.not_mem_nil⟩⟩⟩⟩⟩) (by decide +kernel)
/-! BlackMill$Laws.worth()I -/
noncomputable def mi_X4_worth : MI := (cX4_worth, 6, RX4, [], [], [], [(11, 4, 0), (15, 4, 1), (24, 4, 6), (63, 4, 4)], [], [], [(59, ci_X10_at), (66, ci_X4_pop), (69, ci_X4_work)])
noncomputable def a_X4_worth : St wC (mi_X4_worth) 0 :=
  (sSeq (sSet 1 (eBin 2 (eFld 4 6 (eLoc 0)) (eInt 240)))
  (sSeq (sSet 2 (eBin 0 (eLoc 1) (eCal 59 ci_X10_at rfl (aA1 (aA1 aA0 (eFld 4 1 (eLoc 0))) (eFld 4 6 (eLoc 0))))))
  (sSeq (sSet 3 (eInt 0))
  (sSeq (sPutF 4 4 (eLoc 0) (eInt 0))
  (sSeq (sBlk (sSeq (sSet 4 (eLoc 1))
  (sWh (oCmp .lt (eLoc 4) (eLoc 2)) (sSeq (sSeq (sSet 5 (eCal 59 ci_X10_at rfl (aA1 (aA1 aA0 (eFld 4 0 (eLoc 0))) (eLoc 4))))
  (sIfE (oCmp .eq (eLoc 5) (eInt 10059)) (sSeq (sIf (oNot (oCm0 .ne (eLoc 3))) (sRet (eCal 66 ci_X4_pop rfl (aA1 aA0 (eLoc 0)))))
  (sSet 3 (eInt 0)))
  (sIf (oNot (oCm0 .ne (eLoc 3))) (sIfE (oCmp .eq (eLoc 5) (eInt 10063)) (sSet 3 (eBo (oCm0 .eq (eCal 66 ci_X4_pop rfl (aA1 aA0 (eLoc 0))))))
  (sDo 69 ci_X4_work rfl (aA1 (aA1 aA0 (eLoc 0)) (eLoc 5)))))))
  (sInc 4 1)))))
  (sRet (eInt 0)))))))
def n_X4_worth : MN := (yX4_worth, cX4_worth, 6, (some .int), 3)
noncomputable def ci_X4_worth : CI := (1, 4, [2], 0, denM 6 [2] false a_X4_worth.1.1)
set_option maxRecDepth 100000 in
theorem m_X4_worth : MetD wC n_X4_worth ci_X4_worth := g_meth false (a_X4_worth) rxC_ok (by decide) rfl rfl rfl (by decide) (by decide) (Or.inl ⟨rfl, rfl⟩) (fun h => by cases h) (mkWords (fun _ h => absurd h List.not_mem_nil) (fun _ h => absurd h List.not_mem_nil) (fun _ h => absurd h List.not_mem_nil) (List.forall_mem_cons.mpr ⟨⟨_, _, _, rfl, by decide, Or.inl fw_X4_11⟩, List.forall_mem_cons.mpr ⟨⟨_, _, _, rfl, by decide, Or.inl fw_X4_15⟩, List.forall_mem_cons.mpr ⟨⟨_, _, _, rfl, by decide, Or.inl fw_X4_24⟩, List.forall_mem_cons.mpr ⟨⟨_, _, _, rfl, by decide, Or.inl fw_X4_63⟩, fun _ h => absurd h List.not_mem_nil⟩⟩⟩⟩) (fun _ h => absurd h List.not_mem_nil) (fun _ h => absurd h List.not_mem_nil)) (List.forall_mem_cons.mpr ⟨clS m_X10_at rfl (by decide) (Or.inr lw_X4_59) (kn_X10_at _) (by decide +kernel), List.forall_mem_cons.mpr ⟨clV m_X4_pop rfl rfl rfl (by decide) (Or.inl lw_X4_66) (kn_X4_pop _) (by decide +kernel), List.forall_mem_cons.mpr ⟨clV m_X4_work rfl rfl rfl (by decide) (Or.inl lw_X4_69) (kn_X4_work _) (by decide +kernel), fun _ h => absurd h List.not_mem_nil⟩⟩⟩) (by decide +kernel)
/-! BlackMill$Laws.lessonOf(LBlackMill$House;II)I -/
noncomputable def mi_X4_lessonOf : MI := (cX4_lessonOf, 4, RX4, [], [], [], [(18, 4, 2), (24, 4, 6), (39, 2, 3), (52, 2, 2)], [], [], [(35, ci_X10_put), (44, ci_X2_get), (48, ci_X10_within), (55, ci_X4_worth)])
noncomputable def a_X4_lessonOf : St wC (mi_X4_lessonOf) 0 :=
  (sSeq (sIf (oCmp .eq (eFld 4 6 (eLoc 0)) (eInt (-1))) (sRet (eCal 48 ci_X10_within rfl (aA1 (aA1 (aA1 aA0 (eInt 0)) (eInt 9)) (eBin 0 (eFld 2 3 (eLoc 1)) (eDiv 0 (eCal 44 ci_X2_get rfl (aA1 (aA1 (aA1 aA0 (eLoc 1)) (eLoc 2)) (eInt 1))) (eInt 10)))))))
  (sSeq (sDo 35 ci_X10_put rfl (aA1 (aA1 (aA1 aA0 (eFld 4 2 (eLoc 0))) (eInt 0)) (eCal 44 ci_X2_get rfl (aA1 (aA1 (aA1 aA0 (eLoc 1)) (eLoc 2)) (eInt 0)))))
  (sSeq (sDo 35 ci_X10_put rfl (aA1 (aA1 (aA1 aA0 (eFld 4 2 (eLoc 0))) (eInt 1)) (eCal 44 ci_X2_get rfl (aA1 (aA1 (aA1 aA0 (eLoc 1)) (eLoc 2)) (eInt 1)))))
  (sSeq (sDo 35 ci_X10_put rfl (aA1 (aA1 (aA1 aA0 (eFld 4 2 (eLoc 0))) (eInt 2)) (eCal 44 ci_X2_get rfl (aA1 (aA1 (aA1 aA0 (eLoc 1)) (eLoc 2)) (eInt 2)))))
  (sSeq (sDo 35 ci_X10_put rfl (aA1 (aA1 (aA1 aA0 (eFld 4 2 (eLoc 0))) (eInt 3)) (eCal 44 ci_X2_get rfl (aA1 (aA1 (aA1 aA0 (eLoc 1)) (eLoc 2)) (eInt 4)))))
  (sSeq (sDo 35 ci_X10_put rfl (aA1 (aA1 (aA1 aA0 (eFld 4 2 (eLoc 0))) (eInt 4)) (eFld 2 2 (eLoc 1))))
  (sSeq (sDo 35 ci_X10_put rfl (aA1 (aA1 (aA1 aA0 (eFld 4 2 (eLoc 0))) (eInt 5)) (eLoc 3)))
  (sRet (eCal 48 ci_X10_within rfl (aA1 (aA1 (aA1 aA0 (eInt 0)) (eInt 9)) (eCal 55 ci_X4_worth rfl (aA1 aA0 (eLoc 0)))))))))))))
def n_X4_lessonOf : MN := (yX4_lessonOf, cX4_lessonOf, 4, (some .int), 4)
noncomputable def ci_X4_lessonOf : CI := (1, 4, [2, 2, 0, 0], 0, denM 4 [2, 2, 0, 0] false a_X4_lessonOf.1.1)
set_option maxRecDepth 100000 in
theorem m_X4_lessonOf : MetD wC n_X4_lessonOf ci_X4_lessonOf := g_meth false (a_X4_lessonOf) rxC_ok (by decide) rfl rfl rfl (by decide) (by decide) (Or.inl ⟨rfl, rfl⟩) (fun h => by cases h) (mkWords (fun _ h => absurd h List.not_mem_nil) (fun _ h => absurd h List.not_mem_nil) (fun _ h => absurd h List.not_mem_nil) (List.forall_mem_cons.mpr ⟨⟨_, _, _, rfl, by decide, Or.inl fw_X4_18⟩, List.forall_mem_cons.mpr ⟨⟨_, _, _, rfl, by decide, Or.inl fw_X4_24⟩, List.forall_mem_cons.mpr ⟨⟨_, _, _, rfl, by decide, Or.inr fw_X4_39⟩, List.forall_mem_cons.mpr ⟨⟨_, _, _, rfl, by decide, Or.inr fw_X4_52⟩, fun _ h => absurd h List.not_mem_nil⟩⟩⟩⟩) (fun _ h => absurd h List.not_mem_nil) (fun _ h => absurd h List.not_mem_nil)) (List.forall_mem_cons.mpr ⟨clS m_X10_put rfl (by decide) (Or.inr lw_X4_35) (kn_X10_put _) (by decide +kernel), List.forall_mem_cons.mpr ⟨clV m_X2_get rfl rfl rfl (by decide) (Or.inl lw_X4_44) (kn_X2_get _) (by decide +kernel), List.forall_mem_cons.mpr ⟨clS m_X10_within rfl (by decide) (Or.inr lw_X4_48) (kn_X10_within _) (by decide +kernel), List.forall_mem_cons.mpr ⟨clV m_X4_worth rfl rfl rfl (by decide) (Or.inl lw_X4_55) (kn_X4_worth _) (by decide +kernel), fun _ h => absurd h List.not_mem_nil⟩⟩⟩⟩) (by decide +kernel)
/-! BlackMill$House.grow(II)V -/
noncomputable def mi_X2_grow : MI := (cX2_grow, 4, RX2, [], [], [], [(37, 2, 4)], [], [(95, 1)], [(44, ci_X2_set), (60, ci_X2_get)])
noncomputable def a_X2_grow : St wC (mi_X2_grow) 3 :=
  (sSeq (sSeq (sSet 3 (eCon (oCmp .eq (eCal 60 ci_X2_get rfl (aA1 (aA1 (aA1 aA0 (eLoc 0)) (eLoc 1)) (eInt 2))) (eInt 2)) (eBin 2 (eInt 2) (eFld 2 4 (eLoc 0))) (eFld 2 4 (eLoc 0))))
  (sSeq (sDo 44 ci_X2_set rfl (aA1 (aA1 (aA1 (aA1 aA0 (eLoc 0)) (eLoc 1)) (eInt 0)) (eMt 1 (eInt 99) (eBin 0 (eCal 60 ci_X2_get rfl (aA1 (aA1 (aA1 aA0 (eLoc 0)) (eLoc 1)) (eInt 0))) (eLoc 2)))))
  (sDo 44 ci_X2_set rfl (aA1 (aA1 (aA1 (aA1 aA0 (eLoc 0)) (eLoc 1)) (eInt 4)) (eMt 1 (eInt 99) (eBin 0 (eCal 60 ci_X2_get rfl (aA1 (aA1 (aA1 aA0 (eLoc 0)) (eLoc 1)) (eInt 4))) (eLoc 3)))))))
  sReV)
def n_X2_grow : MN := (yX2_grow, cX2_grow, 4, none, 3)
noncomputable def ci_X2_grow : CI := (1, 2, [2, 0, 0], 3, denM 4 [2, 0, 0] false a_X2_grow.1.1)
set_option maxRecDepth 100000 in
theorem m_X2_grow : MetD wC n_X2_grow ci_X2_grow := g_meth false (a_X2_grow) rxC_ok (by decide) rfl rfl rfl (by decide) (by decide) (Or.inr (Or.inr (Or.inr (Or.inr ⟨rfl, rfl⟩)))) (fun h => by cases h) (mkWords (fun _ h => absurd h List.not_mem_nil) (fun _ h => absurd h List.not_mem_nil) (fun _ h => absurd h List.not_mem_nil) (List.forall_mem_cons.mpr ⟨⟨_, _, _, rfl, by decide, Or.inl fw_X2_37⟩, fun _ h => absurd h List.not_mem_nil⟩) (fun _ h => absurd h List.not_mem_nil) (List.forall_mem_cons.mpr ⟨mw_X2_95, fun _ h => absurd h List.not_mem_nil⟩)) (List.forall_mem_cons.mpr ⟨clV m_X2_set rfl rfl rfl (by decide) (Or.inl lw_X2_44) (kn_X2_set _) (by decide +kernel), List.forall_mem_cons.mpr ⟨clV m_X2_get rfl rfl rfl (by decide) (Or.inl lw_X2_60) (kn_X2_get _) (by decide +kernel), fun _ h => absurd h List.not_mem_nil⟩⟩) (by decide +kernel)
/-! BlackMill$House.mostFeared(I)I -/
noncomputable def mi_X2_mostFeared : MI := (cX2_mostFeared, 4, RX2, [], [], [], [(21, 2, 1)], [], [], [(100, ci_X2_fear)])
noncomputable def a_X2_mostFeared : St wC (mi_X2_mostFeared) 0 :=
  (sSeq (sSet 2 (eInt (-1)))
  (sSeq (sBlk (sSeq (sSet 3 (eInt 0))
  (sWh (oCmp .lt (eLoc 3) (eFld 2 1 (eLoc 0))) (sSeq (sIf (oAnd (oCm0 .ne (eBin 3 (eBin 8 (eLoc 1) (eLoc 3)) (eInt 1))) (oOr (oCmp .eq (eLoc 2) (eInt (-1))) (oCmp .gt (eCal 100 ci_X2_fear rfl (aA1 (aA1 aA0 (eLoc 0)) (eLoc 3))) (eCal 100 ci_X2_fear rfl (aA1 (aA1 aA0 (eLoc 0)) (eLoc 2)))))) (sSet 2 (eLoc 3)))
  (sInc 3 1)))))
  (sRet (eLoc 2))))
def n_X2_mostFeared : MN := (yX2_mostFeared, cX2_mostFeared, 4, (some .int), 3)
noncomputable def ci_X2_mostFeared : CI := (1, 2, [2, 0], 0, denM 4 [2, 0] false a_X2_mostFeared.1.1)
set_option maxRecDepth 100000 in
theorem m_X2_mostFeared : MetD wC n_X2_mostFeared ci_X2_mostFeared := g_meth false (a_X2_mostFeared) rxC_ok (by decide) rfl rfl rfl (by decide) (by decide) (Or.inl ⟨rfl, rfl⟩) (fun h => by cases h) (mkWords (fun _ h => absurd h List.not_mem_nil) (fun _ h => absurd h List.not_mem_nil) (fun _ h => absurd h List.not_mem_nil) (List.forall_mem_cons.mpr ⟨⟨_, _, _, rfl, by decide, Or.inl fw_X2_21⟩, fun _ h => absurd h List.not_mem_nil⟩) (fun _ h => absurd h List.not_mem_nil) (fun _ h => absurd h List.not_mem_nil)) (List.forall_mem_cons.mpr ⟨clV m_X2_fear rfl rfl rfl (by decide) (Or.inl lw_X2_100) (kn_X2_fear _) (by decide +kernel), fun _ h => absurd h List.not_mem_nil⟩) (by decide +kernel)
/-! BlackMill$House.pass(LBlackMill$Laws;)I -/
noncomputable def mi_X2_pass : MI := (cX2_pass, 5, RX2, [], [], [], [(21, 2, 1), (24, 2, 2)], [], [], [(44, ci_X2_set), (56, ci_X2_has), (63, ci_X2_lives), (66, ci_X2_living), (79, ci_X2_manyLive), (82, ci_X4_lessonOf), (88, ci_X2_grow), (92, ci_X2_mostFeared)])
noncomputable def a_X2_pass : St wC (mi_X2_pass) 0 :=
  (sSeq (sSet 2 (eCal 79 ci_X2_manyLive rfl (aA1 aA0 (eLoc 0))))
  (sSeq (sBlk (sSeq (sSet 3 (eInt 0))
  (sWh (oCmp .lt (eLoc 3) (eFld 2 1 (eLoc 0))) (sSeq (sIf (oCm0 .ne (eCal 63 ci_X2_lives rfl (aA1 (aA1 aA0 (eLoc 0)) (eLoc 3)))) (sDo 88 ci_X2_grow rfl (aA1 (aA1 (aA1 aA0 (eLoc 0)) (eLoc 3)) (eCal 82 ci_X4_lessonOf rfl (aA1 (aA1 (aA1 (aA1 aA0 (eLoc 1)) (eLoc 0)) (eLoc 3)) (eLoc 2))))))
  (sInc 3 1)))))
  (sSeq (sSet 3 (eCon (oCmp .gt (eLoc 2) (eInt 1)) (eCal 92 ci_X2_mostFeared rfl (aA1 (aA1 aA0 (eLoc 0)) (eCal 66 ci_X2_living rfl (aA1 aA0 (eLoc 0))))) (eInt (-1))))
  (sSeq (sIf (oCm0 .ne (eCal 56 ci_X2_has rfl (aA1 (aA1 aA0 (eLoc 0)) (eLoc 3)))) (sDo 44 ci_X2_set rfl (aA1 (aA1 (aA1 (aA1 aA0 (eLoc 0)) (eLoc 3)) (eInt 5)) (eInt 1))))
  (sSeq (sBlk (sSeq (sSet 4 (eInt 0))
  (sWh (oCmp .lt (eLoc 4) (eFld 2 1 (eLoc 0))) (sSeq (sDo 44 ci_X2_set rfl (aA1 (aA1 (aA1 (aA1 aA0 (eLoc 0)) (eLoc 4)) (eInt 6)) (eInt 0)))
  (sInc 4 1)))))
  (sSeq (sUpdF 0 2 2 (eLoc 0) (eInt 1))
  (sRet (eLoc 3))))))))
def n_X2_pass : MN := (yX2_pass, cX2_pass, 5, (some .int), 5)
noncomputable def ci_X2_pass : CI := (1, 2, [2, 2], 0, denM 5 [2, 2] false a_X2_pass.1.1)
set_option maxRecDepth 100000 in
theorem m_X2_pass : MetD wC n_X2_pass ci_X2_pass := g_meth false (a_X2_pass) rxC_ok (by decide) rfl rfl rfl (by decide) (by decide) (Or.inl ⟨rfl, rfl⟩) (fun h => by cases h) (mkWords (fun _ h => absurd h List.not_mem_nil) (fun _ h => absurd h List.not_mem_nil) (fun _ h => absurd h List.not_mem_nil) (List.forall_mem_cons.mpr ⟨⟨_, _, _, rfl, by decide, Or.inl fw_X2_21⟩, List.forall_mem_cons.mpr ⟨⟨_, _, _, rfl, by decide, Or.inl fw_X2_24⟩, fun _ h => absurd h List.not_mem_nil⟩⟩) (fun _ h => absurd h List.not_mem_nil) (fun _ h => absurd h List.not_mem_nil)) (List.forall_mem_cons.mpr ⟨clV m_X2_set rfl rfl rfl (by decide) (Or.inl lw_X2_44) (kn_X2_set _) (by decide +kernel), List.forall_mem_cons.mpr ⟨clV m_X2_has rfl rfl rfl (by decide) (Or.inl lw_X2_56) (kn_X2_has _) (by decide +kernel), List.forall_mem_cons.mpr ⟨clV m_X2_lives rfl rfl rfl (by decide) (Or.inl lw_X2_63) (kn_X2_lives _) (by decide +kernel), List.forall_mem_cons.mpr ⟨clV m_X2_living rfl rfl rfl (by decide) (Or.inl lw_X2_66) (kn_X2_living _) (by decide +kernel), List.forall_mem_cons.mpr ⟨clV m_X2_manyLive rfl rfl rfl (by decide) (Or.inl lw_X2_79) (kn_X2_manyLive _) (by decide +kernel), List.forall_mem_cons.mpr ⟨clV m_X4_lessonOf rfl rfl rfl (by decide) (Or.inl lw_X2_82) (kn_X4_lessonOf _) (by decide +kernel), List.forall_mem_cons.mpr ⟨clV m_X2_grow rfl rfl rfl (by decide) (Or.inl lw_X2_88) (kn_X2_grow _) (by decide +kernel), List.forall_mem_cons.mpr ⟨clV m_X2_mostFeared rfl rfl rfl (by decide) (Or.inl lw_X2_92) (kn_X2_mostFeared _) (by decide +kernel), fun _ h => absurd h List.not_mem_nil⟩⟩⟩⟩⟩⟩⟩⟩) (by decide +kernel)
/-! BlackMill$House.artOf(I)I -/
noncomputable def mi_X2_artOf : MI := (cX2_artOf, 4, RX2, [], [], [], [(21, 2, 1)], [], [], [(60, ci_X2_get)])
noncomputable def a_X2_artOf : St wC (mi_X2_artOf) 0 :=
  (sSeq (sSet 2 (eInt 0))
  (sSeq (sBlk (sSeq (sSet 3 (eInt 0))
  (sWh (oCmp .lt (eLoc 3) (eFld 2 1 (eLoc 0))) (sSeq (sIf (oCm0 .ne (eBin 3 (eBin 8 (eLoc 1) (eLoc 3)) (eInt 1))) (sSet 2 (eBin 0 (eLoc 2) (eCal 60 ci_X2_get rfl (aA1 (aA1 (aA1 aA0 (eLoc 0)) (eLoc 3)) (eInt 0))))))
  (sInc 3 1)))))
  (sRet (eLoc 2))))
def n_X2_artOf : MN := (yX2_artOf, cX2_artOf, 4, (some .int), 2)
noncomputable def ci_X2_artOf : CI := (1, 2, [2, 0], 0, denM 4 [2, 0] false a_X2_artOf.1.1)
set_option maxRecDepth 100000 in
theorem m_X2_artOf : MetD wC n_X2_artOf ci_X2_artOf := g_meth false (a_X2_artOf) rxC_ok (by decide) rfl rfl rfl (by decide) (by decide) (Or.inl ⟨rfl, rfl⟩) (fun h => by cases h) (mkWords (fun _ h => absurd h List.not_mem_nil) (fun _ h => absurd h List.not_mem_nil) (fun _ h => absurd h List.not_mem_nil) (List.forall_mem_cons.mpr ⟨⟨_, _, _, rfl, by decide, Or.inl fw_X2_21⟩, fun _ h => absurd h List.not_mem_nil⟩) (fun _ h => absurd h List.not_mem_nil) (fun _ h => absurd h List.not_mem_nil)) (List.forall_mem_cons.mpr ⟨clV m_X2_get rfl rfl rfl (by decide) (Or.inl lw_X2_60) (kn_X2_get _) (by decide +kernel), fun _ h => absurd h List.not_mem_nil⟩) (by decide +kernel)
/-! BlackMill$House.artOfAll()I -/
noncomputable def mi_X2_artOfAll : MI := (cX2_artOfAll, 1, RX2, [], [], [], [], [], [], [(66, ci_X2_living), (76, ci_X2_artOf)])
noncomputable def a_X2_artOfAll : St wC (mi_X2_artOfAll) 0 :=
  (sRet (eCal 76 ci_X2_artOf rfl (aA1 (aA1 aA0 (eLoc 0)) (eCal 66 ci_X2_living rfl (aA1 aA0 (eLoc 0))))))
def n_X2_artOfAll : MN := (yX2_artOfAll, cX2_artOfAll, 1, (some .int), 4)
noncomputable def ci_X2_artOfAll : CI := (1, 2, [2], 0, denM 1 [2] false a_X2_artOfAll.1.1)
set_option maxRecDepth 100000 in
theorem m_X2_artOfAll : MetD wC n_X2_artOfAll ci_X2_artOfAll := g_meth false (a_X2_artOfAll) rxC_ok (by decide) rfl rfl rfl (by decide) (by decide) (Or.inl ⟨rfl, rfl⟩) (fun h => by cases h) (mkWords (fun _ h => absurd h List.not_mem_nil) (fun _ h => absurd h List.not_mem_nil) (fun _ h => absurd h List.not_mem_nil) (fun _ h => absurd h List.not_mem_nil) (fun _ h => absurd h List.not_mem_nil) (fun _ h => absurd h List.not_mem_nil)) (List.forall_mem_cons.mpr ⟨clV m_X2_living rfl rfl rfl (by decide) (Or.inl lw_X2_66) (kn_X2_living _) (by decide +kernel), List.forall_mem_cons.mpr ⟨clV m_X2_artOf rfl rfl rfl (by decide) (Or.inl lw_X2_76) (kn_X2_artOf _) (by decide +kernel), fun _ h => absurd h List.not_mem_nil⟩⟩) (by decide +kernel)
/-! BlackMill$Ledger.write(IIII)V -/
noncomputable def mi_X5_write : MI := (cX5_write, 6, RX5, [], [], [], [(11, 5, 0)], [], [], [(15, ci_X10_put)])
noncomputable def a_X5_write : St wC (mi_X5_write) 3 :=
  (sSeq (sSeq (sSet 5 (eBin 2 (eDiv 1 (eLoc 1) (eInt 100)) (eInt 3)))
  (sSeq (sDo 15 ci_X10_put rfl (aA1 (aA1 (aA1 aA0 (eFld 5 0 (eLoc 0))) (eLoc 5)) (eLoc 2)))
  (sSeq (sDo 15 ci_X10_put rfl (aA1 (aA1 (aA1 aA0 (eFld 5 0 (eLoc 0))) (eBin 0 (eLoc 5) (eInt 1))) (eLoc 3)))
  (sDo 15 ci_X10_put rfl (aA1 (aA1 (aA1 aA0 (eFld 5 0 (eLoc 0))) (eBin 0 (eLoc 5) (eInt 2))) (eLoc 4))))))
  sReV)
def n_X5_write : MN := (yX5_write, cX5_write, 6, none, 2)
noncomputable def ci_X5_write : CI := (1, 5, [2, 0, 0, 0, 0], 3, denM 6 [2, 0, 0, 0, 0] false a_X5_write.1.1)
set_option maxRecDepth 100000 in
theorem m_X5_write : MetD wC n_X5_write ci_X5_write := g_meth false (a_X5_write) rxC_ok (by decide) rfl rfl rfl (by decide) (by decide) (Or.inr (Or.inr (Or.inr (Or.inr ⟨rfl, rfl⟩)))) (fun h => by cases h) (mkWords (fun _ h => absurd h List.not_mem_nil) (fun _ h => absurd h List.not_mem_nil) (fun _ h => absurd h List.not_mem_nil) (List.forall_mem_cons.mpr ⟨⟨_, _, _, rfl, by decide, Or.inl fw_X5_11⟩, fun _ h => absurd h List.not_mem_nil⟩) (fun _ h => absurd h List.not_mem_nil) (fun _ h => absurd h List.not_mem_nil)) (List.forall_mem_cons.mpr ⟨clS m_X10_put rfl (by decide) (Or.inr lw_X5_15) (kn_X10_put _) (by decide +kernel), fun _ h => absurd h List.not_mem_nil⟩) (by decide +kernel)
/-! BlackMill.passYear()V -/
noncomputable def mi_X10_passYear : MI := (cX10_passYear, 2, RX10, [], [], [], [(33, 10, 3), (44, 10, 5), (57, 10, 8), (205, 2, 2)], [], [], [(198, ci_X2_manyLive), (211, ci_X2_pass), (215, ci_X2_artOfAll), (218, ci_X5_write)])
noncomputable def a_X10_passYear : St wC (mi_X10_passYear) 3 :=
  (sSeq (sSeq (sSet 1 (eCal 211 ci_X2_pass rfl (aA1 (aA1 aA0 (eFld 10 5 (eLoc 0))) (eFld 10 3 (eLoc 0)))))
  (sDo 218 ci_X5_write rfl (aA1 (aA1 (aA1 (aA1 (aA1 aA0 (eFld 10 8 (eLoc 0))) (eBin 1 (eFld 2 2 (eFld 10 5 (eLoc 0))) (eInt 1))) (eLoc 1)) (eCal 198 ci_X2_manyLive rfl (aA1 aA0 (eFld 10 5 (eLoc 0))))) (eCal 215 ci_X2_artOfAll rfl (aA1 aA0 (eFld 10 5 (eLoc 0)))))))
  sReV)
def n_X10_passYear : MN := (yX10_passYear, cX10_passYear, 2, none, 6)
noncomputable def ci_X10_passYear : CI := (1, 10, [2], 3, denM 2 [2] false a_X10_passYear.1.1)
set_option maxRecDepth 100000 in
theorem m_X10_passYear : MetD wC n_X10_passYear ci_X10_passYear := g_meth false (a_X10_passYear) rxC_ok (by decide) rfl rfl rfl (by decide) (by decide) (Or.inr (Or.inr (Or.inr (Or.inr ⟨rfl, rfl⟩)))) (fun h => by cases h) (mkWords (fun _ h => absurd h List.not_mem_nil) (fun _ h => absurd h List.not_mem_nil) (fun _ h => absurd h List.not_mem_nil) (List.forall_mem_cons.mpr ⟨⟨_, _, _, rfl, by decide, Or.inl fw_X10_33⟩, List.forall_mem_cons.mpr ⟨⟨_, _, _, rfl, by decide, Or.inl fw_X10_44⟩, List.forall_mem_cons.mpr ⟨⟨_, _, _, rfl, by decide, Or.inl fw_X10_57⟩, List.forall_mem_cons.mpr ⟨⟨_, _, _, rfl, by decide, Or.inr fw_X10_205⟩, fun _ h => absurd h List.not_mem_nil⟩⟩⟩⟩) (fun _ h => absurd h List.not_mem_nil) (fun _ h => absurd h List.not_mem_nil)) (List.forall_mem_cons.mpr ⟨clV m_X2_manyLive rfl rfl rfl (by decide) (Or.inl lw_X10_198) (kn_X2_manyLive _) (by decide +kernel), List.forall_mem_cons.mpr ⟨clV m_X2_pass rfl rfl rfl (by decide) (Or.inl lw_X10_211) (kn_X2_pass _) (by decide +kernel), List.forall_mem_cons.mpr ⟨clV m_X2_artOfAll rfl rfl rfl (by decide) (Or.inl lw_X10_215) (kn_X2_artOfAll _) (by decide +kernel), List.forall_mem_cons.mpr ⟨clV m_X5_write rfl rfl rfl (by decide) (Or.inl lw_X10_218) (kn_X5_write _) (by decide +kernel), fun _ h => absurd h List.not_mem_nil⟩⟩⟩⟩) (by decide +kernel)
/-! BlackMill.years(I)I -/
noncomputable def mi_X10_years : MI := (cX10_years, 3, RX10, [], [], [], [(44, 10, 5), (67, 10, 10), (205, 2, 2)], [], [], [(151, ci_X10_isTold), (187, ci_X10_refuse), (190, ci_X0_keep), (208, ci_X10_passYear)])
noncomputable def a_X10_years : St wC (mi_X10_years) 0 :=
  (sSeq (sIf (oNot (oCm0 .ne (eCal 151 ci_X10_isTold rfl (aA1 aA0 (eLoc 0))))) (sRet (eCal 187 ci_X10_refuse rfl (aA1 (aA1 (aA1 aA0 (eLoc 0)) (eInt 0)) (eInt (-1))))))
  (sSeq (sIf (oOr (oCmp .lt (eLoc 1) (eInt 1)) (oCmp .gt (eLoc 1) (eInt 60))) (sRet (eCal 187 ci_X10_refuse rfl (aA1 (aA1 (aA1 aA0 (eLoc 0)) (eInt 2)) (eInt (-1))))))
  (sSeq (sIf (oCmp .gt (eBin 0 (eFld 2 2 (eFld 10 5 (eLoc 0))) (eLoc 1)) (eInt 999)) (sRet (eCal 187 ci_X10_refuse rfl (aA1 (aA1 (aA1 aA0 (eLoc 0)) (eInt 4)) (eInt (-1))))))
  (sSeq (sBlk (sSeq (sSet 2 (eInt 0))
  (sWh (oCmp .lt (eLoc 2) (eLoc 1)) (sSeq (sSeq (sDo 190 ci_X0_keep rfl (aA1 (aA1 aA0 (eFld 10 10 (eLoc 0))) (eFld 10 5 (eLoc 0))))
  (sDo 208 ci_X10_passYear rfl (aA1 aA0 (eLoc 0))))
  (sInc 2 1)))))
  (sRet (eFld 2 2 (eFld 10 5 (eLoc 0))))))))
def n_X10_years : MN := (yX10_years, cX10_years, 3, (some .int), 7)
noncomputable def ci_X10_years : CI := (1, 10, [2, 0], 0, denM 3 [2, 0] false a_X10_years.1.1)
set_option maxRecDepth 100000 in
theorem m_X10_years : MetD wC n_X10_years ci_X10_years := g_meth false (a_X10_years) rxC_ok (by decide) rfl rfl rfl (by decide) (by decide) (Or.inl ⟨rfl, rfl⟩) (fun h => by cases h) (mkWords (fun _ h => absurd h List.not_mem_nil) (fun _ h => absurd h List.not_mem_nil) (fun _ h => absurd h List.not_mem_nil) (List.forall_mem_cons.mpr ⟨⟨_, _, _, rfl, by decide, Or.inl fw_X10_44⟩, List.forall_mem_cons.mpr ⟨⟨_, _, _, rfl, by decide, Or.inl fw_X10_67⟩, List.forall_mem_cons.mpr ⟨⟨_, _, _, rfl, by decide, Or.inr fw_X10_205⟩, fun _ h => absurd h List.not_mem_nil⟩⟩⟩) (fun _ h => absurd h List.not_mem_nil) (fun _ h => absurd h List.not_mem_nil)) (List.forall_mem_cons.mpr ⟨clV m_X10_isTold rfl rfl rfl (by decide) (Or.inl lw_X10_151) (kn_X10_isTold _) (by decide +kernel), List.forall_mem_cons.mpr ⟨clV m_X10_refuse rfl rfl rfl (by decide) (Or.inl lw_X10_187) (kn_X10_refuse _) (by decide +kernel), List.forall_mem_cons.mpr ⟨clV m_X0_keep rfl rfl rfl (by decide) (Or.inl lw_X10_190) (kn_X0_keep _) (by decide +kernel), List.forall_mem_cons.mpr ⟨clV m_X10_passYear rfl rfl rfl (by decide) (Or.inl lw_X10_208) (kn_X10_passYear _) (by decide +kernel), fun _ h => absurd h List.not_mem_nil⟩⟩⟩⟩) (by decide +kernel)
/-! BlackMill.bold(I)Z -/
noncomputable def mi_X10_bold : MI := (cX10_bold, 2, RX10, [], [], [], [(95, 10, 15)], [], [], [])
noncomputable def a_X10_bold : St wC (mi_X10_bold) 0 :=
  (sSeq (sIf (oOr (oOr (oCm0 .lt (eLoc 1)) (oCmp .gt (eLoc 1) (eInt 9))) (oCmp .eq (eLoc 1) (eFld 10 15 (eLoc 0)))) (sRet (eInt 0)))
  (sSeq (sPutF 10 15 (eLoc 0) (eLoc 1))
  (sRet (eInt 1))))
def n_X10_bold : MN := (yX10_bold, cX10_bold, 2, (some .boolean), 1)
noncomputable def ci_X10_bold : CI := (1, 10, [2, 0], 0, denM 2 [2, 0] true a_X10_bold.1.1)
set_option maxRecDepth 100000 in
theorem m_X10_bold : MetD wC n_X10_bold ci_X10_bold := g_meth true (a_X10_bold) rxC_ok (by decide) rfl rfl rfl (by decide) (by decide) (Or.inr (Or.inl ⟨rfl, rfl⟩)) (fun _ => rfl) (mkWords (fun _ h => absurd h List.not_mem_nil) (fun _ h => absurd h List.not_mem_nil) (fun _ h => absurd h List.not_mem_nil) (List.forall_mem_cons.mpr ⟨⟨_, _, _, rfl, by decide, Or.inl fw_X10_95⟩, fun _ h => absurd h List.not_mem_nil⟩) (fun _ h => absurd h List.not_mem_nil) (fun _ h => absurd h List.not_mem_nil)) (fun _ h => absurd h List.not_mem_nil) (by decide +kernel)
/-! BlackMill.stepped(J)J -/
noncomputable def mi_X10_stepped : MI := (cX10_stepped, 2, RX10, [], [(240, 6364136223846793005), (242, 1442695040888963407)], [], [], [], [], [])
noncomputable def a_X10_stepped : St wC (mi_X10_stepped) 1 :=
  (sRet (eBin 9 (eBin 11 (eLoc 0) (eLng 6364136223846793005)) (eLng 1442695040888963407)))
def n_X10_stepped : MN := (yX10_stepped, cX10_stepped, 2, (some .long), 1)
noncomputable def ci_X10_stepped : CI := (0, 10, [1], 1, denM 2 [1] false a_X10_stepped.1.1)
set_option maxRecDepth 100000 in
theorem m_X10_stepped : MetD wC n_X10_stepped ci_X10_stepped := g_meth false (a_X10_stepped) rxC_ok (by decide) rfl rfl rfl (by decide) (by decide) (Or.inr (Or.inr (Or.inl ⟨rfl, rfl⟩))) (fun h => by cases h) (mkWords (fun _ h => absurd h List.not_mem_nil) (List.forall_mem_cons.mpr ⟨cw_X10_240, List.forall_mem_cons.mpr ⟨cw_X10_242, fun _ h => absurd h List.not_mem_nil⟩⟩) (fun _ h => absurd h List.not_mem_nil) (fun _ h => absurd h List.not_mem_nil) (fun _ h => absurd h List.not_mem_nil) (fun _ h => absurd h List.not_mem_nil)) (fun _ h => absurd h List.not_mem_nil) (by decide +kernel)
/-! BlackMill.drawn(JI)I -/
noncomputable def mi_X10_drawn : MI := (cX10_drawn, 3, RX10, [], [], [], [], [], [], [])
noncomputable def a_X10_drawn : St wC (mi_X10_drawn) 0 :=
  (sRet (eCon (oCm0 .gt (eLoc 2)) (eL2I (eDiv 3 (eBin 15 (eLoc 0) (eInt 33)) (eI2L (eLoc 2)))) (eInt 0)))
def n_X10_drawn : MN := (yX10_drawn, cX10_drawn, 3, (some .int), 1)
noncomputable def ci_X10_drawn : CI := (0, 10, [1, 0], 0, denM 3 [1, 0] false a_X10_drawn.1.1)
set_option maxRecDepth 100000 in
theorem m_X10_drawn : MetD wC n_X10_drawn ci_X10_drawn := g_meth false (a_X10_drawn) rxC_ok (by decide) rfl rfl rfl (by decide) (by decide) (Or.inl ⟨rfl, rfl⟩) (fun h => by cases h) (mkWords (fun _ h => absurd h List.not_mem_nil) (fun _ h => absurd h List.not_mem_nil) (fun _ h => absurd h List.not_mem_nil) (fun _ h => absurd h List.not_mem_nil) (fun _ h => absurd h List.not_mem_nil) (fun _ h => absurd h List.not_mem_nil)) (fun _ h => absurd h List.not_mem_nil) (by decide +kernel)
/-! BlackMill.showByDraws(J)J -/
noncomputable def mi_X10_showByDraws : MI := (cX10_showByDraws, 6, RX10, [], [], [], [(44, 10, 5), (95, 10, 15), (118, 2, 1)], [], [], [(172, ci_X2_get), (183, ci_X2_lives), (194, ci_X2_set), (233, ci_X10_stepped), (236, ci_X10_drawn)])
noncomputable def a_X10_showByDraws : St wC (mi_X10_showByDraws) 1 :=
  (sSeq (sSet 3 (eLoc 1))
  (sSeq (sBlk (sSeq (sSet 5 (eInt 0))
  (sWh (oCmp .lt (eLoc 5) (eFld 2 1 (eFld 10 5 (eLoc 0)))) (sSeq (sIf (oCm0 .ne (eCal 183 ci_X2_lives rfl (aA1 (aA1 aA0 (eFld 10 5 (eLoc 0))) (eLoc 5)))) (sSeq (sSet 3 (eCal 233 ci_X10_stepped rfl (aA1 aA0 (eLoc 3))))
  (sDo 194 ci_X2_set rfl (aA1 (aA1 (aA1 (aA1 aA0 (eFld 10 5 (eLoc 0))) (eLoc 5)) (eInt 1)) (eCon (oCmp .lt (eCal 236 ci_X10_drawn rfl (aA1 (aA1 aA0 (eLoc 3)) (eInt 10))) (eFld 10 15 (eLoc 0))) (eDiv 0 (eCal 172 ci_X2_get rfl (aA1 (aA1 (aA1 aA0 (eFld 10 5 (eLoc 0))) (eLoc 5)) (eInt 0))) (eInt 2)) (eInt 0))))))
  (sInc 5 1)))))
  (sRet (eLoc 3))))
def n_X10_showByDraws : MN := (yX10_showByDraws, cX10_showByDraws, 6, (some .long), 3)
noncomputable def ci_X10_showByDraws : CI := (1, 10, [2, 1], 1, denM 6 [2, 1] false a_X10_showByDraws.1.1)
set_option maxRecDepth 100000 in
theorem m_X10_showByDraws : MetD wC n_X10_showByDraws ci_X10_showByDraws := g_meth false (a_X10_showByDraws) rxC_ok (by decide) rfl rfl rfl (by decide) (by decide) (Or.inr (Or.inr (Or.inl ⟨rfl, rfl⟩))) (fun h => by cases h) (mkWords (fun _ h => absurd h List.not_mem_nil) (fun _ h => absurd h List.not_mem_nil) (fun _ h => absurd h List.not_mem_nil) (List.forall_mem_cons.mpr ⟨⟨_, _, _, rfl, by decide, Or.inl fw_X10_44⟩, List.forall_mem_cons.mpr ⟨⟨_, _, _, rfl, by decide, Or.inl fw_X10_95⟩, List.forall_mem_cons.mpr ⟨⟨_, _, _, rfl, by decide, Or.inr fw_X10_118⟩, fun _ h => absurd h List.not_mem_nil⟩⟩⟩) (fun _ h => absurd h List.not_mem_nil) (fun _ h => absurd h List.not_mem_nil)) (List.forall_mem_cons.mpr ⟨clV m_X2_get rfl rfl rfl (by decide) (Or.inl lw_X10_172) (kn_X2_get _) (by decide +kernel), List.forall_mem_cons.mpr ⟨clV m_X2_lives rfl rfl rfl (by decide) (Or.inl lw_X10_183) (kn_X2_lives _) (by decide +kernel), List.forall_mem_cons.mpr ⟨clV m_X2_set rfl rfl rfl (by decide) (Or.inl lw_X10_194) (kn_X2_set _) (by decide +kernel), List.forall_mem_cons.mpr ⟨clS m_X10_stepped rfl (by decide) (Or.inl lw_X10_233) (kn_X10_stepped _) (by decide +kernel), List.forall_mem_cons.mpr ⟨clS m_X10_drawn rfl (by decide) (Or.inl lw_X10_236) (kn_X10_drawn _) (by decide +kernel), fun _ h => absurd h List.not_mem_nil⟩⟩⟩⟩⟩) (by decide +kernel)
/-! BlackMill.comeByDraws(J)J -/
noncomputable def mi_X10_comeByDraws : MI := (cX10_comeByDraws, 6, RX10, [], [], [], [(44, 10, 5), (118, 2, 1)], [], [], [(183, ci_X2_lives), (202, ci_X2_welcome), (233, ci_X10_stepped), (236, ci_X10_drawn)])
noncomputable def a_X10_comeByDraws : St wC (mi_X10_comeByDraws) 1 :=
  (sSeq (sSet 3 (eLoc 1))
  (sSeq (sBlk (sSeq (sSet 5 (eInt 0))
  (sWh (oCmp .lt (eLoc 5) (eFld 2 1 (eFld 10 5 (eLoc 0)))) (sSeq (sIf (oNot (oCm0 .ne (eCal 183 ci_X2_lives rfl (aA1 (aA1 aA0 (eFld 10 5 (eLoc 0))) (eLoc 5))))) (sSeq (sSet 3 (eCal 233 ci_X10_stepped rfl (aA1 aA0 (eLoc 3))))
  (sIf (oCmp .eq (eCal 236 ci_X10_drawn rfl (aA1 (aA1 aA0 (eLoc 3)) (eInt 2))) (eInt 1)) (sDo 202 ci_X2_welcome rfl (aA1 (aA1 aA0 (eFld 10 5 (eLoc 0))) (eLoc 5))))))
  (sInc 5 1)))))
  (sRet (eLoc 3))))
def n_X10_comeByDraws : MN := (yX10_comeByDraws, cX10_comeByDraws, 6, (some .long), 4)
noncomputable def ci_X10_comeByDraws : CI := (1, 10, [2, 1], 1, denM 6 [2, 1] false a_X10_comeByDraws.1.1)
set_option maxRecDepth 100000 in
theorem m_X10_comeByDraws : MetD wC n_X10_comeByDraws ci_X10_comeByDraws := g_meth false (a_X10_comeByDraws) rxC_ok (by decide) rfl rfl rfl (by decide) (by decide) (Or.inr (Or.inr (Or.inl ⟨rfl, rfl⟩))) (fun h => by cases h) (mkWords (fun _ h => absurd h List.not_mem_nil) (fun _ h => absurd h List.not_mem_nil) (fun _ h => absurd h List.not_mem_nil) (List.forall_mem_cons.mpr ⟨⟨_, _, _, rfl, by decide, Or.inl fw_X10_44⟩, List.forall_mem_cons.mpr ⟨⟨_, _, _, rfl, by decide, Or.inr fw_X10_118⟩, fun _ h => absurd h List.not_mem_nil⟩⟩) (fun _ h => absurd h List.not_mem_nil) (fun _ h => absurd h List.not_mem_nil)) (List.forall_mem_cons.mpr ⟨clV m_X2_lives rfl rfl rfl (by decide) (Or.inl lw_X10_183) (kn_X2_lives _) (by decide +kernel), List.forall_mem_cons.mpr ⟨clV m_X2_welcome rfl rfl rfl (by decide) (Or.inl lw_X10_202) (kn_X2_welcome _) (by decide +kernel), List.forall_mem_cons.mpr ⟨clS m_X10_stepped rfl (by decide) (Or.inl lw_X10_233) (kn_X10_stepped _) (by decide +kernel), List.forall_mem_cons.mpr ⟨clS m_X10_drawn rfl (by decide) (Or.inl lw_X10_236) (kn_X10_drawn _) (by decide +kernel), fun _ h => absurd h List.not_mem_nil⟩⟩⟩⟩) (by decide +kernel)
/-! BlackMill.winters(IJ)I -/
noncomputable def mi_X10_winters : MI := (cX10_winters, 7, RX10, [], [], [], [(44, 10, 5), (67, 10, 10), (205, 2, 2)], [], [], [(151, ci_X10_isTold), (190, ci_X0_keep), (208, ci_X10_passYear), (226, ci_X10_showByDraws), (230, ci_X10_comeByDraws)])
noncomputable def a_X10_winters : St wC (mi_X10_winters) 0 :=
  (sSeq (sIf (oOr (oOr (oOr (oNot (oCm0 .ne (eCal 151 ci_X10_isTold rfl (aA1 aA0 (eLoc 0))))) (oCmp .lt (eLoc 1) (eInt 1))) (oCmp .gt (eLoc 1) (eInt 60))) (oCmp .gt (eBin 0 (eFld 2 2 (eFld 10 5 (eLoc 0))) (eLoc 1)) (eInt 999))) (sRet (eInt (-1))))
  (sSeq (sSet 4 (eLoc 2))
  (sSeq (sBlk (sSeq (sSet 6 (eInt 0))
  (sWh (oCmp .lt (eLoc 6) (eLoc 1)) (sSeq (sSeq (sDo 190 ci_X0_keep rfl (aA1 (aA1 aA0 (eFld 10 10 (eLoc 0))) (eFld 10 5 (eLoc 0))))
  (sSeq (sSet 4 (eCal 226 ci_X10_showByDraws rfl (aA1 (aA1 aA0 (eLoc 0)) (eLoc 4))))
  (sSeq (sSet 4 (eCal 230 ci_X10_comeByDraws rfl (aA1 (aA1 aA0 (eLoc 0)) (eLoc 4))))
  (sDo 208 ci_X10_passYear rfl (aA1 aA0 (eLoc 0))))))
  (sInc 6 1)))))
  (sRet (eFld 2 2 (eFld 10 5 (eLoc 0)))))))
def n_X10_winters : MN := (yX10_winters, cX10_winters, 7, (some .int), 7)
noncomputable def ci_X10_winters : CI := (1, 10, [2, 0, 1], 0, denM 7 [2, 0, 1] false a_X10_winters.1.1)
set_option maxRecDepth 100000 in
theorem m_X10_winters : MetD wC n_X10_winters ci_X10_winters := g_meth false (a_X10_winters) rxC_ok (by decide) rfl rfl rfl (by decide) (by decide) (Or.inl ⟨rfl, rfl⟩) (fun h => by cases h) (mkWords (fun _ h => absurd h List.not_mem_nil) (fun _ h => absurd h List.not_mem_nil) (fun _ h => absurd h List.not_mem_nil) (List.forall_mem_cons.mpr ⟨⟨_, _, _, rfl, by decide, Or.inl fw_X10_44⟩, List.forall_mem_cons.mpr ⟨⟨_, _, _, rfl, by decide, Or.inl fw_X10_67⟩, List.forall_mem_cons.mpr ⟨⟨_, _, _, rfl, by decide, Or.inr fw_X10_205⟩, fun _ h => absurd h List.not_mem_nil⟩⟩⟩) (fun _ h => absurd h List.not_mem_nil) (fun _ h => absurd h List.not_mem_nil)) (List.forall_mem_cons.mpr ⟨clV m_X10_isTold rfl rfl rfl (by decide) (Or.inl lw_X10_151) (kn_X10_isTold _) (by decide +kernel), List.forall_mem_cons.mpr ⟨clV m_X0_keep rfl rfl rfl (by decide) (Or.inl lw_X10_190) (kn_X0_keep _) (by decide +kernel), List.forall_mem_cons.mpr ⟨clV m_X10_passYear rfl rfl rfl (by decide) (Or.inl lw_X10_208) (kn_X10_passYear _) (by decide +kernel), List.forall_mem_cons.mpr ⟨clV m_X10_showByDraws rfl rfl rfl (by decide) (Or.inl lw_X10_226) (kn_X10_showByDraws _) (by decide +kernel), List.forall_mem_cons.mpr ⟨clV m_X10_comeByDraws rfl rfl rfl (by decide) (Or.inl lw_X10_230) (kn_X10_comeByDraws _) (by decide +kernel), fun _ h => absurd h List.not_mem_nil⟩⟩⟩⟩⟩) (by decide +kernel)
/-! BlackMill.status(I)I -/
noncomputable def mi_X10_status : MI := (cX10_status, 2, RX10, [], [], [], [(92, 10, 14)], [], [], [])
noncomputable def a_X10_status : St wC (mi_X10_status) 0 :=
  (sRet (eCon (oAnd (oCm0 .ge (eLoc 1)) (oCmp .lt (eLoc 1) (eLen 0 (eFld 10 14 (eLoc 0))))) (eAr 0 (eFld 10 14 (eLoc 0)) (eLoc 1)) (eInt (-1))))
def n_X10_status : MN := (yX10_status, cX10_status, 2, (some .int), 1)
noncomputable def ci_X10_status : CI := (1, 10, [2, 0], 0, denM 2 [2, 0] false a_X10_status.1.1)
set_option maxRecDepth 100000 in
theorem m_X10_status : MetD wC n_X10_status ci_X10_status := g_meth false (a_X10_status) rxC_ok (by decide) rfl rfl rfl (by decide) (by decide) (Or.inl ⟨rfl, rfl⟩) (fun h => by cases h) (mkWords (fun _ h => absurd h List.not_mem_nil) (fun _ h => absurd h List.not_mem_nil) (fun _ h => absurd h List.not_mem_nil) (List.forall_mem_cons.mpr ⟨⟨_, _, _, rfl, by decide, Or.inl fw_X10_92⟩, fun _ h => absurd h List.not_mem_nil⟩) (fun _ h => absurd h List.not_mem_nil) (fun _ h => absurd h List.not_mem_nil)) (fun _ h => absurd h List.not_mem_nil) (by decide +kernel)
/-! BlackMill$Acts.takeBack(LBlackMill$House;)V -/
noncomputable def mi_X0_takeBack : MI := (cX0_takeBack, 2, RX0, [], [], [], [(11, 0, 0), (15, 0, 1), (18, 0, 3), (22, 2, 0), (25, 0, 2), (32, 2, 2)], [], [], [(28, ci_X10_move), (45, ci_X10_at)])
noncomputable def a_X0_takeBack : St wC (mi_X0_takeBack) 3 :=
  (sSeq (sSeq (sPutF 0 2 (eLoc 0) (eDiv 1 (eBin 1 (eBin 0 (eFld 0 2 (eLoc 0)) (eInt 40)) (eInt 1)) (eInt 40)))
  (sSeq (sDo 28 ci_X10_move rfl (aA1 (aA1 (aA1 (aA1 (aA1 aA0 (eFld 0 0 (eLoc 0))) (eBin 2 (eFld 0 2 (eLoc 0)) (eInt 56))) (eFld 2 0 (eLoc 1))) (eInt 0)) (eInt 56)))
  (sSeq (sPutF 2 2 (eLoc 1) (eCal 45 ci_X10_at rfl (aA1 (aA1 aA0 (eFld 0 1 (eLoc 0))) (eFld 0 2 (eLoc 0)))))
  (sUpdF 1 0 3 (eLoc 0) (eInt 1)))))
  sReV)
def n_X0_takeBack : MN := (yX0_takeBack, cX0_takeBack, 2, none, 2)
noncomputable def ci_X0_takeBack : CI := (1, 0, [2, 2], 3, denM 2 [2, 2] false a_X0_takeBack.1.1)
set_option maxRecDepth 100000 in
theorem m_X0_takeBack : MetD wC n_X0_takeBack ci_X0_takeBack := g_meth false (a_X0_takeBack) rxC_ok (by decide) rfl rfl rfl (by decide) (by decide) (Or.inr (Or.inr (Or.inr (Or.inr ⟨rfl, rfl⟩)))) (fun h => by cases h) (mkWords (fun _ h => absurd h List.not_mem_nil) (fun _ h => absurd h List.not_mem_nil) (fun _ h => absurd h List.not_mem_nil) (List.forall_mem_cons.mpr ⟨⟨_, _, _, rfl, by decide, Or.inl fw_X0_11⟩, List.forall_mem_cons.mpr ⟨⟨_, _, _, rfl, by decide, Or.inl fw_X0_15⟩, List.forall_mem_cons.mpr ⟨⟨_, _, _, rfl, by decide, Or.inl fw_X0_18⟩, List.forall_mem_cons.mpr ⟨⟨_, _, _, rfl, by decide, Or.inr fw_X0_22⟩, List.forall_mem_cons.mpr ⟨⟨_, _, _, rfl, by decide, Or.inl fw_X0_25⟩, List.forall_mem_cons.mpr ⟨⟨_, _, _, rfl, by decide, Or.inr fw_X0_32⟩, fun _ h => absurd h List.not_mem_nil⟩⟩⟩⟩⟩⟩) (fun _ h => absurd h List.not_mem_nil) (fun _ h => absurd h List.not_mem_nil)) (List.forall_mem_cons.mpr ⟨clS m_X10_move rfl (by decide) (Or.inr lw_X0_28) (kn_X10_move _) (by decide +kernel), List.forall_mem_cons.mpr ⟨clS m_X10_at rfl (by decide) (Or.inr lw_X0_45) (kn_X10_at _) (by decide +kernel), fun _ h => absurd h List.not_mem_nil⟩⟩) (by decide +kernel)
/-! BlackMill.undo()I -/
noncomputable def mi_X10_undo : MI := (cX10_undo, 1, RX10, [], [], [], [(44, 10, 5), (67, 10, 10), (244, 0, 3)], [], [], [(245, ci_X0_takeBack)])
noncomputable def a_X10_undo : St wC (mi_X10_undo) 0 :=
  (sSeq (sIf (oCm0 .eq (eFld 0 3 (eFld 10 10 (eLoc 0)))) (sRet (eInt (-1))))
  (sSeq (sDo 245 ci_X0_takeBack rfl (aA1 (aA1 aA0 (eFld 10 10 (eLoc 0))) (eFld 10 5 (eLoc 0))))
  (sRet (eFld 0 3 (eFld 10 10 (eLoc 0))))))
def n_X10_undo : MN := (yX10_undo, cX10_undo, 1, (some .int), 3)
noncomputable def ci_X10_undo : CI := (1, 10, [2], 0, denM 1 [2] false a_X10_undo.1.1)
set_option maxRecDepth 100000 in
theorem m_X10_undo : MetD wC n_X10_undo ci_X10_undo := g_meth false (a_X10_undo) rxC_ok (by decide) rfl rfl rfl (by decide) (by decide) (Or.inl ⟨rfl, rfl⟩) (fun h => by cases h) (mkWords (fun _ h => absurd h List.not_mem_nil) (fun _ h => absurd h List.not_mem_nil) (fun _ h => absurd h List.not_mem_nil) (List.forall_mem_cons.mpr ⟨⟨_, _, _, rfl, by decide, Or.inl fw_X10_44⟩, List.forall_mem_cons.mpr ⟨⟨_, _, _, rfl, by decide, Or.inl fw_X10_67⟩, List.forall_mem_cons.mpr ⟨⟨_, _, _, rfl, by decide, Or.inr fw_X10_244⟩, fun _ h => absurd h List.not_mem_nil⟩⟩⟩) (fun _ h => absurd h List.not_mem_nil) (fun _ h => absurd h List.not_mem_nil)) (List.forall_mem_cons.mpr ⟨clV m_X0_takeBack rfl rfl rfl (by decide) (Or.inl lw_X10_245) (kn_X0_takeBack _) (by decide +kernel), fun _ h => absurd h List.not_mem_nil⟩) (by decide +kernel)
/-! BlackMill.logLength()I -/
noncomputable def mi_X10_logLength : MI := (cX10_logLength, 1, RX10, [], [], [], [(44, 10, 5), (205, 2, 2)], [], [(253, 1)], [])
noncomputable def a_X10_logLength : St wC (mi_X10_logLength) 0 :=
  (sRet (eMt 1 (eFld 2 2 (eFld 10 5 (eLoc 0))) (eInt 60)))
def n_X10_logLength : MN := (yX10_logLength, cX10_logLength, 1, (some .int), 1)
noncomputable def ci_X10_logLength : CI := (1, 10, [2], 0, denM 1 [2] false a_X10_logLength.1.1)
set_option maxRecDepth 100000 in
theorem m_X10_logLength : MetD wC n_X10_logLength ci_X10_logLength := g_meth false (a_X10_logLength) rxC_ok (by decide) rfl rfl rfl (by decide) (by decide) (Or.inl ⟨rfl, rfl⟩) (fun h => by cases h) (mkWords (fun _ h => absurd h List.not_mem_nil) (fun _ h => absurd h List.not_mem_nil) (fun _ h => absurd h List.not_mem_nil) (List.forall_mem_cons.mpr ⟨⟨_, _, _, rfl, by decide, Or.inl fw_X10_44⟩, List.forall_mem_cons.mpr ⟨⟨_, _, _, rfl, by decide, Or.inr fw_X10_205⟩, fun _ h => absurd h List.not_mem_nil⟩⟩) (fun _ h => absurd h List.not_mem_nil) (List.forall_mem_cons.mpr ⟨mw_X10_253, fun _ h => absurd h List.not_mem_nil⟩)) (fun _ h => absurd h List.not_mem_nil) (by decide +kernel)
