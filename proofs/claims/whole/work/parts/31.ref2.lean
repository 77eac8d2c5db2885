/-! methods of ref, 2 -/
/-! BlackMillModel.of(II)I -/
noncomputable def mi_X11_of : MI := (cX11_of, 3, RX11, [], [], [], [(55, 11, 26)], [], [], [])
noncomputable def a_X11_of : St wM (mi_X11_of) 0 :=
  (sRet (eAr 0 (eFld 11 26 (eLoc 0)) (eBin 0 (eBin 2 (eInt 6) (eLoc 1)) (eLoc 2))))
def n_X11_of : MN := (yX11_of, cX11_of, 3, (some .int), 1)
noncomputable def ci_X11_of : CI := (1, 11, [2, 0, 0], 0, denM 3 [2, 0, 0] false a_X11_of.1.1)
set_option maxRecDepth 100000 in
theorem m_X11_of : MetD wM n_X11_of ci_X11_of := g_meth false (a_X11_of) rxM_ok (by decide) rfl rfl rfl (by decide) (by decide) (Or.inl ⟨rfl, rfl⟩) (fun h => by cases h) (mkWords (fun _ h => absurd h List.not_mem_nil) (fun _ h => absurd h List.not_mem_nil) (fun _ h => absurd h List.not_mem_nil) (List.forall_mem_cons.mpr ⟨⟨_, _, _, rfl, by decide, Or.inl fw_X11_55⟩, fun _ h => absurd h List.not_mem_nil⟩) (fun _ h => absurd h List.not_mem_nil) (fun _ h => absurd h List.not_mem_nil)) (fun _ h => absurd h List.not_mem_nil) (by decide +kernel)
/-! BlackMillModel.takeMill()I -/
noncomputable def mi_X11_takeMill : MI := (cX11_takeMill, 3, RX11, [], [], [], [(40, 11, 17), (43, 11, 18), (46, 11, 19), (49, 11, 22), (52, 11, 23), (55, 11, 26), (235, 11, 20), (238, 11, 21), (255, 11, 24), (258, 11, 25), (268, 11, 38), (271, 11, 43), (274, 11, 31), (277, 11, 45)], [], [], [(261, ci_X11_lay), (265, ci_X11_of)])
noncomputable def a_X11_takeMill : St wM (mi_X11_takeMill) 0 :=
  (sSeq (sPutF 11 24 (eLoc 0) (eFld 11 20 (eLoc 0)))
  (sSeq (sPutF 11 25 (eLoc 0) (eFld 11 21 (eLoc 0)))
  (sSeq (sBlk (sSeq (sSet 1 (eInt 0))
  (sWh (oCmp .lt (eLoc 1) (eInt 4)) (sSeq (sPutA 0 (eFld 11 22 (eLoc 0)) (eLoc 1) (eAr 0 (eFld 11 17 (eLoc 0)) (eLoc 1)))
  (sInc 1 1)))))
  (sSeq (sBlk (sSeq (sSet 1 (eInt 0))
  (sWh (oCmp .lt (eLoc 1) (eInt 27)) (sSeq (sPutA 0 (eFld 11 23 (eLoc 0)) (eLoc 1) (eAr 0 (eFld 11 19 (eLoc 0)) (eLoc 1)))
  (sInc 1 1)))))
  (sSeq (sBlk (sSeq (sSet 1 (eInt 0))
  (sWh (oCmp .lt (eLoc 1) (eInt 231)) (sSeq (sPutA 0 (eFld 11 26 (eLoc 0)) (eLoc 1) (eInt 0))
  (sInc 1 1)))))
  (sSeq (sBlk (sSeq (sSet 1 (eInt 0))
  (sWh (oCmp .lt (eLoc 1) (eFld 11 24 (eLoc 0))) (sSeq (sSeq (sBlk (sSeq (sSet 2 (eInt 0))
  (sWh (oCmp .lt (eLoc 2) (eInt 5)) (sSeq (sDo 261 ci_X11_lay rfl (aA1 (aA1 (aA1 (aA1 aA0 (eLoc 0)) (eLoc 1)) (eLoc 2)) (eAr 0 (eFld 11 18 (eLoc 0)) (eBin 0 (eBin 2 (eInt 5) (eLoc 1)) (eLoc 2)))))
  (sInc 2 1)))))
  (sDo 261 ci_X11_lay rfl (aA1 (aA1 (aA1 (aA1 aA0 (eLoc 0)) (eLoc 1)) (eInt 3)) (eCon (oCmp .eq (eCal 265 ci_X11_of rfl (aA1 (aA1 (aA1 aA0 (eLoc 0)) (eLoc 1)) (eInt 3))) (eInt 8)) (eInt (-1)) (eCal 265 ci_X11_of rfl (aA1 (aA1 (aA1 aA0 (eLoc 0)) (eLoc 1)) (eInt 3)))))))
  (sInc 1 1)))))
  (sSeq (sPutF 11 38 (eLoc 0) (eInt 0))
  (sSeq (sPutF 11 43 (eLoc 0) (eInt 0))
  (sSeq (sPutF 11 31 (eLoc 0) (eInt 0))
  (sSeq (sPutF 11 45 (eLoc 0) (eInt 0))
  (sRet (eFld 11 24 (eLoc 0)))))))))))))
def n_X11_takeMill : MN := (yX11_takeMill, cX11_takeMill, 3, (some .int), 2)
noncomputable def ci_X11_takeMill : CI := (1, 11, [2], 0, denM 3 [2] false a_X11_takeMill.1.1)
set_option maxRecDepth 100000 in
theorem m_X11_takeMill : MetD wM n_X11_takeMill ci_X11_takeMill := g_meth false (a_X11_takeMill) rxM_ok (by decide) rfl rfl rfl (by decide) (by decide) (Or.inl ⟨rfl, rfl⟩) (fun h => by cases h) (mkWords (fun _ h => absurd h List.not_mem_nil) (fun _ h => absurd h List.not_mem_nil) (fun _ h => absurd h List.not_mem_nil) (List.forall_mem_cons.mpr ⟨⟨_, _, _, rfl, by decide, Or.inl fw_X11_40⟩, List.forall_mem_cons.mpr ⟨⟨_, _, _, rfl, by decide, Or.inl fw_X11_43⟩, List.forall_mem_cons.mpr ⟨⟨_, _, _, rfl, by decide, Or.inl fw_X11_46⟩, List.forall_mem_cons.mpr ⟨⟨_, _, _, rfl, by decide, Or.inl fw_X11_49⟩, List.forall_mem_cons.mpr ⟨⟨_, _, _, rfl, by decide, Or.inl fw_X11_52⟩, List.forall_mem_cons.mpr ⟨⟨_, _, _, rfl, by decide, Or.inl fw_X11_55⟩, List.forall_mem_cons.mpr ⟨⟨_, _, _, rfl, by decide, Or.inl fw_X11_235⟩, List.forall_mem_cons.mpr ⟨⟨_, _, _, rfl, by decide, Or.inl fw_X11_238⟩, List.forall_mem_cons.mpr ⟨⟨_, _, _, rfl, by decide, Or.inl fw_X11_255⟩, List.forall_mem_cons.mpr ⟨⟨_, _, _, rfl, by decide, Or.inl fw_X11_258⟩, List.forall_mem_cons.mpr ⟨⟨_, _, _, rfl, by decide, Or.inl fw_X11_268⟩, List.forall_mem_cons.mpr ⟨⟨_, _, _, rfl, by decide, Or.inl fw_X11_271⟩, List.forall_mem_cons.mpr ⟨⟨_, _, _, rfl, by decide, Or.inl fw_X11_274⟩, List.forall_mem_cons.mpr ⟨⟨_, _, _, rfl, by decide, Or.inl fw_X11_277⟩, fun _ h => absurd h List.not_mem_nil⟩⟩⟩⟩⟩⟩⟩⟩⟩⟩⟩⟩⟩⟩) (fun _ h => absurd h List.not_mem_nil) (fun _ h => absurd h List.not_mem_nil)) (List.forall_mem_cons.mpr ⟨clV m_X11_lay rfl rfl rfl (by decide) (Or.inl lw_X11_261) (kn_X11_lay _) (by decide +kernel), List.forall_mem_cons.mpr ⟨clV m_X11_of rfl rfl rfl (by decide) (Or.inl lw_X11_265) (kn_X11_of _) (by decide +kernel), fun _ h => absurd h List.not_mem_nil⟩⟩) (by decide +kernel)
/-! BlackMillModel.text(I)I -/
noncomputable def mi_X11_text : MI := (cX11_text, 2, RX11, [], [], [], [(103, 11, 2), (284, 11, 13)], [], [], [(249, ci_X11_readMill), (252, ci_X11_readLaw), (281, ci_X11_takeMill)])
noncomputable def a_X11_text : St wM (mi_X11_text) 0 :=
  (sSeq (sIf (oAnd (oCm0 .eq (eLoc 1)) (oCmp .eq (eCal 249 ci_X11_readMill rfl (aA1 aA0 (eLoc 0))) (eInt (-1)))) (sSeq (sPutF 11 2 (eLoc 0) (eInt 0))
  (sRet (eCal 281 ci_X11_takeMill rfl (aA1 aA0 (eLoc 0))))))
  (sSeq (sIf (oAnd (oAnd (oCmp .eq (eLoc 1) (eInt 1)) (oCmp .lt (eFld 11 13 (eLoc 0)) (eInt 4))) (oCmp .eq (eCal 252 ci_X11_readLaw rfl (aA1 (aA1 aA0 (eLoc 0)) (eFld 11 13 (eLoc 0)))) (eInt (-1)))) (sSeq (sPutF 11 2 (eLoc 0) (eInt 0))
  (sSeq (sUpdF 0 11 13 (eLoc 0) (eInt 1))
  (sRet (eBin 1 (eFld 11 13 (eLoc 0)) (eInt 1))))))
  (sRet (eInt (-1)))))
def n_X11_text : MN := (yX11_text, cX11_text, 2, (some .int), 63)
noncomputable def ci_X11_text : CI := (1, 11, [2, 0], 0, denM 2 [2, 0] false a_X11_text.1.1)
set_option maxRecDepth 100000 in
theorem m_X11_text : MetD wM n_X11_text ci_X11_text := g_meth false (a_X11_text) rxM_ok (by decide) rfl rfl rfl (by decide) (by decide) (Or.inl ⟨rfl, rfl⟩) (fun h => by cases h) (mkWords (fun _ h => absurd h List.not_mem_nil) (fun _ h => absurd h List.not_mem_nil) (fun _ h => absurd h List.not_mem_nil) (List.forall_mem_cons.mpr ⟨⟨_, _, _, rfl, by decide, Or.inl fw_X11_103⟩, List.forall_mem_cons.mpr ⟨⟨_, _, _, rfl, by decide, Or.inl fw_X11_284⟩, fun _ h => absurd h List.not_mem_nil⟩⟩) (fun _ h => absurd h List.not_mem_nil) (fun _ h => absurd h List.not_mem_nil)) (List.forall_mem_cons.mpr ⟨clV m_X11_readMill rfl rfl rfl (by decide) (Or.inl lw_X11_249) (kn_X11_readMill _) (by decide +kernel), List.forall_mem_cons.mpr ⟨clV m_X11_readLaw rfl rfl rfl (by decide) (Or.inl lw_X11_252) (kn_X11_readLaw _) (by decide +kernel), List.forall_mem_cons.mpr ⟨clV m_X11_takeMill rfl rfl rfl (by decide) (Or.inl lw_X11_281) (kn_X11_takeMill _) (by decide +kernel), fun _ h => absurd h List.not_mem_nil⟩⟩⟩) (by decide +kernel)
/-! BlackMillModel.isLad(I)Z -/
noncomputable def mi_X11_isLad : MI := (cX11_isLad, 2, RX11, [], [], [], [(255, 11, 24)], [], [], [(211, ci_X11_in)])
noncomputable def a_X11_isLad : St wM (mi_X11_isLad) 0 :=
  (sRet (eCal 211 ci_X11_in rfl (aA1 (aA1 (aA1 aA0 (eLoc 1)) (eInt 0)) (eBin 1 (eFld 11 24 (eLoc 0)) (eInt 1)))))
def n_X11_isLad : MN := (yX11_isLad, cX11_isLad, 2, (some .boolean), 2)
noncomputable def ci_X11_isLad : CI := (1, 11, [2, 0], 0, denM 2 [2, 0] true a_X11_isLad.1.1)
set_option maxRecDepth 100000 in
theorem m_X11_isLad : MetD wM n_X11_isLad ci_X11_isLad := g_meth true (a_X11_isLad) rxM_ok (by decide) rfl rfl rfl (by decide) (by decide) (Or.inr (Or.inl ⟨rfl, rfl⟩)) (fun _ => rfl) (mkWords (fun _ h => absurd h List.not_mem_nil) (fun _ h => absurd h List.not_mem_nil) (fun _ h => absurd h List.not_mem_nil) (List.forall_mem_cons.mpr ⟨⟨_, _, _, rfl, by decide, Or.inl fw_X11_255⟩, fun _ h => absurd h List.not_mem_nil⟩) (fun _ h => absurd h List.not_mem_nil) (fun _ h => absurd h List.not_mem_nil)) (List.forall_mem_cons.mpr ⟨clS m_X11_in rfl (by decide) (Or.inl lw_X11_211) (kn_X11_in _) (by decide +kernel), fun _ h => absurd h List.not_mem_nil⟩) (by decide +kernel)
/-! BlackMillModel.lives(I)Z -/
noncomputable def mi_X11_lives : MI := (cX11_lives, 2, RX11, [], [], [], [], [], [], [(265, ci_X11_of), (287, ci_X11_isLad)])
noncomputable def a_X11_lives : St wM (mi_X11_lives) 0 :=
  (sRet (eBo (oAnd (oCm0 .ne (eCal 287 ci_X11_isLad rfl (aA1 (aA1 aA0 (eLoc 0)) (eLoc 1)))) (oCm0 .eq (eCal 265 ci_X11_of rfl (aA1 (aA1 (aA1 aA0 (eLoc 0)) (eLoc 1)) (eInt 5)))))))
def n_X11_lives : MN := (yX11_lives, cX11_lives, 2, (some .boolean), 3)
noncomputable def ci_X11_lives : CI := (1, 11, [2, 0], 0, denM 2 [2, 0] true a_X11_lives.1.1)
set_option maxRecDepth 100000 in
theorem m_X11_lives : MetD wM n_X11_lives ci_X11_lives := g_meth true (a_X11_lives) rxM_ok (by decide) rfl rfl rfl (by decide) (by decide) (Or.inr (Or.inl ⟨rfl, rfl⟩)) (fun _ => rfl) (mkWords (fun _ h => absurd h List.not_mem_nil) (fun _ h => absurd h List.not_mem_nil) (fun _ h => absurd h List.not_mem_nil) (fun _ h => absurd h List.not_mem_nil) (fun _ h => absurd h List.not_mem_nil) (fun _ h => absurd h List.not_mem_nil)) (List.forall_mem_cons.mpr ⟨clV m_X11_of rfl rfl rfl (by decide) (Or.inl lw_X11_265) (kn_X11_of _) (by decide +kernel), List.forall_mem_cons.mpr ⟨clV m_X11_isLad rfl rfl rfl (by decide) (Or.inl lw_X11_287) (kn_X11_isLad _) (by decide +kernel), fun _ h => absurd h List.not_mem_nil⟩⟩) (by decide +kernel)
/-! BlackMillModel.living()I -/
noncomputable def mi_X11_living : MI := (cX11_living, 3, RX11, [], [], [], [(255, 11, 24)], [], [], [(290, ci_X11_lives)])
noncomputable def a_X11_living : St wM (mi_X11_living) 0 :=
  (sSeq (sSet 1 (eInt 0))
  (sSeq (sBlk (sSeq (sSet 2 (eInt 0))
  (sWh (oCmp .lt (eLoc 2) (eFld 11 24 (eLoc 0))) (sSeq (sSet 1 (eBin 4 (eLoc 1) (eCon (oCm0 .ne (eCal 290 ci_X11_lives rfl (aA1 (aA1 aA0 (eLoc 0)) (eLoc 2)))) (eBin 6 (eInt 1) (eLoc 2)) (eInt 0))))
  (sInc 2 1)))))
  (sRet (eLoc 1))))
def n_X11_living : MN := (yX11_living, cX11_living, 3, (some .int), 4)
noncomputable def ci_X11_living : CI := (1, 11, [2], 0, denM 3 [2] false a_X11_living.1.1)
set_option maxRecDepth 100000 in
theorem m_X11_living : MetD wM n_X11_living ci_X11_living := g_meth false (a_X11_living) rxM_ok (by decide) rfl rfl rfl (by decide) (by decide) (Or.inl ⟨rfl, rfl⟩) (fun h => by cases h) (mkWords (fun _ h => absurd h List.not_mem_nil) (fun _ h => absurd h List.not_mem_nil) (fun _ h => absurd h List.not_mem_nil) (List.forall_mem_cons.mpr ⟨⟨_, _, _, rfl, by decide, Or.inl fw_X11_255⟩, fun _ h => absurd h List.not_mem_nil⟩) (fun _ h => absurd h List.not_mem_nil) (fun _ h => absurd h List.not_mem_nil)) (List.forall_mem_cons.mpr ⟨clV m_X11_lives rfl rfl rfl (by decide) (Or.inl lw_X11_290) (kn_X11_lives _) (by decide +kernel), fun _ h => absurd h List.not_mem_nil⟩) (by decide +kernel)
/-! BlackMillModel.manyLive()I -/
noncomputable def mi_X11_manyLive : MI := (cX11_manyLive, 1, RX11, [], [], [], [], [], [], [(293, ci_X11_living), (296, ci_J6_bitCount_0f7a4M)])
noncomputable def a_X11_manyLive : St wM (mi_X11_manyLive) 0 :=
  (sRet (eCal 296 ci_J6_bitCount_0f7a4M rfl (aA1 aA0 (eCal 293 ci_X11_living rfl (aA1 aA0 (eLoc 0))))))
def n_X11_manyLive : MN := (yX11_manyLive, cX11_manyLive, 1, (some .int), 5)
noncomputable def ci_X11_manyLive : CI := (1, 11, [2], 0, denM 1 [2] false a_X11_manyLive.1.1)
set_option maxRecDepth 100000 in
theorem m_X11_manyLive : MetD wM n_X11_manyLive ci_X11_manyLive := g_meth false (a_X11_manyLive) rxM_ok (by decide) rfl rfl rfl (by decide) (by decide) (Or.inl ⟨rfl, rfl⟩) (fun h => by cases h) (mkWords (fun _ h => absurd h List.not_mem_nil) (fun _ h => absurd h List.not_mem_nil) (fun _ h => absurd h List.not_mem_nil) (fun _ h => absurd h List.not_mem_nil) (fun _ h => absurd h List.not_mem_nil) (fun _ h => absurd h List.not_mem_nil)) (List.forall_mem_cons.mpr ⟨clV m_X11_living rfl rfl rfl (by decide) (Or.inl lw_X11_293) (kn_X11_living _) (by decide +kernel), List.forall_mem_cons.mpr ⟨clS m_J6_bitCount_0f7a4M rfl (by decide) (Or.inl lw_X11_296) (kn_J6_bitCount_0f7a4 _) (by decide +kernel), fun _ h => absurd h List.not_mem_nil⟩⟩) (by decide +kernel)
/-! BlackMillModel.fearBy(II)I -/
noncomputable def mi_X11_fearBy : MI := (cX11_fearBy, 4, RX11, [], [], [], [(55, 11, 26)], [], [], [(222, ci_X11_has), (265, ci_X11_of)])
noncomputable def a_X11_fearBy : St wM (mi_X11_fearBy) 0 :=
  (sSeq (sSet 3 (eCon (oCmp .eq (eCal 265 ci_X11_of rfl (aA1 (aA1 (aA1 aA0 (eLoc 0)) (eLoc 1)) (eInt 2))) (eInt 1)) (eDiv 0 (eLoc 2) (eInt 2)) (eLoc 2)))
  (sSeq (sSet 3 (eCon (oCm0 .ne (eCal 222 ci_X11_has rfl (aA1 (aA1 aA0 (eAr 0 (eFld 11 26 (eLoc 0)) (eInt 48))) (eLoc 1)))) (eDiv 0 (eLoc 3) (eInt 2)) (eLoc 3)))
  (sRet (eCon (oCmp .eq (eCal 265 ci_X11_of rfl (aA1 (aA1 (aA1 aA0 (eLoc 0)) (eLoc 1)) (eInt 2))) (eInt 3)) (eInt (-1)) (eCon (oCmp .eq (eCal 265 ci_X11_of rfl (aA1 (aA1 (aA1 aA0 (eLoc 0)) (eLoc 1)) (eInt 2))) (eInt 2)) (eBin 0 (eLoc 3) (eInt 10)) (eLoc 3))))))
def n_X11_fearBy : MN := (yX11_fearBy, cX11_fearBy, 4, (some .int), 2)
noncomputable def ci_X11_fearBy : CI := (1, 11, [2, 0, 0], 0, denM 4 [2, 0, 0] false a_X11_fearBy.1.1)
set_option maxRecDepth 100000 in
theorem m_X11_fearBy : MetD wM n_X11_fearBy ci_X11_fearBy := g_meth false (a_X11_fearBy) rxM_ok (by decide) rfl rfl rfl (by decide) (by decide) (Or.inl ⟨rfl, rfl⟩) (fun h => by cases h) (mkWords (fun _ h => absurd h List.not_mem_nil) (fun _ h => absurd h List.not_mem_nil) (fun _ h => absurd h List.not_mem_nil) (List.forall_mem_cons.mpr ⟨⟨_, _, _, rfl, by decide, Or.inl fw_X11_55⟩, fun _ h => absurd h List.not_mem_nil⟩) (fun _ h => absurd h List.not_mem_nil) (fun _ h => absurd h List.not_mem_nil)) (List.forall_mem_cons.mpr ⟨clS m_X11_has rfl (by decide) (Or.inl lw_X11_222) (kn_X11_has _) (by decide +kernel), List.forall_mem_cons.mpr ⟨clV m_X11_of rfl rfl rfl (by decide) (Or.inl lw_X11_265) (kn_X11_of _) (by decide +kernel), fun _ h => absurd h List.not_mem_nil⟩⟩) (by decide +kernel)
/-! BlackMillModel.fear(I)I -/
noncomputable def mi_X11_fear : MI := (cX11_fear, 2, RX11, [], [], [], [], [], [], [(265, ci_X11_of), (301, ci_X11_fearBy)])
noncomputable def a_X11_fear : St wM (mi_X11_fear) 0 :=
  (sRet (eCal 301 ci_X11_fearBy rfl (aA1 (aA1 (aA1 aA0 (eLoc 0)) (eLoc 1)) (eCal 265 ci_X11_of rfl (aA1 (aA1 (aA1 aA0 (eLoc 0)) (eLoc 1)) (eInt 1))))))
def n_X11_fear : MN := (yX11_fear, cX11_fear, 2, (some .int), 3)
noncomputable def ci_X11_fear : CI := (1, 11, [2, 0], 0, denM 2 [2, 0] false a_X11_fear.1.1)
set_option maxRecDepth 100000 in
theorem m_X11_fear : MetD wM n_X11_fear ci_X11_fear := g_meth false (a_X11_fear) rxM_ok (by decide) rfl rfl rfl (by decide) (by decide) (Or.inl ⟨rfl, rfl⟩) (fun h => by cases h) (mkWords (fun _ h => absurd h List.not_mem_nil) (fun _ h => absurd h List.not_mem_nil) (fun _ h => absurd h List.not_mem_nil) (fun _ h => absurd h List.not_mem_nil) (fun _ h => absurd h List.not_mem_nil) (fun _ h => absurd h List.not_mem_nil)) (List.forall_mem_cons.mpr ⟨clV m_X11_of rfl rfl rfl (by decide) (Or.inl lw_X11_265) (kn_X11_of _) (by decide +kernel), List.forall_mem_cons.mpr ⟨clV m_X11_fearBy rfl rfl rfl (by decide) (Or.inl lw_X11_301) (kn_X11_fearBy _) (by decide +kernel), fun _ h => absurd h List.not_mem_nil⟩⟩) (by decide +kernel)
/-! BlackMillModel.chosenNow()I -/
noncomputable def mi_X11_chosenNow : MI := (cX11_chosenNow, 3, RX11, [], [], [], [(255, 11, 24)], [], [], [(290, ci_X11_lives), (304, ci_X11_fear)])
noncomputable def a_X11_chosenNow : St wM (mi_X11_chosenNow) 0 :=
  (sSeq (sSet 1 (eInt (-1)))
  (sSeq (sBlk (sSeq (sSet 2 (eInt 0))
  (sWh (oCmp .lt (eLoc 2) (eFld 11 24 (eLoc 0))) (sSeq (sSet 1 (eCon (oAnd (oCm0 .ne (eCal 290 ci_X11_lives rfl (aA1 (aA1 aA0 (eLoc 0)) (eLoc 2)))) (oOr (oCmp .eq (eLoc 1) (eInt (-1))) (oCmp .gt (eCal 304 ci_X11_fear rfl (aA1 (aA1 aA0 (eLoc 0)) (eLoc 2))) (eCal 304 ci_X11_fear rfl (aA1 (aA1 aA0 (eLoc 0)) (eLoc 1)))))) (eLoc 2) (eLoc 1)))
  (sInc 2 1)))))
  (sRet (eLoc 1))))
def n_X11_chosenNow : MN := (yX11_chosenNow, cX11_chosenNow, 3, (some .int), 4)
noncomputable def ci_X11_chosenNow : CI := (1, 11, [2], 0, denM 3 [2] false a_X11_chosenNow.1.1)
set_option maxRecDepth 100000 in
theorem m_X11_chosenNow : MetD wM n_X11_chosenNow ci_X11_chosenNow := g_meth false (a_X11_chosenNow) rxM_ok (by decide) rfl rfl rfl (by decide) (by decide) (Or.inl ⟨rfl, rfl⟩) (fun h => by cases h) (mkWords (fun _ h => absurd h List.not_mem_nil) (fun _ h => absurd h List.not_mem_nil) (fun _ h => absurd h List.not_mem_nil) (List.forall_mem_cons.mpr ⟨⟨_, _, _, rfl, by decide, Or.inl fw_X11_255⟩, fun _ h => absurd h List.not_mem_nil⟩) (fun _ h => absurd h List.not_mem_nil) (fun _ h => absurd h List.not_mem_nil)) (List.forall_mem_cons.mpr ⟨clV m_X11_lives rfl rfl rfl (by decide) (Or.inl lw_X11_290) (kn_X11_lives _) (by decide +kernel), List.forall_mem_cons.mpr ⟨clV m_X11_fear rfl rfl rfl (by decide) (Or.inl lw_X11_304) (kn_X11_fear _) (by decide +kernel), fun _ h => absurd h List.not_mem_nil⟩⟩) (by decide +kernel)
/-! BlackMillModel.friendsOf(I)I -/
noncomputable def mi_X11_friendsOf : MI := (cX11_friendsOf, 4, RX11, [], [], [], [(255, 11, 24)], [], [], [(265, ci_X11_of)])
noncomputable def a_X11_friendsOf : St wM (mi_X11_friendsOf) 0 :=
  (sSeq (sSet 2 (eInt 0))
  (sSeq (sBlk (sSeq (sSet 3 (eInt 0))
  (sWh (oCmp .lt (eLoc 3) (eFld 11 24 (eLoc 0))) (sSeq (sSet 2 (eBin 4 (eLoc 2) (eCon (oCmp .eq (eCal 265 ci_X11_of rfl (aA1 (aA1 (aA1 aA0 (eLoc 0)) (eLoc 3)) (eInt 3))) (eLoc 1)) (eBin 6 (eInt 1) (eLoc 3)) (eInt 0))))
  (sInc 3 1)))))
  (sRet (eLoc 2))))
def n_X11_friendsOf : MN := (yX11_friendsOf, cX11_friendsOf, 4, (some .int), 2)
noncomputable def ci_X11_friendsOf : CI := (1, 11, [2, 0], 0, denM 4 [2, 0] false a_X11_friendsOf.1.1)
set_option maxRecDepth 100000 in
theorem m_X11_friendsOf : MetD wM n_X11_friendsOf ci_X11_friendsOf := g_meth false (a_X11_friendsOf) rxM_ok (by decide) rfl rfl rfl (by decide) (by decide) (Or.inl ⟨rfl, rfl⟩) (fun h => by cases h) (mkWords (fun _ h => absurd h List.not_mem_nil) (fun _ h => absurd h List.not_mem_nil) (fun _ h => absurd h List.not_mem_nil) (List.forall_mem_cons.mpr ⟨⟨_, _, _, rfl, by decide, Or.inl fw_X11_255⟩, fun _ h => absurd h List.not_mem_nil⟩) (fun _ h => absurd h List.not_mem_nil) (fun _ h => absurd h List.not_mem_nil)) (List.forall_mem_cons.mpr ⟨clV m_X11_of rfl rfl rfl (by decide) (Or.inl lw_X11_265) (kn_X11_of _) (by decide +kernel), fun _ h => absurd h List.not_mem_nil⟩) (by decide +kernel)
/-! BlackMillModel.signs(I)I -/
noncomputable def mi_X11_signs : MI := (cX11_signs, 3, RX11, [], [], [], [], [], [], [(265, ci_X11_of), (290, ci_X11_lives), (293, ci_X11_living), (307, ci_X11_friendsOf)])
noncomputable def a_X11_signs : St wM (mi_X11_signs) 0 :=
  (sSeq (sSet 2 (eCon (oCmp .ge (eCal 265 ci_X11_of rfl (aA1 (aA1 (aA1 aA0 (eLoc 0)) (eLoc 1)) (eInt 0))) (eInt 20)) (eInt 1) (eInt 0)))
  (sSeq (sSet 2 (eBin 4 (eLoc 2) (eCon (oCmp .ge (eCal 265 ci_X11_of rfl (aA1 (aA1 (aA1 aA0 (eLoc 0)) (eLoc 1)) (eInt 1))) (eInt 10)) (eInt 2) (eInt 0))))
  (sSeq (sSet 2 (eBin 4 (eLoc 2) (eCon (oCmp .ge (eCal 265 ci_X11_of rfl (aA1 (aA1 (aA1 aA0 (eLoc 0)) (eLoc 1)) (eInt 4))) (eInt 20)) (eInt 4) (eInt 0))))
  (sSeq (sSet 2 (eBin 4 (eLoc 2) (eCon (oCm0 .gt (eCal 265 ci_X11_of rfl (aA1 (aA1 (aA1 aA0 (eLoc 0)) (eLoc 1)) (eInt 2)))) (eInt 8) (eInt 0))))
  (sSeq (sSet 2 (eBin 4 (eLoc 2) (eCon (oCm0 .ne (eCal 290 ci_X11_lives rfl (aA1 (aA1 aA0 (eLoc 0)) (eCal 265 ci_X11_of rfl (aA1 (aA1 (aA1 aA0 (eLoc 0)) (eLoc 1)) (eInt 3)))))) (eInt 16) (eInt 0))))
  (sRet (eBin 4 (eLoc 2) (eCon (oCm0 .ne (eBin 3 (eCal 307 ci_X11_friendsOf rfl (aA1 (aA1 aA0 (eLoc 0)) (eLoc 1))) (eCal 293 ci_X11_living rfl (aA1 aA0 (eLoc 0))))) (eInt 32) (eInt 0)))))))))
def n_X11_signs : MN := (yX11_signs, cX11_signs, 3, (some .int), 5)
noncomputable def ci_X11_signs : CI := (1, 11, [2, 0], 0, denM 3 [2, 0] false a_X11_signs.1.1)
set_option maxRecDepth 100000 in
theorem m_X11_signs : MetD wM n_X11_signs ci_X11_signs := g_meth false (a_X11_signs) rxM_ok (by decide) rfl rfl rfl (by decide) (by decide) (Or.inl ⟨rfl, rfl⟩) (fun h => by cases h) (mkWords (fun _ h => absurd h List.not_mem_nil) (fun _ h => absurd h List.not_mem_nil) (fun _ h => absurd h List.not_mem_nil) (fun _ h => absurd h List.not_mem_nil) (fun _ h => absurd h List.not_mem_nil) (fun _ h => absurd h List.not_mem_nil)) (List.forall_mem_cons.mpr ⟨clV m_X11_of rfl rfl rfl (by decide) (Or.inl lw_X11_265) (kn_X11_of _) (by decide +kernel), List.forall_mem_cons.mpr ⟨clV m_X11_lives rfl rfl rfl (by decide) (Or.inl lw_X11_290) (kn_X11_lives _) (by decide +kernel), List.forall_mem_cons.mpr ⟨clV m_X11_living rfl rfl rfl (by decide) (Or.inl lw_X11_293) (kn_X11_living _) (by decide +kernel), List.forall_mem_cons.mpr ⟨clV m_X11_friendsOf rfl rfl rfl (by decide) (Or.inl lw_X11_307) (kn_X11_friendsOf _) (by decide +kernel), fun _ h => absurd h List.not_mem_nil⟩⟩⟩⟩) (by decide +kernel)
/-! BlackMillModel.master(I)I -/
noncomputable def mi_X11_master : MI := (cX11_master, 2, RX11, [], [], [], [(49, 11, 22), (255, 11, 24)], [], [], [(211, ci_X11_in)])
noncomputable def a_X11_master : St wM (mi_X11_master) 0 :=
  (sRet (eCon (oAnd (oCm0 .gt (eFld 11 24 (eLoc 0))) (oCm0 .ne (eCal 211 ci_X11_in rfl (aA1 (aA1 (aA1 aA0 (eLoc 1)) (eInt 0)) (eInt 3))))) (eAr 0 (eFld 11 22 (eLoc 0)) (eLoc 1)) (eInt (-1))))
def n_X11_master : MN := (yX11_master, cX11_master, 2, (some .int), 2)
noncomputable def ci_X11_master : CI := (1, 11, [2, 0], 0, denM 2 [2, 0] false a_X11_master.1.1)
set_option maxRecDepth 100000 in
theorem m_X11_master : MetD wM n_X11_master ci_X11_master := g_meth false (a_X11_master) rxM_ok (by decide) rfl rfl rfl (by decide) (by decide) (Or.inl ⟨rfl, rfl⟩) (fun h => by cases h) (mkWords (fun _ h => absurd h List.not_mem_nil) (fun _ h => absurd h List.not_mem_nil) (fun _ h => absurd h List.not_mem_nil) (List.forall_mem_cons.mpr ⟨⟨_, _, _, rfl, by decide, Or.inl fw_X11_49⟩, List.forall_mem_cons.mpr ⟨⟨_, _, _, rfl, by decide, Or.inl fw_X11_255⟩, fun _ h => absurd h List.not_mem_nil⟩⟩) (fun _ h => absurd h List.not_mem_nil) (fun _ h => absurd h List.not_mem_nil)) (List.forall_mem_cons.mpr ⟨clS m_X11_in rfl (by decide) (Or.inl lw_X11_211) (kn_X11_in _) (by decide +kernel), fun _ h => absurd h List.not_mem_nil⟩) (by decide +kernel)
/-! BlackMillModel.lad(II)I -/
noncomputable def mi_X11_lad : MI := (cX11_lad, 3, RX11, [], [], [], [(55, 11, 26), (96, 11, 0)], [], [], [(211, ci_X11_in), (265, ci_X11_of), (287, ci_X11_isLad), (304, ci_X11_fear), (310, ci_X11_signs)])
noncomputable def a_X11_lad : St wM (mi_X11_lad) 0 :=
  (sSeq (sPutF 11 0 (eLoc 0) (eCon (oAnd (oCm0 .ne (eCal 287 ci_X11_isLad rfl (aA1 (aA1 aA0 (eLoc 0)) (eLoc 1)))) (oCm0 .ne (eCal 211 ci_X11_in rfl (aA1 (aA1 (aA1 aA0 (eLoc 2)) (eInt 0)) (eInt 8))))) (eInt 0) (eInt 1)))
  (sSeq (sIf (oCmp .eq (eFld 11 0 (eLoc 0)) (eInt 1)) (sRet (eInt 0)))
  (sRet (eCon (oCmp .lt (eLoc 2) (eInt 6)) (eCal 265 ci_X11_of rfl (aA1 (aA1 (aA1 aA0 (eLoc 0)) (eLoc 1)) (eLoc 2))) (eCon (oCmp .eq (eLoc 2) (eInt 6)) (eBin 3 (eBin 7 (eAr 0 (eFld 11 26 (eLoc 0)) (eInt 48)) (eLoc 1)) (eInt 1)) (eCon (oCmp .eq (eLoc 2) (eInt 7)) (eCal 304 ci_X11_fear rfl (aA1 (aA1 aA0 (eLoc 0)) (eLoc 1))) (eCal 310 ci_X11_signs rfl (aA1 (aA1 aA0 (eLoc 0)) (eLoc 1)))))))))
def n_X11_lad : MN := (yX11_lad, cX11_lad, 3, (some .int), 6)
noncomputable def ci_X11_lad : CI := (1, 11, [2, 0, 0], 0, denM 3 [2, 0, 0] false a_X11_lad.1.1)
set_option maxRecDepth 100000 in
theorem m_X11_lad : MetD wM n_X11_lad ci_X11_lad := g_meth false (a_X11_lad) rxM_ok (by decide) rfl rfl rfl (by decide) (by decide) (Or.inl ⟨rfl, rfl⟩) (fun h => by cases h) (mkWords (fun _ h => absurd h List.not_mem_nil) (fun _ h => absurd h List.not_mem_nil) (fun _ h => absurd h List.not_mem_nil) (List.forall_mem_cons.mpr ⟨⟨_, _, _, rfl, by decide, Or.inl fw_X11_55⟩, List.forall_mem_cons.mpr ⟨⟨_, _, _, rfl, by decide, Or.inl fw_X11_96⟩, fun _ h => absurd h List.not_mem_nil⟩⟩) (fun _ h => absurd h List.not_mem_nil) (fun _ h => absurd h List.not_mem_nil)) (List.forall_mem_cons.mpr ⟨clS m_X11_in rfl (by decide) (Or.inl lw_X11_211) (kn_X11_in _) (by decide +kernel), List.forall_mem_cons.mpr ⟨clV m_X11_of rfl rfl rfl (by decide) (Or.inl lw_X11_265) (kn_X11_of _) (by decide +kernel), List.forall_mem_cons.mpr ⟨clV m_X11_isLad rfl rfl rfl (by decide) (Or.inl lw_X11_287) (kn_X11_isLad _) (by decide +kernel), List.forall_mem_cons.mpr ⟨clV m_X11_fear rfl rfl rfl (by decide) (Or.inl lw_X11_304) (kn_X11_fear _) (by decide +kernel), List.forall_mem_cons.mpr ⟨clV m_X11_signs rfl rfl rfl (by decide) (Or.inl lw_X11_310) (kn_X11_signs _) (by decide +kernel), fun _ h => absurd h List.not_mem_nil⟩⟩⟩⟩⟩) (by decide +kernel)
/-! BlackMillModel.way(II)I -/
noncomputable def mi_X11_way : MI := (cX11_way, 3, RX11, [], [], [], [(52, 11, 23), (258, 11, 25)], [], [], [(211, ci_X11_in)])
noncomputable def a_X11_way : St wM (mi_X11_way) 0 :=
  (sRet (eCon (oAnd (oCm0 .ne (eCal 211 ci_X11_in rfl (aA1 (aA1 (aA1 aA0 (eLoc 1)) (eInt 0)) (eBin 1 (eFld 11 25 (eLoc 0)) (eInt 1))))) (oCm0 .ne (eCal 211 ci_X11_in rfl (aA1 (aA1 (aA1 aA0 (eLoc 2)) (eInt 0)) (eInt 2))))) (eAr 0 (eFld 11 23 (eLoc 0)) (eBin 0 (eBin 2 (eInt 3) (eLoc 1)) (eLoc 2))) (eInt (-1))))
def n_X11_way : MN := (yX11_way, cX11_way, 3, (some .int), 2)
noncomputable def ci_X11_way : CI := (1, 11, [2, 0, 0], 0, denM 3 [2, 0, 0] false a_X11_way.1.1)
set_option maxRecDepth 100000 in
theorem m_X11_way : MetD wM n_X11_way ci_X11_way := g_meth false (a_X11_way) rxM_ok (by decide) rfl rfl rfl (by decide) (by decide) (Or.inl ⟨rfl, rfl⟩) (fun h => by cases h) (mkWords (fun _ h => absurd h List.not_mem_nil) (fun _ h => absurd h List.not_mem_nil) (fun _ h => absurd h List.not_mem_nil) (List.forall_mem_cons.mpr ⟨⟨_, _, _, rfl, by decide, Or.inl fw_X11_52⟩, List.forall_mem_cons.mpr ⟨⟨_, _, _, rfl, by decide, Or.inl fw_X11_258⟩, fun _ h => absurd h List.not_mem_nil⟩⟩) (fun _ h => absurd h List.not_mem_nil) (fun _ h => absurd h List.not_mem_nil)) (List.forall_mem_cons.mpr ⟨clS m_X11_in rfl (by decide) (Or.inl lw_X11_211) (kn_X11_in _) (by decide +kernel), fun _ h => absurd h List.not_mem_nil⟩) (by decide +kernel)
/-! BlackMillModel.law(I)Z -/
noncomputable def mi_X11_law : MI := (cX11_law, 2, RX11, [], [], [], [(61, 11, 28), (284, 11, 13)], [], [], [(211, ci_X11_in)])
noncomputable def a_X11_law : St wM (mi_X11_law) 0 :=
  (sSeq (sIf (oNot (oCm0 .ne (eCal 211 ci_X11_in rfl (aA1 (aA1 (aA1 aA0 (eLoc 1)) (eInt (-1))) (eBin 1 (eFld 11 13 (eLoc 0)) (eInt 1)))))) (sRet (eInt 0)))
  (sSeq (sPutF 11 28 (eLoc 0) (eLoc 1))
  (sRet (eInt 1))))
def n_X11_law : MN := (yX11_law, cX11_law, 2, (some .boolean), 2)
noncomputable def ci_X11_law : CI := (1, 11, [2, 0], 0, denM 2 [2, 0] true a_X11_law.1.1)
set_option maxRecDepth 100000 in
theorem m_X11_law : MetD wM n_X11_law ci_X11_law := g_meth true (a_X11_law) rxM_ok (by decide) rfl rfl rfl (by decide) (by decide) (Or.inr (Or.inl ⟨rfl, rfl⟩)) (fun _ => rfl) (mkWords (fun _ h => absurd h List.not_mem_nil) (fun _ h => absurd h List.not_mem_nil) (fun _ h => absurd h List.not_mem_nil) (List.forall_mem_cons.mpr ⟨⟨_, _, _, rfl, by decide, Or.inl fw_X11_61⟩, List.forall_mem_cons.mpr ⟨⟨_, _, _, rfl, by decide, Or.inl fw_X11_284⟩, fun _ h => absurd h List.not_mem_nil⟩⟩) (fun _ h => absurd h List.not_mem_nil) (fun _ h => absurd h List.not_mem_nil)) (List.forall_mem_cons.mpr ⟨clS m_X11_in rfl (by decide) (Or.inl lw_X11_211) (kn_X11_in _) (by decide +kernel), fun _ h => absurd h List.not_mem_nil⟩) (by decide +kernel)
/-! BlackMillModel.learnsBy(III)I -/
noncomputable def mi_X11_learnsBy : MI := (cX11_learnsBy, 5, RX11, [], [], [], [(34, 11, 15), (49, 11, 22), (55, 11, 26), (61, 11, 28)], [], [(316, 1), (318, 0)], [(265, ci_X11_of), (313, ci_X11_worthOf)])
noncomputable def a_X11_learnsBy : St wM (mi_X11_learnsBy) 0 :=
  (sSeq (sSet 4 (eBin 0 (eAr 0 (eFld 11 22 (eLoc 0)) (eInt 1)) (eDiv 0 (eLoc 2) (eInt 10))))
  (sSeq (sIf (oCmp .ne (eFld 11 28 (eLoc 0)) (eInt (-1))) (sSeq (sPutA 0 (eFld 11 15 (eLoc 0)) (eInt 0) (eCal 265 ci_X11_of rfl (aA1 (aA1 (aA1 aA0 (eLoc 0)) (eLoc 1)) (eInt 0))))
  (sSeq (sPutA 0 (eFld 11 15 (eLoc 0)) (eInt 1) (eLoc 2))
  (sSeq (sPutA 0 (eFld 11 15 (eLoc 0)) (eInt 2) (eCal 265 ci_X11_of rfl (aA1 (aA1 (aA1 aA0 (eLoc 0)) (eLoc 1)) (eInt 2))))
  (sSeq (sPutA 0 (eFld 11 15 (eLoc 0)) (eInt 3) (eCal 265 ci_X11_of rfl (aA1 (aA1 (aA1 aA0 (eLoc 0)) (eLoc 1)) (eInt 4))))
  (sSeq (sPutA 0 (eFld 11 15 (eLoc 0)) (eInt 4) (eAr 0 (eFld 11 26 (eLoc 0)) (eInt 49)))
  (sSeq (sPutA 0 (eFld 11 15 (eLoc 0)) (eInt 5) (eLoc 3))
  (sSet 4 (eCal 313 ci_X11_worthOf rfl (aA1 (aA1 aA0 (eLoc 0)) (eFld 11 28 (eLoc 0))))))))))))
  (sRet (eMt 0 (eInt 0) (eMt 1 (eInt 9) (eLoc 4))))))
def n_X11_learnsBy : MN := (yX11_learnsBy, cX11_learnsBy, 5, (some .int), 5)
noncomputable def ci_X11_learnsBy : CI := (1, 11, [2, 0, 0, 0], 0, denM 5 [2, 0, 0, 0] false a_X11_learnsBy.1.1)
set_option maxRecDepth 100000 in
theorem m_X11_learnsBy : MetD wM n_X11_learnsBy ci_X11_learnsBy := g_meth false (a_X11_learnsBy) rxM_ok (by decide) rfl rfl rfl (by decide) (by decide) (Or.inl ⟨rfl, rfl⟩) (fun h => by cases h) (mkWords (fun _ h => absurd h List.not_mem_nil) (fun _ h => absurd h List.not_mem_nil) (fun _ h => absurd h List.not_mem_nil) (List.forall_mem_cons.mpr ⟨⟨_, _, _, rfl, by decide, Or.inl fw_X11_34⟩, List.forall_mem_cons.mpr ⟨⟨_, _, _, rfl, by decide, Or.inl fw_X11_49⟩, List.forall_mem_cons.mpr ⟨⟨_, _, _, rfl, by decide, Or.inl fw_X11_55⟩, List.forall_mem_cons.mpr ⟨⟨_, _, _, rfl, by decide, Or.inl fw_X11_61⟩, fun _ h => absurd h List.not_mem_nil⟩⟩⟩⟩) (fun _ h => absurd h List.not_mem_nil) (List.forall_mem_cons.mpr ⟨mw_X11_316, List.forall_mem_cons.mpr ⟨mw_X11_318, fun _ h => absurd h List.not_mem_nil⟩⟩)) (List.forall_mem_cons.mpr ⟨clV m_X11_of rfl rfl rfl (by decide) (Or.inl lw_X11_265) (kn_X11_of _) (by decide +kernel), List.forall_mem_cons.mpr ⟨clV m_X11_worthOf rfl rfl rfl (by decide) (Or.inl lw_X11_313) (kn_X11_worthOf _) (by decide +kernel), fun _ h => absurd h List.not_mem_nil⟩⟩) (by decide +kernel)
/-! BlackMillModel.live()I -/
noncomputable def mi_X11_live : MI := (cX11_live, 5, RX11, [], [], [], [(49, 11, 22), (55, 11, 26), (255, 11, 24)], [], [(316, 1)], [(261, ci_X11_lay), (265, ci_X11_of), (290, ci_X11_lives), (320, ci_X11_manyLive), (323, ci_X11_learnsBy), (326, ci_X11_chosenNow)])
noncomputable def a_X11_live : St wM (mi_X11_live) 0 :=
  (sSeq (sSet 1 (eCal 320 ci_X11_manyLive rfl (aA1 aA0 (eLoc 0))))
  (sSeq (sBlk (sSeq (sSet 2 (eInt 0))
  (sWh (oCmp .lt (eLoc 2) (eFld 11 24 (eLoc 0))) (sSeq (sIf (oCm0 .ne (eCal 290 ci_X11_lives rfl (aA1 (aA1 aA0 (eLoc 0)) (eLoc 2)))) (sSeq (sSet 3 (eCal 323 ci_X11_learnsBy rfl (aA1 (aA1 (aA1 (aA1 aA0 (eLoc 0)) (eLoc 2)) (eCal 265 ci_X11_of rfl (aA1 (aA1 (aA1 aA0 (eLoc 0)) (eLoc 2)) (eInt 1)))) (eLoc 1))))
  (sSeq (sSet 4 (eCon (oCmp .eq (eCal 265 ci_X11_of rfl (aA1 (aA1 (aA1 aA0 (eLoc 0)) (eLoc 2)) (eInt 2))) (eInt 2)) (eBin 2 (eInt 2) (eAr 0 (eFld 11 22 (eLoc 0)) (eInt 3))) (eAr 0 (eFld 11 22 (eLoc 0)) (eInt 3))))
  (sSeq (sDo 261 ci_X11_lay rfl (aA1 (aA1 (aA1 (aA1 aA0 (eLoc 0)) (eLoc 2)) (eInt 0)) (eMt 1 (eInt 99) (eBin 0 (eCal 265 ci_X11_of rfl (aA1 (aA1 (aA1 aA0 (eLoc 0)) (eLoc 2)) (eInt 0))) (eLoc 3)))))
  (sDo 261 ci_X11_lay rfl (aA1 (aA1 (aA1 (aA1 aA0 (eLoc 0)) (eLoc 2)) (eInt 4)) (eMt 1 (eInt 99) (eBin 0 (eCal 265 ci_X11_of rfl (aA1 (aA1 (aA1 aA0 (eLoc 0)) (eLoc 2)) (eInt 4))) (eLoc 4)))))))))
  (sInc 2 1)))))
  (sSeq (sSet 2 (eCon (oCmp .gt (eLoc 1) (eInt 1)) (eCal 326 ci_X11_chosenNow rfl (aA1 aA0 (eLoc 0))) (eInt (-1))))
  (sSeq (sIf (oCmp .ne (eLoc 2) (eInt (-1))) (sDo 261 ci_X11_lay rfl (aA1 (aA1 (aA1 (aA1 aA0 (eLoc 0)) (eLoc 2)) (eInt 5)) (eInt 1))))
  (sSeq (sPutA 0 (eFld 11 26 (eLoc 0)) (eInt 48) (eInt 0))
  (sSeq (sUpdA 0 (eFld 11 26 (eLoc 0)) (eInt 49) (eInt 1))
  (sRet (eLoc 2))))))))
def n_X11_live : MN := (yX11_live, cX11_live, 5, (some .int), 6)
noncomputable def ci_X11_live : CI := (1, 11, [2], 0, denM 5 [2] false a_X11_live.1.1)
set_option maxRecDepth 100000 in
theorem m_X11_live : MetD wM n_X11_live ci_X11_live := g_meth false (a_X11_live) rxM_ok (by decide) rfl rfl rfl (by decide) (by decide) (Or.inl ⟨rfl, rfl⟩) (fun h => by cases h) (mkWords (fun _ h => absurd h List.not_mem_nil) (fun _ h => absurd h List.not_mem_nil) (fun _ h => absurd h List.not_mem_nil) (List.forall_mem_cons.mpr ⟨⟨_, _, _, rfl, by decide, Or.inl fw_X11_49⟩, List.forall_mem_cons.mpr ⟨⟨_, _, _, rfl, by decide, Or.inl fw_X11_55⟩, List.forall_mem_cons.mpr ⟨⟨_, _, _, rfl, by decide, Or.inl fw_X11_255⟩, fun _ h => absurd h List.not_mem_nil⟩⟩⟩) (fun _ h => absurd h List.not_mem_nil) (List.forall_mem_cons.mpr ⟨mw_X11_316, fun _ h => absurd h List.not_mem_nil⟩)) (List.forall_mem_cons.mpr ⟨clV m_X11_lay rfl rfl rfl (by decide) (Or.inl lw_X11_261) (kn_X11_lay _) (by decide +kernel), List.forall_mem_cons.mpr ⟨clV m_X11_of rfl rfl rfl (by decide) (Or.inl lw_X11_265) (kn_X11_of _) (by decide +kernel), List.forall_mem_cons.mpr ⟨clV m_X11_lives rfl rfl rfl (by decide) (Or.inl lw_X11_290) (kn_X11_lives _) (by decide +kernel), List.forall_mem_cons.mpr ⟨clV m_X11_manyLive rfl rfl rfl (by decide) (Or.inl lw_X11_320) (kn_X11_manyLive _) (by decide +kernel), List.forall_mem_cons.mpr ⟨clV m_X11_learnsBy rfl rfl rfl (by decide) (Or.inl lw_X11_323) (kn_X11_learnsBy _) (by decide +kernel), List.forall_mem_cons.mpr ⟨clV m_X11_chosenNow rfl rfl rfl (by decide) (Or.inl lw_X11_326) (kn_X11_chosenNow _) (by decide +kernel), fun _ h => absurd h List.not_mem_nil⟩⟩⟩⟩⟩⟩) (by decide +kernel)
/-! BlackMillModel.artOf(I)I -/
noncomputable def mi_X11_artOf : MI := (cX11_artOf, 4, RX11, [], [], [], [(255, 11, 24)], [], [], [(222, ci_X11_has), (265, ci_X11_of)])
noncomputable def a_X11_artOf : St wM (mi_X11_artOf) 0 :=
  (sSeq (sSet 2 (eInt 0))
  (sSeq (sBlk (sSeq (sSet 3 (eInt 0))
  (sWh (oCmp .lt (eLoc 3) (eFld 11 24 (eLoc 0))) (sSeq (sSet 2 (eBin 0 (eLoc 2) (eCon (oCm0 .ne (eCal 222 ci_X11_has rfl (aA1 (aA1 aA0 (eLoc 1)) (eLoc 3)))) (eCal 265 ci_X11_of rfl (aA1 (aA1 (aA1 aA0 (eLoc 0)) (eLoc 3)) (eInt 0))) (eInt 0))))
  (sInc 3 1)))))
  (sRet (eLoc 2))))
def n_X11_artOf : MN := (yX11_artOf, cX11_artOf, 4, (some .int), 2)
noncomputable def ci_X11_artOf : CI := (1, 11, [2, 0], 0, denM 4 [2, 0] false a_X11_artOf.1.1)
set_option maxRecDepth 100000 in
theorem m_X11_artOf : MetD wM n_X11_artOf ci_X11_artOf := g_meth false (a_X11_artOf) rxM_ok (by decide) rfl rfl rfl (by decide) (by decide) (Or.inl ⟨rfl, rfl⟩) (fun h => by cases h) (mkWords (fun _ h => absurd h List.not_mem_nil) (fun _ h => absurd h List.not_mem_nil) (fun _ h => absurd h List.not_mem_nil) (List.forall_mem_cons.mpr ⟨⟨_, _, _, rfl, by decide, Or.inl fw_X11_255⟩, fun _ h => absurd h List.not_mem_nil⟩) (fun _ h => absurd h List.not_mem_nil) (fun _ h => absurd h List.not_mem_nil)) (List.forall_mem_cons.mpr ⟨clS m_X11_has rfl (by decide) (Or.inl lw_X11_222) (kn_X11_has _) (by decide +kernel), List.forall_mem_cons.mpr ⟨clV m_X11_of rfl rfl rfl (by decide) (Or.inl lw_X11_265) (kn_X11_of _) (by decide +kernel), fun _ h => absurd h List.not_mem_nil⟩⟩) (by decide +kernel)
/-! BlackMillModel.passYear()V -/
noncomputable def mi_X11_passYear : MI := (cX11_passYear, 3, RX11, [], [], [], [(55, 11, 26)], [], [], [(293, ci_X11_living), (320, ci_X11_manyLive), (329, ci_X11_live), (332, ci_X11_artOf)])
noncomputable def a_X11_passYear : St wM (mi_X11_passYear) 3 :=
  (sSeq (sSeq (sSet 1 (eCal 329 ci_X11_live rfl (aA1 aA0 (eLoc 0))))
  (sSeq (sIf (oCmp .eq (eAr 0 (eFld 11 26 (eLoc 0)) (eInt 50)) (eInt 60)) (sSeq (sBlk (sSeq (sSet 2 (eInt 3))
  (sWh (oCmp .lt (eLoc 2) (eInt 180)) (sSeq (sPutA 0 (eFld 11 26 (eLoc 0)) (eBin 1 (eBin 0 (eInt 51) (eLoc 2)) (eInt 3)) (eAr 0 (eFld 11 26 (eLoc 0)) (eBin 0 (eInt 51) (eLoc 2))))
  (sInc 2 1)))))
  (sUpdA 1 (eFld 11 26 (eLoc 0)) (eInt 50) (eInt 1))))
  (sSeq (sSet 2 (eBin 0 (eInt 51) (eBin 2 (eInt 3) (eAr 0 (eFld 11 26 (eLoc 0)) (eInt 50)))))
  (sSeq (sPutA 0 (eFld 11 26 (eLoc 0)) (eLoc 2) (eLoc 1))
  (sSeq (sPutA 0 (eFld 11 26 (eLoc 0)) (eBin 0 (eLoc 2) (eInt 1)) (eCal 320 ci_X11_manyLive rfl (aA1 aA0 (eLoc 0))))
  (sSeq (sPutA 0 (eFld 11 26 (eLoc 0)) (eBin 0 (eLoc 2) (eInt 2)) (eCal 332 ci_X11_artOf rfl (aA1 (aA1 aA0 (eLoc 0)) (eCal 293 ci_X11_living rfl (aA1 aA0 (eLoc 0))))))
  (sUpdA 0 (eFld 11 26 (eLoc 0)) (eInt 50) (eInt 1))))))))
  sReV)
def n_X11_passYear : MN := (yX11_passYear, cX11_passYear, 3, none, 7)
noncomputable def ci_X11_passYear : CI := (1, 11, [2], 3, denM 3 [2] false a_X11_passYear.1.1)
set_option maxRecDepth 100000 in
theorem m_X11_passYear : MetD wM n_X11_passYear ci_X11_passYear := g_meth false (a_X11_passYear) rxM_ok (by decide) rfl rfl rfl (by decide) (by decide) (Or.inr (Or.inr (Or.inr (Or.inr ⟨rfl, rfl⟩)))) (fun h => by cases h) (mkWords (fun _ h => absurd h List.not_mem_nil) (fun _ h => absurd h List.not_mem_nil) (fun _ h => absurd h List.not_mem_nil) (List.forall_mem_cons.mpr ⟨⟨_, _, _, rfl, by decide, Or.inl fw_X11_55⟩, fun _ h => absurd h List.not_mem_nil⟩) (fun _ h => absurd h List.not_mem_nil) (fun _ h => absurd h List.not_mem_nil)) (List.forall_mem_cons.mpr ⟨clV m_X11_living rfl rfl rfl (by decide) (Or.inl lw_X11_293) (kn_X11_living _) (by decide +kernel), List.forall_mem_cons.mpr ⟨clV m_X11_manyLive rfl rfl rfl (by decide) (Or.inl lw_X11_320) (kn_X11_manyLive _) (by decide +kernel), List.forall_mem_cons.mpr ⟨clV m_X11_live rfl rfl rfl (by decide) (Or.inl lw_X11_329) (kn_X11_live _) (by decide +kernel), List.forall_mem_cons.mpr ⟨clV m_X11_artOf rfl rfl rfl (by decide) (Or.inl lw_X11_332) (kn_X11_artOf _) (by decide +kernel), fun _ h => absurd h List.not_mem_nil⟩⟩⟩⟩) (by decide +kernel)
/-! BlackMillModel.keep()V -/
noncomputable def mi_X11_keep : MI := (cX11_keep, 2, RX11, [], [], [], [(55, 11, 26), (68, 11, 30), (274, 11, 31)], [], [], [])
noncomputable def a_X11_keep : St wM (mi_X11_keep) 3 :=
  (sSeq (sSeq (sIf (oCmp .eq (eFld 11 31 (eLoc 0)) (eInt 40)) (sSeq (sBlk (sSeq (sSet 1 (eInt 231))
  (sWh (oCmp .lt (eLoc 1) (eInt 9240)) (sSeq (sPutA 0 (eFld 11 30 (eLoc 0)) (eBin 1 (eLoc 1) (eInt 231)) (eAr 0 (eFld 11 30 (eLoc 0)) (eLoc 1)))
  (sInc 1 1)))))
  (sUpdF 1 11 31 (eLoc 0) (eInt 1))))
  (sSeq (sBlk (sSeq (sSet 1 (eInt 0))
  (sWh (oCmp .lt (eLoc 1) (eInt 231)) (sSeq (sPutA 0 (eFld 11 30 (eLoc 0)) (eBin 0 (eBin 2 (eInt 231) (eFld 11 31 (eLoc 0))) (eLoc 1)) (eAr 0 (eFld 11 26 (eLoc 0)) (eLoc 1)))
  (sInc 1 1)))))
  (sUpdF 0 11 31 (eLoc 0) (eInt 1))))
  sReV)
def n_X11_keep : MN := (yX11_keep, cX11_keep, 2, none, 1)
noncomputable def ci_X11_keep : CI := (1, 11, [2], 3, denM 2 [2] false a_X11_keep.1.1)
set_option maxRecDepth 100000 in
theorem m_X11_keep : MetD wM n_X11_keep ci_X11_keep := g_meth false (a_X11_keep) rxM_ok (by decide) rfl rfl rfl (by decide) (by decide) (Or.inr (Or.inr (Or.inr (Or.inr ⟨rfl, rfl⟩)))) (fun h => by cases h) (mkWords (fun _ h => absurd h List.not_mem_nil) (fun _ h => absurd h List.not_mem_nil) (fun _ h => absurd h List.not_mem_nil) (List.forall_mem_cons.mpr ⟨⟨_, _, _, rfl, by decide, Or.inl fw_X11_55⟩, List.forall_mem_cons.mpr ⟨⟨_, _, _, rfl, by decide, Or.inl fw_X11_68⟩, List.forall_mem_cons.mpr ⟨⟨_, _, _, rfl, by decide, Or.inl fw_X11_274⟩, fun _ h => absurd h List.not_mem_nil⟩⟩⟩) (fun _ h => absurd h List.not_mem_nil) (fun _ h => absurd h List.not_mem_nil)) (fun _ h => absurd h List.not_mem_nil) (by decide +kernel)
/-! BlackMillModel.isRefused(I)Z -/
noncomputable def mi_X11_isRefused : MI := (cX11_isRefused, 2, RX11, [], [], [], [(58, 11, 27)], [], [], [])
noncomputable def a_X11_isRefused : St wM (mi_X11_isRefused) 0 :=
  (sSeq (sIf (oCmp .ne (eLoc 1) (eInt (-1))) (sUpdA 0 (eFld 11 27 (eLoc 0)) (eLoc 1) (eInt 1)))
  (sRet (eBo (oCmp .ne (eLoc 1) (eInt (-1))))))
def n_X11_isRefused : MN := (yX11_isRefused, cX11_isRefused, 2, (some .boolean), 1)
noncomputable def ci_X11_isRefused : CI := (1, 11, [2, 0], 0, denM 2 [2, 0] true a_X11_isRefused.1.1)
set_option maxRecDepth 100000 in
theorem m_X11_isRefused : MetD wM n_X11_isRefused ci_X11_isRefused := g_meth true (a_X11_isRefused) rxM_ok (by decide) rfl rfl rfl (by decide) (by decide) (Or.inr (Or.inl ⟨rfl, rfl⟩)) (fun _ => rfl) (mkWords (fun _ h => absurd h List.not_mem_nil) (fun _ h => absurd h List.not_mem_nil) (fun _ h => absurd h List.not_mem_nil) (List.forall_mem_cons.mpr ⟨⟨_, _, _, rfl, by decide, Or.inl fw_X11_58⟩, fun _ h => absurd h List.not_mem_nil⟩) (fun _ h => absurd h List.not_mem_nil) (fun _ h => absurd h List.not_mem_nil)) (fun _ h => absurd h List.not_mem_nil) (by decide +kernel)
/-! BlackMillModel.show(II)I -/
noncomputable def mi_X11_show : MI := (cX11_show, 3, RX11, [(338, -1000000)], [], [], [], [], [], [(211, ci_X11_in), (261, ci_X11_lay), (265, ci_X11_of), (287, ci_X11_isLad), (290, ci_X11_lives), (304, ci_X11_fear), (335, ci_X11_isRefused), (339, ci_X11_keep)])
noncomputable def a_X11_show : St wM (mi_X11_show) 0 :=
  (sSeq (sIf (oCm0 .ne (eCal 335 ci_X11_isRefused rfl (aA1 (aA1 aA0 (eLoc 0)) (eCon (oNot (oCm0 .ne (eCal 287 ci_X11_isLad rfl (aA1 (aA1 aA0 (eLoc 0)) (eLoc 1))))) (eInt 0) (eCon (oNot (oCm0 .ne (eCal 290 ci_X11_lives rfl (aA1 (aA1 aA0 (eLoc 0)) (eLoc 1))))) (eInt 1) (eCon (oNot (oCm0 .ne (eCal 211 ci_X11_in rfl (aA1 (aA1 (aA1 aA0 (eLoc 2)) (eInt 0)) (eCal 265 ci_X11_of rfl (aA1 (aA1 (aA1 aA0 (eLoc 0)) (eLoc 1)) (eInt 0))))))) (eInt 2) (eInt (-1)))))))) (sRet (eInt (-1000000))))
  (sSeq (sDo 339 ci_X11_keep rfl (aA1 aA0 (eLoc 0)))
  (sSeq (sDo 261 ci_X11_lay rfl (aA1 (aA1 (aA1 (aA1 aA0 (eLoc 0)) (eLoc 1)) (eInt 1)) (eLoc 2)))
  (sRet (eCal 304 ci_X11_fear rfl (aA1 (aA1 aA0 (eLoc 0)) (eLoc 1)))))))
def n_X11_show : MN := (yX11_show, cX11_show, 3, (some .int), 4)
noncomputable def ci_X11_show : CI := (1, 11, [2, 0, 0], 0, denM 3 [2, 0, 0] false a_X11_show.1.1)
set_option maxRecDepth 100000 in
theorem m_X11_show : MetD wM n_X11_show ci_X11_show := g_meth false (a_X11_show) rxM_ok (by decide) rfl rfl rfl (by decide) (by decide) (Or.inl ⟨rfl, rfl⟩) (fun h => by cases h) (mkWords (List.forall_mem_cons.mpr ⟨cw_X11_338, fun _ h => absurd h List.not_mem_nil⟩) (fun _ h => absurd h List.not_mem_nil) (fun _ h => absurd h List.not_mem_nil) (fun _ h => absurd h List.not_mem_nil) (fun _ h => absurd h List.not_mem_nil) (fun _ h => absurd h List.not_mem_nil)) (List.forall_mem_cons.mpr ⟨clS m_X11_in rfl (by decide) (Or.inl lw_X11_211) (kn_X11_in _) (by decide +kernel), List.forall_mem_cons.mpr ⟨clV m_X11_lay rfl rfl rfl (by decide) (Or.inl lw_X11_261) (kn_X11_lay _) (by decide +kernel), List.forall_mem_cons.mpr ⟨clV m_X11_of rfl rfl rfl (by decide) (Or.inl lw_X11_265) (kn_X11_of _) (by decide +kernel), List.forall_mem_cons.mpr ⟨clV m_X11_isLad rfl rfl rfl (by decide) (Or.inl lw_X11_287) (kn_X11_isLad _) (by decide +kernel), List.forall_mem_cons.mpr ⟨clV m_X11_lives rfl rfl rfl (by decide) (Or.inl lw_X11_290) (kn_X11_lives _) (by decide +kernel), List.forall_mem_cons.mpr ⟨clV m_X11_fear rfl rfl rfl (by decide) (Or.inl lw_X11_304) (kn_X11_fear _) (by decide +kernel), List.forall_mem_cons.mpr ⟨clV m_X11_isRefused rfl rfl rfl (by decide) (Or.inl lw_X11_335) (kn_X11_isRefused _) (by decide +kernel), List.forall_mem_cons.mpr ⟨clV m_X11_keep rfl rfl rfl (by decide) (Or.inl lw_X11_339) (kn_X11_keep _) (by decide +kernel), fun _ h => absurd h List.not_mem_nil⟩⟩⟩⟩⟩⟩⟩⟩) (by decide +kernel)
/-! BlackMillModel.warn(I)I -/
noncomputable def mi_X11_warn : MI := (cX11_warn, 4, RX11, [], [], [], [(55, 11, 26)], [], [], [(222, ci_X11_has), (265, ci_X11_of), (287, ci_X11_isLad), (290, ci_X11_lives), (335, ci_X11_isRefused), (339, ci_X11_keep)])
noncomputable def a_X11_warn : St wM (mi_X11_warn) 0 :=
  (sSeq (sSet 2 (eInt 0))
  (sSeq (sIf (oCm0 .ne (eCal 287 ci_X11_isLad rfl (aA1 (aA1 aA0 (eLoc 0)) (eLoc 1)))) (sSeq (sSet 3 (eCal 265 ci_X11_of rfl (aA1 (aA1 (aA1 aA0 (eLoc 0)) (eLoc 1)) (eInt 3))))
  (sSet 2 (eCon (oOr (oNot (oCm0 .ne (eCal 290 ci_X11_lives rfl (aA1 (aA1 aA0 (eLoc 0)) (eLoc 1))))) (oAnd (oCmp .ne (eLoc 3) (eInt (-1))) (oNot (oCm0 .ne (eCal 290 ci_X11_lives rfl (aA1 (aA1 aA0 (eLoc 0)) (eLoc 3))))))) (eInt 1) (eCon (oOr (oCmp .eq (eLoc 3) (eInt (-1))) (oCm0 .ne (eCal 222 ci_X11_has rfl (aA1 (aA1 aA0 (eAr 0 (eFld 11 26 (eLoc 0)) (eInt 48))) (eLoc 3))))) (eInt 3) (eInt (-1)))))))
  (sSeq (sIf (oCm0 .ne (eCal 335 ci_X11_isRefused rfl (aA1 (aA1 aA0 (eLoc 0)) (eLoc 2)))) (sRet (eInt (-1))))
  (sSeq (sDo 339 ci_X11_keep rfl (aA1 aA0 (eLoc 0)))
  (sSeq (sUpdA 4 (eFld 11 26 (eLoc 0)) (eInt 48) (eBin 6 (eInt 1) (eCal 265 ci_X11_of rfl (aA1 (aA1 (aA1 aA0 (eLoc 0)) (eLoc 1)) (eInt 3)))))
  (sRet (eCal 265 ci_X11_of rfl (aA1 (aA1 (aA1 aA0 (eLoc 0)) (eLoc 1)) (eInt 3)))))))))
def n_X11_warn : MN := (yX11_warn, cX11_warn, 4, (some .int), 4)
noncomputable def ci_X11_warn : CI := (1, 11, [2, 0], 0, denM 4 [2, 0] false a_X11_warn.1.1)
set_option maxRecDepth 100000 in
theorem m_X11_warn : MetD wM n_X11_warn ci_X11_warn := g_meth false (a_X11_warn) rxM_ok (by decide) rfl rfl rfl (by decide) (by decide) (Or.inl ⟨rfl, rfl⟩) (fun h => by cases h) (mkWords (fun _ h => absurd h List.not_mem_nil) (fun _ h => absurd h List.not_mem_nil) (fun _ h => absurd h List.not_mem_nil) (List.forall_mem_cons.mpr ⟨⟨_, _, _, rfl, by decide, Or.inl fw_X11_55⟩, fun _ h => absurd h List.not_mem_nil⟩) (fun _ h => absurd h List.not_mem_nil) (fun _ h => absurd h List.not_mem_nil)) (List.forall_mem_cons.mpr ⟨clS m_X11_has rfl (by decide) (Or.inl lw_X11_222) (kn_X11_has _) (by decide +kernel), List.forall_mem_cons.mpr ⟨clV m_X11_of rfl rfl rfl (by decide) (Or.inl lw_X11_265) (kn_X11_of _) (by decide +kernel), List.forall_mem_cons.mpr ⟨clV m_X11_isLad rfl rfl rfl (by decide) (Or.inl lw_X11_287) (kn_X11_isLad _) (by decide +kernel), List.forall_mem_cons.mpr ⟨clV m_X11_lives rfl rfl rfl (by decide) (Or.inl lw_X11_290) (kn_X11_lives _) (by decide +kernel), List.forall_mem_cons.mpr ⟨clV m_X11_isRefused rfl rfl rfl (by decide) (Or.inl lw_X11_335) (kn_X11_isRefused _) (by decide +kernel), List.forall_mem_cons.mpr ⟨clV m_X11_keep rfl rfl rfl (by decide) (Or.inl lw_X11_339) (kn_X11_keep _) (by decide +kernel), fun _ h => absurd h List.not_mem_nil⟩⟩⟩⟩⟩⟩) (by decide +kernel)
/-! BlackMillModel.leave(I)I -/
noncomputable def mi_X11_leave : MI := (cX11_leave, 2, RX11, [], [], [], [], [], [], [(261, ci_X11_lay), (287, ci_X11_isLad), (290, ci_X11_lives), (320, ci_X11_manyLive), (335, ci_X11_isRefused), (339, ci_X11_keep)])
noncomputable def a_X11_leave : St wM (mi_X11_leave) 0 :=
  (sSeq (sIf (oCm0 .ne (eCal 335 ci_X11_isRefused rfl (aA1 (aA1 aA0 (eLoc 0)) (eCon (oNot (oCm0 .ne (eCal 287 ci_X11_isLad rfl (aA1 (aA1 aA0 (eLoc 0)) (eLoc 1))))) (eInt 0) (eCon (oNot (oCm0 .ne (eCal 290 ci_X11_lives rfl (aA1 (aA1 aA0 (eLoc 0)) (eLoc 1))))) (eInt 1) (eCon (oCmp .eq (eCal 320 ci_X11_manyLive rfl (aA1 aA0 (eLoc 0))) (eInt 1)) (eInt 3) (eInt (-1)))))))) (sRet (eInt (-1))))
  (sSeq (sDo 339 ci_X11_keep rfl (aA1 aA0 (eLoc 0)))
  (sSeq (sDo 261 ci_X11_lay rfl (aA1 (aA1 (aA1 (aA1 aA0 (eLoc 0)) (eLoc 1)) (eInt 5)) (eInt 2)))
  (sRet (eCal 320 ci_X11_manyLive rfl (aA1 aA0 (eLoc 0)))))))
def n_X11_leave : MN := (yX11_leave, cX11_leave, 2, (some .int), 6)
noncomputable def ci_X11_leave : CI := (1, 11, [2, 0], 0, denM 2 [2, 0] false a_X11_leave.1.1)
set_option maxRecDepth 100000 in
theorem m_X11_leave : MetD wM n_X11_leave ci_X11_leave := g_meth false (a_X11_leave) rxM_ok (by decide) rfl rfl rfl (by decide) (by decide) (Or.inl ⟨rfl, rfl⟩) (fun h => by cases h) (mkWords (fun _ h => absurd h List.not_mem_nil) (fun _ h => absurd h List.not_mem_nil) (fun _ h => absurd h List.not_mem_nil) (fun _ h => absurd h List.not_mem_nil) (fun _ h => absurd h List.not_mem_nil) (fun _ h => absurd h List.not_mem_nil)) (List.forall_mem_cons.mpr ⟨clV m_X11_lay rfl rfl rfl (by decide) (Or.inl lw_X11_261) (kn_X11_lay _) (by decide +kernel), List.forall_mem_cons.mpr ⟨clV m_X11_isLad rfl rfl rfl (by decide) (Or.inl lw_X11_287) (kn_X11_isLad _) (by decide +kernel), List.forall_mem_cons.mpr ⟨clV m_X11_lives rfl rfl rfl (by decide) (Or.inl lw_X11_290) (kn_X11_lives _) (by decide +kernel), List.forall_mem_cons.mpr ⟨clV m_X11_manyLive rfl rfl rfl (by decide) (Or.inl lw_X11_320) (kn_X11_manyLive _) (by decide +kernel), List.forall_mem_cons.mpr ⟨clV m_X11_isRefused rfl rfl rfl (by decide) (Or.inl lw_X11_335) (kn_X11_isRefused _) (by decide +kernel), List.forall_mem_cons.mpr ⟨clV m_X11_keep rfl rfl rfl (by decide) (Or.inl lw_X11_339) (kn_X11_keep _) (by decide +kernel), fun _ h => absurd h List.not_mem_nil⟩⟩⟩⟩⟩⟩) (by decide +kernel)
/-! BlackMillModel.comeNow(I)V -/
noncomputable def mi_X11_comeNow : MI := (cX11_comeNow, 3, RX11, [], [], [], [(55, 11, 26)], [], [], [(261, ci_X11_lay)])
noncomputable def a_X11_comeNow : St wM (mi_X11_comeNow) 3 :=
  (sSeq (sSeq (sBlk (sSeq (sSet 2 (eInt 0))
  (sWh (oCmp .lt (eLoc 2) (eInt 6)) (sSeq (sDo 261 ci_X11_lay rfl (aA1 (aA1 (aA1 (aA1 aA0 (eLoc 0)) (eLoc 1)) (eLoc 2)) (eInt 0)))
  (sInc 2 1)))))
  (sSeq (sDo 261 ci_X11_lay rfl (aA1 (aA1 (aA1 (aA1 aA0 (eLoc 0)) (eLoc 1)) (eInt 3)) (eInt (-1))))
  (sSeq (sDo 261 ci_X11_lay rfl (aA1 (aA1 (aA1 (aA1 aA0 (eLoc 0)) (eLoc 1)) (eInt 4)) (eInt 14)))
  (sUpdA 3 (eFld 11 26 (eLoc 0)) (eInt 48) (eBin 5 (eBin 6 (eInt 1) (eLoc 1)) (eInt (-1)))))))
  sReV)
def n_X11_comeNow : MN := (yX11_comeNow, cX11_comeNow, 3, none, 2)
noncomputable def ci_X11_comeNow : CI := (1, 11, [2, 0], 3, denM 3 [2, 0] false a_X11_comeNow.1.1)
set_option maxRecDepth 100000 in
theorem m_X11_comeNow : MetD wM n_X11_comeNow ci_X11_comeNow := g_meth false (a_X11_comeNow) rxM_ok (by decide) rfl rfl rfl (by decide) (by decide) (Or.inr (Or.inr (Or.inr (Or.inr ⟨rfl, rfl⟩)))) (fun h => by cases h) (mkWords (fun _ h => absurd h List.not_mem_nil) (fun _ h => absurd h List.not_mem_nil) (fun _ h => absurd h List.not_mem_nil) (List.forall_mem_cons.mpr ⟨⟨_, _, _, rfl, by decide, Or.inl fw_X11_55⟩, fun _ h => absurd h List.not_mem_nil⟩) (fun _ h => absurd h List.not_mem_nil) (fun _ h => absurd h List.not_mem_nil)) (List.forall_mem_cons.mpr ⟨clV m_X11_lay rfl rfl rfl (by decide) (Or.inl lw_X11_261) (kn_X11_lay _) (by decide +kernel), fun _ h => absurd h List.not_mem_nil⟩) (by decide +kernel)
/-! BlackMillModel.come(I)I -/
noncomputable def mi_X11_come : MI := (cX11_come, 2, RX11, [], [], [], [], [], [], [(287, ci_X11_isLad), (290, ci_X11_lives), (320, ci_X11_manyLive), (335, ci_X11_isRefused), (339, ci_X11_keep), (342, ci_X11_comeNow)])
noncomputable def a_X11_come : St wM (mi_X11_come) 0 :=
  (sSeq (sIf (oCm0 .ne (eCal 335 ci_X11_isRefused rfl (aA1 (aA1 aA0 (eLoc 0)) (eCon (oNot (oCm0 .ne (eCal 287 ci_X11_isLad rfl (aA1 (aA1 aA0 (eLoc 0)) (eLoc 1))))) (eInt 0) (eCon (oCm0 .ne (eCal 290 ci_X11_lives rfl (aA1 (aA1 aA0 (eLoc 0)) (eLoc 1)))) (eInt 1) (eInt (-1))))))) (sRet (eInt (-1))))
  (sSeq (sDo 339 ci_X11_keep rfl (aA1 aA0 (eLoc 0)))
  (sSeq (sDo 342 ci_X11_comeNow rfl (aA1 (aA1 aA0 (eLoc 0)) (eLoc 1)))
  (sRet (eCal 320 ci_X11_manyLive rfl (aA1 aA0 (eLoc 0)))))))
def n_X11_come : MN := (yX11_come, cX11_come, 2, (some .int), 6)
noncomputable def ci_X11_come : CI := (1, 11, [2, 0], 0, denM 2 [2, 0] false a_X11_come.1.1)
set_option maxRecDepth 100000 in
theorem m_X11_come : MetD wM n_X11_come ci_X11_come := g_meth false (a_X11_come) rxM_ok (by decide) rfl rfl rfl (by decide) (by decide) (Or.inl ⟨rfl, rfl⟩) (fun h => by cases h) (mkWords (fun _ h => absurd h List.not_mem_nil) (fun _ h => absurd h List.not_mem_nil) (fun _ h => absurd h List.not_mem_nil) (fun _ h => absurd h List.not_mem_nil) (fun _ h => absurd h List.not_mem_nil) (fun _ h => absurd h List.not_mem_nil)) (List.forall_mem_cons.mpr ⟨clV m_X11_isLad rfl rfl rfl (by decide) (Or.inl lw_X11_287) (kn_X11_isLad _) (by decide +kernel), List.forall_mem_cons.mpr ⟨clV m_X11_lives rfl rfl rfl (by decide) (Or.inl lw_X11_290) (kn_X11_lives _) (by decide +kernel), List.forall_mem_cons.mpr ⟨clV m_X11_manyLive rfl rfl rfl (by decide) (Or.inl lw_X11_320) (kn_X11_manyLive _) (by decide +kernel), List.forall_mem_cons.mpr ⟨clV m_X11_isRefused rfl rfl rfl (by decide) (Or.inl lw_X11_335) (kn_X11_isRefused _) (by decide +kernel), List.forall_mem_cons.mpr ⟨clV m_X11_keep rfl rfl rfl (by decide) (Or.inl lw_X11_339) (kn_X11_keep _) (by decide +kernel), List.forall_mem_cons.mpr ⟨clV m_X11_comeNow rfl rfl rfl (by decide) (Or.inl lw_X11_342) (kn_X11_comeNow _) (by decide +kernel), fun _ h => absurd h List.not_mem_nil⟩⟩⟩⟩⟩⟩) (by decide +kernel)
/-! BlackMillModel.years(I)I -/
noncomputable def mi_X11_years : MI := (cX11_years, 3, RX11, [], [], [], [(55, 11, 26), (255, 11, 24)], [], [], [(211, ci_X11_in), (335, ci_X11_isRefused), (339, ci_X11_keep), (345, ci_X11_passYear)])
noncomputable def a_X11_years : St wM (mi_X11_years) 0 :=
  (sSeq (sIf (oCm0 .ne (eCal 335 ci_X11_isRefused rfl (aA1 (aA1 aA0 (eLoc 0)) (eCon (oCm0 .eq (eFld 11 24 (eLoc 0))) (eInt 0) (eCon (oNot (oCm0 .ne (eCal 211 ci_X11_in rfl (aA1 (aA1 (aA1 aA0 (eLoc 1)) (eInt 1)) (eInt 60))))) (eInt 2) (eCon (oCmp .gt (eBin 0 (eAr 0 (eFld 11 26 (eLoc 0)) (eInt 49)) (eLoc 1)) (eInt 999)) (eInt 4) (eInt (-1)))))))) (sRet (eInt (-1))))
  (sSeq (sBlk (sSeq (sSet 2 (eInt 0))
  (sWh (oCmp .lt (eLoc 2) (eLoc 1)) (sSeq (sSeq (sDo 339 ci_X11_keep rfl (aA1 aA0 (eLoc 0)))
  (sDo 345 ci_X11_passYear rfl (aA1 aA0 (eLoc 0))))
  (sInc 2 1)))))
  (sRet (eAr 0 (eFld 11 26 (eLoc 0)) (eInt 49)))))
def n_X11_years : MN := (yX11_years, cX11_years, 3, (some .int), 8)
noncomputable def ci_X11_years : CI := (1, 11, [2, 0], 0, denM 3 [2, 0] false a_X11_years.1.1)
set_option maxRecDepth 100000 in
theorem m_X11_years : MetD wM n_X11_years ci_X11_years := g_meth false (a_X11_years) rxM_ok (by decide) rfl rfl rfl (by decide) (by decide) (Or.inl ⟨rfl, rfl⟩) (fun h => by cases h) (mkWords (fun _ h => absurd h List.not_mem_nil) (fun _ h => absurd h List.not_mem_nil) (fun _ h => absurd h List.not_mem_nil) (List.forall_mem_cons.mpr ⟨⟨_, _, _, rfl, by decide, Or.inl fw_X11_55⟩, List.forall_mem_cons.mpr ⟨⟨_, _, _, rfl, by decide, Or.inl fw_X11_255⟩, fun _ h => absurd h List.not_mem_nil⟩⟩) (fun _ h => absurd h List.not_mem_nil) (fun _ h => absurd h List.not_mem_nil)) (List.forall_mem_cons.mpr ⟨clS m_X11_in rfl (by decide) (Or.inl lw_X11_211) (kn_X11_in _) (by decide +kernel), List.forall_mem_cons.mpr ⟨clV m_X11_isRefused rfl rfl rfl (by decide) (Or.inl lw_X11_335) (kn_X11_isRefused _) (by decide +kernel), List.forall_mem_cons.mpr ⟨clV m_X11_keep rfl rfl rfl (by decide) (Or.inl lw_X11_339) (kn_X11_keep _) (by decide +kernel), List.forall_mem_cons.mpr ⟨clV m_X11_passYear rfl rfl rfl (by decide) (Or.inl lw_X11_345) (kn_X11_passYear _) (by decide +kernel), fun _ h => absurd h List.not_mem_nil⟩⟩⟩⟩) (by decide +kernel)
/-! BlackMillModel.bold(I)Z -/
noncomputable def mi_X11_bold : MI := (cX11_bold, 2, RX11, [], [], [], [(65, 11, 29)], [], [], [(211, ci_X11_in)])
noncomputable def a_X11_bold : St wM (mi_X11_bold) 0 :=
  (sSeq (sIf (oOr (oNot (oCm0 .ne (eCal 211 ci_X11_in rfl (aA1 (aA1 (aA1 aA0 (eLoc 1)) (eInt 0)) (eInt 9))))) (oCmp .eq (eLoc 1) (eFld 11 29 (eLoc 0)))) (sRet (eInt 0)))
  (sSeq (sPutF 11 29 (eLoc 0) (eLoc 1))
  (sRet (eInt 1))))
def n_X11_bold : MN := (yX11_bold, cX11_bold, 2, (some .boolean), 2)
noncomputable def ci_X11_bold : CI := (1, 11, [2, 0], 0, denM 2 [2, 0] true a_X11_bold.1.1)
set_option maxRecDepth 100000 in
theorem m_X11_bold : MetD wM n_X11_bold ci_X11_bold := g_meth true (a_X11_bold) rxM_ok (by decide) rfl rfl rfl (by decide) (by decide) (Or.inr (Or.inl ⟨rfl, rfl⟩)) (fun _ => rfl) (mkWords (fun _ h => absurd h List.not_mem_nil) (fun _ h => absurd h List.not_mem_nil) (fun _ h => absurd h List.not_mem_nil) (List.forall_mem_cons.mpr ⟨⟨_, _, _, rfl, by decide, Or.inl fw_X11_65⟩, fun _ h => absurd h List.not_mem_nil⟩) (fun _ h => absurd h List.not_mem_nil) (fun _ h => absurd h List.not_mem_nil)) (List.forall_mem_cons.mpr ⟨clS m_X11_in rfl (by decide) (Or.inl lw_X11_211) (kn_X11_in _) (by decide +kernel), fun _ h => absurd h List.not_mem_nil⟩) (by decide +kernel)
/-! BlackMillModel.draw(I)I -/
noncomputable def mi_X11_draw : MI := (cX11_draw, 2, RX11, [], [(352, 6364136223846793005), (354, 1442695040888963407)], [], [(348, 11, 32)], [], [], [])
noncomputable def a_X11_draw : St wM (mi_X11_draw) 0 :=
  (sSeq (sPutF 11 32 (eLoc 0) (eBin 9 (eBin 11 (eFld 11 32 (eLoc 0)) (eLng 6364136223846793005)) (eLng 1442695040888963407)))
  (sRet (eL2I (eDiv 3 (eBin 15 (eFld 11 32 (eLoc 0)) (eInt 33)) (eI2L (eLoc 1))))))
def n_X11_draw : MN := (yX11_draw, cX11_draw, 2, (some .int), 1)
noncomputable def ci_X11_draw : CI := (1, 11, [2, 0], 0, denM 2 [2, 0] false a_X11_draw.1.1)
set_option maxRecDepth 100000 in
theorem m_X11_draw : MetD wM n_X11_draw ci_X11_draw := g_meth false (a_X11_draw) rxM_ok (by decide) rfl rfl rfl (by decide) (by decide) (Or.inl ⟨rfl, rfl⟩) (fun h => by cases h) (mkWords (fun _ h => absurd h List.not_mem_nil) (List.forall_mem_cons.mpr ⟨cw_X11_352, List.forall_mem_cons.mpr ⟨cw_X11_354, fun _ h => absurd h List.not_mem_nil⟩⟩) (fun _ h => absurd h List.not_mem_nil) (List.forall_mem_cons.mpr ⟨⟨_, _, _, rfl, by decide, Or.inl fw_X11_348⟩, fun _ h => absurd h List.not_mem_nil⟩) (fun _ h => absurd h List.not_mem_nil) (fun _ h => absurd h List.not_mem_nil)) (fun _ h => absurd h List.not_mem_nil) (by decide +kernel)
/-! BlackMillModel.drawLads()V -/
noncomputable def mi_X11_drawLads : MI := (cX11_drawLads, 3, RX11, [], [], [], [(65, 11, 29), (255, 11, 24)], [], [], [(222, ci_X11_has), (261, ci_X11_lay), (265, ci_X11_of), (293, ci_X11_living), (342, ci_X11_comeNow), (356, ci_X11_draw)])
noncomputable def a_X11_drawLads : St wM (mi_X11_drawLads) 3 :=
  (sSeq (sSeq (sSet 1 (eCal 293 ci_X11_living rfl (aA1 aA0 (eLoc 0))))
  (sSeq (sBlk (sSeq (sSet 2 (eInt 0))
  (sWh (oCmp .lt (eLoc 2) (eFld 11 24 (eLoc 0))) (sSeq (sIf (oCm0 .ne (eCal 222 ci_X11_has rfl (aA1 (aA1 aA0 (eLoc 1)) (eLoc 2)))) (sDo 261 ci_X11_lay rfl (aA1 (aA1 (aA1 (aA1 aA0 (eLoc 0)) (eLoc 2)) (eInt 1)) (eCon (oCmp .lt (eCal 356 ci_X11_draw rfl (aA1 (aA1 aA0 (eLoc 0)) (eInt 10))) (eFld 11 29 (eLoc 0))) (eDiv 0 (eCal 265 ci_X11_of rfl (aA1 (aA1 (aA1 aA0 (eLoc 0)) (eLoc 2)) (eInt 0))) (eInt 2)) (eInt 0)))))
  (sInc 2 1)))))
  (sBlk (sSeq (sSet 2 (eInt 0))
  (sWh (oCmp .lt (eLoc 2) (eFld 11 24 (eLoc 0))) (sSeq (sIf (oAnd (oNot (oCm0 .ne (eCal 222 ci_X11_has rfl (aA1 (aA1 aA0 (eLoc 1)) (eLoc 2))))) (oCmp .eq (eCal 356 ci_X11_draw rfl (aA1 (aA1 aA0 (eLoc 0)) (eInt 2))) (eInt 1))) (sDo 342 ci_X11_comeNow rfl (aA1 (aA1 aA0 (eLoc 0)) (eLoc 2))))
  (sInc 2 1)))))))
  sReV)
def n_X11_drawLads : MN := (yX11_drawLads, cX11_drawLads, 3, none, 5)
noncomputable def ci_X11_drawLads : CI := (1, 11, [2], 3, denM 3 [2] false a_X11_drawLads.1.1)
set_option maxRecDepth 100000 in
theorem m_X11_drawLads : MetD wM n_X11_drawLads ci_X11_drawLads := g_meth false (a_X11_drawLads) rxM_ok (by decide) rfl rfl rfl (by decide) (by decide) (Or.inr (Or.inr (Or.inr (Or.inr ⟨rfl, rfl⟩)))) (fun h => by cases h) (mkWords (fun _ h => absurd h List.not_mem_nil) (fun _ h => absurd h List.not_mem_nil) (fun _ h => absurd h List.not_mem_nil) (List.forall_mem_cons.mpr ⟨⟨_, _, _, rfl, by decide, Or.inl fw_X11_65⟩, List.forall_mem_cons.mpr ⟨⟨_, _, _, rfl, by decide, Or.inl fw_X11_255⟩, fun _ h => absurd h List.not_mem_nil⟩⟩) (fun _ h => absurd h List.not_mem_nil) (fun _ h => absurd h List.not_mem_nil)) (List.forall_mem_cons.mpr ⟨clS m_X11_has rfl (by decide) (Or.inl lw_X11_222) (kn_X11_has _) (by decide +kernel), List.forall_mem_cons.mpr ⟨clV m_X11_lay rfl rfl rfl (by decide) (Or.inl lw_X11_261) (kn_X11_lay _) (by decide +kernel), List.forall_mem_cons.mpr ⟨clV m_X11_of rfl rfl rfl (by decide) (Or.inl lw_X11_265) (kn_X11_of _) (by decide +kernel), List.forall_mem_cons.mpr ⟨clV m_X11_living rfl rfl rfl (by decide) (Or.inl lw_X11_293) (kn_X11_living _) (by decide +kernel), List.forall_mem_cons.mpr ⟨clV m_X11_comeNow rfl rfl rfl (by decide) (Or.inl lw_X11_342) (kn_X11_comeNow _) (by decide +kernel), List.forall_mem_cons.mpr ⟨clV m_X11_draw rfl rfl rfl (by decide) (Or.inl lw_X11_356) (kn_X11_draw _) (by decide +kernel), fun _ h => absurd h List.not_mem_nil⟩⟩⟩⟩⟩⟩) (by decide +kernel)
/-! BlackMillModel.winters(IJ)I -/
noncomputable def mi_X11_winters : MI := (cX11_winters, 5, RX11, [], [], [], [(55, 11, 26), (255, 11, 24), (348, 11, 32)], [], [], [(211, ci_X11_in), (339, ci_X11_keep), (345, ci_X11_passYear), (359, ci_X11_drawLads)])
noncomputable def a_X11_winters : St wM (mi_X11_winters) 0 :=
  (sSeq (sIf (oOr (oOr (oCm0 .eq (eFld 11 24 (eLoc 0))) (oNot (oCm0 .ne (eCal 211 ci_X11_in rfl (aA1 (aA1 (aA1 aA0 (eLoc 1)) (eInt 1)) (eInt 60)))))) (oCmp .gt (eBin 0 (eAr 0 (eFld 11 26 (eLoc 0)) (eInt 49)) (eLoc 1)) (eInt 999))) (sRet (eInt (-1))))
  (sSeq (sPutF 11 32 (eLoc 0) (eLoc 2))
  (sSeq (sBlk (sSeq (sSet 4 (eInt 0))
  (sWh (oCmp .lt (eLoc 4) (eLoc 1)) (sSeq (sSeq (sDo 339 ci_X11_keep rfl (aA1 aA0 (eLoc 0)))
  (sSeq (sDo 359 ci_X11_drawLads rfl (aA1 aA0 (eLoc 0)))
  (sDo 345 ci_X11_passYear rfl (aA1 aA0 (eLoc 0)))))
  (sInc 4 1)))))
  (sRet (eAr 0 (eFld 11 26 (eLoc 0)) (eInt 49))))))
def n_X11_winters : MN := (yX11_winters, cX11_winters, 5, (some .int), 8)
noncomputable def ci_X11_winters : CI := (1, 11, [2, 0, 1], 0, denM 5 [2, 0, 1] false a_X11_winters.1.1)
set_option maxRecDepth 100000 in
theorem m_X11_winters : MetD wM n_X11_winters ci_X11_winters := g_meth false (a_X11_winters) rxM_ok (by decide) rfl rfl rfl (by decide) (by decide) (Or.inl ⟨rfl, rfl⟩) (fun h => by cases h) (mkWords (fun _ h => absurd h List.not_mem_nil) (fun _ h => absurd h List.not_mem_nil) (fun _ h => absurd h List.not_mem_nil) (List.forall_mem_cons.mpr ⟨⟨_, _, _, rfl, by decide, Or.inl fw_X11_55⟩, List.forall_mem_cons.mpr ⟨⟨_, _, _, rfl, by decide, Or.inl fw_X11_255⟩, List.forall_mem_cons.mpr ⟨⟨_, _, _, rfl, by decide, Or.inl fw_X11_348⟩, fun _ h => absurd h List.not_mem_nil⟩⟩⟩) (fun _ h => absurd h List.not_mem_nil) (fun _ h => absurd h List.not_mem_nil)) (List.forall_mem_cons.mpr ⟨clS m_X11_in rfl (by decide) (Or.inl lw_X11_211) (kn_X11_in _) (by decide +kernel), List.forall_mem_cons.mpr ⟨clV m_X11_keep rfl rfl rfl (by decide) (Or.inl lw_X11_339) (kn_X11_keep _) (by decide +kernel), List.forall_mem_cons.mpr ⟨clV m_X11_passYear rfl rfl rfl (by decide) (Or.inl lw_X11_345) (kn_X11_passYear _) (by decide +kernel), List.forall_mem_cons.mpr ⟨clV m_X11_drawLads rfl rfl rfl (by decide) (Or.inl lw_X11_359) (kn_X11_drawLads _) (by decide +kernel), fun _ h => absurd h List.not_mem_nil⟩⟩⟩⟩) (by decide +kernel)
/-! BlackMillModel.status(I)I -/
noncomputable def mi_X11_status : MI := (cX11_status, 2, RX11, [], [], [], [(58, 11, 27)], [], [], [(211, ci_X11_in)])
noncomputable def a_X11_status : St wM (mi_X11_status) 0 :=
  (sRet (eCon (oCm0 .ne (eCal 211 ci_X11_in rfl (aA1 (aA1 (aA1 aA0 (eLoc 1)) (eInt 0)) (eInt 4)))) (eAr 0 (eFld 11 27 (eLoc 0)) (eLoc 1)) (eInt (-1))))
def n_X11_status : MN := (yX11_status, cX11_status, 2, (some .int), 2)
noncomputable def ci_X11_status : CI := (1, 11, [2, 0], 0, denM 2 [2, 0] false a_X11_status.1.1)
set_option maxRecDepth 100000 in
theorem m_X11_status : MetD wM n_X11_status ci_X11_status := g_meth false (a_X11_status) rxM_ok (by decide) rfl rfl rfl (by decide) (by decide) (Or.inl ⟨rfl, rfl⟩) (fun h => by cases h) (mkWords (fun _ h => absurd h List.not_mem_nil) (fun _ h => absurd h List.not_mem_nil) (fun _ h => absurd h List.not_mem_nil) (List.forall_mem_cons.mpr ⟨⟨_, _, _, rfl, by decide, Or.inl fw_X11_58⟩, fun _ h => absurd h List.not_mem_nil⟩) (fun _ h => absurd h List.not_mem_nil) (fun _ h => absurd h List.not_mem_nil)) (List.forall_mem_cons.mpr ⟨clS m_X11_in rfl (by decide) (Or.inl lw_X11_211) (kn_X11_in _) (by decide +kernel), fun _ h => absurd h List.not_mem_nil⟩) (by decide +kernel)
/-! BlackMillModel.undo()I -/
noncomputable def mi_X11_undo : MI := (cX11_undo, 2, RX11, [], [], [], [(55, 11, 26), (68, 11, 30), (274, 11, 31)], [], [], [])
noncomputable def a_X11_undo : St wM (mi_X11_undo) 0 :=
  (sSeq (sIf (oCm0 .eq (eFld 11 31 (eLoc 0))) (sRet (eInt (-1))))
  (sSeq (sUpdF 1 11 31 (eLoc 0) (eInt 1))
  (sSeq (sBlk (sSeq (sSet 1 (eInt 0))
  (sWh (oCmp .lt (eLoc 1) (eInt 231)) (sSeq (sPutA 0 (eFld 11 26 (eLoc 0)) (eLoc 1) (eAr 0 (eFld 11 30 (eLoc 0)) (eBin 0 (eBin 2 (eInt 231) (eFld 11 31 (eLoc 0))) (eLoc 1))))
  (sInc 1 1)))))
  (sRet (eFld 11 31 (eLoc 0))))))
def n_X11_undo : MN := (yX11_undo, cX11_undo, 2, (some .int), 1)
noncomputable def ci_X11_undo : CI := (1, 11, [2], 0, denM 2 [2] false a_X11_undo.1.1)
set_option maxRecDepth 100000 in
theorem m_X11_undo : MetD wM n_X11_undo ci_X11_undo := g_meth false (a_X11_undo) rxM_ok (by decide) rfl rfl rfl (by decide) (by decide) (Or.inl ⟨rfl, rfl⟩) (fun h => by cases h) (mkWords (fun _ h => absurd h List.not_mem_nil) (fun _ h => absurd h List.not_mem_nil) (fun _ h => absurd h List.not_mem_nil) (List.forall_mem_cons.mpr ⟨⟨_, _, _, rfl, by decide, Or.inl fw_X11_55⟩, List.forall_mem_cons.mpr ⟨⟨_, _, _, rfl, by decide, Or.inl fw_X11_68⟩, List.forall_mem_cons.mpr ⟨⟨_, _, _, rfl, by decide, Or.inl fw_X11_274⟩, fun _ h => absurd h List.not_mem_nil⟩⟩⟩) (fun _ h => absurd h List.not_mem_nil) (fun _ h => absurd h List.not_mem_nil)) (fun _ h => absurd h List.not_mem_nil) (by decide +kernel)
/-! BlackMillModel.log(II)I -/
noncomputable def mi_X11_log : MI := (cX11_log, 3, RX11, [(338, -1000000)], [], [], [(55, 11, 26)], [], [], [(211, ci_X11_in)])
noncomputable def a_X11_log : St wM (mi_X11_log) 0 :=
  (sRet (eCon (oAnd (oCm0 .ne (eCal 211 ci_X11_in rfl (aA1 (aA1 (aA1 aA0 (eLoc 1)) (eInt 0)) (eBin 1 (eAr 0 (eFld 11 26 (eLoc 0)) (eInt 50)) (eInt 1))))) (oCm0 .ne (eCal 211 ci_X11_in rfl (aA1 (aA1 (aA1 aA0 (eLoc 2)) (eInt 0)) (eInt 2))))) (eAr 0 (eFld 11 26 (eLoc 0)) (eBin 0 (eBin 0 (eInt 51) (eBin 2 (eInt 3) (eBin 1 (eBin 1 (eAr 0 (eFld 11 26 (eLoc 0)) (eInt 50)) (eInt 1)) (eLoc 1)))) (eLoc 2))) (eInt (-1000000))))
def n_X11_log : MN := (yX11_log, cX11_log, 3, (some .int), 2)
noncomputable def ci_X11_log : CI := (1, 11, [2, 0, 0], 0, denM 3 [2, 0, 0] false a_X11_log.1.1)
set_option maxRecDepth 100000 in
theorem m_X11_log : MetD wM n_X11_log ci_X11_log := g_meth false (a_X11_log) rxM_ok (by decide) rfl rfl rfl (by decide) (by decide) (Or.inl ⟨rfl, rfl⟩) (fun h => by cases h) (mkWords (List.forall_mem_cons.mpr ⟨cw_X11_338, fun _ h => absurd h List.not_mem_nil⟩) (fun _ h => absurd h List.not_mem_nil) (fun _ h => absurd h List.not_mem_nil) (List.forall_mem_cons.mpr ⟨⟨_, _, _, rfl, by decide, Or.inl fw_X11_55⟩, fun _ h => absurd h List.not_mem_nil⟩) (fun _ h => absurd h List.not_mem_nil) (fun _ h => absurd h List.not_mem_nil)) (List.forall_mem_cons.mpr ⟨clS m_X11_in rfl (by decide) (Or.inl lw_X11_211) (kn_X11_in _) (by decide +kernel), fun _ h => absurd h List.not_mem_nil⟩) (by decide +kernel)
/-! BlackMillModel.chosen()I -/
noncomputable def mi_X11_chosen : MI := (cX11_chosen, 1, RX11, [], [], [], [], [], [], [(326, ci_X11_chosenNow)])
noncomputable def a_X11_chosen : St wM (mi_X11_chosen) 0 :=
  (sRet (eCal 326 ci_X11_chosenNow rfl (aA1 aA0 (eLoc 0))))
def n_X11_chosen : MN := (yX11_chosen, cX11_chosen, 1, (some .int), 5)
noncomputable def ci_X11_chosen : CI := (1, 11, [2], 0, denM 1 [2] false a_X11_chosen.1.1)
set_option maxRecDepth 100000 in
theorem m_X11_chosen : MetD wM n_X11_chosen ci_X11_chosen := g_meth false (a_X11_chosen) rxM_ok (by decide) rfl rfl rfl (by decide) (by decide) (Or.inl ⟨rfl, rfl⟩) (fun h => by cases h) (mkWords (fun _ h => absurd h List.not_mem_nil) (fun _ h => absurd h List.not_mem_nil) (fun _ h => absurd h List.not_mem_nil) (fun _ h => absurd h List.not_mem_nil) (fun _ h => absurd h List.not_mem_nil) (fun _ h => absurd h List.not_mem_nil)) (List.forall_mem_cons.mpr ⟨clV m_X11_chosenNow rfl rfl rfl (by decide) (Or.inl lw_X11_326) (kn_X11_chosenNow _) (by decide +kernel), fun _ h => absurd h List.not_mem_nil⟩) (by decide +kernel)
/-! BlackMillModel.putAside(I)V -/
noncomputable def mi_X11_putAside : MI := (cX11_putAside, 3, RX11, [], [], [], [(55, 11, 26), (71, 11, 33)], [], [], [])
noncomputable def a_X11_putAside : St wM (mi_X11_putAside) 3 :=
  (sSeq (sBlk (sSeq (sSet 2 (eInt 0))
  (sWh (oCmp .lt (eLoc 2) (eInt 50)) (sSeq (sPutA 0 (eFld 11 33 (eLoc 0)) (eBin 0 (eBin 2 (eInt 50) (eLoc 1)) (eLoc 2)) (eAr 0 (eFld 11 26 (eLoc 0)) (eLoc 2)))
  (sInc 2 1)))))
  sReV)
def n_X11_putAside : MN := (yX11_putAside, cX11_putAside, 3, none, 1)
noncomputable def ci_X11_putAside : CI := (1, 11, [2, 0], 3, denM 3 [2, 0] false a_X11_putAside.1.1)
set_option maxRecDepth 100000 in
theorem m_X11_putAside : MetD wM n_X11_putAside ci_X11_putAside := g_meth false (a_X11_putAside) rxM_ok (by decide) rfl rfl rfl (by decide) (by decide) (Or.inr (Or.inr (Or.inr (Or.inr ⟨rfl, rfl⟩)))) (fun h => by cases h) (mkWords (fun _ h => absurd h List.not_mem_nil) (fun _ h => absurd h List.not_mem_nil) (fun _ h => absurd h List.not_mem_nil) (List.forall_mem_cons.mpr ⟨⟨_, _, _, rfl, by decide, Or.inl fw_X11_55⟩, List.forall_mem_cons.mpr ⟨⟨_, _, _, rfl, by decide, Or.inl fw_X11_71⟩, fun _ h => absurd h List.not_mem_nil⟩⟩) (fun _ h => absurd h List.not_mem_nil) (fun _ h => absurd h List.not_mem_nil)) (fun _ h => absurd h List.not_mem_nil) (by decide +kernel)
/-! BlackMillModel.takeBack(I)V -/
noncomputable def mi_X11_takeBack : MI := (cX11_takeBack, 3, RX11, [], [], [], [(55, 11, 26), (71, 11, 33)], [], [], [])
noncomputable def a_X11_takeBack : St wM (mi_X11_takeBack) 3 :=
  (sSeq (sBlk (sSeq (sSet 2 (eInt 0))
  (sWh (oCmp .lt (eLoc 2) (eInt 50)) (sSeq (sPutA 0 (eFld 11 26 (eLoc 0)) (eLoc 2) (eAr 0 (eFld 11 33 (eLoc 0)) (eBin 0 (eBin 2 (eInt 50) (eLoc 1)) (eLoc 2))))
  (sInc 2 1)))))
  sReV)
def n_X11_takeBack : MN := (yX11_takeBack, cX11_takeBack, 3, none, 1)
noncomputable def ci_X11_takeBack : CI := (1, 11, [2, 0], 3, denM 3 [2, 0] false a_X11_takeBack.1.1)
set_option maxRecDepth 100000 in
theorem m_X11_takeBack : MetD wM n_X11_takeBack ci_X11_takeBack := g_meth false (a_X11_takeBack) rxM_ok (by decide) rfl rfl rfl (by decide) (by decide) (Or.inr (Or.inr (Or.inr (Or.inr ⟨rfl, rfl⟩)))) (fun h => by cases h) (mkWords (fun _ h => absurd h List.not_mem_nil) (fun _ h => absurd h List.not_mem_nil) (fun _ h => absurd h List.not_mem_nil) (List.forall_mem_cons.mpr ⟨⟨_, _, _, rfl, by decide, Or.inl fw_X11_55⟩, List.forall_mem_cons.mpr ⟨⟨_, _, _, rfl, by decide, Or.inl fw_X11_71⟩, fun _ h => absurd h List.not_mem_nil⟩⟩) (fun _ h => absurd h List.not_mem_nil) (fun _ h => absurd h List.not_mem_nil)) (fun _ h => absurd h List.not_mem_nil) (by decide +kernel)
/-! BlackMillModel.tryPath(IIII)V -/
def ci_X11_tryPath (D : Nat → Den) : CI := (1, 11, [2, 0, 0, 0, 0], 3, D 0)
noncomputable def mi_X11_tryPath (D : Nat → Den) : MI := (cX11_tryPath, 6, RX11, [], [], [], [(362, 11, 34), (365, 11, 35)], [], [], [(261, ci_X11_lay), (265, ci_X11_of), (329, ci_X11_live), (368, ci_X11_putAside), (371, (ci_X11_tryPath D)), (375, ci_X11_takeBack)])
noncomputable def a_X11_tryPath (D : Nat → Den) : St wM (mi_X11_tryPath D) 3 :=
  (sSeq (sSeq (sIf (oCm0 .eq (eLoc 3)) (sSeq (sIf (oOr (oCmp .eq (eFld 11 34 (eLoc 0)) (eInt (-1))) (oCmp .gt (eCal 265 ci_X11_of rfl (aA1 (aA1 (aA1 aA0 (eLoc 0)) (eLoc 1)) (eInt 0))) (eFld 11 35 (eLoc 0)))) (sSeq (sPutF 11 34 (eLoc 0) (eLoc 4))
  (sPutF 11 35 (eLoc 0) (eCal 265 ci_X11_of rfl (aA1 (aA1 (aA1 aA0 (eLoc 0)) (eLoc 1)) (eInt 0))))))
  sReV))
  (sSeq (sDo 368 ci_X11_putAside rfl (aA1 (aA1 aA0 (eLoc 0)) (eLoc 2)))
  (sBlk (sSeq (sSet 5 (eInt 0))
  (sWh (oCmp .lt (eLoc 5) (eInt 3)) (sSeq (sSeq (sDo 261 ci_X11_lay rfl (aA1 (aA1 (aA1 (aA1 aA0 (eLoc 0)) (eLoc 1)) (eInt 1)) (eCon (oCm0 .eq (eLoc 5)) (eInt 0) (eCon (oCmp .eq (eLoc 5) (eInt 1)) (eDiv 0 (eCal 265 ci_X11_of rfl (aA1 (aA1 (aA1 aA0 (eLoc 0)) (eLoc 1)) (eInt 0))) (eInt 2)) (eCal 265 ci_X11_of rfl (aA1 (aA1 (aA1 aA0 (eLoc 0)) (eLoc 1)) (eInt 0)))))))
  (sSeq (sIf (oCmp .ne (eCal 329 ci_X11_live rfl (aA1 aA0 (eLoc 0))) (eLoc 1)) (sDo 371 (ci_X11_tryPath D) rfl (aA1 (aA1 (aA1 (aA1 (aA1 aA0 (eLoc 0)) (eLoc 1)) (eBin 0 (eLoc 2) (eInt 1))) (eBin 1 (eLoc 3) (eInt 1))) (eBin 0 (eBin 2 (eInt 10) (eLoc 4)) (eLoc 5)))))
  (sDo 375 ci_X11_takeBack rfl (aA1 (aA1 aA0 (eLoc 0)) (eLoc 2)))))
  (sInc 5 1)))))))
  sReV)
def n_X11_tryPath (h : Nat) : MN := (yX11_tryPath, cX11_tryPath, 6, none, h)
noncomputable def grp_X11_tryPath : Nat → Nat → Den
  | 0 => fun _ _ _ => none
  | d + 1 => fun k => match k with
    | 0 => denM 6 [2, 0, 0, 0, 0] false (a_X11_tryPath (grp_X11_tryPath d)).1.1
    | _ => fun _ _ => none
set_option maxRecDepth 100000 in
theorem kc_X11_tryPath : ∀ d, d < 7 → chkM (a_X11_tryPath (grp_X11_tryPath d)).1.2 (layT 6 [2, 0, 0, 0, 0]) = true := by decide +kernel
set_option maxRecDepth 100000 in
theorem m_grp_X11_tryPath : ∀ d : Nat, d ≤ 7 → MetD wM (n_X11_tryPath (7 + d)) (ci_X11_tryPath (grp_X11_tryPath d))
  | 0, _ => met_none (fun _ _ => rfl)
  | d + 1, h => by
    have ih := m_grp_X11_tryPath d (Nat.le_of_succ_le h)
    exact g_meth false (a_X11_tryPath (grp_X11_tryPath d)) rxM_ok pn_X11 rfl rfl rfl (Nat.le_add_left 1 _) (Nat.le_of_ble_eq_true rfl) (Or.inr (Or.inr (Or.inr (Or.inr ⟨rfl, rfl⟩)))) (fun h => by cases h) (mkWords (fun _ h => absurd h List.not_mem_nil) (fun _ h => absurd h List.not_mem_nil) (fun _ h => absurd h List.not_mem_nil) (List.forall_mem_cons.mpr ⟨⟨_, _, _, rfl, by decide, Or.inl fw_X11_362⟩, List.forall_mem_cons.mpr ⟨⟨_, _, _, rfl, by decide, Or.inl fw_X11_365⟩, fun _ h => absurd h List.not_mem_nil⟩⟩) (fun _ h => absurd h List.not_mem_nil) (fun _ h => absurd h List.not_mem_nil)) (List.forall_mem_cons.mpr ⟨clV m_X11_lay rfl rfl rfl (Nat.le_add_right_of_le (by decide)) (Or.inl lw_X11_261) (kn_X11_lay _) pd_X11_lay, List.forall_mem_cons.mpr ⟨clV m_X11_of rfl rfl rfl (Nat.le_add_right_of_le (by decide)) (Or.inl lw_X11_265) (kn_X11_of _) pd_X11_of, List.forall_mem_cons.mpr ⟨clV m_X11_live rfl rfl rfl (Nat.le_add_right_of_le (by decide)) (Or.inl lw_X11_329) (kn_X11_live _) pd_X11_live, List.forall_mem_cons.mpr ⟨clV m_X11_putAside rfl rfl rfl (Nat.le_add_right_of_le (by decide)) (Or.inl lw_X11_368) (kn_X11_putAside _) pd_X11_putAside, List.forall_mem_cons.mpr ⟨clV ih rfl rfl rfl (Nat.le_refl _) (Or.inl lw_X11_371) (kn_X11_tryPath _) pd_X11_tryPath, List.forall_mem_cons.mpr ⟨clV m_X11_takeBack rfl rfl rfl (Nat.le_add_right_of_le (by decide)) (Or.inl lw_X11_375) (kn_X11_takeBack _) pd_X11_takeBack, fun _ h => absurd h List.not_mem_nil⟩⟩⟩⟩⟩⟩) (kc_X11_tryPath d h)
/-! BlackMillModel.path(III)I -/
noncomputable def mi_X11_path : MI := (cX11_path, 4, RX11, [], [], [], [(362, 11, 34), (365, 11, 35)], [], [], [(211, ci_X11_in), (290, ci_X11_lives), (371, (ci_X11_tryPath (grp_X11_tryPath 7)))])
noncomputable def a_X11_path : St wM (mi_X11_path) 0 :=
  (sSeq (sIf (oOr (oOr (oNot (oCm0 .ne (eCal 290 ci_X11_lives rfl (aA1 (aA1 aA0 (eLoc 0)) (eLoc 1))))) (oNot (oCm0 .ne (eCal 211 ci_X11_in rfl (aA1 (aA1 (aA1 aA0 (eLoc 2)) (eInt 1)) (eInt 5)))))) (oNot (oCm0 .ne (eCal 211 ci_X11_in rfl (aA1 (aA1 (aA1 aA0 (eLoc 3)) (eInt 0)) (eInt 1)))))) (sRet (eInt (-1))))
  (sSeq (sPutF 11 34 (eLoc 0) (eInt (-1)))
  (sSeq (sDo 371 (ci_X11_tryPath (grp_X11_tryPath 7)) rfl (aA1 (aA1 (aA1 (aA1 (aA1 aA0 (eLoc 0)) (eLoc 1)) (eInt 0)) (eLoc 2)) (eInt 0)))
  (sRet (eCon (oOr (oCmp .eq (eFld 11 34 (eLoc 0)) (eInt (-1))) (oCm0 .eq (eLoc 3))) (eFld 11 34 (eLoc 0)) (eFld 11 35 (eLoc 0)))))))
def n_X11_path : MN := (yX11_path, cX11_path, 4, (some .int), 15)
noncomputable def ci_X11_path : CI := (1, 11, [2, 0, 0, 0], 0, denM 4 [2, 0, 0, 0] false a_X11_path.1.1)
set_option maxRecDepth 100000 in
theorem m_X11_path : MetD wM n_X11_path ci_X11_path := g_meth false (a_X11_path) rxM_ok (by decide) rfl rfl rfl (by decide) (by decide) (Or.inl ⟨rfl, rfl⟩) (fun h => by cases h) (mkWords (fun _ h => absurd h List.not_mem_nil) (fun _ h => absurd h List.not_mem_nil) (fun _ h => absurd h List.not_mem_nil) (List.forall_mem_cons.mpr ⟨⟨_, _, _, rfl, by decide, Or.inl fw_X11_362⟩, List.forall_mem_cons.mpr ⟨⟨_, _, _, rfl, by decide, Or.inl fw_X11_365⟩, fun _ h => absurd h List.not_mem_nil⟩⟩) (fun _ h => absurd h List.not_mem_nil) (fun _ h => absurd h List.not_mem_nil)) (List.forall_mem_cons.mpr ⟨clS m_X11_in rfl (by decide) (Or.inl lw_X11_211) (kn_X11_in _) (by decide +kernel), List.forall_mem_cons.mpr ⟨clV m_X11_lives rfl rfl rfl (by decide) (Or.inl lw_X11_290) (kn_X11_lives _) (by decide +kernel), List.forall_mem_cons.mpr ⟨clV (m_grp_X11_tryPath 7 (Nat.le_refl _)) rfl rfl rfl (by decide) (Or.inl lw_X11_371) (kn_X11_tryPath _) (by decide +kernel), fun _ h => absurd h List.not_mem_nil⟩⟩⟩) (by decide +kernel)
/-! BlackMillModel.holds(I)I -/
noncomputable def mi_X11_holds : MI := (cX11_holds, 4, RX11, [], [], [], [], [], [], [(290, ci_X11_lives), (329, ci_X11_live), (368, ci_X11_putAside), (375, ci_X11_takeBack)])
noncomputable def a_X11_holds : St wM (mi_X11_holds) 0 :=
  (sSeq (sIf (oNot (oCm0 .ne (eCal 290 ci_X11_lives rfl (aA1 (aA1 aA0 (eLoc 0)) (eLoc 1))))) (sRet (eInt (-1))))
  (sSeq (sDo 368 ci_X11_putAside rfl (aA1 (aA1 aA0 (eLoc 0)) (eInt 0)))
  (sSeq (sSet 2 (eInt 0))
  (sSeq (sWh (oAnd (oCmp .lt (eLoc 2) (eInt 30)) (oCm0 .ne (eCal 290 ci_X11_lives rfl (aA1 (aA1 aA0 (eLoc 0)) (eLoc 1))))) (sSeq (sDo 329 ci_X11_live rfl (aA1 aA0 (eLoc 0)))
  (sInc 2 1)))
  (sSeq (sSet 3 (eBo (oNot (oCm0 .ne (eCal 290 ci_X11_lives rfl (aA1 (aA1 aA0 (eLoc 0)) (eLoc 1)))))))
  (sSeq (sDo 375 ci_X11_takeBack rfl (aA1 (aA1 aA0 (eLoc 0)) (eInt 0)))
  (sRet (eCon (oCm0 .ne (eLoc 3)) (eLoc 2) (eInt (-1))))))))))
def n_X11_holds : MN := (yX11_holds, cX11_holds, 4, (some .int), 7)
noncomputable def ci_X11_holds : CI := (1, 11, [2, 0], 0, denM 4 [2, 0] false a_X11_holds.1.1)
set_option maxRecDepth 100000 in
theorem m_X11_holds : MetD wM n_X11_holds ci_X11_holds := g_meth false (a_X11_holds) rxM_ok (by decide) rfl rfl rfl (by decide) (by decide) (Or.inl ⟨rfl, rfl⟩) (fun h => by cases h) (mkWords (fun _ h => absurd h List.not_mem_nil) (fun _ h => absurd h List.not_mem_nil) (fun _ h => absurd h List.not_mem_nil) (fun _ h => absurd h List.not_mem_nil) (fun _ h => absurd h List.not_mem_nil) (fun _ h => absurd h List.not_mem_nil)) (List.forall_mem_cons.mpr ⟨clV m_X11_lives rfl rfl rfl (by decide) (Or.inl lw_X11_290) (kn_X11_lives _) (by decide +kernel), List.forall_mem_cons.mpr ⟨clV m_X11_live rfl rfl rfl (by decide) (Or.inl lw_X11_329) (kn_X11_live _) (by decide +kernel), List.forall_mem_cons.mpr ⟨clV m_X11_putAside rfl rfl rfl (by decide) (Or.inl lw_X11_368) (kn_X11_putAside _) (by decide +kernel), List.forall_mem_cons.mpr ⟨clV m_X11_takeBack rfl rfl rfl (by decide) (Or.inl lw_X11_375) (kn_X11_takeBack _) (by decide +kernel), fun _ h => absurd h List.not_mem_nil⟩⟩⟩⟩) (by decide +kernel)
/-! BlackMillModel.tells(I)I -/
noncomputable def mi_X11_tells : MI := (cX11_tells, 6, RX11, [], [], [], [(255, 11, 24)], [], [], [(290, ci_X11_lives), (296, ci_J6_bitCount_0f7a4M), (310, ci_X11_signs)])
noncomputable def a_X11_tells : St wM (mi_X11_tells) 0 :=
  (sSeq (sIf (oNot (oCm0 .ne (eCal 290 ci_X11_lives rfl (aA1 (aA1 aA0 (eLoc 0)) (eLoc 1))))) (sRet (eInt (-1))))
  (sSeq (sSet 2 (eInt (-1)))
  (sSeq (sBlk (sSeq (sSet 3 (eInt 0))
  (sWh (oCmp .lt (eLoc 3) (eInt 64)) (sSeq (sSeq (sSet 4 (eBo (oOr (oCmp .eq (eLoc 2) (eInt (-1))) (oCmp .lt (eCal 296 ci_J6_bitCount_0f7a4M rfl (aA1 aA0 (eLoc 3))) (eCal 296 ci_J6_bitCount_0f7a4M rfl (aA1 aA0 (eLoc 2)))))))
  (sSeq (sBlk (sSeq (sSet 5 (eInt 0))
  (sWh (oAnd (oCmp .lt (eLoc 5) (eFld 11 24 (eLoc 0))) (oCm0 .ne (eLoc 4))) (sSeq (sSet 4 (eBo (oOr (oOr (oCmp .eq (eLoc 5) (eLoc 1)) (oNot (oCm0 .ne (eCal 290 ci_X11_lives rfl (aA1 (aA1 aA0 (eLoc 0)) (eLoc 5)))))) (oCm0 .ne (eBin 3 (eBin 5 (eCal 310 ci_X11_signs rfl (aA1 (aA1 aA0 (eLoc 0)) (eLoc 5))) (eCal 310 ci_X11_signs rfl (aA1 (aA1 aA0 (eLoc 0)) (eLoc 1)))) (eLoc 3))))))
  (sInc 5 1)))))
  (sSet 2 (eCon (oCm0 .ne (eLoc 4)) (eLoc 3) (eLoc 2)))))
  (sInc 3 1)))))
  (sRet (eLoc 2)))))
def n_X11_tells : MN := (yX11_tells, cX11_tells, 6, (some .int), 6)
noncomputable def ci_X11_tells : CI := (1, 11, [2, 0], 0, denM 6 [2, 0] false a_X11_tells.1.1)
set_option maxRecDepth 100000 in
theorem m_X11_tells : MetD wM n_X11_tells ci_X11_tells := g_meth false (a_X11_tells) rxM_ok (by decide) rfl rfl rfl (by decide) (by decide) (Or.inl ⟨rfl, rfl⟩) (fun h => by cases h) (mkWords (fun _ h => absurd h List.not_mem_nil) (fun _ h => absurd h List.not_mem_nil) (fun _ h => absurd h List.not_mem_nil) (List.forall_mem_cons.mpr ⟨⟨_, _, _, rfl, by decide, Or.inl fw_X11_255⟩, fun _ h => absurd h List.not_mem_nil⟩) (fun _ h => absurd h List.not_mem_nil) (fun _ h => absurd h List.not_mem_nil)) (List.forall_mem_cons.mpr ⟨clV m_X11_lives rfl rfl rfl (by decide) (Or.inl lw_X11_290) (kn_X11_lives _) (by decide +kernel), List.forall_mem_cons.mpr ⟨clS m_J6_bitCount_0f7a4M rfl (by decide) (Or.inl lw_X11_296) (kn_J6_bitCount_0f7a4 _) (by decide +kernel), List.forall_mem_cons.mpr ⟨clV m_X11_signs rfl rfl rfl (by decide) (Or.inl lw_X11_310) (kn_X11_signs _) (by decide +kernel), fun _ h => absurd h List.not_mem_nil⟩⟩⟩) (by decide +kernel)
/-! BlackMillModel.twins(I)I -/
noncomputable def mi_X11_twins : MI := (cX11_twins, 5, RX11, [], [], [], [(255, 11, 24)], [], [], [(290, ci_X11_lives), (310, ci_X11_signs)])
noncomputable def a_X11_twins : St wM (mi_X11_twins) 0 :=
  (sSeq (sIf (oOr (oCm0 .eq (eFld 11 24 (eLoc 0))) (oCmp .lt (eLoc 1) (eInt (-1)))) (sRet (eInt (-1))))
  (sSeq (sSet 2 (eInt 0))
  (sSeq (sBlk (sSeq (sSet 3 (eInt 0))
  (sWh (oCmp .lt (eLoc 3) (eFld 11 24 (eLoc 0))) (sSeq (sBlk (sSeq (sSet 4 (eBin 0 (eLoc 3) (eInt 1)))
  (sWh (oCmp .lt (eLoc 4) (eFld 11 24 (eLoc 0))) (sSeq (sIf (oAnd (oAnd (oCm0 .ne (eCal 290 ci_X11_lives rfl (aA1 (aA1 aA0 (eLoc 0)) (eLoc 3)))) (oCm0 .ne (eCal 290 ci_X11_lives rfl (aA1 (aA1 aA0 (eLoc 0)) (eLoc 4))))) (oCmp .eq (eCal 310 ci_X11_signs rfl (aA1 (aA1 aA0 (eLoc 0)) (eLoc 3))) (eCal 310 ci_X11_signs rfl (aA1 (aA1 aA0 (eLoc 0)) (eLoc 4))))) (sSeq (sIf (oCmp .eq (eLoc 2) (eLoc 1)) (sRet (eBin 0 (eBin 2 (eInt 10) (eLoc 3)) (eLoc 4))))
  (sInc 2 1)))
  (sInc 4 1)))))
  (sInc 3 1)))))
  (sRet (eCon (oCmp .eq (eLoc 1) (eInt (-1))) (eLoc 2) (eInt (-1)))))))
def n_X11_twins : MN := (yX11_twins, cX11_twins, 5, (some .int), 6)
noncomputable def ci_X11_twins : CI := (1, 11, [2, 0], 0, denM 5 [2, 0] false a_X11_twins.1.1)
set_option maxRecDepth 100000 in
theorem m_X11_twins : MetD wM n_X11_twins ci_X11_twins := g_meth false (a_X11_twins) rxM_ok (by decide) rfl rfl rfl (by decide) (by decide) (Or.inl ⟨rfl, rfl⟩) (fun h => by cases h) (mkWords (fun _ h => absurd h List.not_mem_nil) (fun _ h => absurd h List.not_mem_nil) (fun _ h => absurd h List.not_mem_nil) (List.forall_mem_cons.mpr ⟨⟨_, _, _, rfl, by decide, Or.inl fw_X11_255⟩, fun _ h => absurd h List.not_mem_nil⟩) (fun _ h => absurd h List.not_mem_nil) (fun _ h => absurd h List.not_mem_nil)) (List.forall_mem_cons.mpr ⟨clV m_X11_lives rfl rfl rfl (by decide) (Or.inl lw_X11_290) (kn_X11_lives _) (by decide +kernel), List.forall_mem_cons.mpr ⟨clV m_X11_signs rfl rfl rfl (by decide) (Or.inl lw_X11_310) (kn_X11_signs _) (by decide +kernel), fun _ h => absurd h List.not_mem_nil⟩⟩) (by decide +kernel)
/-! BlackMillModel.chain(II)I -/
noncomputable def mi_X11_chain : MI := (cX11_chain, 5, RX11, [], [], [], [], [], [], [(265, ci_X11_of), (290, ci_X11_lives)])
noncomputable def a_X11_chain : St wM (mi_X11_chain) 0 :=
  (sSeq (sIf (oOr (oNot (oCm0 .ne (eCal 290 ci_X11_lives rfl (aA1 (aA1 aA0 (eLoc 0)) (eLoc 1))))) (oNot (oCm0 .ne (eCal 290 ci_X11_lives rfl (aA1 (aA1 aA0 (eLoc 0)) (eLoc 2)))))) (sRet (eInt (-1))))
  (sSeq (sSet 3 (eLoc 1))
  (sSeq (sBlk (sSeq (sSet 4 (eInt 0))
  (sWh (oAnd (oCmp .lt (eLoc 4) (eInt 8)) (oCm0 .ne (eCal 290 ci_X11_lives rfl (aA1 (aA1 aA0 (eLoc 0)) (eLoc 3))))) (sSeq (sSeq (sIf (oCmp .eq (eLoc 3) (eLoc 2)) (sRet (eLoc 4)))
  (sSet 3 (eCal 265 ci_X11_of rfl (aA1 (aA1 (aA1 aA0 (eLoc 0)) (eLoc 3)) (eInt 3)))))
  (sInc 4 1)))))
  (sRet (eInt (-1))))))
def n_X11_chain : MN := (yX11_chain, cX11_chain, 5, (some .int), 4)
noncomputable def ci_X11_chain : CI := (1, 11, [2, 0, 0], 0, denM 5 [2, 0, 0] false a_X11_chain.1.1)
set_option maxRecDepth 100000 in
theorem m_X11_chain : MetD wM n_X11_chain ci_X11_chain := g_meth false (a_X11_chain) rxM_ok (by decide) rfl rfl rfl (by decide) (by decide) (Or.inl ⟨rfl, rfl⟩) (fun h => by cases h) (mkWords (fun _ h => absurd h List.not_mem_nil) (fun _ h => absurd h List.not_mem_nil) (fun _ h => absurd h List.not_mem_nil) (fun _ h => absurd h List.not_mem_nil) (fun _ h => absurd h List.not_mem_nil) (fun _ h => absurd h List.not_mem_nil)) (List.forall_mem_cons.mpr ⟨clV m_X11_of rfl rfl rfl (by decide) (Or.inl lw_X11_265) (kn_X11_of _) (by decide +kernel), List.forall_mem_cons.mpr ⟨clV m_X11_lives rfl rfl rfl (by decide) (Or.inl lw_X11_290) (kn_X11_lives _) (by decide +kernel), fun _ h => absurd h List.not_mem_nil⟩⟩) (by decide +kernel)
