/-! methods of ref, 3 -/
/-! BlackMillModel.trusts(I)I -/
noncomputable def mi_X11_trusts : MI := (cX11_trusts, 4, RX11, [], [], [], [], [], [], [(222, ci_X11_has), (265, ci_X11_of), (290, ci_X11_lives)])
noncomputable def a_X11_trusts : St wM (mi_X11_trusts) 0 :=
  (sSeq (sIf (oNot (oCm0 .ne (eCal 290 ci_X11_lives rfl (aA1 (aA1 aA0 (eLoc 0)) (eLoc 1))))) (sRet (eInt (-1))))
  (sSeq (sSet 2 (eBin 6 (eInt 1) (eLoc 1)))
  (sSeq (sSet 3 (eCal 265 ci_X11_of rfl (aA1 (aA1 (aA1 aA0 (eLoc 0)) (eLoc 1)) (eInt 3))))
  (sSeq (sWh (oAnd (oAnd (oCm0 .ne (eCal 290 ci_X11_lives rfl (aA1 (aA1 aA0 (eLoc 0)) (eLoc 3)))) (oCmp .ne (eCal 265 ci_X11_of rfl (aA1 (aA1 (aA1 aA0 (eLoc 0)) (eLoc 3)) (eInt 2))) (eInt 3))) (oNot (oCm0 .ne (eCal 222 ci_X11_has rfl (aA1 (aA1 aA0 (eLoc 2)) (eLoc 3)))))) (sSeq (sSet 2 (eBin 4 (eLoc 2) (eBin 6 (eInt 1) (eLoc 3))))
  (sSet 3 (eCal 265 ci_X11_of rfl (aA1 (aA1 (aA1 aA0 (eLoc 0)) (eLoc 3)) (eInt 3))))))
  (sRet (eLoc 2))))))
def n_X11_trusts : MN := (yX11_trusts, cX11_trusts, 4, (some .int), 4)
noncomputable def ci_X11_trusts : CI := (1, 11, [2, 0], 0, denM 4 [2, 0] false a_X11_trusts.1.1)
set_option maxRecDepth 100000 in
theorem m_X11_trusts : MetD wM n_X11_trusts ci_X11_trusts := g_meth false (a_X11_trusts) rxM_ok (by decide) rfl rfl rfl (by decide) (by decide) (Or.inl ⟨rfl, rfl⟩) (fun h => by cases h) (mkWords (fun _ h => absurd h List.not_mem_nil) (fun _ h => absurd h List.not_mem_nil) (fun _ h => absurd h List.not_mem_nil) (fun _ h => absurd h List.not_mem_nil) (fun _ h => absurd h List.not_mem_nil) (fun _ h => absurd h List.not_mem_nil)) (List.forall_mem_cons.mpr ⟨clS m_X11_has rfl (by decide) (Or.inl lw_X11_222) (kn_X11_has _) (by decide +kernel), List.forall_mem_cons.mpr ⟨clV m_X11_of rfl rfl rfl (by decide) (Or.inl lw_X11_265) (kn_X11_of _) (by decide +kernel), List.forall_mem_cons.mpr ⟨clV m_X11_lives rfl rfl rfl (by decide) (Or.inl lw_X11_290) (kn_X11_lives _) (by decide +kernel), fun _ h => absurd h List.not_mem_nil⟩⟩⟩) (by decide +kernel)
/-! BlackMillModel.out(IZ)I -/
noncomputable def mi_X11_out : MI := (cX11_out, 3, RX11, [], [], [], [(74, 11, 36), (77, 11, 37), (255, 11, 24), (268, 11, 38)], [], [], [(211, ci_X11_in)])
noncomputable def a_X11_out : St wM (mi_X11_out) 0 :=
  (sSeq (sIf (oOr (oOr (oCm0 .eq (eFld 11 24 (eLoc 0))) (oNot (oCm0 .ne (eCal 211 ci_X11_in rfl (aA1 (aA1 (aA1 aA0 (eLoc 1)) (eInt 1)) (eBin 1 (eBin 6 (eInt 1) (eFld 11 24 (eLoc 0))) (eInt 1))))))) (oCmp .eq (eFld 11 38 (eLoc 0)) (eInt 10))) (sRet (eInt (-1))))
  (sSeq (sPutA 0 (eFld 11 36 (eLoc 0)) (eFld 11 38 (eLoc 0)) (eLoc 1))
  (sSeq (sPutA 1 (eFld 11 37 (eLoc 0)) (eFld 11 38 (eLoc 0)) (eLoc 2))
  (sSeq (sUpdF 0 11 38 (eLoc 0) (eInt 1))
  (sRet (eFld 11 38 (eLoc 0)))))))
def n_X11_out : MN := (yX11_out, cX11_out, 3, (some .int), 2)
noncomputable def ci_X11_out : CI := (1, 11, [2, 0, 0], 0, denM 3 [2, 0, 0] false a_X11_out.1.1)
set_option maxRecDepth 100000 in
theorem m_X11_out : MetD wM n_X11_out ci_X11_out := g_meth false (a_X11_out) rxM_ok (by decide) rfl rfl rfl (by decide) (by decide) (Or.inl ⟨rfl, rfl⟩) (fun h => by cases h) (mkWords (fun _ h => absurd h List.not_mem_nil) (fun _ h => absurd h List.not_mem_nil) (fun _ h => absurd h List.not_mem_nil) (List.forall_mem_cons.mpr ⟨⟨_, _, _, rfl, by decide, Or.inl fw_X11_74⟩, List.forall_mem_cons.mpr ⟨⟨_, _, _, rfl, by decide, Or.inl fw_X11_77⟩, List.forall_mem_cons.mpr ⟨⟨_, _, _, rfl, by decide, Or.inl fw_X11_255⟩, List.forall_mem_cons.mpr ⟨⟨_, _, _, rfl, by decide, Or.inl fw_X11_268⟩, fun _ h => absurd h List.not_mem_nil⟩⟩⟩⟩) (fun _ h => absurd h List.not_mem_nil) (fun _ h => absurd h List.not_mem_nil)) (List.forall_mem_cons.mpr ⟨clS m_X11_in rfl (by decide) (Or.inl lw_X11_211) (kn_X11_in _) (by decide +kernel), fun _ h => absurd h List.not_mem_nil⟩) (by decide +kernel)
/-! BlackMillModel.isSpies(II)Z -/
noncomputable def mi_X11_isSpies : MI := (cX11_isSpies, 4, RX11, [], [], [], [(74, 11, 36), (77, 11, 37), (268, 11, 38)], [], [], [(296, ci_J6_bitCount_0f7a4M)])
noncomputable def a_X11_isSpies : St wM (mi_X11_isSpies) 0 :=
  (sSeq (sIf (oCmp .ne (eCal 296 ci_J6_bitCount_0f7a4M rfl (aA1 aA0 (eLoc 2))) (eLoc 1)) (sRet (eInt 0)))
  (sSeq (sBlk (sSeq (sSet 3 (eInt 0))
  (sWh (oCmp .lt (eLoc 3) (eFld 11 38 (eLoc 0))) (sSeq (sIf (oCmp .ne (eBo (oCm0 .ne (eBin 3 (eLoc 2) (eAr 0 (eFld 11 36 (eLoc 0)) (eLoc 3))))) (eAr 1 (eFld 11 37 (eLoc 0)) (eLoc 3))) (sRet (eInt 0)))
  (sInc 3 1)))))
  (sRet (eInt 1))))
def n_X11_isSpies : MN := (yX11_isSpies, cX11_isSpies, 4, (some .boolean), 2)
noncomputable def ci_X11_isSpies : CI := (1, 11, [2, 0, 0], 0, denM 4 [2, 0, 0] true a_X11_isSpies.1.1)
set_option maxRecDepth 100000 in
theorem m_X11_isSpies : MetD wM n_X11_isSpies ci_X11_isSpies := g_meth true (a_X11_isSpies) rxM_ok (by decide) rfl rfl rfl (by decide) (by decide) (Or.inr (Or.inl ⟨rfl, rfl⟩)) (fun _ => rfl) (mkWords (fun _ h => absurd h List.not_mem_nil) (fun _ h => absurd h List.not_mem_nil) (fun _ h => absurd h List.not_mem_nil) (List.forall_mem_cons.mpr ⟨⟨_, _, _, rfl, by decide, Or.inl fw_X11_74⟩, List.forall_mem_cons.mpr ⟨⟨_, _, _, rfl, by decide, Or.inl fw_X11_77⟩, List.forall_mem_cons.mpr ⟨⟨_, _, _, rfl, by decide, Or.inl fw_X11_268⟩, fun _ h => absurd h List.not_mem_nil⟩⟩⟩) (fun _ h => absurd h List.not_mem_nil) (fun _ h => absurd h List.not_mem_nil)) (List.forall_mem_cons.mpr ⟨clS m_J6_bitCount_0f7a4M rfl (by decide) (Or.inl lw_X11_296) (kn_J6_bitCount_0f7a4 _) (by decide +kernel), fun _ h => absurd h List.not_mem_nil⟩) (by decide +kernel)
/-! BlackMillModel.areSpies(I)Z -/
noncomputable def mi_X11_areSpies : MI := (cX11_areSpies, 2, RX11, [], [], [], [(255, 11, 24)], [], [], [(211, ci_X11_in)])
noncomputable def a_X11_areSpies : St wM (mi_X11_areSpies) 0 :=
  (sRet (eBo (oAnd (oCm0 .gt (eFld 11 24 (eLoc 0))) (oCm0 .ne (eCal 211 ci_X11_in rfl (aA1 (aA1 (aA1 aA0 (eLoc 1)) (eInt 1)) (eInt 3)))))))
def n_X11_areSpies : MN := (yX11_areSpies, cX11_areSpies, 2, (some .boolean), 2)
noncomputable def ci_X11_areSpies : CI := (1, 11, [2, 0], 0, denM 2 [2, 0] true a_X11_areSpies.1.1)
set_option maxRecDepth 100000 in
theorem m_X11_areSpies : MetD wM n_X11_areSpies ci_X11_areSpies := g_meth true (a_X11_areSpies) rxM_ok (by decide) rfl rfl rfl (by decide) (by decide) (Or.inr (Or.inl ⟨rfl, rfl⟩)) (fun _ => rfl) (mkWords (fun _ h => absurd h List.not_mem_nil) (fun _ h => absurd h List.not_mem_nil) (fun _ h => absurd h List.not_mem_nil) (List.forall_mem_cons.mpr ⟨⟨_, _, _, rfl, by decide, Or.inl fw_X11_255⟩, fun _ h => absurd h List.not_mem_nil⟩) (fun _ h => absurd h List.not_mem_nil) (fun _ h => absurd h List.not_mem_nil)) (List.forall_mem_cons.mpr ⟨clS m_X11_in rfl (by decide) (Or.inl lw_X11_211) (kn_X11_in _) (by decide +kernel), fun _ h => absurd h List.not_mem_nil⟩) (by decide +kernel)
/-! BlackMillModel.spies(II)I -/
noncomputable def mi_X11_spies : MI := (cX11_spies, 5, RX11, [], [], [], [(255, 11, 24)], [], [], [(378, ci_X11_areSpies), (381, ci_X11_isSpies)])
noncomputable def a_X11_spies : St wM (mi_X11_spies) 0 :=
  (sSeq (sIf (oOr (oNot (oCm0 .ne (eCal 378 ci_X11_areSpies rfl (aA1 (aA1 aA0 (eLoc 0)) (eLoc 1))))) (oCmp .lt (eLoc 2) (eInt (-1)))) (sRet (eInt (-1))))
  (sSeq (sSet 3 (eInt 0))
  (sSeq (sBlk (sSeq (sSet 4 (eInt 0))
  (sWh (oCmp .lt (eLoc 4) (eBin 6 (eInt 1) (eFld 11 24 (eLoc 0)))) (sSeq (sIf (oCm0 .ne (eCal 381 ci_X11_isSpies rfl (aA1 (aA1 (aA1 aA0 (eLoc 0)) (eLoc 1)) (eLoc 4)))) (sSeq (sIf (oCmp .eq (eLoc 3) (eLoc 2)) (sRet (eLoc 4)))
  (sInc 3 1)))
  (sInc 4 1)))))
  (sRet (eCon (oCmp .eq (eLoc 2) (eInt (-1))) (eLoc 3) (eInt (-1)))))))
def n_X11_spies : MN := (yX11_spies, cX11_spies, 5, (some .int), 3)
noncomputable def ci_X11_spies : CI := (1, 11, [2, 0, 0], 0, denM 5 [2, 0, 0] false a_X11_spies.1.1)
set_option maxRecDepth 100000 in
theorem m_X11_spies : MetD wM n_X11_spies ci_X11_spies := g_meth false (a_X11_spies) rxM_ok (by decide) rfl rfl rfl (by decide) (by decide) (Or.inl ⟨rfl, rfl⟩) (fun h => by cases h) (mkWords (fun _ h => absurd h List.not_mem_nil) (fun _ h => absurd h List.not_mem_nil) (fun _ h => absurd h List.not_mem_nil) (List.forall_mem_cons.mpr ⟨⟨_, _, _, rfl, by decide, Or.inl fw_X11_255⟩, fun _ h => absurd h List.not_mem_nil⟩) (fun _ h => absurd h List.not_mem_nil) (fun _ h => absurd h List.not_mem_nil)) (List.forall_mem_cons.mpr ⟨clV m_X11_areSpies rfl rfl rfl (by decide) (Or.inl lw_X11_378) (kn_X11_areSpies _) (by decide +kernel), List.forall_mem_cons.mpr ⟨clV m_X11_isSpies rfl rfl rfl (by decide) (Or.inl lw_X11_381) (kn_X11_isSpies _) (by decide +kernel), fun _ h => absurd h List.not_mem_nil⟩⟩) (by decide +kernel)
/-! BlackMillModel.clear(I)I -/
noncomputable def mi_X11_clear : MI := (cX11_clear, 4, RX11, [], [], [], [(255, 11, 24)], [], [], [(378, ci_X11_areSpies), (381, ci_X11_isSpies), (384, ci_X11_spies)])
noncomputable def a_X11_clear : St wM (mi_X11_clear) 0 :=
  (sSeq (sIf (oOr (oNot (oCm0 .ne (eCal 378 ci_X11_areSpies rfl (aA1 (aA1 aA0 (eLoc 0)) (eLoc 1))))) (oCmp .eq (eCal 384 ci_X11_spies rfl (aA1 (aA1 (aA1 aA0 (eLoc 0)) (eLoc 1)) (eInt 0))) (eInt (-1)))) (sRet (eInt (-1))))
  (sSeq (sSet 2 (eInt 0))
  (sSeq (sBlk (sSeq (sSet 3 (eInt 0))
  (sWh (oCmp .lt (eLoc 3) (eBin 6 (eInt 1) (eFld 11 24 (eLoc 0)))) (sSeq (sSet 2 (eBin 4 (eLoc 2) (eCon (oCm0 .ne (eCal 381 ci_X11_isSpies rfl (aA1 (aA1 (aA1 aA0 (eLoc 0)) (eLoc 1)) (eLoc 3)))) (eLoc 3) (eInt 0))))
  (sInc 3 1)))))
  (sRet (eBin 3 (eBin 1 (eBin 6 (eInt 1) (eFld 11 24 (eLoc 0))) (eInt 1)) (eBin 5 (eLoc 2) (eInt (-1))))))))
def n_X11_clear : MN := (yX11_clear, cX11_clear, 4, (some .int), 4)
noncomputable def ci_X11_clear : CI := (1, 11, [2, 0], 0, denM 4 [2, 0] false a_X11_clear.1.1)
set_option maxRecDepth 100000 in
theorem m_X11_clear : MetD wM n_X11_clear ci_X11_clear := g_meth false (a_X11_clear) rxM_ok (by decide) rfl rfl rfl (by decide) (by decide) (Or.inl ⟨rfl, rfl⟩) (fun h => by cases h) (mkWords (fun _ h => absurd h List.not_mem_nil) (fun _ h => absurd h List.not_mem_nil) (fun _ h => absurd h List.not_mem_nil) (List.forall_mem_cons.mpr ⟨⟨_, _, _, rfl, by decide, Or.inl fw_X11_255⟩, fun _ h => absurd h List.not_mem_nil⟩) (fun _ h => absurd h List.not_mem_nil) (fun _ h => absurd h List.not_mem_nil)) (List.forall_mem_cons.mpr ⟨clV m_X11_areSpies rfl rfl rfl (by decide) (Or.inl lw_X11_378) (kn_X11_areSpies _) (by decide +kernel), List.forall_mem_cons.mpr ⟨clV m_X11_isSpies rfl rfl rfl (by decide) (Or.inl lw_X11_381) (kn_X11_isSpies _) (by decide +kernel), List.forall_mem_cons.mpr ⟨clV m_X11_spies rfl rfl rfl (by decide) (Or.inl lw_X11_384) (kn_X11_spies _) (by decide +kernel), fun _ h => absurd h List.not_mem_nil⟩⟩⟩) (by decide +kernel)
/-! BlackMillModel.best(I)I -/
noncomputable def mi_X11_best : MI := (cX11_best, 7, RX11, [], [], [], [(255, 11, 24)], [], [(387, 2)], [(222, ci_X11_has), (378, ci_X11_areSpies), (381, ci_X11_isSpies), (384, ci_X11_spies)])
noncomputable def a_X11_best : St wM (mi_X11_best) 0 :=
  (sSeq (sIf (oOr (oNot (oCm0 .ne (eCal 378 ci_X11_areSpies rfl (aA1 (aA1 aA0 (eLoc 0)) (eLoc 1))))) (oCmp .eq (eCal 384 ci_X11_spies rfl (aA1 (aA1 (aA1 aA0 (eLoc 0)) (eLoc 1)) (eInt 0))) (eInt (-1)))) (sRet (eInt (-1))))
  (sSeq (sSet 2 (eInt (-1)))
  (sSeq (sSet 3 (eInt 0))
  (sSeq (sBlk (sSeq (sSet 4 (eInt 0))
  (sWh (oCmp .lt (eLoc 4) (eFld 11 24 (eLoc 0))) (sSeq (sSeq (sSet 5 (eInt 0))
  (sSeq (sBlk (sSeq (sSet 6 (eInt 0))
  (sWh (oCmp .lt (eLoc 6) (eBin 6 (eInt 1) (eFld 11 24 (eLoc 0)))) (sSeq (sSet 5 (eBin 0 (eLoc 5) (eCon (oNot (oCm0 .ne (eCal 381 ci_X11_isSpies rfl (aA1 (aA1 (aA1 aA0 (eLoc 0)) (eLoc 1)) (eLoc 6))))) (eInt 0) (eCon (oCm0 .ne (eCal 222 ci_X11_has rfl (aA1 (aA1 aA0 (eLoc 6)) (eLoc 4)))) (eInt 1) (eInt (-1))))))
  (sInc 6 1)))))
  (sIf (oOr (oCmp .eq (eLoc 2) (eInt (-1))) (oCmp .lt (eAbs (eLoc 5)) (eLoc 3))) (sSeq (sSet 2 (eLoc 4))
  (sSet 3 (eAbs (eLoc 5)))))))
  (sInc 4 1)))))
  (sRet (eLoc 2))))))
def n_X11_best : MN := (yX11_best, cX11_best, 7, (some .int), 4)
noncomputable def ci_X11_best : CI := (1, 11, [2, 0], 0, denM 7 [2, 0] false a_X11_best.1.1)
set_option maxRecDepth 100000 in
theorem m_X11_best : MetD wM n_X11_best ci_X11_best := g_meth false (a_X11_best) rxM_ok (by decide) rfl rfl rfl (by decide) (by decide) (Or.inl ⟨rfl, rfl⟩) (fun h => by cases h) (mkWords (fun _ h => absurd h List.not_mem_nil) (fun _ h => absurd h List.not_mem_nil) (fun _ h => absurd h List.not_mem_nil) (List.forall_mem_cons.mpr ⟨⟨_, _, _, rfl, by decide, Or.inl fw_X11_255⟩, fun _ h => absurd h List.not_mem_nil⟩) (fun _ h => absurd h List.not_mem_nil) (List.forall_mem_cons.mpr ⟨mw_X11_387, fun _ h => absurd h List.not_mem_nil⟩)) (List.forall_mem_cons.mpr ⟨clS m_X11_has rfl (by decide) (Or.inl lw_X11_222) (kn_X11_has _) (by decide +kernel), List.forall_mem_cons.mpr ⟨clV m_X11_areSpies rfl rfl rfl (by decide) (Or.inl lw_X11_378) (kn_X11_areSpies _) (by decide +kernel), List.forall_mem_cons.mpr ⟨clV m_X11_isSpies rfl rfl rfl (by decide) (Or.inl lw_X11_381) (kn_X11_isSpies _) (by decide +kernel), List.forall_mem_cons.mpr ⟨clV m_X11_spies rfl rfl rfl (by decide) (Or.inl lw_X11_384) (kn_X11_spies _) (by decide +kernel), fun _ h => absurd h List.not_mem_nil⟩⟩⟩⟩) (by decide +kernel)
/-! BlackMillModel.layHours()V -/
noncomputable def mi_X11_layHours : MI := (cX11_layHours, 5, RX11, [(390, 1000000)], [], [], [(52, 11, 23), (81, 11, 39), (258, 11, 25)], [], [(316, 1)], [])
noncomputable def a_X11_layHours : St wM (mi_X11_layHours) 3 :=
  (sSeq (sSeq (sBlk (sSeq (sSet 1 (eInt 0))
  (sWh (oCmp .lt (eLoc 1) (eInt 6)) (sSeq (sPutA 0 (eFld 11 39 (eLoc 0)) (eLoc 1) (eCon (oCm0 .eq (eLoc 1)) (eInt 0) (eInt 1000000)))
  (sInc 1 1)))))
  (sBlk (sSeq (sSet 1 (eInt 0))
  (sWh (oCmp .lt (eLoc 1) (eInt 6)) (sSeq (sBlk (sSeq (sSet 2 (eInt 0))
  (sWh (oCmp .lt (eLoc 2) (eFld 11 25 (eLoc 0))) (sSeq (sSeq (sSet 3 (eAr 0 (eFld 11 23 (eLoc 0)) (eBin 2 (eInt 3) (eLoc 2))))
  (sSeq (sSet 4 (eAr 0 (eFld 11 23 (eLoc 0)) (eBin 0 (eBin 2 (eInt 3) (eLoc 2)) (eInt 1))))
  (sSeq (sPutA 0 (eFld 11 39 (eLoc 0)) (eLoc 3) (eMt 1 (eAr 0 (eFld 11 39 (eLoc 0)) (eLoc 3)) (eBin 0 (eAr 0 (eFld 11 39 (eLoc 0)) (eLoc 4)) (eAr 0 (eFld 11 23 (eLoc 0)) (eBin 0 (eBin 2 (eInt 3) (eLoc 2)) (eInt 2))))))
  (sPutA 0 (eFld 11 39 (eLoc 0)) (eLoc 4) (eMt 1 (eAr 0 (eFld 11 39 (eLoc 0)) (eLoc 4)) (eBin 0 (eAr 0 (eFld 11 39 (eLoc 0)) (eLoc 3)) (eAr 0 (eFld 11 23 (eLoc 0)) (eBin 0 (eBin 2 (eInt 3) (eLoc 2)) (eInt 2)))))))))
  (sInc 2 1)))))
  (sInc 1 1))))))
  sReV)
def n_X11_layHours : MN := (yX11_layHours, cX11_layHours, 5, none, 1)
noncomputable def ci_X11_layHours : CI := (1, 11, [2], 3, denM 5 [2] false a_X11_layHours.1.1)
set_option maxRecDepth 100000 in
theorem m_X11_layHours : MetD wM n_X11_layHours ci_X11_layHours := g_meth false (a_X11_layHours) rxM_ok (by decide) rfl rfl rfl (by decide) (by decide) (Or.inr (Or.inr (Or.inr (Or.inr ⟨rfl, rfl⟩)))) (fun h => by cases h) (mkWords (List.forall_mem_cons.mpr ⟨cw_X11_390, fun _ h => absurd h List.not_mem_nil⟩) (fun _ h => absurd h List.not_mem_nil) (fun _ h => absurd h List.not_mem_nil) (List.forall_mem_cons.mpr ⟨⟨_, _, _, rfl, by decide, Or.inl fw_X11_52⟩, List.forall_mem_cons.mpr ⟨⟨_, _, _, rfl, by decide, Or.inl fw_X11_81⟩, List.forall_mem_cons.mpr ⟨⟨_, _, _, rfl, by decide, Or.inl fw_X11_258⟩, fun _ h => absurd h List.not_mem_nil⟩⟩⟩) (fun _ h => absurd h List.not_mem_nil) (List.forall_mem_cons.mpr ⟨mw_X11_316, fun _ h => absurd h List.not_mem_nil⟩)) (fun _ h => absurd h List.not_mem_nil) (by decide +kernel)
/-! BlackMillModel.flight(I)I -/
noncomputable def mi_X11_flight : MI := (cX11_flight, 2, RX11, [(390, 1000000)], [], [], [(81, 11, 39), (255, 11, 24)], [], [], [(211, ci_X11_in), (391, ci_X11_layHours)])
noncomputable def a_X11_flight : St wM (mi_X11_flight) 0 :=
  (sSeq (sIf (oOr (oCm0 .eq (eFld 11 24 (eLoc 0))) (oNot (oCm0 .ne (eCal 211 ci_X11_in rfl (aA1 (aA1 (aA1 aA0 (eLoc 1)) (eInt 0)) (eInt 5)))))) (sRet (eInt (-1))))
  (sSeq (sDo 391 ci_X11_layHours rfl (aA1 aA0 (eLoc 0)))
  (sRet (eCon (oCmp .ge (eAr 0 (eFld 11 39 (eLoc 0)) (eLoc 1)) (eInt 1000000)) (eInt (-1)) (eAr 0 (eFld 11 39 (eLoc 0)) (eLoc 1))))))
def n_X11_flight : MN := (yX11_flight, cX11_flight, 2, (some .int), 2)
noncomputable def ci_X11_flight : CI := (1, 11, [2, 0], 0, denM 2 [2, 0] false a_X11_flight.1.1)
set_option maxRecDepth 100000 in
theorem m_X11_flight : MetD wM n_X11_flight ci_X11_flight := g_meth false (a_X11_flight) rxM_ok (by decide) rfl rfl rfl (by decide) (by decide) (Or.inl ⟨rfl, rfl⟩) (fun h => by cases h) (mkWords (List.forall_mem_cons.mpr ⟨cw_X11_390, fun _ h => absurd h List.not_mem_nil⟩) (fun _ h => absurd h List.not_mem_nil) (fun _ h => absurd h List.not_mem_nil) (List.forall_mem_cons.mpr ⟨⟨_, _, _, rfl, by decide, Or.inl fw_X11_81⟩, List.forall_mem_cons.mpr ⟨⟨_, _, _, rfl, by decide, Or.inl fw_X11_255⟩, fun _ h => absurd h List.not_mem_nil⟩⟩) (fun _ h => absurd h List.not_mem_nil) (fun _ h => absurd h List.not_mem_nil)) (List.forall_mem_cons.mpr ⟨clS m_X11_in rfl (by decide) (Or.inl lw_X11_211) (kn_X11_in _) (by decide +kernel), List.forall_mem_cons.mpr ⟨clV m_X11_layHours rfl rfl rfl (by decide) (Or.inl lw_X11_391) (kn_X11_layHours _) (by decide +kernel), fun _ h => absurd h List.not_mem_nil⟩⟩) (by decide +kernel)
/-! BlackMillModel.reach()I -/
noncomputable def mi_X11_reach : MI := (cX11_reach, 3, RX11, [], [], [], [(49, 11, 22), (81, 11, 39), (255, 11, 24)], [], [], [(391, ci_X11_layHours)])
noncomputable def a_X11_reach : St wM (mi_X11_reach) 0 :=
  (sSeq (sIf (oCm0 .eq (eFld 11 24 (eLoc 0))) (sRet (eInt (-1))))
  (sSeq (sDo 391 ci_X11_layHours rfl (aA1 aA0 (eLoc 0)))
  (sSeq (sSet 1 (eInt 0))
  (sSeq (sBlk (sSeq (sSet 2 (eInt 0))
  (sWh (oCmp .lt (eLoc 2) (eInt 6)) (sSeq (sSet 1 (eBin 4 (eLoc 1) (eCon (oCmp .le (eBin 2 (eInt 2) (eAr 0 (eFld 11 39 (eLoc 0)) (eLoc 2))) (eAr 0 (eFld 11 22 (eLoc 0)) (eInt 2))) (eBin 6 (eInt 1) (eLoc 2)) (eInt 0))))
  (sInc 2 1)))))
  (sRet (eLoc 1))))))
def n_X11_reach : MN := (yX11_reach, cX11_reach, 3, (some .int), 2)
noncomputable def ci_X11_reach : CI := (1, 11, [2], 0, denM 3 [2] false a_X11_reach.1.1)
set_option maxRecDepth 100000 in
theorem m_X11_reach : MetD wM n_X11_reach ci_X11_reach := g_meth false (a_X11_reach) rxM_ok (by decide) rfl rfl rfl (by decide) (by decide) (Or.inl ⟨rfl, rfl⟩) (fun h => by cases h) (mkWords (fun _ h => absurd h List.not_mem_nil) (fun _ h => absurd h List.not_mem_nil) (fun _ h => absurd h List.not_mem_nil) (List.forall_mem_cons.mpr ⟨⟨_, _, _, rfl, by decide, Or.inl fw_X11_49⟩, List.forall_mem_cons.mpr ⟨⟨_, _, _, rfl, by decide, Or.inl fw_X11_81⟩, List.forall_mem_cons.mpr ⟨⟨_, _, _, rfl, by decide, Or.inl fw_X11_255⟩, fun _ h => absurd h List.not_mem_nil⟩⟩⟩) (fun _ h => absurd h List.not_mem_nil) (fun _ h => absurd h List.not_mem_nil)) (List.forall_mem_cons.mpr ⟨clV m_X11_layHours rfl rfl rfl (by decide) (Or.inl lw_X11_391) (kn_X11_layHours _) (by decide +kernel), fun _ h => absurd h List.not_mem_nil⟩) (by decide +kernel)
/-! BlackMillModel.dare()I -/
noncomputable def mi_X11_dare : MI := (cX11_dare, 5, RX11, [], [], [], [(49, 11, 22), (255, 11, 24)], [], [], [(293, ci_X11_living), (296, ci_J6_bitCount_0f7a4M), (332, ci_X11_artOf)])
noncomputable def a_X11_dare : St wM (mi_X11_dare) 0 :=
  (sSeq (sSet 1 (eCal 293 ci_X11_living rfl (aA1 aA0 (eLoc 0))))
  (sSeq (sSet 2 (eInt (-1)))
  (sSeq (sBlk (sSeq (sSet 3 (eInt 1))
  (sWh (oCmp .lt (eLoc 3) (eBin 6 (eInt 1) (eFld 11 24 (eLoc 0)))) (sSeq (sSeq (sSet 4 (eBo (oAnd (oAnd (oCm0 .eq (eBin 3 (eLoc 3) (eBin 5 (eLoc 1) (eInt (-1))))) (oCmp .ge (eCal 332 ci_X11_artOf rfl (aA1 (aA1 aA0 (eLoc 0)) (eLoc 3))) (eAr 0 (eFld 11 22 (eLoc 0)) (eInt 0)))) (oOr (oCmp .eq (eLoc 2) (eInt (-1))) (oCmp .lt (eCal 296 ci_J6_bitCount_0f7a4M rfl (aA1 aA0 (eLoc 3))) (eCal 296 ci_J6_bitCount_0f7a4M rfl (aA1 aA0 (eLoc 2))))))))
  (sSet 2 (eCon (oCm0 .ne (eLoc 4)) (eLoc 3) (eLoc 2))))
  (sInc 3 1)))))
  (sRet (eLoc 2)))))
def n_X11_dare : MN := (yX11_dare, cX11_dare, 5, (some .int), 5)
noncomputable def ci_X11_dare : CI := (1, 11, [2], 0, denM 5 [2] false a_X11_dare.1.1)
set_option maxRecDepth 100000 in
theorem m_X11_dare : MetD wM n_X11_dare ci_X11_dare := g_meth false (a_X11_dare) rxM_ok (by decide) rfl rfl rfl (by decide) (by decide) (Or.inl ⟨rfl, rfl⟩) (fun h => by cases h) (mkWords (fun _ h => absurd h List.not_mem_nil) (fun _ h => absurd h List.not_mem_nil) (fun _ h => absurd h List.not_mem_nil) (List.forall_mem_cons.mpr ⟨⟨_, _, _, rfl, by decide, Or.inl fw_X11_49⟩, List.forall_mem_cons.mpr ⟨⟨_, _, _, rfl, by decide, Or.inl fw_X11_255⟩, fun _ h => absurd h List.not_mem_nil⟩⟩) (fun _ h => absurd h List.not_mem_nil) (fun _ h => absurd h List.not_mem_nil)) (List.forall_mem_cons.mpr ⟨clV m_X11_living rfl rfl rfl (by decide) (Or.inl lw_X11_293) (kn_X11_living _) (by decide +kernel), List.forall_mem_cons.mpr ⟨clS m_J6_bitCount_0f7a4M rfl (by decide) (Or.inl lw_X11_296) (kn_J6_bitCount_0f7a4 _) (by decide +kernel), List.forall_mem_cons.mpr ⟨clV m_X11_artOf rfl rfl rfl (by decide) (Or.inl lw_X11_332) (kn_X11_artOf _) (by decide +kernel), fun _ h => absurd h List.not_mem_nil⟩⟩⟩) (by decide +kernel)
/-! BlackMillModel.ordersOf(I)I -/
noncomputable def mi_X11_ordersOf : MI := (cX11_ordersOf, 3, RX11, [], [], [], [], [], [], [(296, ci_J6_bitCount_0f7a4M)])
noncomputable def a_X11_ordersOf : St wM (mi_X11_ordersOf) 0 :=
  (sSeq (sSet 1 (eInt 1))
  (sSeq (sBlk (sSeq (sSet 2 (eInt 2))
  (sWh (oCmp .le (eLoc 2) (eCal 296 ci_J6_bitCount_0f7a4M rfl (aA1 aA0 (eLoc 0)))) (sSeq (sSet 1 (eBin 2 (eLoc 1) (eLoc 2)))
  (sInc 2 1)))))
  (sRet (eLoc 1))))
def n_X11_ordersOf : MN := (yX11_ordersOf, cX11_ordersOf, 3, (some .int), 2)
noncomputable def ci_X11_ordersOf : CI := (0, 11, [0], 0, denM 3 [0] false a_X11_ordersOf.1.1)
set_option maxRecDepth 100000 in
theorem m_X11_ordersOf : MetD wM n_X11_ordersOf ci_X11_ordersOf := g_meth false (a_X11_ordersOf) rxM_ok (by decide) rfl rfl rfl (by decide) (by decide) (Or.inl ⟨rfl, rfl⟩) (fun h => by cases h) (mkWords (fun _ h => absurd h List.not_mem_nil) (fun _ h => absurd h List.not_mem_nil) (fun _ h => absurd h List.not_mem_nil) (fun _ h => absurd h List.not_mem_nil) (fun _ h => absurd h List.not_mem_nil) (fun _ h => absurd h List.not_mem_nil)) (List.forall_mem_cons.mpr ⟨clS m_J6_bitCount_0f7a4M rfl (by decide) (Or.inl lw_X11_296) (kn_J6_bitCount_0f7a4 _) (by decide +kernel), fun _ h => absurd h List.not_mem_nil⟩) (by decide +kernel)
/-! BlackMillModel.pivots(III)I -/
def ci_X11_pivots (D : Nat → Den) : CI := (1, 11, [2, 0, 0, 0], 0, D 0)
noncomputable def mi_X11_pivots (D : Nat → Den) : MI := (cX11_pivots, 9, RX11, [], [], [], [(49, 11, 22), (255, 11, 24)], [], [], [(222, ci_X11_has), (265, ci_X11_of), (394, ci_X11_ordersOf), (397, (ci_X11_pivots D))])
noncomputable def a_X11_pivots (D : Nat → Den) : St wM (mi_X11_pivots D) 0 :=
  (sSeq (sSet 4 (eInt 0))
  (sSeq (sBlk (sSeq (sSet 5 (eInt 0))
  (sWh (oCmp .lt (eLoc 5) (eFld 11 24 (eLoc 0))) (sSeq (sIf (oCm0 .ne (eCal 222 ci_X11_has rfl (aA1 (aA1 aA0 (eLoc 2)) (eLoc 5)))) (sSeq (sSet 6 (eBin 0 (eLoc 3) (eCal 265 ci_X11_of rfl (aA1 (aA1 (aA1 aA0 (eLoc 0)) (eLoc 5)) (eInt 0)))))
  (sSeq (sSet 7 (eBo (oAnd (oCmp .lt (eLoc 3) (eAr 0 (eFld 11 22 (eLoc 0)) (eInt 0))) (oCmp .ge (eLoc 6) (eAr 0 (eFld 11 22 (eLoc 0)) (eInt 0))))))
  (sSeq (sSet 8 (eBin 3 (eLoc 2) (eBin 5 (eBin 6 (eInt 1) (eLoc 5)) (eInt (-1)))))
  (sSet 4 (eBin 0 (eLoc 4) (eCon (oCm0 .ne (eLoc 7)) (eCon (oCmp .eq (eLoc 5) (eLoc 1)) (eCal 394 ci_X11_ordersOf rfl (aA1 aA0 (eLoc 8))) (eInt 0)) (eCal 397 (ci_X11_pivots D) rfl (aA1 (aA1 (aA1 (aA1 aA0 (eLoc 0)) (eLoc 1)) (eLoc 8)) (eLoc 6))))))))))
  (sInc 5 1)))))
  (sRet (eLoc 4))))
def n_X11_pivots (h : Nat) : MN := (yX11_pivots, cX11_pivots, 9, (some .int), h)
noncomputable def grp_X11_pivots : Nat → Nat → Den
  | 0 => fun _ _ _ => none
  | d + 1 => fun k => match k with
    | 0 => denM 9 [2, 0, 0, 0] false (a_X11_pivots (grp_X11_pivots d)).1.1
    | _ => fun _ _ => none
set_option maxRecDepth 100000 in
theorem kc_X11_pivots : ∀ d, d < 10 → chkM (a_X11_pivots (grp_X11_pivots d)).1.2 (layT 9 [2, 0, 0, 0]) = true := by decide +kernel
set_option maxRecDepth 100000 in
theorem m_grp_X11_pivots : ∀ d : Nat, d ≤ 10 → MetD wM (n_X11_pivots (3 + d)) (ci_X11_pivots (grp_X11_pivots d))
  | 0, _ => met_none (fun _ _ => rfl)
  | d + 1, h => by
    have ih := m_grp_X11_pivots d (Nat.le_of_succ_le h)
    exact g_meth false (a_X11_pivots (grp_X11_pivots d)) rxM_ok pn_X11 rfl rfl rfl (Nat.le_add_left 1 _) (Nat.le_of_ble_eq_true rfl) (Or.inl ⟨rfl, rfl⟩) (fun h => by cases h) (mkWords (fun _ h => absurd h List.not_mem_nil) (fun _ h => absurd h List.not_mem_nil) (fun _ h => absurd h List.not_mem_nil) (List.forall_mem_cons.mpr ⟨⟨_, _, _, rfl, by decide, Or.inl fw_X11_49⟩, List.forall_mem_cons.mpr ⟨⟨_, _, _, rfl, by decide, Or.inl fw_X11_255⟩, fun _ h => absurd h List.not_mem_nil⟩⟩) (fun _ h => absurd h List.not_mem_nil) (fun _ h => absurd h List.not_mem_nil)) (List.forall_mem_cons.mpr ⟨clS m_X11_has rfl (Nat.le_add_right_of_le (by decide)) (Or.inl lw_X11_222) (kn_X11_has _) pd_X11_has, List.forall_mem_cons.mpr ⟨clV m_X11_of rfl rfl rfl (Nat.le_add_right_of_le (by decide)) (Or.inl lw_X11_265) (kn_X11_of _) pd_X11_of, List.forall_mem_cons.mpr ⟨clS m_X11_ordersOf rfl (Nat.le_add_right_of_le (by decide)) (Or.inl lw_X11_394) (kn_X11_ordersOf _) pd_X11_ordersOf, List.forall_mem_cons.mpr ⟨clV ih rfl rfl rfl (Nat.le_refl _) (Or.inl lw_X11_397) (kn_X11_pivots _) pd_X11_pivots, fun _ h => absurd h List.not_mem_nil⟩⟩⟩⟩) (kc_X11_pivots d h)
/-! BlackMillModel.shares(I)I -/
noncomputable def mi_X11_shares : MI := (cX11_shares, 2, RX11, [(338, -1000000)], [], [], [], [], [], [(290, ci_X11_lives), (293, ci_X11_living), (320, ci_X11_manyLive), (397, (ci_X11_pivots (grp_X11_pivots 10)))])
noncomputable def a_X11_shares : St wM (mi_X11_shares) 0 :=
  (sRet (eCon (oOr (oNot (oCm0 .ne (eCal 290 ci_X11_lives rfl (aA1 (aA1 aA0 (eLoc 0)) (eLoc 1))))) (oCmp .gt (eCal 320 ci_X11_manyLive rfl (aA1 aA0 (eLoc 0))) (eInt 5))) (eInt (-1000000)) (eCal 397 (ci_X11_pivots (grp_X11_pivots 10)) rfl (aA1 (aA1 (aA1 (aA1 aA0 (eLoc 0)) (eLoc 1)) (eCal 293 ci_X11_living rfl (aA1 aA0 (eLoc 0)))) (eInt 0)))))
def n_X11_shares : MN := (yX11_shares, cX11_shares, 2, (some .int), 14)
noncomputable def ci_X11_shares : CI := (1, 11, [2, 0], 0, denM 2 [2, 0] false a_X11_shares.1.1)
set_option maxRecDepth 100000 in
theorem m_X11_shares : MetD wM n_X11_shares ci_X11_shares := g_meth false (a_X11_shares) rxM_ok (by decide) rfl rfl rfl (by decide) (by decide) (Or.inl ⟨rfl, rfl⟩) (fun h => by cases h) (mkWords (List.forall_mem_cons.mpr ⟨cw_X11_338, fun _ h => absurd h List.not_mem_nil⟩) (fun _ h => absurd h List.not_mem_nil) (fun _ h => absurd h List.not_mem_nil) (fun _ h => absurd h List.not_mem_nil) (fun _ h => absurd h List.not_mem_nil) (fun _ h => absurd h List.not_mem_nil)) (List.forall_mem_cons.mpr ⟨clV m_X11_lives rfl rfl rfl (by decide) (Or.inl lw_X11_290) (kn_X11_lives _) (by decide +kernel), List.forall_mem_cons.mpr ⟨clV m_X11_living rfl rfl rfl (by decide) (Or.inl lw_X11_293) (kn_X11_living _) (by decide +kernel), List.forall_mem_cons.mpr ⟨clV m_X11_manyLive rfl rfl rfl (by decide) (Or.inl lw_X11_320) (kn_X11_manyLive _) (by decide +kernel), List.forall_mem_cons.mpr ⟨clV (m_grp_X11_pivots 10 (Nat.le_refl _)) rfl rfl rfl (by decide) (Or.inl lw_X11_397) (kn_X11_pivots _) (by decide +kernel), fun _ h => absurd h List.not_mem_nil⟩⟩⟩⟩) (by decide +kernel)
/-! BlackMillModel.gameOf(IIII)I -/
noncomputable def mi_X11_gameOf : MI := (cX11_gameOf, 6, RX11, [], [], [], [], [], [], [(261, ci_X11_lay), (265, ci_X11_of), (320, ci_X11_manyLive), (323, ci_X11_learnsBy), (326, ci_X11_chosenNow), (368, ci_X11_putAside), (375, ci_X11_takeBack)])
noncomputable def a_X11_gameOf : St wM (mi_X11_gameOf) 0 :=
  (sSeq (sDo 368 ci_X11_putAside rfl (aA1 (aA1 aA0 (eLoc 0)) (eInt 0)))
  (sSeq (sDo 261 ci_X11_lay rfl (aA1 (aA1 (aA1 (aA1 aA0 (eLoc 0)) (eLoc 1)) (eInt 1)) (eBin 2 (eLoc 3) (eCal 265 ci_X11_of rfl (aA1 (aA1 (aA1 aA0 (eLoc 0)) (eLoc 1)) (eInt 0))))))
  (sSeq (sDo 261 ci_X11_lay rfl (aA1 (aA1 (aA1 (aA1 aA0 (eLoc 0)) (eLoc 2)) (eInt 1)) (eBin 2 (eLoc 4) (eCal 265 ci_X11_of rfl (aA1 (aA1 (aA1 aA0 (eLoc 0)) (eLoc 2)) (eInt 0))))))
  (sSeq (sSet 5 (eBin 1 (eCal 323 ci_X11_learnsBy rfl (aA1 (aA1 (aA1 (aA1 aA0 (eLoc 0)) (eLoc 1)) (eCal 265 ci_X11_of rfl (aA1 (aA1 (aA1 aA0 (eLoc 0)) (eLoc 1)) (eInt 1)))) (eCal 320 ci_X11_manyLive rfl (aA1 aA0 (eLoc 0))))) (eCon (oCmp .eq (eCal 326 ci_X11_chosenNow rfl (aA1 aA0 (eLoc 0))) (eLoc 1)) (eInt 50) (eInt 0))))
  (sSeq (sDo 375 ci_X11_takeBack rfl (aA1 (aA1 aA0 (eLoc 0)) (eInt 0)))
  (sRet (eLoc 5)))))))
def n_X11_gameOf : MN := (yX11_gameOf, cX11_gameOf, 6, (some .int), 6)
noncomputable def ci_X11_gameOf : CI := (1, 11, [2, 0, 0, 0, 0], 0, denM 6 [2, 0, 0, 0, 0] false a_X11_gameOf.1.1)
set_option maxRecDepth 100000 in
theorem m_X11_gameOf : MetD wM n_X11_gameOf ci_X11_gameOf := g_meth false (a_X11_gameOf) rxM_ok (by decide) rfl rfl rfl (by decide) (by decide) (Or.inl ⟨rfl, rfl⟩) (fun h => by cases h) (mkWords (fun _ h => absurd h List.not_mem_nil) (fun _ h => absurd h List.not_mem_nil) (fun _ h => absurd h List.not_mem_nil) (fun _ h => absurd h List.not_mem_nil) (fun _ h => absurd h List.not_mem_nil) (fun _ h => absurd h List.not_mem_nil)) (List.forall_mem_cons.mpr ⟨clV m_X11_lay rfl rfl rfl (by decide) (Or.inl lw_X11_261) (kn_X11_lay _) (by decide +kernel), List.forall_mem_cons.mpr ⟨clV m_X11_of rfl rfl rfl (by decide) (Or.inl lw_X11_265) (kn_X11_of _) (by decide +kernel), List.forall_mem_cons.mpr ⟨clV m_X11_manyLive rfl rfl rfl (by decide) (Or.inl lw_X11_320) (kn_X11_manyLive _) (by decide +kernel), List.forall_mem_cons.mpr ⟨clV m_X11_learnsBy rfl rfl rfl (by decide) (Or.inl lw_X11_323) (kn_X11_learnsBy _) (by decide +kernel), List.forall_mem_cons.mpr ⟨clV m_X11_chosenNow rfl rfl rfl (by decide) (Or.inl lw_X11_326) (kn_X11_chosenNow _) (by decide +kernel), List.forall_mem_cons.mpr ⟨clV m_X11_putAside rfl rfl rfl (by decide) (Or.inl lw_X11_368) (kn_X11_putAside _) (by decide +kernel), List.forall_mem_cons.mpr ⟨clV m_X11_takeBack rfl rfl rfl (by decide) (Or.inl lw_X11_375) (kn_X11_takeBack _) (by decide +kernel), fun _ h => absurd h List.not_mem_nil⟩⟩⟩⟩⟩⟩⟩) (by decide +kernel)
/-! BlackMillModel.areTwo(II)Z -/
noncomputable def mi_X11_areTwo : MI := (cX11_areTwo, 3, RX11, [], [], [], [], [], [], [(290, ci_X11_lives)])
noncomputable def a_X11_areTwo : St wM (mi_X11_areTwo) 0 :=
  (sRet (eBo (oAnd (oAnd (oCm0 .ne (eCal 290 ci_X11_lives rfl (aA1 (aA1 aA0 (eLoc 0)) (eLoc 1)))) (oCm0 .ne (eCal 290 ci_X11_lives rfl (aA1 (aA1 aA0 (eLoc 0)) (eLoc 2))))) (oCmp .ne (eLoc 1) (eLoc 2)))))
def n_X11_areTwo : MN := (yX11_areTwo, cX11_areTwo, 3, (some .boolean), 4)
noncomputable def ci_X11_areTwo : CI := (1, 11, [2, 0, 0], 0, denM 3 [2, 0, 0] true a_X11_areTwo.1.1)
set_option maxRecDepth 100000 in
theorem m_X11_areTwo : MetD wM n_X11_areTwo ci_X11_areTwo := g_meth true (a_X11_areTwo) rxM_ok (by decide) rfl rfl rfl (by decide) (by decide) (Or.inr (Or.inl ⟨rfl, rfl⟩)) (fun _ => rfl) (mkWords (fun _ h => absurd h List.not_mem_nil) (fun _ h => absurd h List.not_mem_nil) (fun _ h => absurd h List.not_mem_nil) (fun _ h => absurd h List.not_mem_nil) (fun _ h => absurd h List.not_mem_nil) (fun _ h => absurd h List.not_mem_nil)) (List.forall_mem_cons.mpr ⟨clV m_X11_lives rfl rfl rfl (by decide) (Or.inl lw_X11_290) (kn_X11_lives _) (by decide +kernel), fun _ h => absurd h List.not_mem_nil⟩) (by decide +kernel)
/-! BlackMillModel.game(IIIII)I -/
noncomputable def mi_X11_game : MI := (cX11_game, 6, RX11, [(338, -1000000)], [], [], [], [], [], [(211, ci_X11_in), (400, ci_X11_areTwo), (403, ci_X11_gameOf)])
noncomputable def a_X11_game : St wM (mi_X11_game) 0 :=
  (sSeq (sIf (oOr (oOr (oOr (oNot (oCm0 .ne (eCal 400 ci_X11_areTwo rfl (aA1 (aA1 (aA1 aA0 (eLoc 0)) (eLoc 1)) (eLoc 2))))) (oNot (oCm0 .ne (eCal 211 ci_X11_in rfl (aA1 (aA1 (aA1 aA0 (eLoc 3)) (eInt 0)) (eInt 1)))))) (oNot (oCm0 .ne (eCal 211 ci_X11_in rfl (aA1 (aA1 (aA1 aA0 (eLoc 4)) (eInt 0)) (eInt 1)))))) (oNot (oCm0 .ne (eCal 211 ci_X11_in rfl (aA1 (aA1 (aA1 aA0 (eLoc 5)) (eInt 0)) (eInt 1)))))) (sRet (eInt (-1000000))))
  (sRet (eCon (oCm0 .eq (eLoc 5)) (eCal 403 ci_X11_gameOf rfl (aA1 (aA1 (aA1 (aA1 (aA1 aA0 (eLoc 0)) (eLoc 1)) (eLoc 2)) (eLoc 3)) (eLoc 4))) (eCal 403 ci_X11_gameOf rfl (aA1 (aA1 (aA1 (aA1 (aA1 aA0 (eLoc 0)) (eLoc 2)) (eLoc 1)) (eLoc 4)) (eLoc 3))))))
def n_X11_game : MN := (yX11_game, cX11_game, 6, (some .int), 7)
noncomputable def ci_X11_game : CI := (1, 11, [2, 0, 0, 0, 0, 0], 0, denM 6 [2, 0, 0, 0, 0, 0] false a_X11_game.1.1)
set_option maxRecDepth 100000 in
theorem m_X11_game : MetD wM n_X11_game ci_X11_game := g_meth false (a_X11_game) rxM_ok (by decide) rfl rfl rfl (by decide) (by decide) (Or.inl ⟨rfl, rfl⟩) (fun h => by cases h) (mkWords (List.forall_mem_cons.mpr ⟨cw_X11_338, fun _ h => absurd h List.not_mem_nil⟩) (fun _ h => absurd h List.not_mem_nil) (fun _ h => absurd h List.not_mem_nil) (fun _ h => absurd h List.not_mem_nil) (fun _ h => absurd h List.not_mem_nil) (fun _ h => absurd h List.not_mem_nil)) (List.forall_mem_cons.mpr ⟨clS m_X11_in rfl (by decide) (Or.inl lw_X11_211) (kn_X11_in _) (by decide +kernel), List.forall_mem_cons.mpr ⟨clV m_X11_areTwo rfl rfl rfl (by decide) (Or.inl lw_X11_400) (kn_X11_areTwo _) (by decide +kernel), List.forall_mem_cons.mpr ⟨clV m_X11_gameOf rfl rfl rfl (by decide) (Or.inl lw_X11_403) (kn_X11_gameOf _) (by decide +kernel), fun _ h => absurd h List.not_mem_nil⟩⟩⟩) (by decide +kernel)
/-! BlackMillModel.rests(III)I -/
noncomputable def mi_X11_rests : MI := (cX11_rests, 7, RX11, [], [], [], [], [], [], [(400, ci_X11_areTwo), (403, ci_X11_gameOf)])
noncomputable def a_X11_rests : St wM (mi_X11_rests) 0 :=
  (sSeq (sIf (oOr (oNot (oCm0 .ne (eCal 400 ci_X11_areTwo rfl (aA1 (aA1 (aA1 aA0 (eLoc 0)) (eLoc 1)) (eLoc 2))))) (oCmp .lt (eLoc 3) (eInt (-1)))) (sRet (eInt (-1))))
  (sSeq (sSet 4 (eInt 0))
  (sSeq (sBlk (sSeq (sSet 5 (eInt 0))
  (sWh (oCmp .lt (eLoc 5) (eInt 2)) (sSeq (sBlk (sSeq (sSet 6 (eInt 0))
  (sWh (oCmp .lt (eLoc 6) (eInt 2)) (sSeq (sIf (oAnd (oCmp .le (eCal 403 ci_X11_gameOf rfl (aA1 (aA1 (aA1 (aA1 (aA1 aA0 (eLoc 0)) (eLoc 1)) (eLoc 2)) (eBin 1 (eInt 1) (eLoc 5))) (eLoc 6))) (eCal 403 ci_X11_gameOf rfl (aA1 (aA1 (aA1 (aA1 (aA1 aA0 (eLoc 0)) (eLoc 1)) (eLoc 2)) (eLoc 5)) (eLoc 6)))) (oCmp .le (eCal 403 ci_X11_gameOf rfl (aA1 (aA1 (aA1 (aA1 (aA1 aA0 (eLoc 0)) (eLoc 2)) (eLoc 1)) (eBin 1 (eInt 1) (eLoc 6))) (eLoc 5))) (eCal 403 ci_X11_gameOf rfl (aA1 (aA1 (aA1 (aA1 (aA1 aA0 (eLoc 0)) (eLoc 2)) (eLoc 1)) (eLoc 6)) (eLoc 5))))) (sSeq (sIf (oCmp .eq (eLoc 4) (eLoc 3)) (sRet (eBin 0 (eBin 2 (eInt 10) (eLoc 5)) (eLoc 6))))
  (sInc 4 1)))
  (sInc 6 1)))))
  (sInc 5 1)))))
  (sRet (eCon (oCmp .eq (eLoc 3) (eInt (-1))) (eLoc 4) (eInt (-1)))))))
def n_X11_rests : MN := (yX11_rests, cX11_rests, 7, (some .int), 7)
noncomputable def ci_X11_rests : CI := (1, 11, [2, 0, 0, 0], 0, denM 7 [2, 0, 0, 0] false a_X11_rests.1.1)
set_option maxRecDepth 100000 in
theorem m_X11_rests : MetD wM n_X11_rests ci_X11_rests := g_meth false (a_X11_rests) rxM_ok (by decide) rfl rfl rfl (by decide) (by decide) (Or.inl ⟨rfl, rfl⟩) (fun h => by cases h) (mkWords (fun _ h => absurd h List.not_mem_nil) (fun _ h => absurd h List.not_mem_nil) (fun _ h => absurd h List.not_mem_nil) (fun _ h => absurd h List.not_mem_nil) (fun _ h => absurd h List.not_mem_nil) (fun _ h => absurd h List.not_mem_nil)) (List.forall_mem_cons.mpr ⟨clV m_X11_areTwo rfl rfl rfl (by decide) (Or.inl lw_X11_400) (kn_X11_areTwo _) (by decide +kernel), List.forall_mem_cons.mpr ⟨clV m_X11_gameOf rfl rfl rfl (by decide) (Or.inl lw_X11_403) (kn_X11_gameOf _) (by decide +kernel), fun _ h => absurd h List.not_mem_nil⟩⟩) (by decide +kernel)
/-! BlackMillModel.grave(IIZ)I -/
noncomputable def mi_X11_grave : MI := (cX11_grave, 4, RX11, [], [], [], [(84, 11, 40), (87, 11, 41), (90, 11, 42), (255, 11, 24), (271, 11, 43)], [], [], [(211, ci_X11_in)])
noncomputable def a_X11_grave : St wM (mi_X11_grave) 0 :=
  (sSeq (sIf (oOr (oOr (oOr (oCm0 .eq (eFld 11 24 (eLoc 0))) (oNot (oCm0 .ne (eCal 211 ci_X11_in rfl (aA1 (aA1 (aA1 aA0 (eLoc 1)) (eInt 0)) (eInt 1)))))) (oNot (oCm0 .ne (eCal 211 ci_X11_in rfl (aA1 (aA1 (aA1 aA0 (eLoc 2)) (eInt 0)) (eInt 99)))))) (oCmp .eq (eFld 11 43 (eLoc 0)) (eInt 10))) (sRet (eInt (-1))))
  (sSeq (sPutA 0 (eFld 11 40 (eLoc 0)) (eFld 11 43 (eLoc 0)) (eLoc 1))
  (sSeq (sPutA 0 (eFld 11 41 (eLoc 0)) (eFld 11 43 (eLoc 0)) (eLoc 2))
  (sSeq (sPutA 1 (eFld 11 42 (eLoc 0)) (eFld 11 43 (eLoc 0)) (eLoc 3))
  (sSeq (sUpdF 0 11 43 (eLoc 0) (eInt 1))
  (sRet (eFld 11 43 (eLoc 0))))))))
def n_X11_grave : MN := (yX11_grave, cX11_grave, 4, (some .int), 2)
noncomputable def ci_X11_grave : CI := (1, 11, [2, 0, 0, 0], 0, denM 4 [2, 0, 0, 0] false a_X11_grave.1.1)
set_option maxRecDepth 100000 in
theorem m_X11_grave : MetD wM n_X11_grave ci_X11_grave := g_meth false (a_X11_grave) rxM_ok (by decide) rfl rfl rfl (by decide) (by decide) (Or.inl ⟨rfl, rfl⟩) (fun h => by cases h) (mkWords (fun _ h => absurd h List.not_mem_nil) (fun _ h => absurd h List.not_mem_nil) (fun _ h => absurd h List.not_mem_nil) (List.forall_mem_cons.mpr ⟨⟨_, _, _, rfl, by decide, Or.inl fw_X11_84⟩, List.forall_mem_cons.mpr ⟨⟨_, _, _, rfl, by decide, Or.inl fw_X11_87⟩, List.forall_mem_cons.mpr ⟨⟨_, _, _, rfl, by decide, Or.inl fw_X11_90⟩, List.forall_mem_cons.mpr ⟨⟨_, _, _, rfl, by decide, Or.inl fw_X11_255⟩, List.forall_mem_cons.mpr ⟨⟨_, _, _, rfl, by decide, Or.inl fw_X11_271⟩, fun _ h => absurd h List.not_mem_nil⟩⟩⟩⟩⟩) (fun _ h => absurd h List.not_mem_nil) (fun _ h => absurd h List.not_mem_nil)) (List.forall_mem_cons.mpr ⟨clS m_X11_in rfl (by decide) (Or.inl lw_X11_211) (kn_X11_in _) (by decide +kernel), fun _ h => absurd h List.not_mem_nil⟩) (by decide +kernel)
/-! BlackMillModel.dug()I -/
noncomputable def mi_X11_dug : MI := (cX11_dug, 5, RX11, [], [], [], [(84, 11, 40), (87, 11, 41), (90, 11, 42), (255, 11, 24), (271, 11, 43)], [], [], [(265, ci_X11_of)])
noncomputable def a_X11_dug : St wM (mi_X11_dug) 0 :=
  (sSeq (sIf (oCm0 .eq (eFld 11 24 (eLoc 0))) (sRet (eInt (-1))))
  (sSeq (sSet 1 (eInt 0))
  (sSeq (sBlk (sSeq (sSet 2 (eInt 0))
  (sWh (oCmp .lt (eLoc 2) (eFld 11 24 (eLoc 0))) (sSeq (sSeq (sSet 3 (eInt 1))
  (sSeq (sBlk (sSeq (sSet 4 (eInt 0))
  (sWh (oCmp .lt (eLoc 4) (eFld 11 43 (eLoc 0))) (sSeq (sSet 3 (eBo (oAnd (oCm0 .ne (eLoc 3)) (oCmp .eq (eBo (oCmp .ge (eCal 265 ci_X11_of rfl (aA1 (aA1 (aA1 aA0 (eLoc 0)) (eLoc 2)) (eCon (oCm0 .eq (eAr 0 (eFld 11 40 (eLoc 0)) (eLoc 4))) (eInt 4) (eInt 0)))) (eAr 0 (eFld 11 41 (eLoc 0)) (eLoc 4)))) (eAr 1 (eFld 11 42 (eLoc 0)) (eLoc 4))))))
  (sInc 4 1)))))
  (sSet 1 (eBin 4 (eLoc 1) (eCon (oCm0 .ne (eLoc 3)) (eBin 6 (eInt 1) (eLoc 2)) (eInt 0))))))
  (sInc 2 1)))))
  (sRet (eLoc 1)))))
def n_X11_dug : MN := (yX11_dug, cX11_dug, 5, (some .int), 2)
noncomputable def ci_X11_dug : CI := (1, 11, [2], 0, denM 5 [2] false a_X11_dug.1.1)
set_option maxRecDepth 100000 in
theorem m_X11_dug : MetD wM n_X11_dug ci_X11_dug := g_meth false (a_X11_dug) rxM_ok (by decide) rfl rfl rfl (by decide) (by decide) (Or.inl ⟨rfl, rfl⟩) (fun h => by cases h) (mkWords (fun _ h => absurd h List.not_mem_nil) (fun _ h => absurd h List.not_mem_nil) (fun _ h => absurd h List.not_mem_nil) (List.forall_mem_cons.mpr ⟨⟨_, _, _, rfl, by decide, Or.inl fw_X11_84⟩, List.forall_mem_cons.mpr ⟨⟨_, _, _, rfl, by decide, Or.inl fw_X11_87⟩, List.forall_mem_cons.mpr ⟨⟨_, _, _, rfl, by decide, Or.inl fw_X11_90⟩, List.forall_mem_cons.mpr ⟨⟨_, _, _, rfl, by decide, Or.inl fw_X11_255⟩, List.forall_mem_cons.mpr ⟨⟨_, _, _, rfl, by decide, Or.inl fw_X11_271⟩, fun _ h => absurd h List.not_mem_nil⟩⟩⟩⟩⟩) (fun _ h => absurd h List.not_mem_nil) (fun _ h => absurd h List.not_mem_nil)) (List.forall_mem_cons.mpr ⟨clV m_X11_of rfl rfl rfl (by decide) (Or.inl lw_X11_265) (kn_X11_of _) (by decide +kernel), fun _ h => absurd h List.not_mem_nil⟩) (by decide +kernel)
/-! BlackMillModel.odds(II)I -/
noncomputable def mi_X11_odds : MI := (cX11_odds, 8, RX11, [], [(407, 1000000000)], [], [(255, 11, 24)], [], [], [(211, ci_X11_in), (290, ci_X11_lives), (304, ci_X11_fear)])
noncomputable def a_X11_odds : St wM (mi_X11_odds) 0 :=
  (sSeq (sIf (oOr (oNot (oCm0 .ne (eCal 290 ci_X11_lives rfl (aA1 (aA1 aA0 (eLoc 0)) (eLoc 1))))) (oNot (oCm0 .ne (eCal 211 ci_X11_in rfl (aA1 (aA1 (aA1 aA0 (eLoc 2)) (eInt 0)) (eInt 30)))))) (sRet (eInt (-1))))
  (sSeq (sSet 3 (eLng 0))
  (sSeq (sBlk (sSeq (sSet 5 (eInt 0))
  (sWh (oCmp .lt (eLoc 5) (eFld 11 24 (eLoc 0))) (sSeq (sSet 3 (eBin 9 (eLoc 3) (eCon (oCm0 .ne (eCal 290 ci_X11_lives rfl (aA1 (aA1 aA0 (eLoc 0)) (eLoc 5)))) (eI2L (eBin 0 (eCal 304 ci_X11_fear rfl (aA1 (aA1 aA0 (eLoc 0)) (eLoc 5))) (eInt 1))) (eLng 0))))
  (sInc 5 1)))))
  (sSeq (sSet 5 (eLng 1000000000))
  (sSeq (sBlk (sSeq (sSet 7 (eInt 0))
  (sWh (oAnd (oCmp .lt (eLoc 7) (eLoc 2)) (oCmpL .gt (eLoc 3) (eLng 0))) (sSeq (sSet 5 (eBin 10 (eLoc 5) (eDiv 2 (eBin 11 (eLoc 5) (eI2L (eBin 0 (eCal 304 ci_X11_fear rfl (aA1 (aA1 aA0 (eLoc 0)) (eLoc 1))) (eInt 1)))) (eLoc 3))))
  (sInc 7 1)))))
  (sRet (eL2I (eLoc 5))))))))
def n_X11_odds : MN := (yX11_odds, cX11_odds, 8, (some .int), 4)
noncomputable def ci_X11_odds : CI := (1, 11, [2, 0, 0], 0, denM 8 [2, 0, 0] false a_X11_odds.1.1)
set_option maxRecDepth 100000 in
theorem m_X11_odds : MetD wM n_X11_odds ci_X11_odds := g_meth false (a_X11_odds) rxM_ok (by decide) rfl rfl rfl (by decide) (by decide) (Or.inl ⟨rfl, rfl⟩) (fun h => by cases h) (mkWords (fun _ h => absurd h List.not_mem_nil) (List.forall_mem_cons.mpr ⟨cw_X11_407, fun _ h => absurd h List.not_mem_nil⟩) (fun _ h => absurd h List.not_mem_nil) (List.forall_mem_cons.mpr ⟨⟨_, _, _, rfl, by decide, Or.inl fw_X11_255⟩, fun _ h => absurd h List.not_mem_nil⟩) (fun _ h => absurd h List.not_mem_nil) (fun _ h => absurd h List.not_mem_nil)) (List.forall_mem_cons.mpr ⟨clS m_X11_in rfl (by decide) (Or.inl lw_X11_211) (kn_X11_in _) (by decide +kernel), List.forall_mem_cons.mpr ⟨clV m_X11_lives rfl rfl rfl (by decide) (Or.inl lw_X11_290) (kn_X11_lives _) (by decide +kernel), List.forall_mem_cons.mpr ⟨clV m_X11_fear rfl rfl rfl (by decide) (Or.inl lw_X11_304) (kn_X11_fear _) (by decide +kernel), fun _ h => absurd h List.not_mem_nil⟩⟩⟩) (by decide +kernel)
/-! BlackMillModel.mostOf(I)I -/
noncomputable def mi_X11_mostOf : MI := (cX11_mostOf, 4, RX11, [], [], [], [(255, 11, 24)], [], [], [(265, ci_X11_of), (290, ci_X11_lives)])
noncomputable def a_X11_mostOf : St wM (mi_X11_mostOf) 0 :=
  (sSeq (sSet 2 (eInt (-1)))
  (sSeq (sBlk (sSeq (sSet 3 (eInt 0))
  (sWh (oCmp .lt (eLoc 3) (eFld 11 24 (eLoc 0))) (sSeq (sSet 2 (eCon (oAnd (oCm0 .ne (eCal 290 ci_X11_lives rfl (aA1 (aA1 aA0 (eLoc 0)) (eLoc 3)))) (oOr (oCmp .eq (eLoc 2) (eInt (-1))) (oCmp .gt (eCal 265 ci_X11_of rfl (aA1 (aA1 (aA1 aA0 (eLoc 0)) (eLoc 3)) (eLoc 1))) (eCal 265 ci_X11_of rfl (aA1 (aA1 (aA1 aA0 (eLoc 0)) (eLoc 2)) (eLoc 1)))))) (eLoc 3) (eLoc 2)))
  (sInc 3 1)))))
  (sRet (eLoc 2))))
def n_X11_mostOf : MN := (yX11_mostOf, cX11_mostOf, 4, (some .int), 4)
noncomputable def ci_X11_mostOf : CI := (1, 11, [2, 0], 0, denM 4 [2, 0] false a_X11_mostOf.1.1)
set_option maxRecDepth 100000 in
theorem m_X11_mostOf : MetD wM n_X11_mostOf ci_X11_mostOf := g_meth false (a_X11_mostOf) rxM_ok (by decide) rfl rfl rfl (by decide) (by decide) (Or.inl ⟨rfl, rfl⟩) (fun h => by cases h) (mkWords (fun _ h => absurd h List.not_mem_nil) (fun _ h => absurd h List.not_mem_nil) (fun _ h => absurd h List.not_mem_nil) (List.forall_mem_cons.mpr ⟨⟨_, _, _, rfl, by decide, Or.inl fw_X11_255⟩, fun _ h => absurd h List.not_mem_nil⟩) (fun _ h => absurd h List.not_mem_nil) (fun _ h => absurd h List.not_mem_nil)) (List.forall_mem_cons.mpr ⟨clV m_X11_of rfl rfl rfl (by decide) (Or.inl lw_X11_265) (kn_X11_of _) (by decide +kernel), List.forall_mem_cons.mpr ⟨clV m_X11_lives rfl rfl rfl (by decide) (Or.inl lw_X11_290) (kn_X11_lives _) (by decide +kernel), fun _ h => absurd h List.not_mem_nil⟩⟩) (by decide +kernel)
/-! BlackMillModel.ablest()I -/
noncomputable def mi_X11_ablest : MI := (cX11_ablest, 1, RX11, [], [], [], [], [], [], [(409, ci_X11_mostOf)])
noncomputable def a_X11_ablest : St wM (mi_X11_ablest) 0 :=
  (sRet (eCal 409 ci_X11_mostOf rfl (aA1 (aA1 aA0 (eLoc 0)) (eInt 0))))
def n_X11_ablest : MN := (yX11_ablest, cX11_ablest, 1, (some .int), 5)
noncomputable def ci_X11_ablest : CI := (1, 11, [2], 0, denM 1 [2] false a_X11_ablest.1.1)
set_option maxRecDepth 100000 in
theorem m_X11_ablest : MetD wM n_X11_ablest ci_X11_ablest := g_meth false (a_X11_ablest) rxM_ok (by decide) rfl rfl rfl (by decide) (by decide) (Or.inl ⟨rfl, rfl⟩) (fun h => by cases h) (mkWords (fun _ h => absurd h List.not_mem_nil) (fun _ h => absurd h List.not_mem_nil) (fun _ h => absurd h List.not_mem_nil) (fun _ h => absurd h List.not_mem_nil) (fun _ h => absurd h List.not_mem_nil) (fun _ h => absurd h List.not_mem_nil)) (List.forall_mem_cons.mpr ⟨clV m_X11_mostOf rfl rfl rfl (by decide) (Or.inl lw_X11_409) (kn_X11_mostOf _) (by decide +kernel), fun _ h => absurd h List.not_mem_nil⟩) (by decide +kernel)
/-! BlackMillModel.hides(I)I -/
noncomputable def mi_X11_hides : MI := (cX11_hides, 2, RX11, [], [], [], [], [], [], [(265, ci_X11_of), (290, ci_X11_lives)])
noncomputable def a_X11_hides : St wM (mi_X11_hides) 0 :=
  (sRet (eCon (oCm0 .ne (eCal 290 ci_X11_lives rfl (aA1 (aA1 aA0 (eLoc 0)) (eLoc 1)))) (eBin 1 (eCal 265 ci_X11_of rfl (aA1 (aA1 (aA1 aA0 (eLoc 0)) (eLoc 1)) (eInt 0))) (eCal 265 ci_X11_of rfl (aA1 (aA1 (aA1 aA0 (eLoc 0)) (eLoc 1)) (eInt 1)))) (eInt (-1))))
def n_X11_hides : MN := (yX11_hides, cX11_hides, 2, (some .int), 4)
noncomputable def ci_X11_hides : CI := (1, 11, [2, 0], 0, denM 2 [2, 0] false a_X11_hides.1.1)
set_option maxRecDepth 100000 in
theorem m_X11_hides : MetD wM n_X11_hides ci_X11_hides := g_meth false (a_X11_hides) rxM_ok (by decide) rfl rfl rfl (by decide) (by decide) (Or.inl ⟨rfl, rfl⟩) (fun h => by cases h) (mkWords (fun _ h => absurd h List.not_mem_nil) (fun _ h => absurd h List.not_mem_nil) (fun _ h => absurd h List.not_mem_nil) (fun _ h => absurd h List.not_mem_nil) (fun _ h => absurd h List.not_mem_nil) (fun _ h => absurd h List.not_mem_nil)) (List.forall_mem_cons.mpr ⟨clV m_X11_of rfl rfl rfl (by decide) (Or.inl lw_X11_265) (kn_X11_of _) (by decide +kernel), List.forall_mem_cons.mpr ⟨clV m_X11_lives rfl rfl rfl (by decide) (Or.inl lw_X11_290) (kn_X11_lives _) (by decide +kernel), fun _ h => absurd h List.not_mem_nil⟩⟩) (by decide +kernel)
/-! BlackMillModel.order()I -/
noncomputable def mi_X11_order : MI := (cX11_order, 5, RX11, [], [], [], [(255, 11, 24)], [], [], [(222, ci_X11_has), (293, ci_X11_living), (304, ci_X11_fear)])
noncomputable def a_X11_order : St wM (mi_X11_order) 0 :=
  (sSeq (sIf (oCm0 .eq (eFld 11 24 (eLoc 0))) (sRet (eInt (-1))))
  (sSeq (sSet 1 (eInt 0))
  (sSeq (sSet 2 (eCal 293 ci_X11_living rfl (aA1 aA0 (eLoc 0))))
  (sSeq (sWh (oCm0 .ne (eLoc 2)) (sSeq (sSet 3 (eInt (-1)))
  (sSeq (sBlk (sSeq (sSet 4 (eInt 0))
  (sWh (oCmp .lt (eLoc 4) (eFld 11 24 (eLoc 0))) (sSeq (sSet 3 (eCon (oAnd (oCm0 .ne (eCal 222 ci_X11_has rfl (aA1 (aA1 aA0 (eLoc 2)) (eLoc 4)))) (oOr (oCmp .eq (eLoc 3) (eInt (-1))) (oCmp .gt (eCal 304 ci_X11_fear rfl (aA1 (aA1 aA0 (eLoc 0)) (eLoc 4))) (eCal 304 ci_X11_fear rfl (aA1 (aA1 aA0 (eLoc 0)) (eLoc 3)))))) (eLoc 4) (eLoc 3)))
  (sInc 4 1)))))
  (sSeq (sSet 2 (eBin 3 (eLoc 2) (eBin 5 (eBin 6 (eInt 1) (eLoc 3)) (eInt (-1)))))
  (sSet 1 (eBin 0 (eBin 2 (eInt 10) (eLoc 1)) (eLoc 3)))))))
  (sRet (eLoc 1))))))
def n_X11_order : MN := (yX11_order, cX11_order, 5, (some .int), 5)
noncomputable def ci_X11_order : CI := (1, 11, [2], 0, denM 5 [2] false a_X11_order.1.1)
set_option maxRecDepth 100000 in
theorem m_X11_order : MetD wM n_X11_order ci_X11_order := g_meth false (a_X11_order) rxM_ok (by decide) rfl rfl rfl (by decide) (by decide) (Or.inl ⟨rfl, rfl⟩) (fun h => by cases h) (mkWords (fun _ h => absurd h List.not_mem_nil) (fun _ h => absurd h List.not_mem_nil) (fun _ h => absurd h List.not_mem_nil) (List.forall_mem_cons.mpr ⟨⟨_, _, _, rfl, by decide, Or.inl fw_X11_255⟩, fun _ h => absurd h List.not_mem_nil⟩) (fun _ h => absurd h List.not_mem_nil) (fun _ h => absurd h List.not_mem_nil)) (List.forall_mem_cons.mpr ⟨clS m_X11_has rfl (by decide) (Or.inl lw_X11_222) (kn_X11_has _) (by decide +kernel), List.forall_mem_cons.mpr ⟨clV m_X11_living rfl rfl rfl (by decide) (Or.inl lw_X11_293) (kn_X11_living _) (by decide +kernel), List.forall_mem_cons.mpr ⟨clV m_X11_fear rfl rfl rfl (by decide) (Or.inl lw_X11_304) (kn_X11_fear _) (by decide +kernel), fun _ h => absurd h List.not_mem_nil⟩⟩⟩) (by decide +kernel)
/-! BlackMillModel.safe(I)I -/
noncomputable def mi_X11_safe : MI := (cX11_safe, 4, RX11, [], [], [], [], [], [], [(261, ci_X11_lay), (265, ci_X11_of), (290, ci_X11_lives), (326, ci_X11_chosenNow)])
noncomputable def a_X11_safe : St wM (mi_X11_safe) 0 :=
  (sSeq (sIf (oNot (oCm0 .ne (eCal 290 ci_X11_lives rfl (aA1 (aA1 aA0 (eLoc 0)) (eLoc 1))))) (sRet (eInt (-1))))
  (sSeq (sSet 2 (eCal 265 ci_X11_of rfl (aA1 (aA1 (aA1 aA0 (eLoc 0)) (eLoc 1)) (eInt 1))))
  (sSeq (sSet 3 (eCal 265 ci_X11_of rfl (aA1 (aA1 (aA1 aA0 (eLoc 0)) (eLoc 1)) (eInt 0))))
  (sSeq (sDo 261 ci_X11_lay rfl (aA1 (aA1 (aA1 (aA1 aA0 (eLoc 0)) (eLoc 1)) (eInt 1)) (eLoc 3)))
  (sSeq (sWh (oAnd (oCm0 .ge (eLoc 3)) (oCmp .eq (eCal 326 ci_X11_chosenNow rfl (aA1 aA0 (eLoc 0))) (eLoc 1))) (sSeq (sInc 3 (-1))
  (sDo 261 ci_X11_lay rfl (aA1 (aA1 (aA1 (aA1 aA0 (eLoc 0)) (eLoc 1)) (eInt 1)) (eLoc 3)))))
  (sSeq (sDo 261 ci_X11_lay rfl (aA1 (aA1 (aA1 (aA1 aA0 (eLoc 0)) (eLoc 1)) (eInt 1)) (eLoc 2)))
  (sRet (eCon (oCm0 .lt (eLoc 3)) (eInt (-1)) (eLoc 3)))))))))
def n_X11_safe : MN := (yX11_safe, cX11_safe, 4, (some .int), 5)
noncomputable def ci_X11_safe : CI := (1, 11, [2, 0], 0, denM 4 [2, 0] false a_X11_safe.1.1)
set_option maxRecDepth 100000 in
theorem m_X11_safe : MetD wM n_X11_safe ci_X11_safe := g_meth false (a_X11_safe) rxM_ok (by decide) rfl rfl rfl (by decide) (by decide) (Or.inl ⟨rfl, rfl⟩) (fun h => by cases h) (mkWords (fun _ h => absurd h List.not_mem_nil) (fun _ h => absurd h List.not_mem_nil) (fun _ h => absurd h List.not_mem_nil) (fun _ h => absurd h List.not_mem_nil) (fun _ h => absurd h List.not_mem_nil) (fun _ h => absurd h List.not_mem_nil)) (List.forall_mem_cons.mpr ⟨clV m_X11_lay rfl rfl rfl (by decide) (Or.inl lw_X11_261) (kn_X11_lay _) (by decide +kernel), List.forall_mem_cons.mpr ⟨clV m_X11_of rfl rfl rfl (by decide) (Or.inl lw_X11_265) (kn_X11_of _) (by decide +kernel), List.forall_mem_cons.mpr ⟨clV m_X11_lives rfl rfl rfl (by decide) (Or.inl lw_X11_290) (kn_X11_lives _) (by decide +kernel), List.forall_mem_cons.mpr ⟨clV m_X11_chosenNow rfl rfl rfl (by decide) (Or.inl lw_X11_326) (kn_X11_chosenNow _) (by decide +kernel), fun _ h => absurd h List.not_mem_nil⟩⟩⟩⟩) (by decide +kernel)
/-! BlackMillModel.friends(I)I -/
noncomputable def mi_X11_friends : MI := (cX11_friends, 2, RX11, [], [], [], [], [], [], [(287, ci_X11_isLad), (307, ci_X11_friendsOf)])
noncomputable def a_X11_friends : St wM (mi_X11_friends) 0 :=
  (sRet (eCon (oCm0 .ne (eCal 287 ci_X11_isLad rfl (aA1 (aA1 aA0 (eLoc 0)) (eLoc 1)))) (eCal 307 ci_X11_friendsOf rfl (aA1 (aA1 aA0 (eLoc 0)) (eLoc 1))) (eInt (-1))))
def n_X11_friends : MN := (yX11_friends, cX11_friends, 2, (some .int), 3)
noncomputable def ci_X11_friends : CI := (1, 11, [2, 0], 0, denM 2 [2, 0] false a_X11_friends.1.1)
set_option maxRecDepth 100000 in
theorem m_X11_friends : MetD wM n_X11_friends ci_X11_friends := g_meth false (a_X11_friends) rxM_ok (by decide) rfl rfl rfl (by decide) (by decide) (Or.inl ⟨rfl, rfl⟩) (fun h => by cases h) (mkWords (fun _ h => absurd h List.not_mem_nil) (fun _ h => absurd h List.not_mem_nil) (fun _ h => absurd h List.not_mem_nil) (fun _ h => absurd h List.not_mem_nil) (fun _ h => absurd h List.not_mem_nil) (fun _ h => absurd h List.not_mem_nil)) (List.forall_mem_cons.mpr ⟨clV m_X11_isLad rfl rfl rfl (by decide) (Or.inl lw_X11_287) (kn_X11_isLad _) (by decide +kernel), List.forall_mem_cons.mpr ⟨clV m_X11_friendsOf rfl rfl rfl (by decide) (Or.inl lw_X11_307) (kn_X11_friendsOf _) (by decide +kernel), fun _ h => absurd h List.not_mem_nil⟩⟩) (by decide +kernel)
/-! BlackMillModel.oldest()I -/
noncomputable def mi_X11_oldest : MI := (cX11_oldest, 1, RX11, [], [], [], [], [], [], [(409, ci_X11_mostOf)])
noncomputable def a_X11_oldest : St wM (mi_X11_oldest) 0 :=
  (sRet (eCal 409 ci_X11_mostOf rfl (aA1 (aA1 aA0 (eLoc 0)) (eInt 4))))
def n_X11_oldest : MN := (yX11_oldest, cX11_oldest, 1, (some .int), 5)
noncomputable def ci_X11_oldest : CI := (1, 11, [2], 0, denM 1 [2] false a_X11_oldest.1.1)
set_option maxRecDepth 100000 in
theorem m_X11_oldest : MetD wM n_X11_oldest ci_X11_oldest := g_meth false (a_X11_oldest) rxM_ok (by decide) rfl rfl rfl (by decide) (by decide) (Or.inl ⟨rfl, rfl⟩) (fun h => by cases h) (mkWords (fun _ h => absurd h List.not_mem_nil) (fun _ h => absurd h List.not_mem_nil) (fun _ h => absurd h List.not_mem_nil) (fun _ h => absurd h List.not_mem_nil) (fun _ h => absurd h List.not_mem_nil) (fun _ h => absurd h List.not_mem_nil)) (List.forall_mem_cons.mpr ⟨clV m_X11_mostOf rfl rfl rfl (by decide) (Or.inl lw_X11_409) (kn_X11_mostOf _) (by decide +kernel), fun _ h => absurd h List.not_mem_nil⟩) (by decide +kernel)
/-! BlackMillModel.learns(I)I -/
noncomputable def mi_X11_learns : MI := (cX11_learns, 2, RX11, [], [], [], [], [], [], [(265, ci_X11_of), (290, ci_X11_lives), (320, ci_X11_manyLive), (323, ci_X11_learnsBy)])
noncomputable def a_X11_learns : St wM (mi_X11_learns) 0 :=
  (sRet (eCon (oCm0 .ne (eCal 290 ci_X11_lives rfl (aA1 (aA1 aA0 (eLoc 0)) (eLoc 1)))) (eCal 323 ci_X11_learnsBy rfl (aA1 (aA1 (aA1 (aA1 aA0 (eLoc 0)) (eLoc 1)) (eCal 265 ci_X11_of rfl (aA1 (aA1 (aA1 aA0 (eLoc 0)) (eLoc 1)) (eInt 1)))) (eCal 320 ci_X11_manyLive rfl (aA1 aA0 (eLoc 0))))) (eInt (-1))))
def n_X11_learns : MN := (yX11_learns, cX11_learns, 2, (some .int), 6)
noncomputable def ci_X11_learns : CI := (1, 11, [2, 0], 0, denM 2 [2, 0] false a_X11_learns.1.1)
set_option maxRecDepth 100000 in
theorem m_X11_learns : MetD wM n_X11_learns ci_X11_learns := g_meth false (a_X11_learns) rxM_ok (by decide) rfl rfl rfl (by decide) (by decide) (Or.inl ⟨rfl, rfl⟩) (fun h => by cases h) (mkWords (fun _ h => absurd h List.not_mem_nil) (fun _ h => absurd h List.not_mem_nil) (fun _ h => absurd h List.not_mem_nil) (fun _ h => absurd h List.not_mem_nil) (fun _ h => absurd h List.not_mem_nil) (fun _ h => absurd h List.not_mem_nil)) (List.forall_mem_cons.mpr ⟨clV m_X11_of rfl rfl rfl (by decide) (Or.inl lw_X11_265) (kn_X11_of _) (by decide +kernel), List.forall_mem_cons.mpr ⟨clV m_X11_lives rfl rfl rfl (by decide) (Or.inl lw_X11_290) (kn_X11_lives _) (by decide +kernel), List.forall_mem_cons.mpr ⟨clV m_X11_manyLive rfl rfl rfl (by decide) (Or.inl lw_X11_320) (kn_X11_manyLive _) (by decide +kernel), List.forall_mem_cons.mpr ⟨clV m_X11_learnsBy rfl rfl rfl (by decide) (Or.inl lw_X11_323) (kn_X11_learnsBy _) (by decide +kernel), fun _ h => absurd h List.not_mem_nil⟩⟩⟩⟩) (by decide +kernel)
/-! BlackMillModel.image()I -/
noncomputable def mi_X11_image : MI := (cX11_image, 2, RX11, [], [], [], [(55, 11, 26), (93, 11, 44), (255, 11, 24), (277, 11, 45)], [], [], [])
noncomputable def a_X11_image : St wM (mi_X11_image) 0 :=
  (sSeq (sIf (oCm0 .eq (eFld 11 24 (eLoc 0))) (sRet (eInt (-1))))
  (sSeq (sBlk (sSeq (sSet 1 (eInt 0))
  (sWh (oCmp .lt (eLoc 1) (eInt 231)) (sSeq (sPutA 0 (eFld 11 44 (eLoc 0)) (eLoc 1) (eAr 0 (eFld 11 26 (eLoc 0)) (eLoc 1)))
  (sInc 1 1)))))
  (sSeq (sPutF 11 45 (eLoc 0) (eInt 1))
  (sRet (eAr 0 (eFld 11 26 (eLoc 0)) (eInt 49))))))
def n_X11_image : MN := (yX11_image, cX11_image, 2, (some .int), 1)
noncomputable def ci_X11_image : CI := (1, 11, [2], 0, denM 2 [2] false a_X11_image.1.1)
set_option maxRecDepth 100000 in
theorem m_X11_image : MetD wM n_X11_image ci_X11_image := g_meth false (a_X11_image) rxM_ok (by decide) rfl rfl rfl (by decide) (by decide) (Or.inl ⟨rfl, rfl⟩) (fun h => by cases h) (mkWords (fun _ h => absurd h List.not_mem_nil) (fun _ h => absurd h List.not_mem_nil) (fun _ h => absurd h List.not_mem_nil) (List.forall_mem_cons.mpr ⟨⟨_, _, _, rfl, by decide, Or.inl fw_X11_55⟩, List.forall_mem_cons.mpr ⟨⟨_, _, _, rfl, by decide, Or.inl fw_X11_93⟩, List.forall_mem_cons.mpr ⟨⟨_, _, _, rfl, by decide, Or.inl fw_X11_255⟩, List.forall_mem_cons.mpr ⟨⟨_, _, _, rfl, by decide, Or.inl fw_X11_277⟩, fun _ h => absurd h List.not_mem_nil⟩⟩⟩⟩) (fun _ h => absurd h List.not_mem_nil) (fun _ h => absurd h List.not_mem_nil)) (fun _ h => absurd h List.not_mem_nil) (by decide +kernel)
/-! BlackMillModel.back()I -/
noncomputable def mi_X11_back : MI := (cX11_back, 2, RX11, [], [], [], [(55, 11, 26), (93, 11, 44), (274, 11, 31), (277, 11, 45)], [], [], [])
noncomputable def a_X11_back : St wM (mi_X11_back) 0 :=
  (sSeq (sIf (oNot (oCm0 .ne (eFld 11 45 (eLoc 0)))) (sRet (eInt (-1))))
  (sSeq (sBlk (sSeq (sSet 1 (eInt 0))
  (sWh (oCmp .lt (eLoc 1) (eInt 231)) (sSeq (sPutA 0 (eFld 11 26 (eLoc 0)) (eLoc 1) (eAr 0 (eFld 11 44 (eLoc 0)) (eLoc 1)))
  (sInc 1 1)))))
  (sSeq (sPutF 11 31 (eLoc 0) (eInt 0))
  (sRet (eAr 0 (eFld 11 26 (eLoc 0)) (eInt 49))))))
def n_X11_back : MN := (yX11_back, cX11_back, 2, (some .int), 1)
noncomputable def ci_X11_back : CI := (1, 11, [2], 0, denM 2 [2] false a_X11_back.1.1)
set_option maxRecDepth 100000 in
theorem m_X11_back : MetD wM n_X11_back ci_X11_back := g_meth false (a_X11_back) rxM_ok (by decide) rfl rfl rfl (by decide) (by decide) (Or.inl ⟨rfl, rfl⟩) (fun h => by cases h) (mkWords (fun _ h => absurd h List.not_mem_nil) (fun _ h => absurd h List.not_mem_nil) (fun _ h => absurd h List.not_mem_nil) (List.forall_mem_cons.mpr ⟨⟨_, _, _, rfl, by decide, Or.inl fw_X11_55⟩, List.forall_mem_cons.mpr ⟨⟨_, _, _, rfl, by decide, Or.inl fw_X11_93⟩, List.forall_mem_cons.mpr ⟨⟨_, _, _, rfl, by decide, Or.inl fw_X11_274⟩, List.forall_mem_cons.mpr ⟨⟨_, _, _, rfl, by decide, Or.inl fw_X11_277⟩, fun _ h => absurd h List.not_mem_nil⟩⟩⟩⟩) (fun _ h => absurd h List.not_mem_nil) (fun _ h => absurd h List.not_mem_nil)) (fun _ h => absurd h List.not_mem_nil) (by decide +kernel)
/-! BlackMillModel.count(I)I -/
noncomputable def mi_X11_count : MI := (cX11_count, 2, RX11, [(338, -1000000)], [], [], [(55, 11, 26), (61, 11, 28), (65, 11, 29), (103, 11, 2), (255, 11, 24), (258, 11, 25), (268, 11, 38), (271, 11, 43), (274, 11, 31), (284, 11, 13)], [], [], [(293, ci_X11_living), (332, ci_X11_artOf)])
noncomputable def a_X11_count : St wM (mi_X11_count) 0 :=
  (sSw (eLoc 1) (wCs 0 (sRet (eFld 11 24 (eLoc 0)))
  (wCs 1 (sRet (eFld 11 25 (eLoc 0)))
  (wCs 2 (sRet (eFld 11 13 (eLoc 0)))
  (wCs 3 (sRet (eFld 11 2 (eLoc 0)))
  (wCs 4 (sRet (eFld 11 28 (eLoc 0)))
  (wCs 5 (sRet (eAr 0 (eFld 11 26 (eLoc 0)) (eInt 49)))
  (wCs 6 (sRet (eCal 293 ci_X11_living rfl (aA1 aA0 (eLoc 0))))
  (wCs 7 (sRet (eCal 332 ci_X11_artOf rfl (aA1 (aA1 aA0 (eLoc 0)) (eCal 293 ci_X11_living rfl (aA1 aA0 (eLoc 0))))))
  (wCs 8 (sRet (eAr 0 (eFld 11 26 (eLoc 0)) (eInt 48)))
  (wCs 9 (sRet (eFld 11 29 (eLoc 0)))
  (wCs 10 (sRet (eFld 11 38 (eLoc 0)))
  (wCs 11 (sRet (eFld 11 43 (eLoc 0)))
  (wCs 12 (sRet (eAr 0 (eFld 11 26 (eLoc 0)) (eInt 50)))
  (wCs 13 (sRet (eFld 11 31 (eLoc 0)))
  (wDf (sRet (eInt (-1000000)))))))))))))))))))
def n_X11_count : MN := (yX11_count, cX11_count, 2, (some .int), 5)
noncomputable def ci_X11_count : CI := (1, 11, [2, 0], 0, denM 2 [2, 0] false a_X11_count.1.1)
set_option maxRecDepth 100000 in
theorem m_X11_count : MetD wM n_X11_count ci_X11_count := g_meth false (a_X11_count) rxM_ok (by decide) rfl rfl rfl (by decide) (by decide) (Or.inl ⟨rfl, rfl⟩) (fun h => by cases h) (mkWords (List.forall_mem_cons.mpr ⟨cw_X11_338, fun _ h => absurd h List.not_mem_nil⟩) (fun _ h => absurd h List.not_mem_nil) (fun _ h => absurd h List.not_mem_nil) (List.forall_mem_cons.mpr ⟨⟨_, _, _, rfl, by decide, Or.inl fw_X11_55⟩, List.forall_mem_cons.mpr ⟨⟨_, _, _, rfl, by decide, Or.inl fw_X11_61⟩, List.forall_mem_cons.mpr ⟨⟨_, _, _, rfl, by decide, Or.inl fw_X11_65⟩, List.forall_mem_cons.mpr ⟨⟨_, _, _, rfl, by decide, Or.inl fw_X11_103⟩, List.forall_mem_cons.mpr ⟨⟨_, _, _, rfl, by decide, Or.inl fw_X11_255⟩, List.forall_mem_cons.mpr ⟨⟨_, _, _, rfl, by decide, Or.inl fw_X11_258⟩, List.forall_mem_cons.mpr ⟨⟨_, _, _, rfl, by decide, Or.inl fw_X11_268⟩, List.forall_mem_cons.mpr ⟨⟨_, _, _, rfl, by decide, Or.inl fw_X11_271⟩, List.forall_mem_cons.mpr ⟨⟨_, _, _, rfl, by decide, Or.inl fw_X11_274⟩, List.forall_mem_cons.mpr ⟨⟨_, _, _, rfl, by decide, Or.inl fw_X11_284⟩, fun _ h => absurd h List.not_mem_nil⟩⟩⟩⟩⟩⟩⟩⟩⟩⟩) (fun _ h => absurd h List.not_mem_nil) (fun _ h => absurd h List.not_mem_nil)) (List.forall_mem_cons.mpr ⟨clV m_X11_living rfl rfl rfl (by decide) (Or.inl lw_X11_293) (kn_X11_living _) (by decide +kernel), List.forall_mem_cons.mpr ⟨clV m_X11_artOf rfl rfl rfl (by decide) (Or.inl lw_X11_332) (kn_X11_artOf _) (by decide +kernel), fun _ h => absurd h List.not_mem_nil⟩⟩) (by decide +kernel)
