/-! methods of ref, 1 -/
/-! java/lang/Integer.bitCount(I)I -/
noncomputable def mi_J6_bitCount_0f7a4M : MI := (cJ6_bitCount_0f7a4, 1, RJ6, [(265, 1431655765), (266, 858993459), (267, 252645135)], [], [], [], [], [], [])
noncomputable def a_J6_bitCount_0f7a4M : St wM (mi_J6_bitCount_0f7a4M) 0 :=
  (sSeq (sSet 0 (eBin 1 (eLoc 0) (eBin 3 (eBin 8 (eLoc 0) (eInt 1)) (eInt 1431655765))))
  (sSeq (sSet 0 (eBin 0 (eBin 3 (eLoc 0) (eInt 858993459)) (eBin 3 (eBin 8 (eLoc 0) (eInt 2)) (eInt 858993459))))
  (sSeq (sSet 0 (eBin 3 (eBin 0 (eLoc 0) (eBin 8 (eLoc 0) (eInt 4))) (eInt 252645135)))
  (sSeq (sSet 0 (eBin 0 (eLoc 0) (eBin 8 (eLoc 0) (eInt 8))))
  (sSeq (sSet 0 (eBin 0 (eLoc 0) (eBin 8 (eLoc 0) (eInt 16))))
  (sRet (eBin 3 (eLoc 0) (eInt 63))))))))
def n_J6_bitCount_0f7a4M : MN := (yJ6_bitCount_0f7a4, cJ6_bitCount_0f7a4, 1, (some .int), 1)
noncomputable def ci_J6_bitCount_0f7a4M : CI := (0, 0, [0], 0, denM 1 [0] false a_J6_bitCount_0f7a4M.1.1)
set_option maxRecDepth 100000 in
theorem m_J6_bitCount_0f7a4M : MetD wM n_J6_bitCount_0f7a4M ci_J6_bitCount_0f7a4M := g_meth false (a_J6_bitCount_0f7a4M) rxM_ok (by decide) rfl rfl rfl (by decide) (by decide) (Or.inl ⟨rfl, rfl⟩) (fun h => by cases h) (mkWords (List.forall_mem_cons.mpr ⟨cw_J6_265, List.forall_mem_cons.mpr ⟨cw_J6_266, List.forall_mem_cons.mpr ⟨cw_J6_267, fun _ h => absurd h List.not_mem_nil⟩⟩⟩) (fun _ h => absurd h List.not_mem_nil) (fun _ h => absurd h List.not_mem_nil) (fun _ h => absurd h List.not_mem_nil) (fun _ h => absurd h List.not_mem_nil) (fun _ h => absurd h List.not_mem_nil)) (fun _ h => absurd h List.not_mem_nil) (by decide +kernel)
/-! BlackMillModel.in(III)Z -/
noncomputable def mi_X11_in : MI := (cX11_in, 3, RX11, [], [], [], [], [], [], [])
noncomputable def a_X11_in : St wM (mi_X11_in) 0 :=
  (sRet (eBo (oAnd (oCmp .ge (eLoc 0) (eLoc 1)) (oCmp .le (eLoc 0) (eLoc 2)))))
def n_X11_in : MN := (yX11_in, cX11_in, 3, (some .boolean), 1)
noncomputable def ci_X11_in : CI := (0, 11, [0, 0, 0], 0, denM 3 [0, 0, 0] true a_X11_in.1.1)
set_option maxRecDepth 100000 in
theorem m_X11_in : MetD wM n_X11_in ci_X11_in := g_meth true (a_X11_in) rxM_ok (by decide) rfl rfl rfl (by decide) (by decide) (Or.inr (Or.inl ⟨rfl, rfl⟩)) (fun _ => rfl) (mkWords (fun _ h => absurd h List.not_mem_nil) (fun _ h => absurd h List.not_mem_nil) (fun _ h => absurd h List.not_mem_nil) (fun _ h => absurd h List.not_mem_nil) (fun _ h => absurd h List.not_mem_nil) (fun _ h => absurd h List.not_mem_nil)) (fun _ h => absurd h List.not_mem_nil) (by decide +kernel)
/-! BlackMillModel.has(II)Z -/
noncomputable def mi_X11_has : MI := (cX11_has, 2, RX11, [], [], [], [], [], [], [])
noncomputable def a_X11_has : St wM (mi_X11_has) 0 :=
  (sRet (eBo (oCmp .eq (eBin 3 (eBin 7 (eLoc 0) (eLoc 1)) (eInt 1)) (eInt 1))))
def n_X11_has : MN := (yX11_has, cX11_has, 2, (some .boolean), 1)
noncomputable def ci_X11_has : CI := (0, 11, [0, 0], 0, denM 2 [0, 0] true a_X11_has.1.1)
set_option maxRecDepth 100000 in
theorem m_X11_has : MetD wM n_X11_has ci_X11_has := g_meth true (a_X11_has) rxM_ok (by decide) rfl rfl rfl (by decide) (by decide) (Or.inr (Or.inl ⟨rfl, rfl⟩)) (fun _ => rfl) (mkWords (fun _ h => absurd h List.not_mem_nil) (fun _ h => absurd h List.not_mem_nil) (fun _ h => absurd h List.not_mem_nil) (fun _ h => absurd h List.not_mem_nil) (fun _ h => absurd h List.not_mem_nil) (fun _ h => absurd h List.not_mem_nil)) (fun _ h => absurd h List.not_mem_nil) (by decide +kernel)
/-! BlackMillModel.thrown()I -/
noncomputable def mi_X11_thrown : MI := (cX11_thrown, 1, RX11, [], [], [], [(96, 11, 0)], [], [], [])
noncomputable def a_X11_thrown : St wM (mi_X11_thrown) 0 :=
  (sRet (eFld 11 0 (eLoc 0)))
def n_X11_thrown : MN := (yX11_thrown, cX11_thrown, 1, (some .int), 1)
noncomputable def ci_X11_thrown : CI := (1, 11, [2], 0, denM 1 [2] false a_X11_thrown.1.1)
set_option maxRecDepth 100000 in
theorem m_X11_thrown : MetD wM n_X11_thrown ci_X11_thrown := g_meth false (a_X11_thrown) rxM_ok (by decide) rfl rfl rfl (by decide) (by decide) (Or.inl ⟨rfl, rfl⟩) (fun h => by cases h) (mkWords (fun _ h => absurd h List.not_mem_nil) (fun _ h => absurd h List.not_mem_nil) (fun _ h => absurd h List.not_mem_nil) (List.forall_mem_cons.mpr ⟨⟨_, _, _, rfl, by decide, Or.inl fw_X11_96⟩, fun _ h => absurd h List.not_mem_nil⟩) (fun _ h => absurd h List.not_mem_nil) (fun _ h => absurd h List.not_mem_nil)) (fun _ h => absurd h List.not_mem_nil) (by decide +kernel)
/-! BlackMillModel.byteOf(IIIIII)I -/
noncomputable def mi_X11_byteOf : MI := (cX11_byteOf, 7, RX11, [], [], [], [], [], [], [])
noncomputable def a_X11_byteOf : St wM (mi_X11_byteOf) 0 :=
  (sSeq (sSet 6 (eCon (oCmp .lt (eLoc 5) (eInt 4)) (eLoc 0) (eCon (oCmp .lt (eLoc 5) (eInt 8)) (eLoc 1) (eCon (oCmp .lt (eLoc 5) (eInt 12)) (eLoc 2) (eCon (oCmp .lt (eLoc 5) (eInt 16)) (eLoc 3) (eLoc 4))))))
  (sRet (eBin 3 (eBin 7 (eLoc 6) (eBin 1 (eInt 24) (eBin 2 (eInt 8) (eDiv 1 (eLoc 5) (eInt 4))))) (eInt 255))))
def n_X11_byteOf : MN := (yX11_byteOf, cX11_byteOf, 7, (some .int), 1)
noncomputable def ci_X11_byteOf : CI := (0, 11, [0, 0, 0, 0, 0, 0], 0, denM 7 [0, 0, 0, 0, 0, 0] false a_X11_byteOf.1.1)
set_option maxRecDepth 100000 in
theorem m_X11_byteOf : MetD wM n_X11_byteOf ci_X11_byteOf := g_meth false (a_X11_byteOf) rxM_ok (by decide) rfl rfl rfl (by decide) (by decide) (Or.inl ⟨rfl, rfl⟩) (fun h => by cases h) (mkWords (fun _ h => absurd h List.not_mem_nil) (fun _ h => absurd h List.not_mem_nil) (fun _ h => absurd h List.not_mem_nil) (fun _ h => absurd h List.not_mem_nil) (fun _ h => absurd h List.not_mem_nil) (fun _ h => absurd h List.not_mem_nil)) (fun _ h => absurd h List.not_mem_nil) (by decide +kernel)
/-! BlackMillModel.feed(IIIII)I -/
noncomputable def mi_X11_feed : MI := (cX11_feed, 9, RX11, [], [], [], [(9, 11, 1), (103, 11, 2)], [], [], [(99, ci_X11_byteOf)])
noncomputable def a_X11_feed : St wM (mi_X11_feed) 0 :=
  (sSeq (sSet 6 (eInt 0))
  (sSeq (sBlk (sSeq (sSet 7 (eInt 0))
  (sWh (oCmp .lt (eLoc 7) (eInt 20)) (sSeq (sSet 6 (eBin 0 (eLoc 6) (eCon (oCm0 .ne (eCal 99 ci_X11_byteOf rfl (aA1 (aA1 (aA1 (aA1 (aA1 (aA1 aA0 (eLoc 1)) (eLoc 2)) (eLoc 3)) (eLoc 4)) (eLoc 5)) (eLoc 7)))) (eInt 1) (eInt 0))))
  (sInc 7 1)))))
  (sSeq (sIf (oCmp .gt (eBin 0 (eFld 11 2 (eLoc 0)) (eLoc 6)) (eInt 240)) (sRet (eInt (-1))))
  (sSeq (sBlk (sSeq (sSet 7 (eInt 0))
  (sWh (oCmp .lt (eLoc 7) (eInt 20)) (sSeq (sSeq (sSet 8 (eCal 99 ci_X11_byteOf rfl (aA1 (aA1 (aA1 (aA1 (aA1 (aA1 aA0 (eLoc 1)) (eLoc 2)) (eLoc 3)) (eLoc 4)) (eLoc 5)) (eLoc 7))))
  (sIf (oCm0 .ne (eLoc 8)) (sSeq (sPutA 0 (eFld 11 1 (eLoc 0)) (eFld 11 2 (eLoc 0)) (eLoc 8))
  (sUpdF 0 11 2 (eLoc 0) (eInt 1)))))
  (sInc 7 1)))))
  (sRet (eFld 11 2 (eLoc 0)))))))
def n_X11_feed : MN := (yX11_feed, cX11_feed, 9, (some .int), 2)
noncomputable def ci_X11_feed : CI := (1, 11, [2, 0, 0, 0, 0, 0], 0, denM 9 [2, 0, 0, 0, 0, 0] false a_X11_feed.1.1)
set_option maxRecDepth 100000 in
theorem m_X11_feed : MetD wM n_X11_feed ci_X11_feed := g_meth false (a_X11_feed) rxM_ok (by decide) rfl rfl rfl (by decide) (by decide) (Or.inl ⟨rfl, rfl⟩) (fun h => by cases h) (mkWords (fun _ h => absurd h List.not_mem_nil) (fun _ h => absurd h List.not_mem_nil) (fun _ h => absurd h List.not_mem_nil) (List.forall_mem_cons.mpr ⟨⟨_, _, _, rfl, by decide, Or.inl fw_X11_9⟩, List.forall_mem_cons.mpr ⟨⟨_, _, _, rfl, by decide, Or.inl fw_X11_103⟩, fun _ h => absurd h List.not_mem_nil⟩⟩) (fun _ h => absurd h List.not_mem_nil) (fun _ h => absurd h List.not_mem_nil)) (List.forall_mem_cons.mpr ⟨clS m_X11_byteOf rfl (by decide) (Or.inl lw_X11_99) (kn_X11_byteOf _) (by decide +kernel), fun _ h => absurd h List.not_mem_nil⟩) (by decide +kernel)
/-! BlackMillModel.end(I)Z -/
noncomputable def mi_X11_end : MI := (cX11_end, 2, RX11, [], [], [], [(103, 11, 2)], [], [], [])
noncomputable def a_X11_end : St wM (mi_X11_end) 0 :=
  (sSeq (sIf (oOr (oCm0 .lt (eLoc 1)) (oCmp .gt (eLoc 1) (eFld 11 2 (eLoc 0)))) (sRet (eInt 0)))
  (sSeq (sPutF 11 2 (eLoc 0) (eLoc 1))
  (sRet (eInt 1))))
def n_X11_end : MN := (yX11_end, cX11_end, 2, (some .boolean), 1)
noncomputable def ci_X11_end : CI := (1, 11, [2, 0], 0, denM 2 [2, 0] true a_X11_end.1.1)
set_option maxRecDepth 100000 in
theorem m_X11_end : MetD wM n_X11_end ci_X11_end := g_meth true (a_X11_end) rxM_ok (by decide) rfl rfl rfl (by decide) (by decide) (Or.inr (Or.inl ⟨rfl, rfl⟩)) (fun _ => rfl) (mkWords (fun _ h => absurd h List.not_mem_nil) (fun _ h => absurd h List.not_mem_nil) (fun _ h => absurd h List.not_mem_nil) (List.forall_mem_cons.mpr ⟨⟨_, _, _, rfl, by decide, Or.inl fw_X11_103⟩, fun _ h => absurd h List.not_mem_nil⟩) (fun _ h => absurd h List.not_mem_nil) (fun _ h => absurd h List.not_mem_nil)) (fun _ h => absurd h List.not_mem_nil) (by decide +kernel)
/-! BlackMillModel.here()I -/
noncomputable def mi_X11_here : MI := (cX11_here, 1, RX11, [], [], [], [(9, 11, 1), (103, 11, 2), (106, 11, 3)], [], [], [])
noncomputable def a_X11_here : St wM (mi_X11_here) 0 :=
  (sRet (eCon (oCmp .lt (eFld 11 3 (eLoc 0)) (eFld 11 2 (eLoc 0))) (eAr 0 (eFld 11 1 (eLoc 0)) (eFld 11 3 (eLoc 0))) (eInt (-1))))
def n_X11_here : MN := (yX11_here, cX11_here, 1, (some .int), 1)
noncomputable def ci_X11_here : CI := (1, 11, [2], 0, denM 1 [2] false a_X11_here.1.1)
set_option maxRecDepth 100000 in
theorem m_X11_here : MetD wM n_X11_here ci_X11_here := g_meth false (a_X11_here) rxM_ok (by decide) rfl rfl rfl (by decide) (by decide) (Or.inl ⟨rfl, rfl⟩) (fun h => by cases h) (mkWords (fun _ h => absurd h List.not_mem_nil) (fun _ h => absurd h List.not_mem_nil) (fun _ h => absurd h List.not_mem_nil) (List.forall_mem_cons.mpr ⟨⟨_, _, _, rfl, by decide, Or.inl fw_X11_9⟩, List.forall_mem_cons.mpr ⟨⟨_, _, _, rfl, by decide, Or.inl fw_X11_103⟩, List.forall_mem_cons.mpr ⟨⟨_, _, _, rfl, by decide, Or.inl fw_X11_106⟩, fun _ h => absurd h List.not_mem_nil⟩⟩⟩) (fun _ h => absurd h List.not_mem_nil) (fun _ h => absurd h List.not_mem_nil)) (fun _ h => absurd h List.not_mem_nil) (by decide +kernel)
/-! BlackMillModel.look()I -/
noncomputable def mi_X11_look : MI := (cX11_look, 1, RX11, [], [], [], [(106, 11, 3)], [], [], [(109, ci_X11_here)])
noncomputable def a_X11_look : St wM (mi_X11_look) 0 :=
  (sSeq (sWh (oCmp .eq (eCal 109 ci_X11_here rfl (aA1 aA0 (eLoc 0))) (eInt 32)) (sUpdF 0 11 3 (eLoc 0) (eInt 1)))
  (sRet (eCal 109 ci_X11_here rfl (aA1 aA0 (eLoc 0)))))
def n_X11_look : MN := (yX11_look, cX11_look, 1, (some .int), 2)
noncomputable def ci_X11_look : CI := (1, 11, [2], 0, denM 1 [2] false a_X11_look.1.1)
set_option maxRecDepth 100000 in
theorem m_X11_look : MetD wM n_X11_look ci_X11_look := g_meth false (a_X11_look) rxM_ok (by decide) rfl rfl rfl (by decide) (by decide) (Or.inl ⟨rfl, rfl⟩) (fun h => by cases h) (mkWords (fun _ h => absurd h List.not_mem_nil) (fun _ h => absurd h List.not_mem_nil) (fun _ h => absurd h List.not_mem_nil) (List.forall_mem_cons.mpr ⟨⟨_, _, _, rfl, by decide, Or.inl fw_X11_106⟩, fun _ h => absurd h List.not_mem_nil⟩) (fun _ h => absurd h List.not_mem_nil) (fun _ h => absurd h List.not_mem_nil)) (List.forall_mem_cons.mpr ⟨clV m_X11_here rfl rfl rfl (by decide) (Or.inl lw_X11_109) (kn_X11_here _) (by decide +kernel), fun _ h => absurd h List.not_mem_nil⟩) (by decide +kernel)
/-! BlackMillModel.bad()V -/
noncomputable def mi_X11_bad : MI := (cX11_bad, 1, RX11, [], [], [], [(106, 11, 3), (113, 11, 4)], [], [], [])
noncomputable def a_X11_bad : St wM (mi_X11_bad) 3 :=
  (sSeq (sPutF 11 4 (eLoc 0) (eCon (oCmp .eq (eFld 11 4 (eLoc 0)) (eInt (-1))) (eFld 11 3 (eLoc 0)) (eFld 11 4 (eLoc 0))))
  sReV)
def n_X11_bad : MN := (yX11_bad, cX11_bad, 1, none, 1)
noncomputable def ci_X11_bad : CI := (1, 11, [2], 3, denM 1 [2] false a_X11_bad.1.1)
set_option maxRecDepth 100000 in
theorem m_X11_bad : MetD wM n_X11_bad ci_X11_bad := g_meth false (a_X11_bad) rxM_ok (by decide) rfl rfl rfl (by decide) (by decide) (Or.inr (Or.inr (Or.inr (Or.inr ⟨rfl, rfl⟩)))) (fun h => by cases h) (mkWords (fun _ h => absurd h List.not_mem_nil) (fun _ h => absurd h List.not_mem_nil) (fun _ h => absurd h List.not_mem_nil) (List.forall_mem_cons.mpr ⟨⟨_, _, _, rfl, by decide, Or.inl fw_X11_106⟩, List.forall_mem_cons.mpr ⟨⟨_, _, _, rfl, by decide, Or.inl fw_X11_113⟩, fun _ h => absurd h List.not_mem_nil⟩⟩) (fun _ h => absurd h List.not_mem_nil) (fun _ h => absurd h List.not_mem_nil)) (fun _ h => absurd h List.not_mem_nil) (by decide +kernel)
/-! BlackMillModel.isDigit(I)Z -/
noncomputable def mi_X11_isDigit : MI := (cX11_isDigit, 1, RX11, [], [], [], [], [], [], [])
noncomputable def a_X11_isDigit : St wM (mi_X11_isDigit) 0 :=
  (sRet (eBo (oAnd (oCmp .ge (eLoc 0) (eInt 48)) (oCmp .le (eLoc 0) (eInt 57)))))
def n_X11_isDigit : MN := (yX11_isDigit, cX11_isDigit, 1, (some .boolean), 1)
noncomputable def ci_X11_isDigit : CI := (0, 11, [0], 0, denM 1 [0] true a_X11_isDigit.1.1)
set_option maxRecDepth 100000 in
theorem m_X11_isDigit : MetD wM n_X11_isDigit ci_X11_isDigit := g_meth true (a_X11_isDigit) rxM_ok (by decide) rfl rfl rfl (by decide) (by decide) (Or.inr (Or.inl ⟨rfl, rfl⟩)) (fun _ => rfl) (mkWords (fun _ h => absurd h List.not_mem_nil) (fun _ h => absurd h List.not_mem_nil) (fun _ h => absurd h List.not_mem_nil) (fun _ h => absurd h List.not_mem_nil) (fun _ h => absurd h List.not_mem_nil) (fun _ h => absurd h List.not_mem_nil)) (fun _ h => absurd h List.not_mem_nil) (by decide +kernel)
/-! BlackMillModel.put(II)V -/
noncomputable def mi_X11_put : MI := (cX11_put, 3, RX11, [], [], [], [(13, 11, 6), (16, 11, 7), (19, 11, 8), (116, 11, 14)], [], [], [])
noncomputable def a_X11_put : St wM (mi_X11_put) 3 :=
  (sSeq (sSeq (sPutA 0 (eFld 11 6 (eLoc 0)) (eBin 0 (eBin 2 (eInt 520) (eFld 11 14 (eLoc 0))) (eAr 0 (eFld 11 8 (eLoc 0)) (eFld 11 14 (eLoc 0)))) (eLoc 1))
  (sSeq (sPutA 0 (eFld 11 7 (eLoc 0)) (eBin 0 (eBin 2 (eInt 520) (eFld 11 14 (eLoc 0))) (eAr 0 (eFld 11 8 (eLoc 0)) (eFld 11 14 (eLoc 0)))) (eLoc 2))
  (sUpdA 0 (eFld 11 8 (eLoc 0)) (eFld 11 14 (eLoc 0)) (eInt 1))))
  sReV)
def n_X11_put : MN := (yX11_put, cX11_put, 3, none, 1)
noncomputable def ci_X11_put : CI := (1, 11, [2, 0, 0], 3, denM 3 [2, 0, 0] false a_X11_put.1.1)
set_option maxRecDepth 100000 in
theorem m_X11_put : MetD wM n_X11_put ci_X11_put := g_meth false (a_X11_put) rxM_ok (by decide) rfl rfl rfl (by decide) (by decide) (Or.inr (Or.inr (Or.inr (Or.inr ⟨rfl, rfl⟩)))) (fun h => by cases h) (mkWords (fun _ h => absurd h List.not_mem_nil) (fun _ h => absurd h List.not_mem_nil) (fun _ h => absurd h List.not_mem_nil) (List.forall_mem_cons.mpr ⟨⟨_, _, _, rfl, by decide, Or.inl fw_X11_13⟩, List.forall_mem_cons.mpr ⟨⟨_, _, _, rfl, by decide, Or.inl fw_X11_16⟩, List.forall_mem_cons.mpr ⟨⟨_, _, _, rfl, by decide, Or.inl fw_X11_19⟩, List.forall_mem_cons.mpr ⟨⟨_, _, _, rfl, by decide, Or.inl fw_X11_116⟩, fun _ h => absurd h List.not_mem_nil⟩⟩⟩⟩) (fun _ h => absurd h List.not_mem_nil) (fun _ h => absurd h List.not_mem_nil)) (fun _ h => absurd h List.not_mem_nil) (by decide +kernel)
/-! BlackMillModel.letterOf(I)I -/
noncomputable def mi_X11_letterOf : MI := (cX11_letterOf, 1, RX11, [], [], [], [], [], [], [])
noncomputable def a_X11_letterOf : St wM (mi_X11_letterOf) 0 :=
  (sRet (eCon (oCmp .eq (eLoc 0) (eInt 97)) (eInt 0) (eCon (oCmp .eq (eLoc 0) (eInt 115)) (eInt 1) (eCon (oCmp .eq (eLoc 0) (eInt 107)) (eInt 2) (eCon (oCmp .eq (eLoc 0) (eInt 111)) (eInt 3) (eCon (oCmp .eq (eLoc 0) (eInt 121)) (eInt 4) (eCon (oCmp .eq (eLoc 0) (eInt 110)) (eInt 5) (eInt (-1)))))))))
def n_X11_letterOf : MN := (yX11_letterOf, cX11_letterOf, 1, (some .int), 1)
noncomputable def ci_X11_letterOf : CI := (0, 11, [0], 0, denM 1 [0] false a_X11_letterOf.1.1)
set_option maxRecDepth 100000 in
theorem m_X11_letterOf : MetD wM n_X11_letterOf ci_X11_letterOf := g_meth false (a_X11_letterOf) rxM_ok (by decide) rfl rfl rfl (by decide) (by decide) (Or.inl ⟨rfl, rfl⟩) (fun h => by cases h) (mkWords (fun _ h => absurd h List.not_mem_nil) (fun _ h => absurd h List.not_mem_nil) (fun _ h => absurd h List.not_mem_nil) (fun _ h => absurd h List.not_mem_nil) (fun _ h => absurd h List.not_mem_nil) (fun _ h => absurd h List.not_mem_nil)) (fun _ h => absurd h List.not_mem_nil) (by decide +kernel)
/-! BlackMillModel.opens()V -/
noncomputable def mi_X11_opens : MI := (cX11_opens, 1, RX11, [], [], [], [(106, 11, 3), (119, 11, 5)], [], [], [(122, ci_X11_bad)])
noncomputable def a_X11_opens : St wM (mi_X11_opens) 3 :=
  (sSeq (sSeq (sIf (oCmp .eq (eFld 11 5 (eLoc 0)) (eInt 6)) (sDo 122 ci_X11_bad rfl (aA1 aA0 (eLoc 0))))
  (sSeq (sUpdF 0 11 5 (eLoc 0) (eInt 1))
  (sUpdF 0 11 3 (eLoc 0) (eInt 1))))
  sReV)
def n_X11_opens : MN := (yX11_opens, cX11_opens, 1, none, 2)
noncomputable def ci_X11_opens : CI := (1, 11, [2], 3, denM 1 [2] false a_X11_opens.1.1)
set_option maxRecDepth 100000 in
theorem m_X11_opens : MetD wM n_X11_opens ci_X11_opens := g_meth false (a_X11_opens) rxM_ok (by decide) rfl rfl rfl (by decide) (by decide) (Or.inr (Or.inr (Or.inr (Or.inr ⟨rfl, rfl⟩)))) (fun h => by cases h) (mkWords (fun _ h => absurd h List.not_mem_nil) (fun _ h => absurd h List.not_mem_nil) (fun _ h => absurd h List.not_mem_nil) (List.forall_mem_cons.mpr ⟨⟨_, _, _, rfl, by decide, Or.inl fw_X11_106⟩, List.forall_mem_cons.mpr ⟨⟨_, _, _, rfl, by decide, Or.inl fw_X11_119⟩, fun _ h => absurd h List.not_mem_nil⟩⟩) (fun _ h => absurd h List.not_mem_nil) (fun _ h => absurd h List.not_mem_nil)) (List.forall_mem_cons.mpr ⟨clV m_X11_bad rfl rfl rfl (by decide) (Or.inl lw_X11_122) (kn_X11_bad _) (by decide +kernel), fun _ h => absurd h List.not_mem_nil⟩) (by decide +kernel)
/-! BlackMillModel.closes(I)V -/
noncomputable def mi_X11_closes : MI := (cX11_closes, 2, RX11, [], [], [], [(106, 11, 3), (113, 11, 4), (119, 11, 5)], [], [], [(122, ci_X11_bad), (125, ci_X11_look)])
noncomputable def a_X11_closes : St wM (mi_X11_closes) 3 :=
  (sSeq (sSeq (sIf (oAnd (oCmp .eq (eFld 11 4 (eLoc 0)) (eInt (-1))) (oCmp .ne (eCal 125 ci_X11_look rfl (aA1 aA0 (eLoc 0))) (eLoc 1))) (sDo 122 ci_X11_bad rfl (aA1 aA0 (eLoc 0))))
  (sSeq (sUpdF 0 11 3 (eLoc 0) (eInt 1))
  (sUpdF 1 11 5 (eLoc 0) (eInt 1))))
  sReV)
def n_X11_closes : MN := (yX11_closes, cX11_closes, 2, none, 3)
noncomputable def ci_X11_closes : CI := (1, 11, [2, 0], 3, denM 2 [2, 0] false a_X11_closes.1.1)
set_option maxRecDepth 100000 in
theorem m_X11_closes : MetD wM n_X11_closes ci_X11_closes := g_meth false (a_X11_closes) rxM_ok (by decide) rfl rfl rfl (by decide) (by decide) (Or.inr (Or.inr (Or.inr (Or.inr ⟨rfl, rfl⟩)))) (fun h => by cases h) (mkWords (fun _ h => absurd h List.not_mem_nil) (fun _ h => absurd h List.not_mem_nil) (fun _ h => absurd h List.not_mem_nil) (List.forall_mem_cons.mpr ⟨⟨_, _, _, rfl, by decide, Or.inl fw_X11_106⟩, List.forall_mem_cons.mpr ⟨⟨_, _, _, rfl, by decide, Or.inl fw_X11_113⟩, List.forall_mem_cons.mpr ⟨⟨_, _, _, rfl, by decide, Or.inl fw_X11_119⟩, fun _ h => absurd h List.not_mem_nil⟩⟩⟩) (fun _ h => absurd h List.not_mem_nil) (fun _ h => absurd h List.not_mem_nil)) (List.forall_mem_cons.mpr ⟨clV m_X11_bad rfl rfl rfl (by decide) (Or.inl lw_X11_122) (kn_X11_bad _) (by decide +kernel), List.forall_mem_cons.mpr ⟨clV m_X11_look rfl rfl rfl (by decide) (Or.inl lw_X11_125) (kn_X11_look _) (by decide +kernel), fun _ h => absurd h List.not_mem_nil⟩⟩) (by decide +kernel)
/-! BlackMillModel.plainNumber()I -/
noncomputable def mi_X11_plainNumber : MI := (cX11_plainNumber, 3, RX11, [], [], [], [(106, 11, 3)], [], [], [(109, ci_X11_here), (122, ci_X11_bad), (128, ci_X11_isDigit)])
noncomputable def a_X11_plainNumber : St wM (mi_X11_plainNumber) 0 :=
  (sSeq (sSet 1 (eInt 0))
  (sSeq (sSet 2 (eInt 0))
  (sSeq (sWh (oAnd (oCmp .lt (eLoc 2) (eInt 4)) (oCm0 .ne (eCal 128 ci_X11_isDigit rfl (aA1 aA0 (eCal 109 ci_X11_here rfl (aA1 aA0 (eLoc 0))))))) (sSeq (sSet 1 (eBin 1 (eBin 0 (eBin 2 (eInt 10) (eLoc 1)) (eCal 109 ci_X11_here rfl (aA1 aA0 (eLoc 0)))) (eInt 48)))
  (sSeq (sUpdF 0 11 3 (eLoc 0) (eInt 1))
  (sInc 2 1))))
  (sSeq (sIf (oCm0 .ne (eCal 128 ci_X11_isDigit rfl (aA1 aA0 (eCal 109 ci_X11_here rfl (aA1 aA0 (eLoc 0)))))) (sDo 122 ci_X11_bad rfl (aA1 aA0 (eLoc 0))))
  (sRet (eLoc 1))))))
def n_X11_plainNumber : MN := (yX11_plainNumber, cX11_plainNumber, 3, (some .int), 2)
noncomputable def ci_X11_plainNumber : CI := (1, 11, [2], 0, denM 3 [2] false a_X11_plainNumber.1.1)
set_option maxRecDepth 100000 in
theorem m_X11_plainNumber : MetD wM n_X11_plainNumber ci_X11_plainNumber := g_meth false (a_X11_plainNumber) rxM_ok (by decide) rfl rfl rfl (by decide) (by decide) (Or.inl ⟨rfl, rfl⟩) (fun h => by cases h) (mkWords (fun _ h => absurd h List.not_mem_nil) (fun _ h => absurd h List.not_mem_nil) (fun _ h => absurd h List.not_mem_nil) (List.forall_mem_cons.mpr ⟨⟨_, _, _, rfl, by decide, Or.inl fw_X11_106⟩, fun _ h => absurd h List.not_mem_nil⟩) (fun _ h => absurd h List.not_mem_nil) (fun _ h => absurd h List.not_mem_nil)) (List.forall_mem_cons.mpr ⟨clV m_X11_here rfl rfl rfl (by decide) (Or.inl lw_X11_109) (kn_X11_here _) (by decide +kernel), List.forall_mem_cons.mpr ⟨clV m_X11_bad rfl rfl rfl (by decide) (Or.inl lw_X11_122) (kn_X11_bad _) (by decide +kernel), List.forall_mem_cons.mpr ⟨clS m_X11_isDigit rfl (by decide) (Or.inl lw_X11_128) (kn_X11_isDigit _) (by decide +kernel), fun _ h => absurd h List.not_mem_nil⟩⟩⟩) (by decide +kernel)
/-! BlackMillModel.atom()V, BlackMillModel.sum()V, BlackMillModel.term()V -/
def ci_X11_atom (D : Nat → Den) : CI := (1, 11, [2], 3, D 0)
def ci_X11_sum (D : Nat → Den) : CI := (1, 11, [2], 3, D 1)
def ci_X11_term (D : Nat → Den) : CI := (1, 11, [2], 3, D 2)
noncomputable def mi_X11_atom (D : Nat → Den) : MI := (cX11_atom, 2, RX11, [], [], [], [(106, 11, 3), (113, 11, 4)], [], [], [(122, ci_X11_bad), (125, ci_X11_look), (128, ci_X11_isDigit), (132, ci_X11_plainNumber), (135, ci_X11_put), (139, ci_X11_letterOf), (143, ci_X11_opens), (146, (ci_X11_sum D)), (149, ci_X11_closes)])
noncomputable def a_X11_atom (D : Nat → Den) : St wM (mi_X11_atom D) 3 :=
  (sSeq (sSeq (sSet 1 (eCal 125 ci_X11_look rfl (aA1 aA0 (eLoc 0))))
  (sIfE (oCm0 .ne (eCal 128 ci_X11_isDigit rfl (aA1 aA0 (eLoc 1)))) (sDo 135 ci_X11_put rfl (aA1 (aA1 (aA1 aA0 (eLoc 0)) (eInt 0)) (eCal 132 ci_X11_plainNumber rfl (aA1 aA0 (eLoc 0)))))
  (sIfE (oCmp .ne (eCal 139 ci_X11_letterOf rfl (aA1 aA0 (eLoc 1))) (eInt (-1))) (sSeq (sUpdF 0 11 3 (eLoc 0) (eInt 1))
  (sDo 135 ci_X11_put rfl (aA1 (aA1 (aA1 aA0 (eLoc 0)) (eInt 1)) (eCal 139 ci_X11_letterOf rfl (aA1 aA0 (eLoc 1))))))
  (sIfE (oCmp .eq (eLoc 1) (eInt 91)) (sSeq (sDo 143 ci_X11_opens rfl (aA1 aA0 (eLoc 0)))
  (sIf (oCmp .eq (eFld 11 4 (eLoc 0)) (eInt (-1))) (sSeq (sDo 146 (ci_X11_sum D) rfl (aA1 aA0 (eLoc 0)))
  (sDo 149 ci_X11_closes rfl (aA1 (aA1 aA0 (eLoc 0)) (eInt 93))))))
  (sDo 122 ci_X11_bad rfl (aA1 aA0 (eLoc 0)))))))
  sReV)
def n_X11_atom (h : Nat) : MN := (yX11_atom, cX11_atom, 2, none, h)
noncomputable def mi_X11_sum (D : Nat → Den) : MI := (cX11_sum, 2, RX11, [], [], [], [(106, 11, 3), (113, 11, 4)], [], [], [(125, ci_X11_look), (135, ci_X11_put), (156, (ci_X11_term D))])
noncomputable def a_X11_sum (D : Nat → Den) : St wM (mi_X11_sum D) 3 :=
  (sSeq (sSeq (sDo 156 (ci_X11_term D) rfl (aA1 aA0 (eLoc 0)))
  (sSeq (sSet 1 (eCon (oCmp .eq (eFld 11 4 (eLoc 0)) (eInt (-1))) (eCal 125 ci_X11_look rfl (aA1 aA0 (eLoc 0))) (eInt (-1))))
  (sWh (oOr (oCmp .eq (eLoc 1) (eInt 43)) (oCmp .eq (eLoc 1) (eInt 45))) (sSeq (sUpdF 0 11 3 (eLoc 0) (eInt 1))
  (sSeq (sDo 156 (ci_X11_term D) rfl (aA1 aA0 (eLoc 0)))
  (sSeq (sDo 135 ci_X11_put rfl (aA1 (aA1 (aA1 aA0 (eLoc 0)) (eCon (oCmp .eq (eLoc 1) (eInt 43)) (eInt 2) (eInt 3))) (eInt 0)))
  (sSet 1 (eCon (oCmp .eq (eFld 11 4 (eLoc 0)) (eInt (-1))) (eCal 125 ci_X11_look rfl (aA1 aA0 (eLoc 0))) (eInt (-1))))))))))
  sReV)
def n_X11_sum (h : Nat) : MN := (yX11_sum, cX11_sum, 2, none, h)
noncomputable def mi_X11_term (D : Nat → Den) : MI := (cX11_term, 2, RX11, [], [], [], [(106, 11, 3), (113, 11, 4)], [], [], [(125, ci_X11_look), (135, ci_X11_put), (153, (ci_X11_atom D))])
noncomputable def a_X11_term (D : Nat → Den) : St wM (mi_X11_term D) 3 :=
  (sSeq (sSeq (sDo 153 (ci_X11_atom D) rfl (aA1 aA0 (eLoc 0)))
  (sSeq (sSet 1 (eCon (oCmp .eq (eFld 11 4 (eLoc 0)) (eInt (-1))) (eCal 125 ci_X11_look rfl (aA1 aA0 (eLoc 0))) (eInt (-1))))
  (sWh (oOr (oCmp .eq (eLoc 1) (eInt 42)) (oCmp .eq (eLoc 1) (eInt 47))) (sSeq (sUpdF 0 11 3 (eLoc 0) (eInt 1))
  (sSeq (sDo 153 (ci_X11_atom D) rfl (aA1 aA0 (eLoc 0)))
  (sSeq (sDo 135 ci_X11_put rfl (aA1 (aA1 (aA1 aA0 (eLoc 0)) (eCon (oCmp .eq (eLoc 1) (eInt 42)) (eInt 4) (eInt 5))) (eInt 0)))
  (sSet 1 (eCon (oCmp .eq (eFld 11 4 (eLoc 0)) (eInt (-1))) (eCal 125 ci_X11_look rfl (aA1 aA0 (eLoc 0))) (eInt (-1))))))))))
  sReV)
def n_X11_term (h : Nat) : MN := (yX11_term, cX11_term, 2, none, h)
noncomputable def grp_X11_sum : Nat → Nat → Den
  | 0 => fun _ _ _ => none
  | d + 1 => fun k => match k with
    | 0 => denM 2 [2] false (a_X11_atom (grp_X11_sum d)).1.1
    | 1 => denM 2 [2] false (a_X11_sum (grp_X11_sum d)).1.1
    | 2 => denM 2 [2] false (a_X11_term (grp_X11_sum d)).1.1
    | _ => fun _ _ => none
set_option maxRecDepth 100000 in
theorem kc_X11_atom : ∀ d, d < 24 → chkM (a_X11_atom (grp_X11_sum d)).1.2 (layT 2 [2]) = true := by decide +kernel
set_option maxRecDepth 100000 in
theorem kc_X11_sum : ∀ d, d < 24 → chkM (a_X11_sum (grp_X11_sum d)).1.2 (layT 2 [2]) = true := by decide +kernel
set_option maxRecDepth 100000 in
theorem kc_X11_term : ∀ d, d < 24 → chkM (a_X11_term (grp_X11_sum d)).1.2 (layT 2 [2]) = true := by decide +kernel
set_option maxRecDepth 100000 in
theorem m_grp_X11_sum : ∀ d : Nat, d ≤ 24 → MetD wM (n_X11_atom (4 + d)) (ci_X11_atom (grp_X11_sum d)) ∧ MetD wM (n_X11_sum (4 + d)) (ci_X11_sum (grp_X11_sum d)) ∧ MetD wM (n_X11_term (4 + d)) (ci_X11_term (grp_X11_sum d))
  | 0, _ => ⟨met_none (fun _ _ => rfl), met_none (fun _ _ => rfl), met_none (fun _ _ => rfl)⟩
  | d + 1, h => by
    have ih := m_grp_X11_sum d (Nat.le_of_succ_le h)
    exact ⟨g_meth false (a_X11_atom (grp_X11_sum d)) rxM_ok pn_X11 rfl rfl rfl (Nat.le_add_left 1 _) (Nat.le_of_ble_eq_true rfl) (Or.inr (Or.inr (Or.inr (Or.inr ⟨rfl, rfl⟩)))) (fun h => by cases h) (mkWords (fun _ h => absurd h List.not_mem_nil) (fun _ h => absurd h List.not_mem_nil) (fun _ h => absurd h List.not_mem_nil) (List.forall_mem_cons.mpr ⟨⟨_, _, _, rfl, by decide, Or.inl fw_X11_106⟩, List.forall_mem_cons.mpr ⟨⟨_, _, _, rfl, by decide, Or.inl fw_X11_113⟩, fun _ h => absurd h List.not_mem_nil⟩⟩) (fun _ h => absurd h List.not_mem_nil) (fun _ h => absurd h List.not_mem_nil)) (List.forall_mem_cons.mpr ⟨clV m_X11_bad rfl rfl rfl (Nat.le_add_right_of_le (by decide)) (Or.inl lw_X11_122) (kn_X11_bad _) pd_X11_bad, List.forall_mem_cons.mpr ⟨clV m_X11_look rfl rfl rfl (Nat.le_add_right_of_le (by decide)) (Or.inl lw_X11_125) (kn_X11_look _) pd_X11_look, List.forall_mem_cons.mpr ⟨clS m_X11_isDigit rfl (Nat.le_add_right_of_le (by decide)) (Or.inl lw_X11_128) (kn_X11_isDigit _) pd_X11_isDigit, List.forall_mem_cons.mpr ⟨clV m_X11_plainNumber rfl rfl rfl (Nat.le_add_right_of_le (by decide)) (Or.inl lw_X11_132) (kn_X11_plainNumber _) pd_X11_plainNumber, List.forall_mem_cons.mpr ⟨clV m_X11_put rfl rfl rfl (Nat.le_add_right_of_le (by decide)) (Or.inl lw_X11_135) (kn_X11_put _) pd_X11_put, List.forall_mem_cons.mpr ⟨clS m_X11_letterOf rfl (Nat.le_add_right_of_le (by decide)) (Or.inl lw_X11_139) (kn_X11_letterOf _) pd_X11_letterOf, List.forall_mem_cons.mpr ⟨clV m_X11_opens rfl rfl rfl (Nat.le_add_right_of_le (by decide)) (Or.inl lw_X11_143) (kn_X11_opens _) pd_X11_opens, List.forall_mem_cons.mpr ⟨clV ih.2.1 rfl rfl rfl (Nat.le_refl _) (Or.inl lw_X11_146) (kn_X11_sum _) pd_X11_sum, List.forall_mem_cons.mpr ⟨clV m_X11_closes rfl rfl rfl (Nat.le_add_right_of_le (by decide)) (Or.inl lw_X11_149) (kn_X11_closes _) pd_X11_closes, fun _ h => absurd h List.not_mem_nil⟩⟩⟩⟩⟩⟩⟩⟩⟩) (kc_X11_atom d h),
      g_meth false (a_X11_sum (grp_X11_sum d)) rxM_ok pn_X11 rfl rfl rfl (Nat.le_add_left 1 _) (Nat.le_of_ble_eq_true rfl) (Or.inr (Or.inr (Or.inr (Or.inr ⟨rfl, rfl⟩)))) (fun h => by cases h) (mkWords (fun _ h => absurd h List.not_mem_nil) (fun _ h => absurd h List.not_mem_nil) (fun _ h => absurd h List.not_mem_nil) (List.forall_mem_cons.mpr ⟨⟨_, _, _, rfl, by decide, Or.inl fw_X11_106⟩, List.forall_mem_cons.mpr ⟨⟨_, _, _, rfl, by decide, Or.inl fw_X11_113⟩, fun _ h => absurd h List.not_mem_nil⟩⟩) (fun _ h => absurd h List.not_mem_nil) (fun _ h => absurd h List.not_mem_nil)) (List.forall_mem_cons.mpr ⟨clV m_X11_look rfl rfl rfl (Nat.le_add_right_of_le (by decide)) (Or.inl lw_X11_125) (kn_X11_look _) pd_X11_look, List.forall_mem_cons.mpr ⟨clV m_X11_put rfl rfl rfl (Nat.le_add_right_of_le (by decide)) (Or.inl lw_X11_135) (kn_X11_put _) pd_X11_put, List.forall_mem_cons.mpr ⟨clV ih.2.2 rfl rfl rfl (Nat.le_refl _) (Or.inl lw_X11_156) (kn_X11_term _) pd_X11_term, fun _ h => absurd h List.not_mem_nil⟩⟩⟩) (kc_X11_sum d h),
      g_meth false (a_X11_term (grp_X11_sum d)) rxM_ok pn_X11 rfl rfl rfl (Nat.le_add_left 1 _) (Nat.le_of_ble_eq_true rfl) (Or.inr (Or.inr (Or.inr (Or.inr ⟨rfl, rfl⟩)))) (fun h => by cases h) (mkWords (fun _ h => absurd h List.not_mem_nil) (fun _ h => absurd h List.not_mem_nil) (fun _ h => absurd h List.not_mem_nil) (List.forall_mem_cons.mpr ⟨⟨_, _, _, rfl, by decide, Or.inl fw_X11_106⟩, List.forall_mem_cons.mpr ⟨⟨_, _, _, rfl, by decide, Or.inl fw_X11_113⟩, fun _ h => absurd h List.not_mem_nil⟩⟩) (fun _ h => absurd h List.not_mem_nil) (fun _ h => absurd h List.not_mem_nil)) (List.forall_mem_cons.mpr ⟨clV m_X11_look rfl rfl rfl (Nat.le_add_right_of_le (by decide)) (Or.inl lw_X11_125) (kn_X11_look _) pd_X11_look, List.forall_mem_cons.mpr ⟨clV m_X11_put rfl rfl rfl (Nat.le_add_right_of_le (by decide)) (Or.inl lw_X11_135) (kn_X11_put _) pd_X11_put, List.forall_mem_cons.mpr ⟨clV ih.1 rfl rfl rfl (Nat.le_refl _) (Or.inl lw_X11_153) (kn_X11_atom _) pd_X11_atom, fun _ h => absurd h List.not_mem_nil⟩⟩⟩) (kc_X11_term d h)⟩
/-! BlackMillModel.isSign(I)Z -/
noncomputable def mi_X11_isSign : MI := (cX11_isSign, 1, RX11, [], [], [], [], [], [], [])
noncomputable def a_X11_isSign : St wM (mi_X11_isSign) 0 :=
  (sRet (eBo (oOr (oOr (oCmp .eq (eLoc 0) (eInt 61)) (oCmp .eq (eLoc 0) (eInt 60))) (oCmp .eq (eLoc 0) (eInt 62)))))
def n_X11_isSign : MN := (yX11_isSign, cX11_isSign, 1, (some .boolean), 1)
noncomputable def ci_X11_isSign : CI := (0, 11, [0], 0, denM 1 [0] true a_X11_isSign.1.1)
set_option maxRecDepth 100000 in
theorem m_X11_isSign : MetD wM n_X11_isSign ci_X11_isSign := g_meth true (a_X11_isSign) rxM_ok (by decide) rfl rfl rfl (by decide) (by decide) (Or.inr (Or.inl ⟨rfl, rfl⟩)) (fun _ => rfl) (mkWords (fun _ h => absurd h List.not_mem_nil) (fun _ h => absurd h List.not_mem_nil) (fun _ h => absurd h List.not_mem_nil) (fun _ h => absurd h List.not_mem_nil) (fun _ h => absurd h List.not_mem_nil) (fun _ h => absurd h List.not_mem_nil)) (fun _ h => absurd h List.not_mem_nil) (by decide +kernel)
/-! BlackMillModel.compare()V -/
noncomputable def mi_X11_compare : MI := (cX11_compare, 2, RX11, [], [], [], [(106, 11, 3), (113, 11, 4)], [], [], [(122, ci_X11_bad), (125, ci_X11_look), (135, ci_X11_put), (146, (ci_X11_sum (grp_X11_sum 24))), (159, ci_X11_isSign)])
noncomputable def a_X11_compare : St wM (mi_X11_compare) 3 :=
  (sSeq (sSeq (sSet 1 (eCon (oCmp .eq (eFld 11 4 (eLoc 0)) (eInt (-1))) (eCal 125 ci_X11_look rfl (aA1 aA0 (eLoc 0))) (eInt (-1))))
  (sSeq (sIf (oNot (oCm0 .ne (eCal 159 ci_X11_isSign rfl (aA1 aA0 (eLoc 1))))) (sSeq (sDo 122 ci_X11_bad rfl (aA1 aA0 (eLoc 0)))
  sReV))
  (sSeq (sUpdF 0 11 3 (eLoc 0) (eInt 1))
  (sSeq (sDo 146 (ci_X11_sum (grp_X11_sum 24)) rfl (aA1 aA0 (eLoc 0)))
  (sDo 135 ci_X11_put rfl (aA1 (aA1 (aA1 aA0 (eLoc 0)) (eCon (oCmp .eq (eLoc 1) (eInt 61)) (eInt 6) (eCon (oCmp .eq (eLoc 1) (eInt 60)) (eInt 7) (eInt 8)))) (eInt 0)))))))
  sReV)
def n_X11_compare : MN := (yX11_compare, cX11_compare, 2, none, 29)
noncomputable def ci_X11_compare : CI := (1, 11, [2], 3, denM 2 [2] false a_X11_compare.1.1)
set_option maxRecDepth 100000 in
theorem m_X11_compare : MetD wM n_X11_compare ci_X11_compare := g_meth false (a_X11_compare) rxM_ok (by decide) rfl rfl rfl (by decide) (by decide) (Or.inr (Or.inr (Or.inr (Or.inr ⟨rfl, rfl⟩)))) (fun h => by cases h) (mkWords (fun _ h => absurd h List.not_mem_nil) (fun _ h => absurd h List.not_mem_nil) (fun _ h => absurd h List.not_mem_nil) (List.forall_mem_cons.mpr ⟨⟨_, _, _, rfl, by decide, Or.inl fw_X11_106⟩, List.forall_mem_cons.mpr ⟨⟨_, _, _, rfl, by decide, Or.inl fw_X11_113⟩, fun _ h => absurd h List.not_mem_nil⟩⟩) (fun _ h => absurd h List.not_mem_nil) (fun _ h => absurd h List.not_mem_nil)) (List.forall_mem_cons.mpr ⟨clV m_X11_bad rfl rfl rfl (by decide) (Or.inl lw_X11_122) (kn_X11_bad _) (by decide +kernel), List.forall_mem_cons.mpr ⟨clV m_X11_look rfl rfl rfl (by decide) (Or.inl lw_X11_125) (kn_X11_look _) (by decide +kernel), List.forall_mem_cons.mpr ⟨clV m_X11_put rfl rfl rfl (by decide) (Or.inl lw_X11_135) (kn_X11_put _) (by decide +kernel), List.forall_mem_cons.mpr ⟨clV (m_grp_X11_sum 24 (Nat.le_refl _)).2.1 rfl rfl rfl (by decide) (Or.inl lw_X11_146) (kn_X11_sum _) (by decide +kernel), List.forall_mem_cons.mpr ⟨clS m_X11_isSign rfl (by decide) (Or.inl lw_X11_159) (kn_X11_isSign _) (by decide +kernel), fun _ h => absurd h List.not_mem_nil⟩⟩⟩⟩⟩) (by decide +kernel)
/-! BlackMillModel.condition()V, BlackMillModel.goOnAnd()V, BlackMillModel.goOnOr()V, BlackMillModel.unit()V -/
def ci_X11_condition (D : Nat → Den) : CI := (1, 11, [2], 3, D 0)
def ci_X11_goOnAnd (D : Nat → Den) : CI := (1, 11, [2], 3, D 1)
def ci_X11_goOnOr (D : Nat → Den) : CI := (1, 11, [2], 3, D 2)
def ci_X11_unit (D : Nat → Den) : CI := (1, 11, [2], 3, D 3)
noncomputable def mi_X11_condition (D : Nat → Den) : MI := (cX11_condition, 1, RX11, [], [], [], [], [], [], [(162, (ci_X11_unit D)), (171, (ci_X11_goOnAnd D)), (174, (ci_X11_goOnOr D))])
noncomputable def a_X11_condition (D : Nat → Den) : St wM (mi_X11_condition D) 3 :=
  (sSeq (sSeq (sDo 162 (ci_X11_unit D) rfl (aA1 aA0 (eLoc 0)))
  (sSeq (sDo 171 (ci_X11_goOnAnd D) rfl (aA1 aA0 (eLoc 0)))
  (sDo 174 (ci_X11_goOnOr D) rfl (aA1 aA0 (eLoc 0)))))
  sReV)
def n_X11_condition (h : Nat) : MN := (yX11_condition, cX11_condition, 1, none, h)
noncomputable def mi_X11_goOnAnd (D : Nat → Den) : MI := (cX11_goOnAnd, 1, RX11, [], [], [], [(106, 11, 3), (113, 11, 4)], [], [], [(125, ci_X11_look), (135, ci_X11_put), (162, (ci_X11_unit D))])
noncomputable def a_X11_goOnAnd (D : Nat → Den) : St wM (mi_X11_goOnAnd D) 3 :=
  (sSeq (sWh (oAnd (oCmp .eq (eFld 11 4 (eLoc 0)) (eInt (-1))) (oCmp .eq (eCal 125 ci_X11_look rfl (aA1 aA0 (eLoc 0))) (eInt 38))) (sSeq (sUpdF 0 11 3 (eLoc 0) (eInt 1))
  (sSeq (sDo 162 (ci_X11_unit D) rfl (aA1 aA0 (eLoc 0)))
  (sDo 135 ci_X11_put rfl (aA1 (aA1 (aA1 aA0 (eLoc 0)) (eInt 10)) (eInt 0))))))
  sReV)
def n_X11_goOnAnd (h : Nat) : MN := (yX11_goOnAnd, cX11_goOnAnd, 1, none, h)
noncomputable def mi_X11_goOnOr (D : Nat → Den) : MI := (cX11_goOnOr, 1, RX11, [], [], [], [(106, 11, 3), (113, 11, 4)], [], [], [(125, ci_X11_look), (135, ci_X11_put), (162, (ci_X11_unit D)), (171, (ci_X11_goOnAnd D))])
noncomputable def a_X11_goOnOr (D : Nat → Den) : St wM (mi_X11_goOnOr D) 3 :=
  (sSeq (sWh (oAnd (oCmp .eq (eFld 11 4 (eLoc 0)) (eInt (-1))) (oCmp .eq (eCal 125 ci_X11_look rfl (aA1 aA0 (eLoc 0))) (eInt 124))) (sSeq (sUpdF 0 11 3 (eLoc 0) (eInt 1))
  (sSeq (sDo 162 (ci_X11_unit D) rfl (aA1 aA0 (eLoc 0)))
  (sSeq (sDo 171 (ci_X11_goOnAnd D) rfl (aA1 aA0 (eLoc 0)))
  (sDo 135 ci_X11_put rfl (aA1 (aA1 (aA1 aA0 (eLoc 0)) (eInt 11)) (eInt 0)))))))
  sReV)
def n_X11_goOnOr (h : Nat) : MN := (yX11_goOnOr, cX11_goOnOr, 1, none, h)
noncomputable def mi_X11_unit (D : Nat → Den) : MI := (cX11_unit, 2, RX11, [], [], [], [(113, 11, 4), (119, 11, 5)], [], [], [(125, ci_X11_look), (135, ci_X11_put), (143, ci_X11_opens), (146, (ci_X11_sum (grp_X11_sum 24))), (149, ci_X11_closes), (162, (ci_X11_unit D)), (165, (ci_X11_condition D)), (168, ci_X11_compare)])
noncomputable def a_X11_unit (D : Nat → Den) : St wM (mi_X11_unit D) 3 :=
  (sSeq (sSeq (sSet 1 (eCal 125 ci_X11_look rfl (aA1 aA0 (eLoc 0))))
  (sIfE (oCmp .eq (eLoc 1) (eInt 33)) (sSeq (sDo 143 ci_X11_opens rfl (aA1 aA0 (eLoc 0)))
  (sIf (oCmp .eq (eFld 11 4 (eLoc 0)) (eInt (-1))) (sSeq (sDo 162 (ci_X11_unit D) rfl (aA1 aA0 (eLoc 0)))
  (sSeq (sDo 135 ci_X11_put rfl (aA1 (aA1 (aA1 aA0 (eLoc 0)) (eInt 9)) (eInt 0)))
  (sUpdF 1 11 5 (eLoc 0) (eInt 1))))))
  (sIfE (oCmp .eq (eLoc 1) (eInt 40)) (sSeq (sDo 143 ci_X11_opens rfl (aA1 aA0 (eLoc 0)))
  (sIf (oCmp .eq (eFld 11 4 (eLoc 0)) (eInt (-1))) (sSeq (sDo 165 (ci_X11_condition D) rfl (aA1 aA0 (eLoc 0)))
  (sDo 149 ci_X11_closes rfl (aA1 (aA1 aA0 (eLoc 0)) (eInt 41))))))
  (sSeq (sDo 146 (ci_X11_sum (grp_X11_sum 24)) rfl (aA1 aA0 (eLoc 0)))
  (sIf (oCmp .eq (eFld 11 4 (eLoc 0)) (eInt (-1))) (sDo 168 ci_X11_compare rfl (aA1 aA0 (eLoc 0))))))))
  sReV)
def n_X11_unit (h : Nat) : MN := (yX11_unit, cX11_unit, 2, none, h)
noncomputable def grp_X11_condition : Nat → Nat → Den
  | 0 => fun _ _ _ => none
  | d + 1 => fun k => match k with
    | 0 => denM 1 [2] false (a_X11_condition (grp_X11_condition d)).1.1
    | 1 => denM 1 [2] false (a_X11_goOnAnd (grp_X11_condition d)).1.1
    | 2 => denM 1 [2] false (a_X11_goOnOr (grp_X11_condition d)).1.1
    | 3 => denM 2 [2] false (a_X11_unit (grp_X11_condition d)).1.1
    | _ => fun _ _ => none
set_option maxRecDepth 100000 in
theorem kc_X11_condition : ∀ d, d < 30 → chkM (a_X11_condition (grp_X11_condition d)).1.2 (layT 1 [2]) = true := by decide +kernel
set_option maxRecDepth 100000 in
theorem kc_X11_goOnAnd : ∀ d, d < 30 → chkM (a_X11_goOnAnd (grp_X11_condition d)).1.2 (layT 1 [2]) = true := by decide +kernel
set_option maxRecDepth 100000 in
theorem kc_X11_goOnOr : ∀ d, d < 30 → chkM (a_X11_goOnOr (grp_X11_condition d)).1.2 (layT 1 [2]) = true := by decide +kernel
set_option maxRecDepth 100000 in
theorem kc_X11_unit : ∀ d, d < 30 → chkM (a_X11_unit (grp_X11_condition d)).1.2 (layT 2 [2]) = true := by decide +kernel
set_option maxRecDepth 100000 in
theorem m_grp_X11_condition : ∀ d : Nat, d ≤ 30 → MetD wM (n_X11_condition (30 + d)) (ci_X11_condition (grp_X11_condition d)) ∧ MetD wM (n_X11_goOnAnd (30 + d)) (ci_X11_goOnAnd (grp_X11_condition d)) ∧ MetD wM (n_X11_goOnOr (30 + d)) (ci_X11_goOnOr (grp_X11_condition d)) ∧ MetD wM (n_X11_unit (30 + d)) (ci_X11_unit (grp_X11_condition d))
  | 0, _ => ⟨met_none (fun _ _ => rfl), met_none (fun _ _ => rfl), met_none (fun _ _ => rfl), met_none (fun _ _ => rfl)⟩
  | d + 1, h => by
    have ih := m_grp_X11_condition d (Nat.le_of_succ_le h)
    exact ⟨g_meth false (a_X11_condition (grp_X11_condition d)) rxM_ok pn_X11 rfl rfl rfl (Nat.le_add_left 1 _) (Nat.le_of_ble_eq_true rfl) (Or.inr (Or.inr (Or.inr (Or.inr ⟨rfl, rfl⟩)))) (fun h => by cases h) (mkWords (fun _ h => absurd h List.not_mem_nil) (fun _ h => absurd h List.not_mem_nil) (fun _ h => absurd h List.not_mem_nil) (fun _ h => absurd h List.not_mem_nil) (fun _ h => absurd h List.not_mem_nil) (fun _ h => absurd h List.not_mem_nil)) (List.forall_mem_cons.mpr ⟨clV ih.2.2.2 rfl rfl rfl (Nat.le_refl _) (Or.inl lw_X11_162) (kn_X11_unit _) pd_X11_unit, List.forall_mem_cons.mpr ⟨clV ih.2.1 rfl rfl rfl (Nat.le_refl _) (Or.inl lw_X11_171) (kn_X11_goOnAnd _) pd_X11_goOnAnd, List.forall_mem_cons.mpr ⟨clV ih.2.2.1 rfl rfl rfl (Nat.le_refl _) (Or.inl lw_X11_174) (kn_X11_goOnOr _) pd_X11_goOnOr, fun _ h => absurd h List.not_mem_nil⟩⟩⟩) (kc_X11_condition d h),
      g_meth false (a_X11_goOnAnd (grp_X11_condition d)) rxM_ok pn_X11 rfl rfl rfl (Nat.le_add_left 1 _) (Nat.le_of_ble_eq_true rfl) (Or.inr (Or.inr (Or.inr (Or.inr ⟨rfl, rfl⟩)))) (fun h => by cases h) (mkWords (fun _ h => absurd h List.not_mem_nil) (fun _ h => absurd h List.not_mem_nil) (fun _ h => absurd h List.not_mem_nil) (List.forall_mem_cons.mpr ⟨⟨_, _, _, rfl, by decide, Or.inl fw_X11_106⟩, List.forall_mem_cons.mpr ⟨⟨_, _, _, rfl, by decide, Or.inl fw_X11_113⟩, fun _ h => absurd h List.not_mem_nil⟩⟩) (fun _ h => absurd h List.not_mem_nil) (fun _ h => absurd h List.not_mem_nil)) (List.forall_mem_cons.mpr ⟨clV m_X11_look rfl rfl rfl (Nat.le_add_right_of_le (by decide)) (Or.inl lw_X11_125) (kn_X11_look _) pd_X11_look, List.forall_mem_cons.mpr ⟨clV m_X11_put rfl rfl rfl (Nat.le_add_right_of_le (by decide)) (Or.inl lw_X11_135) (kn_X11_put _) pd_X11_put, List.forall_mem_cons.mpr ⟨clV ih.2.2.2 rfl rfl rfl (Nat.le_refl _) (Or.inl lw_X11_162) (kn_X11_unit _) pd_X11_unit, fun _ h => absurd h List.not_mem_nil⟩⟩⟩) (kc_X11_goOnAnd d h),
      g_meth false (a_X11_goOnOr (grp_X11_condition d)) rxM_ok pn_X11 rfl rfl rfl (Nat.le_add_left 1 _) (Nat.le_of_ble_eq_true rfl) (Or.inr (Or.inr (Or.inr (Or.inr ⟨rfl, rfl⟩)))) (fun h => by cases h) (mkWords (fun _ h => absurd h List.not_mem_nil) (fun _ h => absurd h List.not_mem_nil) (fun _ h => absurd h List.not_mem_nil) (List.forall_mem_cons.mpr ⟨⟨_, _, _, rfl, by decide, Or.inl fw_X11_106⟩, List.forall_mem_cons.mpr ⟨⟨_, _, _, rfl, by decide, Or.inl fw_X11_113⟩, fun _ h => absurd h List.not_mem_nil⟩⟩) (fun _ h => absurd h List.not_mem_nil) (fun _ h => absurd h List.not_mem_nil)) (List.forall_mem_cons.mpr ⟨clV m_X11_look rfl rfl rfl (Nat.le_add_right_of_le (by decide)) (Or.inl lw_X11_125) (kn_X11_look _) pd_X11_look, List.forall_mem_cons.mpr ⟨clV m_X11_put rfl rfl rfl (Nat.le_add_right_of_le (by decide)) (Or.inl lw_X11_135) (kn_X11_put _) pd_X11_put, List.forall_mem_cons.mpr ⟨clV ih.2.2.2 rfl rfl rfl (Nat.le_refl _) (Or.inl lw_X11_162) (kn_X11_unit _) pd_X11_unit, List.forall_mem_cons.mpr ⟨clV ih.2.1 rfl rfl rfl (Nat.le_refl _) (Or.inl lw_X11_171) (kn_X11_goOnAnd _) pd_X11_goOnAnd, fun _ h => absurd h List.not_mem_nil⟩⟩⟩⟩) (kc_X11_goOnOr d h),
      g_meth false (a_X11_unit (grp_X11_condition d)) rxM_ok pn_X11 rfl rfl rfl (Nat.le_add_left 1 _) (Nat.le_of_ble_eq_true rfl) (Or.inr (Or.inr (Or.inr (Or.inr ⟨rfl, rfl⟩)))) (fun h => by cases h) (mkWords (fun _ h => absurd h List.not_mem_nil) (fun _ h => absurd h List.not_mem_nil) (fun _ h => absurd h List.not_mem_nil) (List.forall_mem_cons.mpr ⟨⟨_, _, _, rfl, by decide, Or.inl fw_X11_113⟩, List.forall_mem_cons.mpr ⟨⟨_, _, _, rfl, by decide, Or.inl fw_X11_119⟩, fun _ h => absurd h List.not_mem_nil⟩⟩) (fun _ h => absurd h List.not_mem_nil) (fun _ h => absurd h List.not_mem_nil)) (List.forall_mem_cons.mpr ⟨clV m_X11_look rfl rfl rfl (Nat.le_add_right_of_le (by decide)) (Or.inl lw_X11_125) (kn_X11_look _) pd_X11_look, List.forall_mem_cons.mpr ⟨clV m_X11_put rfl rfl rfl (Nat.le_add_right_of_le (by decide)) (Or.inl lw_X11_135) (kn_X11_put _) pd_X11_put, List.forall_mem_cons.mpr ⟨clV m_X11_opens rfl rfl rfl (Nat.le_add_right_of_le (by decide)) (Or.inl lw_X11_143) (kn_X11_opens _) pd_X11_opens, List.forall_mem_cons.mpr ⟨clV (m_grp_X11_sum 24 (Nat.le_refl _)).2.1 rfl rfl rfl (Nat.le_add_right_of_le (by decide)) (Or.inl lw_X11_146) (kn_X11_sum _) pd_X11_sum, List.forall_mem_cons.mpr ⟨clV m_X11_closes rfl rfl rfl (Nat.le_add_right_of_le (by decide)) (Or.inl lw_X11_149) (kn_X11_closes _) pd_X11_closes, List.forall_mem_cons.mpr ⟨clV ih.2.2.2 rfl rfl rfl (Nat.le_refl _) (Or.inl lw_X11_162) (kn_X11_unit _) pd_X11_unit, List.forall_mem_cons.mpr ⟨clV ih.1 rfl rfl rfl (Nat.le_refl _) (Or.inl lw_X11_165) (kn_X11_condition _) pd_X11_condition, List.forall_mem_cons.mpr ⟨clV m_X11_compare rfl rfl rfl (Nat.le_add_right_of_le (by decide)) (Or.inl lw_X11_168) (kn_X11_compare _) pd_X11_compare, fun _ h => absurd h List.not_mem_nil⟩⟩⟩⟩⟩⟩⟩⟩) (kc_X11_unit d h)⟩
/-! BlackMillModel.clause()V -/
noncomputable def mi_X11_clause : MI := (cX11_clause, 3, RX11, [], [], [], [(19, 11, 8), (22, 11, 9), (25, 11, 10), (28, 11, 11), (31, 11, 12), (106, 11, 3), (113, 11, 4), (116, 11, 14)], [], [], [(122, ci_X11_bad), (125, ci_X11_look), (146, (ci_X11_sum (grp_X11_sum 24))), (159, ci_X11_isSign), (165, (ci_X11_condition (grp_X11_condition 30))), (168, ci_X11_compare), (171, (ci_X11_goOnAnd (grp_X11_condition 30))), (174, (ci_X11_goOnOr (grp_X11_condition 30)))])
noncomputable def a_X11_clause : St wM (mi_X11_clause) 3 :=
  (sSeq (sSeq (sSet 1 (eBin 0 (eBin 2 (eInt 140) (eFld 11 14 (eLoc 0))) (eAr 0 (eFld 11 9 (eLoc 0)) (eFld 11 14 (eLoc 0)))))
  (sSeq (sIf (oAnd (oCmp .eq (eFld 11 4 (eLoc 0)) (eInt (-1))) (oCmp .ne (eCal 125 ci_X11_look rfl (aA1 aA0 (eLoc 0))) (eInt 121))) (sDo 122 ci_X11_bad rfl (aA1 aA0 (eLoc 0))))
  (sSeq (sUpdF 0 11 3 (eLoc 0) (eInt 1))
  (sSeq (sIf (oAnd (oCmp .eq (eFld 11 4 (eLoc 0)) (eInt (-1))) (oCmp .ne (eCal 125 ci_X11_look rfl (aA1 aA0 (eLoc 0))) (eInt 58))) (sDo 122 ci_X11_bad rfl (aA1 aA0 (eLoc 0))))
  (sSeq (sUpdF 0 11 3 (eLoc 0) (eInt 1))
  (sSeq (sIf (oCmp .ne (eFld 11 4 (eLoc 0)) (eInt (-1))) sReV)
  (sSeq (sPutA 0 (eFld 11 10 (eLoc 0)) (eLoc 1) (eAr 0 (eFld 11 8 (eLoc 0)) (eFld 11 14 (eLoc 0))))
  (sSeq (sSet 2 (eBo (oOr (oCmp .eq (eCal 125 ci_X11_look rfl (aA1 aA0 (eLoc 0))) (eInt 33)) (oCmp .eq (eCal 125 ci_X11_look rfl (aA1 aA0 (eLoc 0))) (eInt 40)))))
  (sSeq (sIfE (oCm0 .ne (eLoc 2)) (sDo 165 (ci_X11_condition (grp_X11_condition 30)) rfl (aA1 aA0 (eLoc 0)))
  (sSeq (sDo 146 (ci_X11_sum (grp_X11_sum 24)) rfl (aA1 aA0 (eLoc 0)))
  (sSeq (sSet 2 (eBo (oAnd (oCmp .eq (eFld 11 4 (eLoc 0)) (eInt (-1))) (oCm0 .ne (eCal 159 ci_X11_isSign rfl (aA1 aA0 (eCal 125 ci_X11_look rfl (aA1 aA0 (eLoc 0)))))))))
  (sIf (oCm0 .ne (eLoc 2)) (sSeq (sDo 168 ci_X11_compare rfl (aA1 aA0 (eLoc 0)))
  (sSeq (sDo 171 (ci_X11_goOnAnd (grp_X11_condition 30)) rfl (aA1 aA0 (eLoc 0)))
  (sDo 174 (ci_X11_goOnOr (grp_X11_condition 30)) rfl (aA1 aA0 (eLoc 0)))))))))
  (sSeq (sPutA 0 (eFld 11 11 (eLoc 0)) (eLoc 1) (eAr 0 (eFld 11 10 (eLoc 0)) (eLoc 1)))
  (sSeq (sIf (oAnd (oCm0 .ne (eLoc 2)) (oCmp .eq (eFld 11 4 (eLoc 0)) (eInt (-1)))) (sSeq (sIf (oCmp .ne (eCal 125 ci_X11_look rfl (aA1 aA0 (eLoc 0))) (eInt 63)) (sSeq (sDo 122 ci_X11_bad rfl (aA1 aA0 (eLoc 0)))
  sReV))
  (sSeq (sUpdF 0 11 3 (eLoc 0) (eInt 1))
  (sSeq (sPutA 0 (eFld 11 11 (eLoc 0)) (eLoc 1) (eAr 0 (eFld 11 8 (eLoc 0)) (eFld 11 14 (eLoc 0))))
  (sDo 146 (ci_X11_sum (grp_X11_sum 24)) rfl (aA1 aA0 (eLoc 0)))))))
  (sSeq (sPutA 0 (eFld 11 12 (eLoc 0)) (eLoc 1) (eAr 0 (eFld 11 8 (eLoc 0)) (eFld 11 14 (eLoc 0))))
  (sUpdA 0 (eFld 11 9 (eLoc 0)) (eFld 11 14 (eLoc 0)) (eInt 1))))))))))))))
  sReV)
def n_X11_clause : MN := (yX11_clause, cX11_clause, 3, none, 61)
noncomputable def ci_X11_clause : CI := (1, 11, [2], 3, denM 3 [2] false a_X11_clause.1.1)
set_option maxRecDepth 100000 in
theorem m_X11_clause : MetD wM n_X11_clause ci_X11_clause := g_meth false (a_X11_clause) rxM_ok (by decide) rfl rfl rfl (by decide) (by decide) (Or.inr (Or.inr (Or.inr (Or.inr ⟨rfl, rfl⟩)))) (fun h => by cases h) (mkWords (fun _ h => absurd h List.not_mem_nil) (fun _ h => absurd h List.not_mem_nil) (fun _ h => absurd h List.not_mem_nil) (List.forall_mem_cons.mpr ⟨⟨_, _, _, rfl, by decide, Or.inl fw_X11_19⟩, List.forall_mem_cons.mpr ⟨⟨_, _, _, rfl, by decide, Or.inl fw_X11_22⟩, List.forall_mem_cons.mpr ⟨⟨_, _, _, rfl, by decide, Or.inl fw_X11_25⟩, List.forall_mem_cons.mpr ⟨⟨_, _, _, rfl, by decide, Or.inl fw_X11_28⟩, List.forall_mem_cons.mpr ⟨⟨_, _, _, rfl, by decide, Or.inl fw_X11_31⟩, List.forall_mem_cons.mpr ⟨⟨_, _, _, rfl, by decide, Or.inl fw_X11_106⟩, List.forall_mem_cons.mpr ⟨⟨_, _, _, rfl, by decide, Or.inl fw_X11_113⟩, List.forall_mem_cons.mpr ⟨⟨_, _, _, rfl, by decide, Or.inl fw_X11_116⟩, fun _ h => absurd h List.not_mem_nil⟩⟩⟩⟩⟩⟩⟩⟩) (fun _ h => absurd h List.not_mem_nil) (fun _ h => absurd h List.not_mem_nil)) (List.forall_mem_cons.mpr ⟨clV m_X11_bad rfl rfl rfl (by decide) (Or.inl lw_X11_122) (kn_X11_bad _) (by decide +kernel), List.forall_mem_cons.mpr ⟨clV m_X11_look rfl rfl rfl (by decide) (Or.inl lw_X11_125) (kn_X11_look _) (by decide +kernel), List.forall_mem_cons.mpr ⟨clV (m_grp_X11_sum 24 (Nat.le_refl _)).2.1 rfl rfl rfl (by decide) (Or.inl lw_X11_146) (kn_X11_sum _) (by decide +kernel), List.forall_mem_cons.mpr ⟨clS m_X11_isSign rfl (by decide) (Or.inl lw_X11_159) (kn_X11_isSign _) (by decide +kernel), List.forall_mem_cons.mpr ⟨clV (m_grp_X11_condition 30 (Nat.le_refl _)).1 rfl rfl rfl (by decide) (Or.inl lw_X11_165) (kn_X11_condition _) (by decide +kernel), List.forall_mem_cons.mpr ⟨clV m_X11_compare rfl rfl rfl (by decide) (Or.inl lw_X11_168) (kn_X11_compare _) (by decide +kernel), List.forall_mem_cons.mpr ⟨clV (m_grp_X11_condition 30 (Nat.le_refl _)).2.1 rfl rfl rfl (by decide) (Or.inl lw_X11_171) (kn_X11_goOnAnd _) (by decide +kernel), List.forall_mem_cons.mpr ⟨clV (m_grp_X11_condition 30 (Nat.le_refl _)).2.2.1 rfl rfl rfl (by decide) (Or.inl lw_X11_174) (kn_X11_goOnOr _) (by decide +kernel), fun _ h => absurd h List.not_mem_nil⟩⟩⟩⟩⟩⟩⟩⟩) (by decide +kernel)
/-! BlackMillModel.open(I)V -/
noncomputable def mi_X11_open : MI := (cX11_open, 2, RX11, [], [], [], [(19, 11, 8), (22, 11, 9), (106, 11, 3), (113, 11, 4), (116, 11, 14), (119, 11, 5)], [], [], [])
noncomputable def a_X11_open : St wM (mi_X11_open) 3 :=
  (sSeq (sSeq (sPutF 11 14 (eLoc 0) (eLoc 1))
  (sSeq (sPutF 11 3 (eLoc 0) (eInt 0))
  (sSeq (sPutF 11 4 (eLoc 0) (eInt (-1)))
  (sSeq (sPutF 11 5 (eLoc 0) (eInt 0))
  (sSeq (sPutA 0 (eFld 11 8 (eLoc 0)) (eLoc 1) (eInt 0))
  (sPutA 0 (eFld 11 9 (eLoc 0)) (eLoc 1) (eInt 0)))))))
  sReV)
def n_X11_open : MN := (yX11_open, cX11_open, 2, none, 1)
noncomputable def ci_X11_open : CI := (1, 11, [2, 0], 3, denM 2 [2, 0] false a_X11_open.1.1)
set_option maxRecDepth 100000 in
theorem m_X11_open : MetD wM n_X11_open ci_X11_open := g_meth false (a_X11_open) rxM_ok (by decide) rfl rfl rfl (by decide) (by decide) (Or.inr (Or.inr (Or.inr (Or.inr ⟨rfl, rfl⟩)))) (fun h => by cases h) (mkWords (fun _ h => absurd h List.not_mem_nil) (fun _ h => absurd h List.not_mem_nil) (fun _ h => absurd h List.not_mem_nil) (List.forall_mem_cons.mpr ⟨⟨_, _, _, rfl, by decide, Or.inl fw_X11_19⟩, List.forall_mem_cons.mpr ⟨⟨_, _, _, rfl, by decide, Or.inl fw_X11_22⟩, List.forall_mem_cons.mpr ⟨⟨_, _, _, rfl, by decide, Or.inl fw_X11_106⟩, List.forall_mem_cons.mpr ⟨⟨_, _, _, rfl, by decide, Or.inl fw_X11_113⟩, List.forall_mem_cons.mpr ⟨⟨_, _, _, rfl, by decide, Or.inl fw_X11_116⟩, List.forall_mem_cons.mpr ⟨⟨_, _, _, rfl, by decide, Or.inl fw_X11_119⟩, fun _ h => absurd h List.not_mem_nil⟩⟩⟩⟩⟩⟩) (fun _ h => absurd h List.not_mem_nil) (fun _ h => absurd h List.not_mem_nil)) (fun _ h => absurd h List.not_mem_nil) (by decide +kernel)
/-! BlackMillModel.atEnd()I -/
noncomputable def mi_X11_atEnd : MI := (cX11_atEnd, 1, RX11, [], [], [], [(113, 11, 4)], [], [], [(122, ci_X11_bad), (125, ci_X11_look)])
noncomputable def a_X11_atEnd : St wM (mi_X11_atEnd) 0 :=
  (sSeq (sIf (oAnd (oCmp .eq (eFld 11 4 (eLoc 0)) (eInt (-1))) (oCmp .ne (eCal 125 ci_X11_look rfl (aA1 aA0 (eLoc 0))) (eInt (-1)))) (sDo 122 ci_X11_bad rfl (aA1 aA0 (eLoc 0))))
  (sRet (eFld 11 4 (eLoc 0))))
def n_X11_atEnd : MN := (yX11_atEnd, cX11_atEnd, 1, (some .int), 3)
noncomputable def ci_X11_atEnd : CI := (1, 11, [2], 0, denM 1 [2] false a_X11_atEnd.1.1)
set_option maxRecDepth 100000 in
theorem m_X11_atEnd : MetD wM n_X11_atEnd ci_X11_atEnd := g_meth false (a_X11_atEnd) rxM_ok (by decide) rfl rfl rfl (by decide) (by decide) (Or.inl ⟨rfl, rfl⟩) (fun h => by cases h) (mkWords (fun _ h => absurd h List.not_mem_nil) (fun _ h => absurd h List.not_mem_nil) (fun _ h => absurd h List.not_mem_nil) (List.forall_mem_cons.mpr ⟨⟨_, _, _, rfl, by decide, Or.inl fw_X11_113⟩, fun _ h => absurd h List.not_mem_nil⟩) (fun _ h => absurd h List.not_mem_nil) (fun _ h => absurd h List.not_mem_nil)) (List.forall_mem_cons.mpr ⟨clV m_X11_bad rfl rfl rfl (by decide) (Or.inl lw_X11_122) (kn_X11_bad _) (by decide +kernel), List.forall_mem_cons.mpr ⟨clV m_X11_look rfl rfl rfl (by decide) (Or.inl lw_X11_125) (kn_X11_look _) (by decide +kernel), fun _ h => absurd h List.not_mem_nil⟩⟩) (by decide +kernel)
/-! BlackMillModel.readLaw(I)I -/
noncomputable def mi_X11_readLaw : MI := (cX11_readLaw, 2, RX11, [], [], [], [(106, 11, 3), (113, 11, 4)], [], [], [(125, ci_X11_look), (177, ci_X11_open), (180, ci_X11_clause), (183, ci_X11_atEnd)])
noncomputable def a_X11_readLaw : St wM (mi_X11_readLaw) 0 :=
  (sSeq (sDo 177 ci_X11_open rfl (aA1 (aA1 aA0 (eLoc 0)) (eLoc 1)))
  (sSeq (sDo 180 ci_X11_clause rfl (aA1 aA0 (eLoc 0)))
  (sSeq (sWh (oAnd (oCmp .eq (eFld 11 4 (eLoc 0)) (eInt (-1))) (oCmp .eq (eCal 125 ci_X11_look rfl (aA1 aA0 (eLoc 0))) (eInt 59))) (sSeq (sUpdF 0 11 3 (eLoc 0) (eInt 1))
  (sDo 180 ci_X11_clause rfl (aA1 aA0 (eLoc 0)))))
  (sRet (eCal 183 ci_X11_atEnd rfl (aA1 aA0 (eLoc 0)))))))
def n_X11_readLaw : MN := (yX11_readLaw, cX11_readLaw, 2, (some .int), 62)
noncomputable def ci_X11_readLaw : CI := (1, 11, [2, 0], 0, denM 2 [2, 0] false a_X11_readLaw.1.1)
set_option maxRecDepth 100000 in
theorem m_X11_readLaw : MetD wM n_X11_readLaw ci_X11_readLaw := g_meth false (a_X11_readLaw) rxM_ok (by decide) rfl rfl rfl (by decide) (by decide) (Or.inl ⟨rfl, rfl⟩) (fun h => by cases h) (mkWords (fun _ h => absurd h List.not_mem_nil) (fun _ h => absurd h List.not_mem_nil) (fun _ h => absurd h List.not_mem_nil) (List.forall_mem_cons.mpr ⟨⟨_, _, _, rfl, by decide, Or.inl fw_X11_106⟩, List.forall_mem_cons.mpr ⟨⟨_, _, _, rfl, by decide, Or.inl fw_X11_113⟩, fun _ h => absurd h List.not_mem_nil⟩⟩) (fun _ h => absurd h List.not_mem_nil) (fun _ h => absurd h List.not_mem_nil)) (List.forall_mem_cons.mpr ⟨clV m_X11_look rfl rfl rfl (by decide) (Or.inl lw_X11_125) (kn_X11_look _) (by decide +kernel), List.forall_mem_cons.mpr ⟨clV m_X11_open rfl rfl rfl (by decide) (Or.inl lw_X11_177) (kn_X11_open _) (by decide +kernel), List.forall_mem_cons.mpr ⟨clV m_X11_clause rfl rfl rfl (by decide) (Or.inl lw_X11_180) (kn_X11_clause _) (by decide +kernel), List.forall_mem_cons.mpr ⟨clV m_X11_atEnd rfl rfl rfl (by decide) (Or.inl lw_X11_183) (kn_X11_atEnd _) (by decide +kernel), fun _ h => absurd h List.not_mem_nil⟩⟩⟩⟩) (by decide +kernel)
/-! BlackMillModel.bounded(J)I -/
noncomputable def mi_X11_bounded : MI := (cX11_bounded, 2, RX11, [], [(186, -1000000), (188, 1000000)], [], [], [], [(190, 4), (196, 3)], [])
noncomputable def a_X11_bounded : St wM (mi_X11_bounded) 0 :=
  (sRet (eL2I (eMt 3 (eLng (-1000000)) (eMt 4 (eLng 1000000) (eLoc 0)))))
def n_X11_bounded : MN := (yX11_bounded, cX11_bounded, 2, (some .int), 1)
noncomputable def ci_X11_bounded : CI := (0, 11, [1], 0, denM 2 [1] false a_X11_bounded.1.1)
set_option maxRecDepth 100000 in
theorem m_X11_bounded : MetD wM n_X11_bounded ci_X11_bounded := g_meth false (a_X11_bounded) rxM_ok (by decide) rfl rfl rfl (by decide) (by decide) (Or.inl ⟨rfl, rfl⟩) (fun h => by cases h) (mkWords (fun _ h => absurd h List.not_mem_nil) (List.forall_mem_cons.mpr ⟨cw_X11_186, List.forall_mem_cons.mpr ⟨cw_X11_188, fun _ h => absurd h List.not_mem_nil⟩⟩) (fun _ h => absurd h List.not_mem_nil) (fun _ h => absurd h List.not_mem_nil) (fun _ h => absurd h List.not_mem_nil) (List.forall_mem_cons.mpr ⟨mw_X11_190, List.forall_mem_cons.mpr ⟨mw_X11_196, fun _ h => absurd h List.not_mem_nil⟩⟩)) (fun _ h => absurd h List.not_mem_nil) (by decide +kernel)
/-! BlackMillModel.worked(IJJ)I -/
noncomputable def mi_X11_worked : MI := (cX11_worked, 5, RX11, [], [], [], [], [], [], [(199, ci_X11_bounded)])
noncomputable def a_X11_worked : St wM (mi_X11_worked) 0 :=
  (sSw (eLoc 0) (wCs 2 (sRet (eCal 199 ci_X11_bounded rfl (aA1 aA0 (eBin 9 (eLoc 1) (eLoc 3)))))
  (wCs 3 (sRet (eCal 199 ci_X11_bounded rfl (aA1 aA0 (eBin 10 (eLoc 1) (eLoc 3)))))
  (wCs 4 (sRet (eCal 199 ci_X11_bounded rfl (aA1 aA0 (eBin 11 (eLoc 1) (eLoc 3)))))
  (wCs 5 (sRet (eCon (oCmpL .eq (eLoc 3) (eLng 0)) (eInt 0) (eCal 199 ci_X11_bounded rfl (aA1 aA0 (eDiv 2 (eLoc 1) (eLoc 3))))))
  (wCs 6 (sRet (eCon (oCmpL .eq (eLoc 1) (eLoc 3)) (eInt 1) (eInt 0)))
  (wCs 7 (sRet (eCon (oCmpL .lt (eLoc 1) (eLoc 3)) (eInt 1) (eInt 0)))
  (wCs 8 (sRet (eCon (oCmpL .gt (eLoc 1) (eLoc 3)) (eInt 1) (eInt 0)))
  (wCs 10 (sRet (eCon (oAnd (oCmpL .ne (eLoc 1) (eLng 0)) (oCmpL .ne (eLoc 3) (eLng 0))) (eInt 1) (eInt 0)))
  (wDf (sRet (eCon (oOr (oCmpL .ne (eLoc 1) (eLng 0)) (oCmpL .ne (eLoc 3) (eLng 0))) (eInt 1) (eInt 0)))))))))))))
def n_X11_worked : MN := (yX11_worked, cX11_worked, 5, (some .int), 2)
noncomputable def ci_X11_worked : CI := (0, 11, [0, 1, 1], 0, denM 5 [0, 1, 1] false a_X11_worked.1.1)
set_option maxRecDepth 100000 in
theorem m_X11_worked : MetD wM n_X11_worked ci_X11_worked := g_meth false (a_X11_worked) rxM_ok (by decide) rfl rfl rfl (by decide) (by decide) (Or.inl ⟨rfl, rfl⟩) (fun h => by cases h) (mkWords (fun _ h => absurd h List.not_mem_nil) (fun _ h => absurd h List.not_mem_nil) (fun _ h => absurd h List.not_mem_nil) (fun _ h => absurd h List.not_mem_nil) (fun _ h => absurd h List.not_mem_nil) (fun _ h => absurd h List.not_mem_nil)) (List.forall_mem_cons.mpr ⟨clS m_X11_bounded rfl (by decide) (Or.inl lw_X11_199) (kn_X11_bounded _) (by decide +kernel), fun _ h => absurd h List.not_mem_nil⟩) (by decide +kernel)
/-! BlackMillModel.workOut(III)I -/
noncomputable def mi_X11_workOut : MI := (cX11_workOut, 6, RX11, [], [], [], [(13, 11, 6), (16, 11, 7), (34, 11, 15), (37, 11, 16)], [], [], [(203, ci_X11_worked)])
noncomputable def a_X11_workOut : St wM (mi_X11_workOut) 0 :=
  (sSeq (sSet 4 (eInt 0))
  (sSeq (sBlk (sSeq (sSet 5 (eBin 0 (eBin 2 (eInt 520) (eLoc 1)) (eLoc 2)))
  (sWh (oCmp .lt (eLoc 5) (eBin 0 (eBin 2 (eInt 520) (eLoc 1)) (eLoc 3))) (sSeq (sIfE (oOr (oCm0 .eq (eAr 0 (eFld 11 6 (eLoc 0)) (eLoc 5))) (oCmp .eq (eAr 0 (eFld 11 6 (eLoc 0)) (eLoc 5)) (eInt 1))) (sSeq (sPutA 0 (eFld 11 16 (eLoc 0)) (eLoc 4) (eCon (oCm0 .eq (eAr 0 (eFld 11 6 (eLoc 0)) (eLoc 5))) (eAr 0 (eFld 11 7 (eLoc 0)) (eLoc 5)) (eAr 0 (eFld 11 15 (eLoc 0)) (eAr 0 (eFld 11 7 (eLoc 0)) (eLoc 5)))))
  (sInc 4 1))
  (sIfE (oCmp .eq (eAr 0 (eFld 11 6 (eLoc 0)) (eLoc 5)) (eInt 9)) (sPutA 0 (eFld 11 16 (eLoc 0)) (eBin 1 (eLoc 4) (eInt 1)) (eBin 1 (eInt 1) (eAr 0 (eFld 11 16 (eLoc 0)) (eBin 1 (eLoc 4) (eInt 1)))))
  (sSeq (sInc 4 (-1))
  (sPutA 0 (eFld 11 16 (eLoc 0)) (eBin 1 (eLoc 4) (eInt 1)) (eCal 203 ci_X11_worked rfl (aA1 (aA1 (aA1 aA0 (eAr 0 (eFld 11 6 (eLoc 0)) (eLoc 5))) (eI2L (eAr 0 (eFld 11 16 (eLoc 0)) (eBin 1 (eLoc 4) (eInt 1))))) (eI2L (eAr 0 (eFld 11 16 (eLoc 0)) (eLoc 4)))))))))
  (sInc 5 1)))))
  (sRet (eAr 0 (eFld 11 16 (eLoc 0)) (eInt 0)))))
def n_X11_workOut : MN := (yX11_workOut, cX11_workOut, 6, (some .int), 3)
noncomputable def ci_X11_workOut : CI := (1, 11, [2, 0, 0, 0], 0, denM 6 [2, 0, 0, 0] false a_X11_workOut.1.1)
set_option maxRecDepth 100000 in
theorem m_X11_workOut : MetD wM n_X11_workOut ci_X11_workOut := g_meth false (a_X11_workOut) rxM_ok (by decide) rfl rfl rfl (by decide) (by decide) (Or.inl ⟨rfl, rfl⟩) (fun h => by cases h) (mkWords (fun _ h => absurd h List.not_mem_nil) (fun _ h => absurd h List.not_mem_nil) (fun _ h => absurd h List.not_mem_nil) (List.forall_mem_cons.mpr ⟨⟨_, _, _, rfl, by decide, Or.inl fw_X11_13⟩, List.forall_mem_cons.mpr ⟨⟨_, _, _, rfl, by decide, Or.inl fw_X11_16⟩, List.forall_mem_cons.mpr ⟨⟨_, _, _, rfl, by decide, Or.inl fw_X11_34⟩, List.forall_mem_cons.mpr ⟨⟨_, _, _, rfl, by decide, Or.inl fw_X11_37⟩, fun _ h => absurd h List.not_mem_nil⟩⟩⟩⟩) (fun _ h => absurd h List.not_mem_nil) (fun _ h => absurd h List.not_mem_nil)) (List.forall_mem_cons.mpr ⟨clS m_X11_worked rfl (by decide) (Or.inl lw_X11_203) (kn_X11_worked _) (by decide +kernel), fun _ h => absurd h List.not_mem_nil⟩) (by decide +kernel)
/-! BlackMillModel.worthOf(I)I -/
noncomputable def mi_X11_worthOf : MI := (cX11_worthOf, 3, RX11, [], [], [], [(22, 11, 9), (25, 11, 10), (28, 11, 11), (31, 11, 12)], [], [], [(207, ci_X11_workOut)])
noncomputable def a_X11_worthOf : St wM (mi_X11_worthOf) 0 :=
  (sSeq (sBlk (sSeq (sSet 2 (eBin 2 (eInt 140) (eLoc 1)))
  (sWh (oCmp .lt (eLoc 2) (eBin 0 (eBin 2 (eInt 140) (eLoc 1)) (eAr 0 (eFld 11 9 (eLoc 0)) (eLoc 1)))) (sSeq (sIf (oOr (oCmp .eq (eAr 0 (eFld 11 10 (eLoc 0)) (eLoc 2)) (eAr 0 (eFld 11 11 (eLoc 0)) (eLoc 2))) (oCm0 .ne (eCal 207 ci_X11_workOut rfl (aA1 (aA1 (aA1 (aA1 aA0 (eLoc 0)) (eLoc 1)) (eAr 0 (eFld 11 10 (eLoc 0)) (eLoc 2))) (eAr 0 (eFld 11 11 (eLoc 0)) (eLoc 2)))))) (sRet (eCal 207 ci_X11_workOut rfl (aA1 (aA1 (aA1 (aA1 aA0 (eLoc 0)) (eLoc 1)) (eAr 0 (eFld 11 11 (eLoc 0)) (eLoc 2))) (eAr 0 (eFld 11 12 (eLoc 0)) (eLoc 2))))))
  (sInc 2 1)))))
  (sRet (eInt 0)))
def n_X11_worthOf : MN := (yX11_worthOf, cX11_worthOf, 3, (some .int), 4)
noncomputable def ci_X11_worthOf : CI := (1, 11, [2, 0], 0, denM 3 [2, 0] false a_X11_worthOf.1.1)
set_option maxRecDepth 100000 in
theorem m_X11_worthOf : MetD wM n_X11_worthOf ci_X11_worthOf := g_meth false (a_X11_worthOf) rxM_ok (by decide) rfl rfl rfl (by decide) (by decide) (Or.inl ⟨rfl, rfl⟩) (fun h => by cases h) (mkWords (fun _ h => absurd h List.not_mem_nil) (fun _ h => absurd h List.not_mem_nil) (fun _ h => absurd h List.not_mem_nil) (List.forall_mem_cons.mpr ⟨⟨_, _, _, rfl, by decide, Or.inl fw_X11_22⟩, List.forall_mem_cons.mpr ⟨⟨_, _, _, rfl, by decide, Or.inl fw_X11_25⟩, List.forall_mem_cons.mpr ⟨⟨_, _, _, rfl, by decide, Or.inl fw_X11_28⟩, List.forall_mem_cons.mpr ⟨⟨_, _, _, rfl, by decide, Or.inl fw_X11_31⟩, fun _ h => absurd h List.not_mem_nil⟩⟩⟩⟩) (fun _ h => absurd h List.not_mem_nil) (fun _ h => absurd h List.not_mem_nil)) (List.forall_mem_cons.mpr ⟨clV m_X11_workOut rfl rfl rfl (by decide) (Or.inl lw_X11_207) (kn_X11_workOut _) (by decide +kernel), fun _ h => absurd h List.not_mem_nil⟩) (by decide +kernel)
/-! BlackMillModel.number(II)I -/
noncomputable def mi_X11_number : MI := (cX11_number, 4, RX11, [], [], [], [(106, 11, 3)], [], [], [(109, ci_X11_here), (122, ci_X11_bad), (125, ci_X11_look), (128, ci_X11_isDigit), (211, ci_X11_in)])
noncomputable def a_X11_number : St wM (mi_X11_number) 0 :=
  (sSeq (sIf (oNot (oCm0 .ne (eCal 128 ci_X11_isDigit rfl (aA1 aA0 (eCal 125 ci_X11_look rfl (aA1 aA0 (eLoc 0))))))) (sSeq (sDo 122 ci_X11_bad rfl (aA1 aA0 (eLoc 0)))
  (sRet (eLoc 1))))
  (sSeq (sSet 3 (eBin 1 (eCal 109 ci_X11_here rfl (aA1 aA0 (eLoc 0))) (eInt 48)))
  (sSeq (sUpdF 0 11 3 (eLoc 0) (eInt 1))
  (sSeq (sIf (oCm0 .ne (eCal 128 ci_X11_isDigit rfl (aA1 aA0 (eCal 109 ci_X11_here rfl (aA1 aA0 (eLoc 0)))))) (sSeq (sSet 3 (eBin 1 (eBin 0 (eBin 2 (eInt 10) (eLoc 3)) (eCal 109 ci_X11_here rfl (aA1 aA0 (eLoc 0)))) (eInt 48)))
  (sUpdF 0 11 3 (eLoc 0) (eInt 1))))
  (sSeq (sIfE (oCm0 .ne (eCal 128 ci_X11_isDigit rfl (aA1 aA0 (eCal 109 ci_X11_here rfl (aA1 aA0 (eLoc 0)))))) (sDo 122 ci_X11_bad rfl (aA1 aA0 (eLoc 0)))
  (sIf (oNot (oCm0 .ne (eCal 211 ci_X11_in rfl (aA1 (aA1 (aA1 aA0 (eLoc 3)) (eLoc 1)) (eLoc 2))))) (sSeq (sUpdF 1 11 3 (eLoc 0) (eInt 1))
  (sDo 122 ci_X11_bad rfl (aA1 aA0 (eLoc 0))))))
  (sRet (eLoc 3)))))))
def n_X11_number : MN := (yX11_number, cX11_number, 4, (some .int), 3)
noncomputable def ci_X11_number : CI := (1, 11, [2, 0, 0], 0, denM 4 [2, 0, 0] false a_X11_number.1.1)
set_option maxRecDepth 100000 in
theorem m_X11_number : MetD wM n_X11_number ci_X11_number := g_meth false (a_X11_number) rxM_ok (by decide) rfl rfl rfl (by decide) (by decide) (Or.inl ⟨rfl, rfl⟩) (fun h => by cases h) (mkWords (fun _ h => absurd h List.not_mem_nil) (fun _ h => absurd h List.not_mem_nil) (fun _ h => absurd h List.not_mem_nil) (List.forall_mem_cons.mpr ⟨⟨_, _, _, rfl, by decide, Or.inl fw_X11_106⟩, fun _ h => absurd h List.not_mem_nil⟩) (fun _ h => absurd h List.not_mem_nil) (fun _ h => absurd h List.not_mem_nil)) (List.forall_mem_cons.mpr ⟨clV m_X11_here rfl rfl rfl (by decide) (Or.inl lw_X11_109) (kn_X11_here _) (by decide +kernel), List.forall_mem_cons.mpr ⟨clV m_X11_bad rfl rfl rfl (by decide) (Or.inl lw_X11_122) (kn_X11_bad _) (by decide +kernel), List.forall_mem_cons.mpr ⟨clV m_X11_look rfl rfl rfl (by decide) (Or.inl lw_X11_125) (kn_X11_look _) (by decide +kernel), List.forall_mem_cons.mpr ⟨clS m_X11_isDigit rfl (by decide) (Or.inl lw_X11_128) (kn_X11_isDigit _) (by decide +kernel), List.forall_mem_cons.mpr ⟨clS m_X11_in rfl (by decide) (Or.inl lw_X11_211) (kn_X11_in _) (by decide +kernel), fun _ h => absurd h List.not_mem_nil⟩⟩⟩⟩⟩) (by decide +kernel)
/-! BlackMillModel.itemOf(II)I -/
noncomputable def mi_X11_itemOf : MI := (cX11_itemOf, 2, RX11, [], [], [], [], [], [], [])
noncomputable def a_X11_itemOf : St wM (mi_X11_itemOf) 0 :=
  (sSw (eLoc 0) (wCs 115 (sRet (eCon (oCmp .eq (eLoc 1) (eInt 112)) (eInt 0) (eCon (oCmp .eq (eLoc 1) (eInt 108)) (eInt 1) (eCon (oCmp .eq (eLoc 1) (eInt 104)) (eInt 2) (eCon (oCmp .eq (eLoc 1) (eInt 121)) (eInt 3) (eInt (-1)))))))
  (wCs 108 (sRet (eCon (oCmp .eq (eLoc 1) (eInt 97)) (eInt 0) (eCon (oCmp .eq (eLoc 1) (eInt 115)) (eInt 1) (eCon (oCmp .eq (eLoc 1) (eInt 107)) (eInt 2) (eCon (oCmp .eq (eLoc 1) (eInt 102)) (eInt 3) (eCon (oCmp .eq (eLoc 1) (eInt 111)) (eInt 4) (eInt (-1))))))))
  (wDf (sRet (eCon (oCmp .eq (eLoc 1) (eInt 97)) (eInt 0) (eCon (oCmp .eq (eLoc 1) (eInt 98)) (eInt 1) (eCon (oCmp .eq (eLoc 1) (eInt 104)) (eInt 2) (eInt (-1))))))))))
def n_X11_itemOf : MN := (yX11_itemOf, cX11_itemOf, 2, (some .int), 1)
noncomputable def ci_X11_itemOf : CI := (0, 11, [0, 0], 0, denM 2 [0, 0] false a_X11_itemOf.1.1)
set_option maxRecDepth 100000 in
theorem m_X11_itemOf : MetD wM n_X11_itemOf ci_X11_itemOf := g_meth false (a_X11_itemOf) rxM_ok (by decide) rfl rfl rfl (by decide) (by decide) (Or.inl ⟨rfl, rfl⟩) (fun h => by cases h) (mkWords (fun _ h => absurd h List.not_mem_nil) (fun _ h => absurd h List.not_mem_nil) (fun _ h => absurd h List.not_mem_nil) (fun _ h => absurd h List.not_mem_nil) (fun _ h => absurd h List.not_mem_nil) (fun _ h => absurd h List.not_mem_nil)) (fun _ h => absurd h List.not_mem_nil) (by decide +kernel)
/-! BlackMillModel.lowest(II)I -/
noncomputable def mi_X11_lowest : MI := (cX11_lowest, 2, RX11, [], [], [], [], [], [], [])
noncomputable def a_X11_lowest : St wM (mi_X11_lowest) 0 :=
  (sSw (eLoc 0) (wCs 115 (sRet (eInt 1))
  (wCs 108 (sRet (eCon (oCmp .eq (eLoc 1) (eInt 4)) (eInt 10) (eInt 0)))
  (wDf (sRet (eCon (oCmp .eq (eLoc 1) (eInt 2)) (eInt 1) (eInt 0)))))))
def n_X11_lowest : MN := (yX11_lowest, cX11_lowest, 2, (some .int), 1)
noncomputable def ci_X11_lowest : CI := (0, 11, [0, 0], 0, denM 2 [0, 0] false a_X11_lowest.1.1)
set_option maxRecDepth 100000 in
theorem m_X11_lowest : MetD wM n_X11_lowest ci_X11_lowest := g_meth false (a_X11_lowest) rxM_ok (by decide) rfl rfl rfl (by decide) (by decide) (Or.inl ⟨rfl, rfl⟩) (fun h => by cases h) (mkWords (fun _ h => absurd h List.not_mem_nil) (fun _ h => absurd h List.not_mem_nil) (fun _ h => absurd h List.not_mem_nil) (fun _ h => absurd h List.not_mem_nil) (fun _ h => absurd h List.not_mem_nil) (fun _ h => absurd h List.not_mem_nil)) (fun _ h => absurd h List.not_mem_nil) (by decide +kernel)
/-! BlackMillModel.highest(II)I -/
noncomputable def mi_X11_highest : MI := (cX11_highest, 2, RX11, [], [], [], [], [], [], [])
noncomputable def a_X11_highest : St wM (mi_X11_highest) 0 :=
  (sSw (eLoc 0) (wCs 115 (sRet (eCon (oCm0 .eq (eLoc 1)) (eInt 99) (eCon (oCmp .eq (eLoc 1) (eInt 2)) (eInt 20) (eInt 9))))
  (wCs 108 (sRet (eCon (oCmp .eq (eLoc 1) (eInt 2)) (eInt 3) (eCon (oCmp .eq (eLoc 1) (eInt 3)) (eInt 8) (eInt 60))))
  (wDf (sRet (eCon (oCmp .eq (eLoc 1) (eInt 2)) (eInt 9) (eInt 5)))))))
def n_X11_highest : MN := (yX11_highest, cX11_highest, 2, (some .int), 1)
noncomputable def ci_X11_highest : CI := (0, 11, [0, 0], 0, denM 2 [0, 0] false a_X11_highest.1.1)
set_option maxRecDepth 100000 in
theorem m_X11_highest : MetD wM n_X11_highest ci_X11_highest := g_meth false (a_X11_highest) rxM_ok (by decide) rfl rfl rfl (by decide) (by decide) (Or.inl ⟨rfl, rfl⟩) (fun h => by cases h) (mkWords (fun _ h => absurd h List.not_mem_nil) (fun _ h => absurd h List.not_mem_nil) (fun _ h => absurd h List.not_mem_nil) (fun _ h => absurd h List.not_mem_nil) (fun _ h => absurd h List.not_mem_nil) (fun _ h => absurd h List.not_mem_nil)) (fun _ h => absurd h List.not_mem_nil) (by decide +kernel)
/-! BlackMillModel.usual(II)I -/
noncomputable def mi_X11_usual : MI := (cX11_usual, 2, RX11, [], [], [], [], [], [], [])
noncomputable def a_X11_usual : St wM (mi_X11_usual) 0 :=
  (sSw (eLoc 0) (wCs 115 (sRet (eCon (oCm0 .eq (eLoc 1)) (eInt 40) (eCon (oCmp .eq (eLoc 1) (eInt 1)) (eInt 2) (eCon (oCmp .eq (eLoc 1) (eInt 2)) (eInt 6) (eInt 3)))))
  (wCs 108 (sRet (eCon (oCm0 .eq (eLoc 1)) (eInt 10) (eCon (oCmp .eq (eLoc 1) (eInt 1)) (eInt 5) (eCon (oCmp .eq (eLoc 1) (eInt 2)) (eInt 0) (eCon (oCmp .eq (eLoc 1) (eInt 3)) (eInt 8) (eInt 14))))))
  (wDf (sRet (eLoc 1))))))
def n_X11_usual : MN := (yX11_usual, cX11_usual, 2, (some .int), 1)
noncomputable def ci_X11_usual : CI := (0, 11, [0, 0], 0, denM 2 [0, 0] false a_X11_usual.1.1)
set_option maxRecDepth 100000 in
theorem m_X11_usual : MetD wM n_X11_usual ci_X11_usual := g_meth false (a_X11_usual) rxM_ok (by decide) rfl rfl rfl (by decide) (by decide) (Or.inl ⟨rfl, rfl⟩) (fun h => by cases h) (mkWords (fun _ h => absurd h List.not_mem_nil) (fun _ h => absurd h List.not_mem_nil) (fun _ h => absurd h List.not_mem_nil) (fun _ h => absurd h List.not_mem_nil) (fun _ h => absurd h List.not_mem_nil) (fun _ h => absurd h List.not_mem_nil)) (fun _ h => absurd h List.not_mem_nil) (by decide +kernel)
/-! BlackMillModel.items(I[III)V -/
noncomputable def mi_X11_items : MI := (cX11_items, 7, RX11, [], [], [], [(106, 11, 3), (113, 11, 4)], [], [], [(125, ci_X11_look), (215, ci_X11_usual), (219, ci_X11_itemOf), (222, ci_X11_has), (226, ci_X11_lowest), (229, ci_X11_highest), (232, ci_X11_number)])
noncomputable def a_X11_items : St wM (mi_X11_items) 3 :=
  (sSeq (sSeq (sBlk (sSeq (sSet 5 (eInt 0))
  (sWh (oCmp .lt (eLoc 5) (eLoc 4)) (sSeq (sPutA 0 (eLoc 2) (eBin 0 (eLoc 3) (eLoc 5)) (eCal 215 ci_X11_usual rfl (aA1 (aA1 aA0 (eLoc 1)) (eLoc 5))))
  (sInc 5 1)))))
  (sSeq (sSet 5 (eInt 0))
  (sSeq (sSet 6 (eCal 219 ci_X11_itemOf rfl (aA1 (aA1 aA0 (eLoc 1)) (eCal 125 ci_X11_look rfl (aA1 aA0 (eLoc 0))))))
  (sWh (oAnd (oAnd (oCmp .eq (eFld 11 4 (eLoc 0)) (eInt (-1))) (oCmp .ne (eLoc 6) (eInt (-1)))) (oNot (oCm0 .ne (eCal 222 ci_X11_has rfl (aA1 (aA1 aA0 (eLoc 5)) (eLoc 6)))))) (sSeq (sSet 5 (eBin 4 (eLoc 5) (eBin 6 (eInt 1) (eLoc 6))))
  (sSeq (sUpdF 0 11 3 (eLoc 0) (eInt 1))
  (sSeq (sPutA 0 (eLoc 2) (eBin 0 (eLoc 3) (eLoc 6)) (eCal 232 ci_X11_number rfl (aA1 (aA1 (aA1 aA0 (eLoc 0)) (eCal 226 ci_X11_lowest rfl (aA1 (aA1 aA0 (eLoc 1)) (eLoc 6)))) (eCal 229 ci_X11_highest rfl (aA1 (aA1 aA0 (eLoc 1)) (eLoc 6))))))
  (sSet 6 (eCon (oCmp .eq (eFld 11 4 (eLoc 0)) (eInt (-1))) (eCal 219 ci_X11_itemOf rfl (aA1 (aA1 aA0 (eLoc 1)) (eCal 125 ci_X11_look rfl (aA1 aA0 (eLoc 0))))) (eInt (-1)))))))))))
  sReV)
def n_X11_items : MN := (yX11_items, cX11_items, 7, none, 4)
noncomputable def ci_X11_items : CI := (1, 11, [2, 0, 2, 0, 0], 3, denM 7 [2, 0, 2, 0, 0] false a_X11_items.1.1)
set_option maxRecDepth 100000 in
theorem m_X11_items : MetD wM n_X11_items ci_X11_items := g_meth false (a_X11_items) rxM_ok (by decide) rfl rfl rfl (by decide) (by decide) (Or.inr (Or.inr (Or.inr (Or.inr ⟨rfl, rfl⟩)))) (fun h => by cases h) (mkWords (fun _ h => absurd h List.not_mem_nil) (fun _ h => absurd h List.not_mem_nil) (fun _ h => absurd h List.not_mem_nil) (List.forall_mem_cons.mpr ⟨⟨_, _, _, rfl, by decide, Or.inl fw_X11_106⟩, List.forall_mem_cons.mpr ⟨⟨_, _, _, rfl, by decide, Or.inl fw_X11_113⟩, fun _ h => absurd h List.not_mem_nil⟩⟩) (fun _ h => absurd h List.not_mem_nil) (fun _ h => absurd h List.not_mem_nil)) (List.forall_mem_cons.mpr ⟨clV m_X11_look rfl rfl rfl (by decide) (Or.inl lw_X11_125) (kn_X11_look _) (by decide +kernel), List.forall_mem_cons.mpr ⟨clS m_X11_usual rfl (by decide) (Or.inl lw_X11_215) (kn_X11_usual _) (by decide +kernel), List.forall_mem_cons.mpr ⟨clS m_X11_itemOf rfl (by decide) (Or.inl lw_X11_219) (kn_X11_itemOf _) (by decide +kernel), List.forall_mem_cons.mpr ⟨clS m_X11_has rfl (by decide) (Or.inl lw_X11_222) (kn_X11_has _) (by decide +kernel), List.forall_mem_cons.mpr ⟨clS m_X11_lowest rfl (by decide) (Or.inl lw_X11_226) (kn_X11_lowest _) (by decide +kernel), List.forall_mem_cons.mpr ⟨clS m_X11_highest rfl (by decide) (Or.inl lw_X11_229) (kn_X11_highest _) (by decide +kernel), List.forall_mem_cons.mpr ⟨clV m_X11_number rfl rfl rfl (by decide) (Or.inl lw_X11_232) (kn_X11_number _) (by decide +kernel), fun _ h => absurd h List.not_mem_nil⟩⟩⟩⟩⟩⟩⟩) (by decide +kernel)
/-! BlackMillModel.isWhole()Z -/
noncomputable def mi_X11_isWhole : MI := (cX11_isWhole, 4, RX11, [], [], [], [(43, 11, 18), (46, 11, 19), (235, 11, 20), (238, 11, 21)], [], [], [])
noncomputable def a_X11_isWhole : St wM (mi_X11_isWhole) 0 :=
  (sSeq (sSet 1 (eBo (oCmp .gt (eFld 11 20 (eLoc 0)) (eInt 1))))
  (sSeq (sBlk (sSeq (sSet 2 (eInt 0))
  (sWh (oCmp .lt (eLoc 2) (eFld 11 20 (eLoc 0))) (sSeq (sSeq (sSet 3 (eAr 0 (eFld 11 18 (eLoc 0)) (eBin 0 (eBin 2 (eInt 5) (eLoc 2)) (eInt 3))))
  (sSet 1 (eBo (oAnd (oAnd (oAnd (oCm0 .ne (eLoc 1)) (oCmp .le (eAr 0 (eFld 11 18 (eLoc 0)) (eBin 0 (eBin 2 (eInt 5) (eLoc 2)) (eInt 1))) (eAr 0 (eFld 11 18 (eLoc 0)) (eBin 0 (eBin 2 (eInt 5) (eLoc 2)) (eInt 0))))) (oCmp .ne (eLoc 3) (eLoc 2))) (oOr (oCmp .eq (eLoc 3) (eInt 8)) (oCmp .lt (eLoc 3) (eFld 11 20 (eLoc 0))))))))
  (sInc 2 1)))))
  (sSeq (sBlk (sSeq (sSet 2 (eInt 0))
  (sWh (oCmp .lt (eLoc 2) (eFld 11 21 (eLoc 0))) (sSeq (sSet 1 (eBo (oAnd (oCm0 .ne (eLoc 1)) (oCmp .ne (eAr 0 (eFld 11 19 (eLoc 0)) (eBin 2 (eInt 3) (eLoc 2))) (eAr 0 (eFld 11 19 (eLoc 0)) (eBin 0 (eBin 2 (eInt 3) (eLoc 2)) (eInt 1)))))))
  (sInc 2 1)))))
  (sRet (eLoc 1)))))
def n_X11_isWhole : MN := (yX11_isWhole, cX11_isWhole, 4, (some .boolean), 1)
noncomputable def ci_X11_isWhole : CI := (1, 11, [2], 0, denM 4 [2] true a_X11_isWhole.1.1)
set_option maxRecDepth 100000 in
theorem m_X11_isWhole : MetD wM n_X11_isWhole ci_X11_isWhole := g_meth true (a_X11_isWhole) rxM_ok (by decide) rfl rfl rfl (by decide) (by decide) (Or.inr (Or.inl ⟨rfl, rfl⟩)) (fun _ => rfl) (mkWords (fun _ h => absurd h List.not_mem_nil) (fun _ h => absurd h List.not_mem_nil) (fun _ h => absurd h List.not_mem_nil) (List.forall_mem_cons.mpr ⟨⟨_, _, _, rfl, by decide, Or.inl fw_X11_43⟩, List.forall_mem_cons.mpr ⟨⟨_, _, _, rfl, by decide, Or.inl fw_X11_46⟩, List.forall_mem_cons.mpr ⟨⟨_, _, _, rfl, by decide, Or.inl fw_X11_235⟩, List.forall_mem_cons.mpr ⟨⟨_, _, _, rfl, by decide, Or.inl fw_X11_238⟩, fun _ h => absurd h List.not_mem_nil⟩⟩⟩⟩) (fun _ h => absurd h List.not_mem_nil) (fun _ h => absurd h List.not_mem_nil)) (fun _ h => absurd h List.not_mem_nil) (by decide +kernel)
/-! BlackMillModel.readMill()I -/
noncomputable def mi_X11_readMill : MI := (cX11_readMill, 4, RX11, [], [], [], [(40, 11, 17), (43, 11, 18), (46, 11, 19), (106, 11, 3), (113, 11, 4), (235, 11, 20), (238, 11, 21)], [], [], [(122, ci_X11_bad), (125, ci_X11_look), (215, ci_X11_usual), (241, ci_X11_items), (245, ci_X11_isWhole)])
noncomputable def a_X11_readMill : St wM (mi_X11_readMill) 0 :=
  (sSeq (sPutF 11 3 (eLoc 0) (eInt 0))
  (sSeq (sPutF 11 4 (eLoc 0) (eInt (-1)))
  (sSeq (sPutF 11 20 (eLoc 0) (eInt 0))
  (sSeq (sPutF 11 21 (eLoc 0) (eInt 0))
  (sSeq (sSet 1 (eInt 0))
  (sSeq (sBlk (sSeq (sSet 2 (eInt 0))
  (sWh (oCmp .lt (eLoc 2) (eInt 4)) (sSeq (sPutA 0 (eFld 11 17 (eLoc 0)) (eLoc 2) (eCal 215 ci_X11_usual rfl (aA1 (aA1 aA0 (eInt 115)) (eLoc 2))))
  (sInc 2 1)))))
  (sSeq (sSet 2 (eInt 1))
  (sSeq (sWh (oAnd (oCm0 .ne (eLoc 2)) (oCmp .eq (eFld 11 4 (eLoc 0)) (eInt (-1)))) (sSeq (sSet 3 (eCal 125 ci_X11_look rfl (aA1 aA0 (eLoc 0))))
  (sSeq (sIfE (oAnd (oCmp .eq (eLoc 3) (eInt 115)) (oNot (oCm0 .ne (eLoc 1)))) (sSeq (sSet 1 (eInt 1))
  (sSeq (sUpdF 0 11 3 (eLoc 0) (eInt 1))
  (sDo 241 ci_X11_items rfl (aA1 (aA1 (aA1 (aA1 (aA1 aA0 (eLoc 0)) (eLoc 3)) (eFld 11 17 (eLoc 0))) (eInt 0)) (eInt 4)))))
  (sIfE (oAnd (oCmp .eq (eLoc 3) (eInt 108)) (oCmp .lt (eFld 11 20 (eLoc 0)) (eInt 8))) (sSeq (sUpdF 0 11 3 (eLoc 0) (eInt 1))
  (sSeq (sDo 241 ci_X11_items rfl (aA1 (aA1 (aA1 (aA1 (aA1 aA0 (eLoc 0)) (eLoc 3)) (eFld 11 18 (eLoc 0))) (eBin 2 (eInt 5) (eFld 11 20 (eLoc 0)))) (eInt 5)))
  (sUpdF 0 11 20 (eLoc 0) (eInt 1))))
  (sIfE (oAnd (oCmp .eq (eLoc 3) (eInt 119)) (oCmp .lt (eFld 11 21 (eLoc 0)) (eInt 9))) (sSeq (sUpdF 0 11 3 (eLoc 0) (eInt 1))
  (sSeq (sDo 241 ci_X11_items rfl (aA1 (aA1 (aA1 (aA1 (aA1 aA0 (eLoc 0)) (eLoc 3)) (eFld 11 19 (eLoc 0))) (eBin 2 (eInt 3) (eFld 11 21 (eLoc 0)))) (eInt 3)))
  (sUpdF 0 11 21 (eLoc 0) (eInt 1))))
  (sDo 122 ci_X11_bad rfl (aA1 aA0 (eLoc 0))))))
  (sSeq (sSet 2 (eBo (oAnd (oCmp .eq (eFld 11 4 (eLoc 0)) (eInt (-1))) (oCmp .eq (eCal 125 ci_X11_look rfl (aA1 aA0 (eLoc 0))) (eInt 59)))))
  (sUpdF 0 11 3 (eLoc 0) (eCon (oCm0 .ne (eLoc 2)) (eInt 1) (eInt 0)))))))
  (sSeq (sIf (oAnd (oCmp .eq (eFld 11 4 (eLoc 0)) (eInt (-1))) (oOr (oCmp .ne (eCal 125 ci_X11_look rfl (aA1 aA0 (eLoc 0))) (eInt (-1))) (oNot (oCm0 .ne (eCal 245 ci_X11_isWhole rfl (aA1 aA0 (eLoc 0))))))) (sDo 122 ci_X11_bad rfl (aA1 aA0 (eLoc 0))))
  (sRet (eFld 11 4 (eLoc 0))))))))))))
def n_X11_readMill : MN := (yX11_readMill, cX11_readMill, 4, (some .int), 5)
noncomputable def ci_X11_readMill : CI := (1, 11, [2], 0, denM 4 [2] false a_X11_readMill.1.1)
set_option maxRecDepth 100000 in
theorem m_X11_readMill : MetD wM n_X11_readMill ci_X11_readMill := g_meth false (a_X11_readMill) rxM_ok (by decide) rfl rfl rfl (by decide) (by decide) (Or.inl ⟨rfl, rfl⟩) (fun h => by cases h) (mkWords (fun _ h => absurd h List.not_mem_nil) (fun _ h => absurd h List.not_mem_nil) (fun _ h => absurd h List.not_mem_nil) (List.forall_mem_cons.mpr ⟨⟨_, _, _, rfl, by decide, Or.inl fw_X11_40⟩, List.forall_mem_cons.mpr ⟨⟨_, _, _, rfl, by decide, Or.inl fw_X11_43⟩, List.forall_mem_cons.mpr ⟨⟨_, _, _, rfl, by decide, Or.inl fw_X11_46⟩, List.forall_mem_cons.mpr ⟨⟨_, _, _, rfl, by decide, Or.inl fw_X11_106⟩, List.forall_mem_cons.mpr ⟨⟨_, _, _, rfl, by decide, Or.inl fw_X11_113⟩, List.forall_mem_cons.mpr ⟨⟨_, _, _, rfl, by decide, Or.inl fw_X11_235⟩, List.forall_mem_cons.mpr ⟨⟨_, _, _, rfl, by decide, Or.inl fw_X11_238⟩, fun _ h => absurd h List.not_mem_nil⟩⟩⟩⟩⟩⟩⟩) (fun _ h => absurd h List.not_mem_nil) (fun _ h => absurd h List.not_mem_nil)) (List.forall_mem_cons.mpr ⟨clV m_X11_bad rfl rfl rfl (by decide) (Or.inl lw_X11_122) (kn_X11_bad _) (by decide +kernel), List.forall_mem_cons.mpr ⟨clV m_X11_look rfl rfl rfl (by decide) (Or.inl lw_X11_125) (kn_X11_look _) (by decide +kernel), List.forall_mem_cons.mpr ⟨clS m_X11_usual rfl (by decide) (Or.inl lw_X11_215) (kn_X11_usual _) (by decide +kernel), List.forall_mem_cons.mpr ⟨clV m_X11_items rfl rfl rfl (by decide) (Or.inl lw_X11_241) (kn_X11_items _) (by decide +kernel), List.forall_mem_cons.mpr ⟨clV m_X11_isWhole rfl rfl rfl (by decide) (Or.inl lw_X11_245) (kn_X11_isWhole _) (by decide +kernel), fun _ h => absurd h List.not_mem_nil⟩⟩⟩⟩⟩) (by decide +kernel)
/-! BlackMillModel.fault(I)I -/
noncomputable def mi_X11_fault : MI := (cX11_fault, 2, RX11, [], [], [], [], [], [], [(249, ci_X11_readMill), (252, ci_X11_readLaw)])
noncomputable def a_X11_fault : St wM (mi_X11_fault) 0 :=
  (sRet (eCon (oCm0 .eq (eLoc 1)) (eCal 249 ci_X11_readMill rfl (aA1 aA0 (eLoc 0))) (eCon (oCmp .eq (eLoc 1) (eInt 1)) (eCal 252 ci_X11_readLaw rfl (aA1 (aA1 aA0 (eLoc 0)) (eInt 4))) (eInt (-2)))))
def n_X11_fault : MN := (yX11_fault, cX11_fault, 2, (some .int), 63)
noncomputable def ci_X11_fault : CI := (1, 11, [2, 0], 0, denM 2 [2, 0] false a_X11_fault.1.1)
set_option maxRecDepth 100000 in
theorem m_X11_fault : MetD wM n_X11_fault ci_X11_fault := g_meth false (a_X11_fault) rxM_ok (by decide) rfl rfl rfl (by decide) (by decide) (Or.inl ⟨rfl, rfl⟩) (fun h => by cases h) (mkWords (fun _ h => absurd h List.not_mem_nil) (fun _ h => absurd h List.not_mem_nil) (fun _ h => absurd h List.not_mem_nil) (fun _ h => absurd h List.not_mem_nil) (fun _ h => absurd h List.not_mem_nil) (fun _ h => absurd h List.not_mem_nil)) (List.forall_mem_cons.mpr ⟨clV m_X11_readMill rfl rfl rfl (by decide) (Or.inl lw_X11_249) (kn_X11_readMill _) (by decide +kernel), List.forall_mem_cons.mpr ⟨clV m_X11_readLaw rfl rfl rfl (by decide) (Or.inl lw_X11_252) (kn_X11_readLaw _) (by decide +kernel), fun _ h => absurd h List.not_mem_nil⟩⟩) (by decide +kernel)
/-! BlackMillModel.lay(III)V -/
noncomputable def mi_X11_lay : MI := (cX11_lay, 4, RX11, [], [], [], [(55, 11, 26)], [], [], [])
noncomputable def a_X11_lay : St wM (mi_X11_lay) 3 :=
  (sSeq (sPutA 0 (eFld 11 26 (eLoc 0)) (eBin 0 (eBin 2 (eInt 6) (eLoc 1)) (eLoc 2)) (eLoc 3))
  sReV)
def n_X11_lay : MN := (yX11_lay, cX11_lay, 4, none, 1)
noncomputable def ci_X11_lay : CI := (1, 11, [2, 0, 0, 0], 3, denM 4 [2, 0, 0, 0] false a_X11_lay.1.1)
set_option maxRecDepth 100000 in
theorem m_X11_lay : MetD wM n_X11_lay ci_X11_lay := g_meth false (a_X11_lay) rxM_ok (by decide) rfl rfl rfl (by decide) (by decide) (Or.inr (Or.inr (Or.inr (Or.inr ⟨rfl, rfl⟩)))) (fun h => by cases h) (mkWords (fun _ h => absurd h List.not_mem_nil) (fun _ h => absurd h List.not_mem_nil) (fun _ h => absurd h List.not_mem_nil) (List.forall_mem_cons.mpr ⟨⟨_, _, _, rfl, by decide, Or.inl fw_X11_55⟩, fun _ h => absurd h List.not_mem_nil⟩) (fun _ h => absurd h List.not_mem_nil) (fun _ h => absurd h List.not_mem_nil)) (fun _ h => absurd h List.not_mem_nil) (by decide +kernel)
