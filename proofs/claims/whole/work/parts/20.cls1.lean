/-! methods of cls, 1 -/
/-! BlackMill.filled(I)I -/
noncomputable def mi_X10_filled : MI := (cX10_filled, 3, RX10, [], [], [], [], [], [], [])
noncomputable def a_X10_filled : St wC (mi_X10_filled) 0 :=
  (sSeq (sSet 1 (eInt 0))
  (sSeq (sBlk (sSeq (sSet 2 (eInt 0))
  (sWh (oCmp .lt (eLoc 2) (eInt 32)) (sSeq (sIf (oCm0 .ne (eBin 3 (eBin 8 (eLoc 0) (eLoc 2)) (eInt 255))) (sInc 1 1))
  (sInc 2 8)))))
  (sRet (eLoc 1))))
def n_X10_filled : MN := (yX10_filled, cX10_filled, 3, (some .int), 1)
noncomputable def ci_X10_filled : CI := (0, 10, [0], 0, denM 3 [0] false a_X10_filled.1.1)
set_option maxRecDepth 100000 in
theorem m_X10_filled : MetD wC n_X10_filled ci_X10_filled := g_meth false (a_X10_filled) rxC_ok (by decide) rfl rfl rfl (by decide) (by decide) (Or.inl ⟨rfl, rfl⟩) (fun h => by cases h) (mkWords (fun _ h => absurd h List.not_mem_nil) (fun _ h => absurd h List.not_mem_nil) (fun _ h => absurd h List.not_mem_nil) (fun _ h => absurd h List.not_mem_nil) (fun _ h => absurd h List.not_mem_nil) (fun _ h => absurd h List.not_mem_nil)) (fun _ h => absurd h List.not_mem_nil) (by decide +kernel)
