/-! PART 97.t4: the law's helper: the class's lad, caught. -/
abbrev outE (cL : ClassId) (f : Nat → Int64) : va_E := .inl (cL, 1, .inr (.inl f))
abbrev tysL (G : Geo) (cL : ClassId) : List (ClassId × FieldType) := gTys G ++ [(cL, .long)]
abbrev gAo (G : Geo) (o : Nat) : Nat → Prop := fun q => gA wC G q ∨ q = o
def rmLL : Room := { frames := 7, cells := 1, slots := 6, locals := 448 }
def llPc (G : Geo) (a w : Int) (M : Mem) (o : Nat) (cL : ClassId) (f : Nat → Int64) : Array Value → State → Prop := va_Pc [Value.ref (gad G 0), .int (Int32.ofInt a), .int (Int32.ofInt w), .ref o] (fun U => (va_P (gD G) vwCl (render wC G M ++ [(o, outE cL f)]) U.heap ∧ va_K (gD G) vwCl (tysL G cL) U ∧ RO wC G M U U.heap) ∧ exU (gA wC G) U U.heap)
def llQc (G : Geo) (dec : Bool) (r : Int) (M : Mem) (o : Nat) (cL : ClassId) : Array Value → State → Outcome → State → Prop := va_Qi (fun (r' : Int32) (u : Nat → Int64) => if dec = true then r' = 0 ∧ u 0 = Int64.ofInt (wr r) else r' = 1) (fun u t => va_P (gD G) vwCl (render wC G M ++ [(o, outE cL u)]) t.heap) (gAo G o)
abbrev hhL : List (Nat × Nat × Nat × Nat) := [(0, 10, 13, 13)]
theorem kw_lad : Cond.codeWith yL_lad cL_lad 5 (some .int) hhL ∈ TBL := tbl_mem 1156 (by decide +kernel) (by decide +kernel)
theorem kl_lad : Cond.methodLink RL 7 yX10_lad ∈ TBL := tbl_mem 1158 (by decide +kernel) (by decide +kernel)
theorem kn_X10_lad (h : Nat) : KnownV (yX10_lad, cX10_lad, 3, (some .int), h) := ⟨tbl_mem (w := Cond.code yX10_lad cX10_lad 3 (some .int)) 1161 (by decide +kernel) (by decide +kernel), tbl_mem (w := Cond.instanceMethod yX10_lad) 1159 (by decide +kernel) (by decide +kernel), tbl_mem (w := Cond.selects RX10 yX10_lad yX10_lad) 1160 (by decide +kernel) (by decide +kernel), in_X10, ne_X10, Nat.le_of_ble_eq_true rfl⟩
theorem kl_lc : Cond.classLink RL 13 ladX ∈ TBL := tbl_mem 1157 (by decide +kernel) (by decide +kernel)
theorem rend_len {wd : Wd} {G : Geo} {M : Mem} : (render wd G M).length = wd.2.1 := by simp [render]
theorem app_P {G : Geo} {M : Mem} {H : Heap} {o : Nat} {x : va_E} (h : va_P (gD G) vwCl (render wC G M ++ [(o, x)]) H) : va_P (gD G) vwCl (render wC G M) H ∧ va_P (gD G) vwCl [(o, x)] H := by
  refine ⟨fun k q hk => h k q (by rw [List.getElem?_append_left (List.getElem?_eq_some_iff.mp hk).1]; exact hk), fun k q hk => ?_⟩
  have hz : k < 1 := (List.getElem?_eq_some_iff.mp hk).1
  rw [show k = 0 by omega] at hk
  cases hk
  exact h 52 _ (by rw [List.getElem?_append_right (by rw [rend_len]; exact Nat.le_refl 52), rend_len]; rfl)
theorem lowK {G : Geo} {cL : ClassId} {s : State} (h : va_K (gD G) vwCl (tysL G cL) s) : va_K (gD G) vwCl (gTys G) s := h.sub [0, 1, 2] rfl
theorem ll_met (l : Launch) (hflags : l.flags = flags0) (G : Geo) (hinj : gInj wC G) {o : Nat} {cL : ClassId} (ho : ¬ gA wC G o) {a w r : Int} {M : Mem} {b dec : Bool} (f : Nat → Int64) (hhas : ci_X2_has.2.2.2.2 [15, a] M = some (b2i b, M)) (hdec : dec = true ↔ (b = true ∧ 0 ≤ wr w ∧ wr w ≤ 8)) (hres : dec = true → (if wr w = 7 then ci_X2_fear.2.2.2.2 [15, a] M else if wr w = 8 then ci_X2_signs.2.2.2.2 [15, a] M else ci_X2_get.2.2.2.2 [15, a, w] M) = some (r, M)) :
    Met l yL_lad (Cond.codeWith yL_lad cL_lad 5 (some .int) hhL :: TBL) rmLL (llPc G a w M o cL f) (llQc G dec r M o cL) 1 6 (gAo G o) := by
  refine va_MetW (cc := cL_lad) (maxL := 5) (ret := some .int) (hh := hhL) (by decide) rfl ?_
  intro p e s m args below meth c s₁ B hml hv
  obtain ⟨rfl, ⟨hP0, hK, hRO⟩, hex⟩ := hv
  have hx := B.exec
  have hb := B.bytes
  have hr := B.returns
  have hts0 := atoms_spec (ws := Cond.codeWith yL_lad cL_lad 5 (some .int) hhL :: TBL) B.pre
  have hts : ∀ w ∈ TBL, w.before _ s = true := fun w hw => hts0 w (List.mem_cons_of_mem _ hw)
  have htab := vx_table (x := yL_lad) B (hts _ kw_lad)
  have hown : s.vm.findClass RL = some m.cls := findClass_of_methodNamed B.named
  have hlocks := B.notSynchronized
  obtain ⟨hP1, hPo⟩ := app_P hP0
  have hKl := lowK hK
  have hl := lv_entry ([Value.ref (gad G 0), .int (Int32.ofInt a), .int (Int32.ofInt w), .ref o]) (n := 5) (Nat.le_of_ble_eq_true rfl)
  rw [lg_entry_eq]
  generalize (lg_sl ([Value.ref (gad G 0), .int (Int32.ofInt a), .int (Int32.ofInt w), .ref o]) ++ List.replicate (5 - (lg_sl ([Value.ref (gad G 0), .int (Int32.ofInt a), .int (Int32.ofInt w), .ref o])).length) Slot.unset).toArray = ls at hl ⊢
  have hl : lv_has ls 5 [(0, .ref (gad G 0)), (1, .int (Int32.ofInt a)), (2, .int (Int32.ofInt w)), (3, .ref o)] := hl
  have hS : va_S (gAo G o) s.heap s.heap [] := va_S.rf
  refine lv_aload_n hx hb (show decode cL_lad 0 = .ok (.aload_n 3, 1) by decide +kernel) rfl (lv_at hl 3 rfl) ?_
  refine lv_iconst (v := 0) hx hb (show decode cL_lad 1 = .ok (.iconst 0, 1) by decide +kernel) (by decide) ?_
  refine lv_aload_n hx hb (show decode cL_lad 2 = .ok (.aload_n 0, 1) by decide +kernel) rfl (lv_at hl 0 rfl) ?_
  refine lv_iload_n hx hb (show decode cL_lad 3 = .ok (.iload_n 1, 1) by decide +kernel) rfl (lv_at hl 1 rfl) ?_
  refine lv_iload_n hx hb (show decode cL_lad 4 = .ok (.iload_n 2, 1) by decide +kernel) rfl (lv_at hl 2 rfl) ?_
  obtain ⟨k1, k2, k3, k6, k4, k5⟩ := kn_X10_lad 0
  have hg := render_get (wd := wC) (G := G) (M := M) (i := 0) (by decide)
  have hsk0 : wC.1[0]? = some (10 + 3, 17, [1, 3, 7, 9, 14, 15, 17, 19, 21, 23, 25, 28, 42, 45, 51, 0, 0]) := rfl
  rw [cell_3 hsk0] at hg
  have hrc := va_recv hKl hP1 (q := (RX10, TX10, 17)) rfl hg
  have hpre : PreV s s.heap RX10 (gad G 0) (ladPc G a w M) [.int (Int32.ofInt a), .int (Int32.ofInt w)] := by
    refine ⟨fun aa U g mk q => ?_, hrc, fun U hU hW => ⟨rfl, ⟨by rw [hU]; exact hP1, va_K.moved hW.alike hKl, ?_⟩, ?_⟩⟩
    · obtain ⟨q0, ⟨q1, q2, q3⟩, q4⟩ := q
      exact ⟨q0, ⟨q1, va_K.moved (u := U) (U := U.calling g mk aa) (Vm.Alike.refl U.vm) q2, RO.same (s := U) (U := U.calling g mk aa) rxC_ok rfl q3⟩, exU.same (s := U) (U := U.calling g mk aa) rfl q4⟩
    · rw [hU]; exact RO.warm rxC_ok hW hRO
    · rw [hU]; exact hex.warm hW
  have hA1 : ∀ q, gA wC G q → gAo G o q := fun q h => Or.inl h
  have kept : ∀ H1 : Heap, (∀ q : Nat, q < s.heap.size → ¬ gA wC G q → H1[q]? = s.heap[q]?) → va_P (gD G) vwCl [(o, outE cL f)] H1 := fun H1 hk => hPo.kept (fun k q hq => by
    have hz : k < 1 := (List.getElem?_eq_some_iff.mp hq).1
    rw [show k = 0 by omega] at hq
    cases hq
    exact hk o (hPo 0 _ rfl).lt ho)
  have hcw : CallW rmLL s [Value.ref (gad G 0), .int (Int32.ofInt a), .int (Int32.ofInt w), .ref o].toArray RL RX10 7 yX10_lad cX10_lad 3 (some .int) (Cond.code yX10_lad cX10_lad 3 (some .int) :: TBL) rmLad 1 6 2 := by
    refine cwV 2 hts (fun w hw => ?_) rfl rfl rfl ⟨rfl, k4.1, k4.2, by decide +kernel⟩ ⟨by decide, by decide⟩
    rcases List.mem_append.mp hw with hw | hw
    · simp only [List.mem_cons, List.not_mem_nil, or_false] at hw
      rcases hw with rfl | rfl | rfl | rfl
      · exact good1 kl_lad
      · exact good1 k2
      · exact good1 k3
      · exact good1 k6
    · exact code_good k1 w hw
  refine vx_calli (vx_runV (As := [.int (Int32.ofInt a), .int (Int32.ofInt w)]) (rest := [.int 0, .ref o]) ⟨hx, hb, hml, hown, hts⟩ (lad_met l hflags G hinj hhas hdec hres) hcw hpre rfl rfl hl.1 rfl (lv_room (Nat.le_of_ble_eq_true rfl)) (show decode cL_lad 5 = .ok (.invokevirtual 7, 3) by decide +kernel) ⟨by decide, by decide⟩) hS (fun q _ h => hA1 q h) hA1 (fun q _ h => hA1 q h) (fun E ce q9 u t H1 locs1 ht hvm hd hB hz1 hk1 hS1 e1 e2 e3 => ?_) (fun r' u t H1 locs1 ht hvm hp hB hz1 hk1 hS1 => ?_)
  · obtain ⟨rfl, hP2⟩ := hB
    rw [ht] at hP2
    have hcast : (Cond.castable ladX ladX).before [Value.ref (gad G 0), .int (Int32.ofInt a), .int (Int32.ofInt w), .ref o].toArray s = true := va_tabs (nxB_on lad_w3) rfl (hex.2.2.2 _ lad_w3)
    refine vx_catch (own := RL) (name := ladX) hown [] ⟨0, 10, 13, 13⟩ [] (by rw [htab]; rfl) (fun z hz => by cases hz) (by decide) (by decide) (hts _ kl_lc) hcast e1 e2 e3 ?_
    refine lv_astore (lv' := [(4, .ref q9), (0, .ref (gad G 0)), (1, .int (Int32.ofInt a)), (2, .int (Int32.ofInt w)), (3, .ref o)]) hx hb (show decode cL_lad 13 = .ok (.astore 4, 2) by decide +kernel) hl (by decide) rfl (fun ls hl => ?_)
    refine lv_iconst (v := 1) hx hb (show decode cL_lad 15 = .ok (.iconst 1, 1) by decide +kernel) (by decide) ?_
    refine W.iret hx hb hr (fun t2 ht2 _ => ⟨⟨1, f, rfl, ?_, ?_⟩, hS1.F ht2⟩) hS1.2.2 (show decode cL_lad 16 = .ok (.ireturn, 1) by decide +kernel)
    · show (if dec = true then (1 : Int32) = 0 ∧ f 0 = Int64.ofInt (wr r) else (1 : Int32) = 1)
      rw [if_neg (by rw [hd]; decide)]
    · show va_P _ _ _ t2.heap
      rw [ht2]
      exact hP2.app (kept H1 hk1)
  · obtain ⟨hd, rfl⟩ := hp
    have hP2 : va_P (gD G) vwCl (render wC G M) t.heap := hB
    rw [ht] at hP2
    have hP3 : va_P (gD G) vwCl (render wC G M ++ [(o, outE cL f)]) H1 := hP2.app (kept H1 hk1)
    refine lv_i2l hx hb (show decode cL_lad 8 = .ok (.i2l, 1) by decide +kernel) (i2l_eq r) ?_
    have hDo : va_D (gAo G o) [(o, outE cL f)] := by
      refine ⟨fun i j p q hi hj _ => ?_, fun k q hq => ?_⟩
      · have a1 := (List.getElem?_eq_some_iff.mp hi).1
        have a2 := (List.getElem?_eq_some_iff.mp hj).1
        simp at a1 a2
        omega
      · have hz : k < 1 := (List.getElem?_eq_some_iff.mp hq).1
        rw [show k = 0 by omega] at hq
        cases hq
        exact Or.inr rfl
    have hD3 : va_D (gAo G o) (render wC G M ++ [(o, outE cL f)]) := by
      refine va_D.app ((render_D hinj).weaken (fun k q _ h => Or.inl h)) hDo (fun i j x y hi hj hxy => ?_)
      have hz : j < 1 := (List.getElem?_eq_some_iff.mp hj).1
      rw [show j = 0 by omega] at hj
      cases hj
      have e9 : x.1 = o := hxy
      exact ho (e9 ▸ (render_D hinj).2 i x hi)
    have hgo : (render wC G M ++ [(o, outE cL f)])[52]? = some (o, outE cL f) := by
      rw [List.getElem?_append_right (by rw [rend_len]; exact Nat.le_refl 52), rend_len]
      rfl
    refine va_last hx hb hK hP3 hD3 hS1 52 3 hgo rfl (i := 0) (show ¬ ((0 : Int32) < 0 ∨ 1 ≤ (0 : Int32).toNatClampNeg) by decide) (show decode cL_lad 9 = .ok (.lastore, 1) by decide +kernel) (fun H2 locs2 hP4 hD4 hS2 => ?_)
    refine lv_goto (tgt := 17) hx hb (show decode cL_lad 10 = .ok (.goto 7, 3) by decide +kernel) (by decide) ?_
    refine lv_iconst (v := 0) hx hb (show decode cL_lad 17 = .ok (.iconst 0, 1) by decide +kernel) (by decide) ?_
    refine W.iret hx hb hr (fun t2 ht2 _ => ⟨⟨0, vp_updL f 0 (Int64.ofInt (wr r)), rfl, ?_, ?_⟩, hS2.F ht2⟩) hS2.2.2 (show decode cL_lad 18 = .ok (.ireturn, 1) by decide +kernel)
    · show (if dec = true then (0 : Int32) = 0 ∧ vp_updL f 0 (Int64.ofInt (wr r)) 0 = Int64.ofInt (wr r) else (0 : Int32) = 1)
      rw [if_pos hd]
      exact ⟨rfl, rfl⟩
    · show va_P _ _ _ t2.heap
      rw [ht2]
      have e9 : (render wC G M ++ [(o, outE cL f)]).set 52 (o, outE cL (vp_updL f 0 (Int64.ofInt (wr r)))) = render wC G M ++ [(o, outE cL (vp_updL f 0 (Int64.ofInt (wr r))))] := by
        rw [List.set_append_right _ _ (by rw [rend_len]; exact Nat.le_refl 52), rend_len]
        rfl
      exact e9 ▸ hP4
