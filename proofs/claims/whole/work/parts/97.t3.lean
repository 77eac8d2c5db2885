/-! PART 97.t3: the class's lad: an answer, or the exception. -/
def exU (A : Nat → Prop) (U : State) (H : Heap) : Prop := (∃ sa : Nat, vk_R RX10 161 "no such lad" sa U) ∧ vx_Zq Bundle.tN "UNASSIGNED_STACK" Bundle.steD A U H ∧ vx_Zq Bundle.tN "SUPPRESSED_SENTINEL" Bundle.listD A U H ∧ ∀ w ∈ nxB, va_Nw w U
theorem exU.warm {A : Nat → Prop} {s U : State} {H : Heap} (hW : s.WarmedH U.vm) (h : exU A s H) : exU A U H := by
  obtain ⟨⟨sa, h1⟩, h2, h3, h4⟩ := h
  exact ⟨⟨sa, vk_R.warm hW h1⟩, vx_Zq.moved hW.alike h2, vx_Zq.moved hW.alike h3, fun w hw => nxB_warm hW hw (h4 w hw)⟩
theorem exU.same {A : Nat → Prop} {s U : State} {H : Heap} (hv : s.vm = U.vm) (h : exU A s H) : exU A U H := by
  obtain ⟨⟨sa, h1⟩, h2, h3, h4⟩ := h
  have hal : s.vm.Alike U.vm := by rw [hv]; exact Vm.Alike.refl _
  exact ⟨⟨sa, vk_R.same hv.symm h1⟩, vx_Zq.moved hal h2, vx_Zq.moved hal h3, fun w hw => va_Nw.same (nxB_on hw) hv (h4 w hw)⟩
theorem exU.kept {A : Nat → Prop} {s : State} {H H1 : Heap} (hq : ∀ a : Nat, a < H.size → ¬ A a → H1[a]? = H[a]?) (h : exU A s H) : exU A s H1 := ⟨h.1, h.2.1.kept hq, h.2.2.1.kept hq, h.2.2.2⟩
theorem exU.narrow {A B : Nat → Prop} {s : State} {H : Heap} (hAB : ∀ q, B q → A q) (h : exU A s H) : exU B s H := ⟨h.1, h.2.1.narrow hAB, h.2.2.1.narrow hAB, h.2.2.2⟩
def rmLad : Room := { frames := 6, cells := 1, slots := 6, locals := 384 }
def ladPc (G : Geo) (a w : Int) (M : Mem) : Array Value → State → Prop := va_Pc [Value.ref (gad G 0), .int (Int32.ofInt a), .int (Int32.ofInt w)] (fun U => (va_P (gD G) vwCl (render wC G M) U.heap ∧ va_K (gD G) vwCl (gTys G) U ∧ RO wC G M U U.heap) ∧ exU (gA wC G) U U.heap)
def ladQc (G : Geo) (dec : Bool) (r : Int) (M : Mem) : Array Value → State → Outcome → State → Prop := va_Qi (fun (r' : Int32) (_ : Unit) => dec = true ∧ r' = Int32.ofInt r) (fun _ t => va_P (gD G) vwCl (render wC G M) t.heap) (gA wC G)
def ladXC (G : Geo) (dec : Bool) (M : Mem) : String → State → State → Prop := vx_X (fun _ : Unit => dec = false) (fun E _ t => E = ladX ∧ va_P (gD G) vwCl (render wC G M) t.heap) (gA wC G)
noncomputable def mi_lad : MI := (cX10_lad, 3, RX10, [], [], [], [(44, 10, 5)], [], [], [(155, ci_X2_has), (166, ci_X2_fear), (169, ci_X2_signs), (172, ci_X2_get)])
theorem lk_signs : Cond.methodLink RX10 169 yX2_signs ∈ TBL := tbl_mem 1227 (by decide +kernel) (by decide +kernel)
theorem kl_nse : Cond.classLink RX10 159 ladX ∈ TBL := tbl_mem 1162 (by decide +kernel) (by decide +kernel)
theorem kj_nse : Cond.initialized ladX ∈ TBL := tbl_mem 113 (by decide +kernel) (by decide +kernel)
theorem lad_met (l : Launch) (hflags : l.flags = flags0) (G : Geo) (hinj : gInj wC G) {a w r : Int} {M : Mem} {b dec : Bool} (hhas : ci_X2_has.2.2.2.2 [15, a] M = some (b2i b, M)) (hdec : dec = true ↔ (b = true ∧ 0 ≤ wr w ∧ wr w ≤ 8)) (hres : dec = true → (if wr w = 7 then ci_X2_fear.2.2.2.2 [15, a] M else if wr w = 8 then ci_X2_signs.2.2.2.2 [15, a] M else ci_X2_get.2.2.2.2 [15, a, w] M) = some (r, M)) :
    vx_Met l yX10_lad (Cond.code yX10_lad cX10_lad 3 (some .int) :: TBL) rmLad (ladPc G a w M) (ladQc G dec r M) (ladXC G dec M) 1 6 (gA wC G) := by
  refine vx_ofW (cc := cX10_lad) (maxL := 3) (ret := some .int) (by decide) rfl ?_
  intro p e s m args below meth c s₁ B hml htab hv
  obtain ⟨rfl, ⟨hP, hK, hRO⟩, hex⟩ := hv
  have hx := B.exec
  have hb := B.bytes
  have hr := B.returns
  have hts0 := atoms_spec (ws := Cond.code yX10_lad cX10_lad 3 (some .int) :: TBL) B.pre
  have hts : ∀ w ∈ TBL, w.before _ s = true := fun w hw => hts0 w (List.mem_cons_of_mem _ hw)
  have hown : s.vm.findClass RX10 = some m.cls := findClass_of_methodNamed B.named
  have hlocks := B.notSynchronized
  have hltr : l.stackTraces = false := by rw [Launch.stackTraces, hflags]; rfl
  generalize hQ : vx_MQ below (ladQc G dec r M) (ladXC G dec M) [Value.ref (gad G 0), .int (Int32.ofInt a), .int (Int32.ofInt w)].toArray s 1 6 (gA wC G) = Q
  have hX : GOk wC mi_lad (p, l, e, rmLad, s, m, [Value.ref (gad G 0), .int (Int32.ofInt a), .int (Int32.ofInt w)].toArray, below, meth, c, Q, M, G) := by
    refine ⟨hx, hb, hml, hown, hts, hK, hinj, hRO, ⟨by decide, by decide⟩, fun q hq => absurd hq List.not_mem_nil, fun q hq => absurd hq List.not_mem_nil, fun q hq => absurd hq List.not_mem_nil, fun q hq => ?_, fun q hq => absurd hq List.not_mem_nil, fun q hq => absurd hq List.not_mem_nil, fun q hq => ?_⟩
    · rw [List.mem_singleton.mp hq]
      exact ⟨RX10, TX10, 17, rfl, by decide, Or.inl (hts _ fw_X10_44)⟩
    · simp only [miK, mi_lad, List.mem_cons, List.not_mem_nil, or_false] at hq
      rcases hq with rfl | rfl | rfl | rfl
      · exact callOk_W hx hb hml hown hts hK hinj rxC_ok hRO m_X2_has rfl rfl rfl (kn_X2_has 1) (Or.inl lw_X10_155) (by decide +kernel) ⟨by decide, by decide⟩
      · exact callOk_W hx hb hml hown hts hK hinj rxC_ok hRO m_X2_fear rfl rfl rfl (kn_X2_fear 2) (Or.inl lw_X10_166) (by decide +kernel) ⟨by decide, by decide⟩
      · exact callOk_W hx hb hml hown hts hK hinj rxC_ok hRO m_X2_signs rfl rfl rfl (kn_X2_signs 4) (Or.inl lk_signs) (by decide +kernel) ⟨by decide, by decide⟩
      · exact callOk_W hx hb hml hown hts hK hinj rxC_ok hRO m_X2_get rfl rfl rfl (kn_X2_get 1) (Or.inl lw_X10_172) (by decide +kernel) ⟨by decide, by decide⟩
  have thr : ∀ lv, dec = false → GW wC 3 (p, l, e, rmLad, s, m, [Value.ref (gad G 0), .int (Int32.ofInt a), .int (Int32.ofInt w)].toArray, below, meth, c, Q, M, G) 21 lv [] M := by
    intro lv hd hm H locs ls hP2 hS hl
    obtain ⟨⟨sa, x1⟩, x2, x3, x4⟩ := hex
    refine nx_make hx hb hltr hown (hts _ kl_nse) (hts _ kj_nse) x1 (nx_words hts x4) (fun w hw => List.all_eq_true.mp lad_w2 w hw) x2 x3 hS (by rw [hml]; exact hl.1) (by decide +kernel) (by decide +kernel) (by decide +kernel) (by decide +kernel) (by decide) (show (0 : Nat) + 82 ≤ 384 by decide) (by decide) (by decide) (fun q ce H1 c1 c2 c3 c4 c5 hS1 => ?_)
    refine vx_athrow hx hb (by decide +kernel) ?_
    rw [← hQ]
    refine vx_out (E := ladX) (fun x hx => (htab x hx).elim) hlocks c1 c2 c3 (fun t ht _ => ⟨(), hd, ⟨rfl, ?_⟩, ?_⟩) hS1.2.2 (by decide) (by decide)
    · rw [ht]
      exact hP2.kept (fun k q hk => c5 q.1 ((hP2 k q hk).lt))
    · refine ⟨?_, fun q h1 h2 => ?_⟩
      · rw [ht]; exact Nat.le_trans hS.1 c4
      · rw [ht, c5 q (Nat.lt_of_lt_of_le h1 hS.1)]
        exact hS.2.1 q h1 h2
  have fin9 : ∀ pc lv, dec = true → decode cX10_lad pc = .ok (.ireturn, 1) → GW wC 3 (p, l, e, rmLad, s, m, [Value.ref (gad G 0), .int (Int32.ofInt a), .int (Int32.ofInt w)].toArray, below, meth, c, Q, M, G) pc lv [(0, r)] M := by
    intro pc lv hd hdec hm H locs ls hP2 hS hl
    rw [← hQ]
    refine vx_ret ?_
    refine W.widen (k := 1) (n := 6) (by decide) (by decide) ?_
    exact W.iret hx hb hr (fun t ht _ => ⟨⟨Int32.ofInt r, (), rfl, ⟨hd, rfl⟩, by show va_P (gD G) vwCl (render wC G M) t.heap; rw [ht]; exact hP2⟩, hS.F ht⟩) hS.2.2 hdec
  have hbody : GW wC 3 (p, l, e, rmLad, s, m, [Value.ref (gad G 0), .int (Int32.ofInt a), .int (Int32.ofInt w)].toArray, below, meth, c, Q, M, G) 0 [(0, 2, 0), (1, 0, a), (2, 0, w)] [] M := by
    refine gw_aload_n (i := 0) (x := 0) hX (show decode cX10_lad 0 = .ok (.aload_n 0, 1) by decide +kernel) rfl (by simp) ?_
    refine gw_getf (i := 44) (c := 10) (k := 5) (n := 17) (o := 0) hX rfl (by decide) (by decide) rfl (by decide) (show decode cX10_lad 1 = .ok (.getfield 44, 3) by decide +kernel) ?_
    show GW wC 3 _ 4 _ [(2, 15)] M
    refine gw_iload_n (i := 1) (x := a) hX (show decode cX10_lad 4 = .ok (.iload_n 1, 1) by decide +kernel) rfl (by simp) ?_
    refine gw_call (idx := 155) (ci := ci_X2_has) (vs := [15, a]) (st := []) hX rfl (show decode cX10_lad 5 = .ok (.invokevirtual 155, 3) by decide +kernel) rfl (by decide) hhas (show isOb wC 15 2 = true from isC15) ?_
    show GW wC 3 _ 8 _ [(0, b2i b)] M
    refine gw_if (q := .eq) (tgt := 21) (st := []) hX (show decode cX10_lad 8 = .ok (.ifCond .eq 13, 3) by decide +kernel) (by decide) (fun c1 => ?_) (fun c1 => ?_)
    · refine thr _ ?_
      have c1 : decide (wr (b2i b) = wr 0) = true := c1
      cases b
      · cases dec
        · rfl
        · exact absurd (hdec.mp rfl).1 (by decide)
      · exact absurd c1 (by decide)
    have hb1 : b = true := by
      have c1 : decide (wr (b2i b) = wr 0) = false := c1
      cases b
      · exact absurd c1 (by decide)
      · rfl
    refine gw_iload_n (i := 2) (x := w) hX (show decode cX10_lad 11 = .ok (.iload_n 2, 1) by decide +kernel) rfl (by simp) ?_
    refine gw_if (q := .lt) (tgt := 21) (st := []) hX (show decode cX10_lad 12 = .ok (.ifCond .lt 9, 3) by decide +kernel) (by decide) (fun c2 => ?_) (fun c2 => ?_)
    · refine thr _ ?_
      have c2 : wr w < wr 0 := of_decide_eq_true c2
      rw [wr_0] at c2
      cases dec
      · rfl
      · exact absurd (hdec.mp rfl).2.1 (by omega)
    have c2 : ¬ wr w < wr 0 := of_decide_eq_false c2
    rw [wr_0] at c2
    refine gw_iload_n (i := 2) (x := w) hX (show decode cX10_lad 15 = .ok (.iload_n 2, 1) by decide +kernel) rfl (by simp) ?_
    refine gw_bipush (n := 8) hX (by decide) (by decide) (show decode cX10_lad 16 = .ok (.bipush 8, 2) by decide +kernel) ?_
    refine gw_icmp (q := .le) (tgt := 31) (st := []) hX (show decode cX10_lad 18 = .ok (.if_icmp .le 13, 3) by decide +kernel) (by decide) (fun c3 => ?_) (fun c3 => ?_)
    · have c3 : wr w ≤ wr 8 := of_decide_eq_true c3
      rw [wk_8] at c3
      have hd : dec = true := hdec.mpr ⟨hb1, by omega, by omega⟩
      have hres := hres hd
      refine gw_iload_n (i := 2) (x := w) hX (show decode cX10_lad 31 = .ok (.iload_n 2, 1) by decide +kernel) rfl (by simp) ?_
      refine gw_bipush (n := 7) hX (by decide) (by decide) (show decode cX10_lad 32 = .ok (.bipush 7, 2) by decide +kernel) ?_
      refine gw_icmp (q := .ne) (tgt := 46) (st := []) hX (show decode cX10_lad 34 = .ok (.if_icmp .ne 12, 3) by decide +kernel) (by decide) (fun c4 => ?_) (fun c4 => ?_)
      · have c4 : ¬ wr w = wr 7 := of_decide_eq_true c4
        rw [wk_7] at c4
        rw [if_neg c4] at hres
        refine gw_iload_n (i := 2) (x := w) hX (show decode cX10_lad 46 = .ok (.iload_n 2, 1) by decide +kernel) rfl (by simp) ?_
        refine gw_bipush (n := 8) hX (by decide) (by decide) (show decode cX10_lad 47 = .ok (.bipush 8, 2) by decide +kernel) ?_
        refine gw_icmp (q := .ne) (tgt := 63) (st := []) hX (show decode cX10_lad 49 = .ok (.if_icmp .ne 14, 3) by decide +kernel) (by decide) (fun c5 => ?_) (fun c5 => ?_)
        · have c5 : ¬ wr w = wr 8 := of_decide_eq_true c5
          rw [wk_8] at c5
          rw [if_neg c5] at hres
          refine gw_aload_n (i := 0) (x := 0) hX (show decode cX10_lad 63 = .ok (.aload_n 0, 1) by decide +kernel) rfl (by simp) ?_
          refine gw_getf (i := 44) (c := 10) (k := 5) (n := 17) (o := 0) hX rfl (by decide) (by decide) rfl (by decide) (show decode cX10_lad 64 = .ok (.getfield 44, 3) by decide +kernel) ?_
          show GW wC 3 _ 67 _ [(2, 15)] M
          refine gw_iload_n (i := 1) (x := a) hX (show decode cX10_lad 67 = .ok (.iload_n 1, 1) by decide +kernel) rfl (by simp) ?_
          refine gw_iload_n (i := 2) (x := w) hX (show decode cX10_lad 68 = .ok (.iload_n 2, 1) by decide +kernel) rfl (by simp) ?_
          refine gw_call (idx := 172) (ci := ci_X2_get) (vs := [15, a, w]) (st := []) hX rfl (show decode cX10_lad 69 = .ok (.invokevirtual 172, 3) by decide +kernel) rfl (by decide) hres (show isOb wC 15 2 = true from isC15) ?_
          exact fin9 72 _ hd (by decide +kernel)
        · have c5 : ¬ ¬ wr w = wr 8 := of_decide_eq_false c5
          rw [wk_8] at c5
          rw [if_pos (Classical.not_not.mp c5)] at hres
          refine gw_aload_n (i := 0) (x := 0) hX (show decode cX10_lad 52 = .ok (.aload_n 0, 1) by decide +kernel) rfl (by simp) ?_
          refine gw_getf (i := 44) (c := 10) (k := 5) (n := 17) (o := 0) hX rfl (by decide) (by decide) rfl (by decide) (show decode cX10_lad 53 = .ok (.getfield 44, 3) by decide +kernel) ?_
          show GW wC 3 _ 56 _ [(2, 15)] M
          refine gw_iload_n (i := 1) (x := a) hX (show decode cX10_lad 56 = .ok (.iload_n 1, 1) by decide +kernel) rfl (by simp) ?_
          refine gw_call (idx := 169) (ci := ci_X2_signs) (vs := [15, a]) (st := []) hX rfl (show decode cX10_lad 57 = .ok (.invokevirtual 169, 3) by decide +kernel) rfl (by decide) hres (show isOb wC 15 2 = true from isC15) ?_
          refine gw_goto (tgt := 72) hX (show decode cX10_lad 60 = .ok (.goto 12, 3) by decide +kernel) (by decide) ?_
          exact fin9 72 _ hd (by decide +kernel)
      · have c4 : ¬ ¬ wr w = wr 7 := of_decide_eq_false c4
        rw [wk_7] at c4
        rw [if_pos (Classical.not_not.mp c4)] at hres
        refine gw_aload_n (i := 0) (x := 0) hX (show decode cX10_lad 37 = .ok (.aload_n 0, 1) by decide +kernel) rfl (by simp) ?_
        refine gw_getf (i := 44) (c := 10) (k := 5) (n := 17) (o := 0) hX rfl (by decide) (by decide) rfl (by decide) (show decode cX10_lad 38 = .ok (.getfield 44, 3) by decide +kernel) ?_
        show GW wC 3 _ 41 _ [(2, 15)] M
        refine gw_iload_n (i := 1) (x := a) hX (show decode cX10_lad 41 = .ok (.iload_n 1, 1) by decide +kernel) rfl (by simp) ?_
        refine gw_call (idx := 166) (ci := ci_X2_fear) (vs := [15, a]) (st := []) hX rfl (show decode cX10_lad 42 = .ok (.invokevirtual 166, 3) by decide +kernel) rfl (by decide) hres (show isOb wC 15 2 = true from isC15) ?_
        exact fin9 45 _ hd (by decide +kernel)
    · refine thr _ ?_
      have c3 : ¬ wr w ≤ wr 8 := of_decide_eq_false c3
      rw [wk_8] at c3
      cases dec
      · rfl
      · exact absurd (hdec.mp rfl).2.2 c3
  have hl := lv_entry ([Value.ref (gad G 0), .int (Int32.ofInt a), .int (Int32.ofInt w)]) (n := 3) (Nat.le_of_ble_eq_true rfl)
  rw [lg_entry_eq]
  exact hbody (fun _ _ => rfl) s.heap [] _ hP va_S.rf hl
