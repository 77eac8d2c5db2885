/-! PART 05: copying rows, calls, ends, a whole method. -/
theorem gx_copyt {p : Program} {l : Launch} {e : Env} {R : Room} {s : State} {m : MethodId} {args : Array Value} {below : List Frame} {meth : Method} {c : Code} {H : Heap} {locs : List Loc} {cells slots : Nat} {Q : State → Prop} {cc : ByteArray} {pc : Nat} {ls : Array Slot} {rest : List Value} {D : va_G} {cl : List vw_C} {A : Nat → Prop} {a : Nat} {tys : List (ClassId × FieldType)} {ws : va_W} (hexec : p.tables.exec = Jvm.exec) (hb : c.code = cc) (hml : c.maxLocals = ls.size) {own : String} {index : Nat} (hown : s.vm.findClass own = some m.cls) (hlink : (Cond.methodLink own index arraycopyName).before args s = true) (hnat : (Cond.native arraycopyName).before args s = true) (hstat : (Cond.static arraycopyName).before args s = true) (hini : (Cond.initialized "java/lang/System").before args s = true)
    (hK : va_K D cl tys s) (hP : va_P D cl ws H) (hD : va_D A ws) (hS : va_S A s.heap H locs) {b0 n0 : Nat} {f : Nat → Int32} (hX : va_T .int b0 n0 (fun j => .int (f j)) A s s.heap) (q1 t1 : Nat) {c1 : ClassId} {n1 : Nat} {g : Nat → Int32} (ha1 : ws[q1]? = some (a, .inl (c1, n1, .inl g))) (ht1 : tys[t1]? = some (c1, .int))
    {sp dp n : Int32} (h1 : ¬ sp < 0) (h2 : ¬ dp < 0) (h3 : ¬ n < 0) (h4 : sp.toNatClampNeg + n.toNatClampNeg ≤ n0) (h5 : dp.toNatClampNeg + n.toNatClampNeg ≤ n1)
    (hframes : 1 ≤ R.frames) (hlocals : (rest.map fun v => v.category).sum + (nativeFrameWords "java/lang/System" "arraycopy" 5 + 11) ≤ R.locals) (hdg : decode cc pc = .ok (.invokestatic index, 3))
    (kk : ∀ (H1 : Heap) (locs1 : List Loc), va_P D cl (ws.set q1 (a, .inl (c1, n1, .inl (va_cpy f g sp.toNatClampNeg dp.toNatClampNeg n.toNatClampNeg)))) H1 → va_D A (ws.set q1 (a, .inl (c1, n1, .inl (va_cpy f g sp.toNatClampNeg dp.toNatClampNeg n.toNatClampNeg)))) → va_S A s.heap H1 locs1 → W p l e R s m args below meth c H1 locs1 cells slots Q (F0 m (pc + 3) ls rest)) : W p l e R s m args below meth c H locs cells slots Q (F0 m pc ls (.int n :: .int dp :: .ref a :: .int sp :: .ref b0 :: rest)) := by
  have nn : ∀ z : Int32, ¬ z < 0 → z.toInt = (z.toNatClampNeg : Int) := by
    intro z hz
    have hz0 : (0 : Int) ≤ z.toInt := by
      have := Int32.not_lt.mp hz
      simpa using Int32.le_iff_toInt_le.mp this
    show z.toInt = ((z.toInt.toNat : Nat) : Int)
    omega
  intro T hT X
  obtain ⟨scr, hs1, hs2, hs3, hs4, -, hs5, hs7⟩ := hX
  have hc0 : H[b0]? = some scr := by rw [hS.2.1 b0 (Array.getElem?_eq_some_iff.mp hs1).1 hs7]; exact hs1
  have hc1 : H[a]? = some (vp_cell c1 (n1, .inl g)) := hP q1 _ ha1
  obtain ⟨hs6, k0, hk0, cm0, hkk0⟩ := hs2
  obtain ⟨-, k1, hk1, cm1, hkk1⟩ := (hK.2 t1 _ ht1).1 n1 (fun j => .int (g j))
  obtain ⟨vm', X', step⟩ := X.arraycopy hexec hown hlink hnat hstat hini (src := b0) (dst := a) (cs := scr) (cd := vp_cell c1 (n1, .inl g)) (srcPos := sp) (destPos := dp) (n := n) (by rw [hT]; exact hc0) (by rw [hT]; exact hc1)
    hs6 (fun _ h => by cases h) hs3 (fun h => by cases h) hk0 hk1 hkk0 hkk1 (by simp [refKind]) h1 h2 h3
    (by rw [nn sp h1, nn n h3]; omega)
    (by rw [nn dp h2, nn n h3]; show ¬ _ > ((arrV c1 n1 (fun j => .int (g j))).slots.size : Int); rw [arrV_size]; omega)
    (fun vm₁ _ i hi => by
      have e9 : scr.slots.getD (sp.toNatClampNeg + i) .null = .int (f (sp.toNatClampNeg + i)) := by
        rw [Array.getD_eq_getD_getElem?, hs5 _ (by omega)]
        rfl
      refine ⟨?_, ?_⟩
      · rw [e9]
        rfl
      · rw [e9]
        exact trivial)
    (g := F0 m pc ls (.int n :: .int dp :: .ref a :: .int sp :: .ref b0 :: rest)) rfl (by rw [hml]) (rest := rest) rfl (by rw [hb]; exact hdg) hframes (by show 2 * 0 + _ + _ ≤ _; omega)
  have e1 : copied scr (vp_cell c1 (n1, .inl g)) sp dp n = vp_cell c1 (n1, .inl (va_cpy f g sp.toNatClampNeg dp.toNatClampNeg n.toNatClampNeg)) := va_copiedX (fun z => .int z) scr c1 f g hs5 h4
  rw [e1] at X' step
  have hl : a < H.size := (Array.getElem?_eq_some_iff.mp hc1).1
  have hheap : ((T.setVm vm').setCell a (vp_cell c1 (n1, .inl (va_cpy f g sp.toNatClampNeg dp.toNatClampNeg n.toNatClampNeg)))).heap = H.setIfInBounds a (vp_cell c1 (n1, .inl (va_cpy f g sp.toNatClampNeg dp.toNatClampNeg n.toNatClampNeg))) := by rw [← hT]; rfl
  have oq : ∀ q : Nat, q ≠ a → (H.setIfInBounds a (vp_cell c1 (n1, .inl (va_cpy f g sp.toNatClampNeg dp.toNatClampNeg n.toNatClampNeg))))[q]? = H[q]? := fun q hq => by simp [Array.getElem?_setIfInBounds, Ne.symm hq]
  obtain ⟨t, a1, b1⟩ := kk _ _ (hP.set hD ha1 (show (H.setIfInBounds a _)[a]? = some _ by simp [Array.getElem?_setIfInBounds, hl]) oq) (hD.set ha1) ⟨by simp; exact hS.1, fun q g1 g2 => by
      rw [oq q (fun e => g2 (by rw [e]; exact hD.2 q1 _ ha1))]
      exact hS.2.1 q g1 g2, fun q hq => by
      rcases List.mem_append.mp hq with h | h
      · exact hS.2.2 q h
      · obtain ⟨z, -, hz⟩ := List.mem_map.mp h
        rw [← hz]
        exact hD.2 q1 _ ha1⟩ _ hheap X'
  exact ⟨t, step t a1, b1⟩
/-- one row's stretch into another's -/
def cpM (M : Mem) (a sp d dp n : Nat) : Mem := fun i k => if i = d ∧ dp ≤ k ∧ k < dp + n then M a (sp + (k - dp)) else M i k
theorem cpM_ne {M : Mem} {a sp d dp n j : Nat} (h : j ≠ d) : cpM M a sp d dp n j = M j := by funext q; simp [cpM, h]
theorem cpM_cell {M : Mem} {f : Nat → Int} {a sp d dp n : Nat} (h : f = M a) : va_cpy (fun j => Int32.ofInt (f j)) (fun j => Int32.ofInt (M d j)) sp dp n = fun j => Int32.ofInt (cpM M a sp d dp n d j) := by
  subst h
  funext j
  unfold va_cpy cpM
  by_cases hj : dp ≤ j ∧ j < dp + n
  · rw [if_pos hj, if_pos ⟨rfl, hj⟩]
  · rw [if_neg hj, if_neg (fun z => hj z.2)]
section GWK
variable {wd : Wd} {mi : MI} {X : Cx} {pc : Nat} {lv : LVs} {st : STs} {M : Mem}
theorem nlt0 {a : Int} (h : 0 ≤ wr a) : ¬ Int32.ofInt a < 0 := by
  intro z
  have h1 := wr_lt.mp (show Int32.ofInt a < Int32.ofInt 0 from z)
  rw [wr_0] at h1
  omega
theorem gw_copy (h : GOk wd mi X) {i n0 n1 : Nat} {a d sp dp n : Int} (hq : lk i (miM mi) = some 5) (hst : (st.map (fun q => if q.1 = 1 then 2 else 1)).sum ≤ 8) (ha : arN wd 0 a n0 = true) (haw : (arW wd a || arC wd a n0) = true) (hdn : arN wd 0 d n1 = true) (hdw : arW wd d = true) (h1 : 0 ≤ wr sp) (h2 : 0 ≤ wr dp) (h3 : 0 ≤ wr n) (h4 : wr sp + wr n ≤ n0) (h5 : wr dp + wr n ≤ n1) (hd : decode (miC mi) pc = .ok (.invokestatic i, 3)) (kk : GW wd (miL mi) X (pc + 3) lv st (cpM M a.toNat (wr sp).toNat d.toNat (wr dp).toNat (wr n).toNat)) : GW wd (miL mi) X pc lv ((0, n) :: (0, dp) :: (2, d) :: (0, sp) :: (2, a) :: st) M := by
  obtain ⟨p, l, e, R, s, m, args, below, meth, cc0, Q, M0, G⟩ := X
  intro hm H locs ls hP hS hl
  have hw := h.2.2.2.2.2.2.2.2.2.2.2.2.2.2.1 _ (lk_mem hq)
  have hc := cS_cat (G := G) hst
  obtain ⟨a0, rs, hsk⟩ := arN_get ha
  obtain ⟨d0, rs1, hsk1⟩ := arN_get hdn
  have hl2 : d.toNat < wd.2.1 := of_decide_eq_true hdw
  have hD := render_D (M := M) h.2.2.2.2.2.2.1
  have hg1 := render_get (wd := wd) (G := G) (M := M) hl2
  rw [cell_0 hsk1] at hg1
  have hroom : ((cS G st).map fun v => v.category).sum + (nativeFrameWords "java/lang/System" "arraycopy" 5 + 11) ≤ R.locals := by
    have h9 := h.2.2.2.2.2.2.2.2.1.2
    have e9 : nativeFrameWords "java/lang/System" "arraycopy" 5 = 7 := by decide
    omega
  have z4 : (Int32.ofInt sp).toNatClampNeg + (Int32.ofInt n).toNatClampNeg ≤ n0 := by
    show (wr sp).toNat + (wr n).toNat ≤ n0
    omega
  have z5 : (Int32.ofInt dp).toNatClampNeg + (Int32.ofInt n).toNatClampNeg ≤ n1 := by
    show (wr dp).toNat + (wr n).toNat ≤ n1
    omega
  have kk1 : ∀ (f : Nat → Int), f = M a.toNat → ∀ (H1 : Heap) (locs1 : List Loc), va_P (gD G) vwCl ((render wd G M).set d.toNat (gad G d.toNat, .inl (G.2.2.1, n1, .inl (va_cpy (fun j => Int32.ofInt (f j)) (fun j => Int32.ofInt (M d.toNat j)) (Int32.ofInt sp).toNatClampNeg (Int32.ofInt dp).toNatClampNeg (Int32.ofInt n).toNatClampNeg)))) H1 → va_D (gA wd G) ((render wd G M).set d.toNat (gad G d.toNat, .inl (G.2.2.1, n1, .inl (va_cpy (fun j => Int32.ofInt (f j)) (fun j => Int32.ofInt (M d.toNat j)) (Int32.ofInt sp).toNatClampNeg (Int32.ofInt dp).toNatClampNeg (Int32.ofInt n).toNatClampNeg)))) → va_S (gA wd G) s.heap H1 locs1 → W p l e R s m args below meth cc0 H1 locs1 0 0 Q (F0 m (pc + 3) ls (cS G st)) := by
    intro f hf H1 locs1 hP1 _ hS1
    have e9 := render_set (wd := wd) (G := G) (M := M) (M' := cpM M a.toNat (wr sp).toNat d.toNat (wr dp).toNat (wr n).toNat) (i := d.toNat) (e := .inl (G.2.2.1, n1, .inl (va_cpy (fun j => Int32.ofInt (f j)) (fun j => Int32.ofInt (M d.toNat j)) (Int32.ofInt sp).toNatClampNeg (Int32.ofInt dp).toNatClampNeg (Int32.ofInt n).toNatClampNeg))) (by rw [cell_0 hsk1, ← cpM_cell hf]; rfl) (fun j hj => cpM_ne hj)
    rw [e9] at hP1
    exact kk (fun i hi => by rw [cpM_ne (by omega)]; exact hm i hi) H1 locs1 ls hP1 hS1 hl
  show W p l e R s m args below meth cc0 H locs 0 0 Q (F0 m pc ls (.int (Int32.ofInt n) :: .int (Int32.ofInt dp) :: cv (gad G) 2 d :: .int (Int32.ofInt sp) :: cv (gad G) 2 a :: cS G st))
  rw [cv_ref a0, cv_ref d0]
  by_cases hla : a.toNat < wd.2.1
  · have hg0 := render_get (wd := wd) (G := G) (M := M) hla
    rw [cell_0 hsk] at hg0
    exact va_copyi h.1 h.2.1 (by rw [h.2.2.1, hl.1]) h.2.2.2.1 (hw _ (by simp [mathWs])) (hw _ (by simp [mathWs])) (hw _ (by simp [mathWs])) (hw _ (by simp [mathWs])) h.2.2.2.2.2.1 hP hD hS a.toNat d.toNat 0 0 hg0 hg1 rfl rfl rfl (nlt0 h1) (nlt0 h2) (nlt0 h3) z4 z5 (fun _ _ => rfl) h.2.2.2.2.2.2.2.2.1.1 hroom hd (kk1 (M a.toNat) rfl)
  · have hc9 : arC wd a n0 = true := by simpa [arW, hla] using haw
    obtain ⟨q, g1, g2, g3⟩ := arC_get hc9
    have hT := (h.2.2.2.2.2.2.2.1.2.1 q g1).2.2
    rw [g2, g3] at hT
    exact gx_copyt h.1 h.2.1 (by rw [h.2.2.1, hl.1]) h.2.2.2.1 (hw _ (by simp [mathWs])) (hw _ (by simp [mathWs])) (hw _ (by simp [mathWs])) (hw _ (by simp [mathWs])) h.2.2.2.2.2.1 hP hD hS hT d.toNat 0 hg1 rfl (nlt0 h1) (nlt0 h2) (nlt0 h3) z4 z5 h.2.2.2.2.2.2.2.2.1.1 hroom hd (kk1 (M0 a.toNat) (hm a.toNat (by omega)).symm)
/-! calls -/
theorem g_call {p : Program} {l : Launch} {e : Env} {R : Room} {s : State} {m : MethodId} {args a : Array Value} {below : List Frame} {meth : Method} {c : Code} {H : Heap} {locs : List Loc} {Q : State → Prop} {G : Geo} {rt : Nat} {r : Int} {M' : Mem} {ls : Array Slot} {st0 rest : List Value} (hr : va_Run p l e R s m args below meth c H locs 0 0 0 0 (F0 m pc ls st0) rest (gQc wd G rt r M M' a) (gA wd G)) (hS : va_S (gA wd G) s.heap H locs)
    (kk : ∀ (H1 : Heap) (locs1 : List Loc), va_P (gD G) vwCl (render wd G M') H1 → va_S (gA wd G) s.heap H1 locs1 → (∀ i, wd.2.1 ≤ i → M' i = M i) → W p l e R s m args below meth c H1 locs1 0 0 Q (F0 m (pc + 3) ls ((rvO G rt r).toList ++ rest))) : W p l e R s m args below meth c H locs 0 0 Q (F0 m pc ls st0) := by
  intro T hT X
  obtain ⟨v, st₀, t, T', L, h0, X', hL, e1, e2, ⟨hv, hP, hm, hz, hk⟩, st⟩ := hr T hT X
  cases hv
  rw [h0] at hz hk
  obtain ⟨t2, a1, b1⟩ := kk T'.heap (locs ++ L) (by rw [e1]; exact hP)
    ⟨Nat.le_trans hS.1 (by rw [e1]; exact hz), fun q h1 h2 => by rw [e1, hk q (Nat.lt_of_lt_of_le h1 hS.1) h2]; exact hS.2.1 q h1 h2, fun q hq => by
      rcases List.mem_append.mp hq with h | h
      · exact hS.2.2 q h
      · exact hL q h⟩ hm T' rfl X'
  exact ⟨t2, st t2 a1, b1⟩
theorem g_pre {G : Geo} {M0 : Mem} {s : State} {H : Heap} {locs : List Loc} {av : List Value} (hx : RxOk wd.2.2.2) (hK : va_K (gD G) vwCl (gTys G) s) (hRO : RO wd G M0 s s.heap) (hm : ∀ i, wd.2.1 ≤ i → M i = M0 i) (hP : va_P (gD G) vwCl (render wd G M) H) (hS : va_S (gA wd G) s.heap H locs) : ∀ U : State, U.heap = H → s.WarmedH U.vm → gPc wd G av M av.toArray U := by
  intro U hU hW
  refine ⟨rfl, by rw [hU]; exact hP, va_K.moved hW.alike hK, ?_⟩
  rw [hU]
  exact RO.warm hx hW (RO.kept hx hS.2.1 (RO.mem hm hRO))
/-- what the tables say of a callee; how it is linked -/
def LinkS (own : String) (idx : Nat) (y : MN) : Prop := Cond.methodLink own idx y.1 ∈ TBL
def LinkN (own : String) (idx : Nat) (y : MN) : Prop := ∃ host : String, Cond.methodLinkNest own idx y.1 host ∈ NW
def codeW (y : MN) : Cond := Cond.code y.1 y.2.1 y.2.2.1 y.2.2.2.1
def KnownS (y : MN) : Prop := codeW y ∈ TBL ∧ Cond.static y.1 ∈ TBL ∧ Cond.initialized y.1.cls ∈ TBL ∧ (y.1.cls ≠ "java/lang/invoke/MethodHandle" ∧ y.1.cls ≠ "java/lang/invoke/VarHandle") ∧ y.2.2.1 ≤ 45
def KnownV (y : MN) : Prop := codeW y ∈ TBL ∧ Cond.instanceMethod y.1 ∈ TBL ∧ Cond.selects y.1.cls y.1 y.1 ∈ TBL ∧ Cond.initialized y.1.cls ∈ TBL ∧ (y.1.cls ≠ "java/lang/invoke/MethodHandle" ∧ y.1.cls ≠ "java/lang/invoke/VarHandle") ∧ y.2.2.1 ≤ 45
theorem code_good {y : MN} (h : codeW y ∈ TBL) : GoodIn TBL (Cond.code y.1 y.2.1 y.2.2.1 y.2.2.2.1 :: TBL) := by
  intro w hw
  rcases List.mem_cons.mp hw with rfl | hw
  · exact ⟨h, good_of_word (tbl_good _ h)⟩
  · exact ⟨hw, good_of_word (tbl_good _ hw)⟩
theorem good1 {w : Cond} (h : w ∈ TBL) : w ∈ TBL ∧ ((w.onTables && w.keeps) = true ∨ ∃ ty, w = .arrayClass ty) := ⟨h, good_of_word (tbl_good _ h)⟩
section
variable {p : Program} {l : Launch} {e : Env} {R : Room} {s : State} {m : MethodId} {args : Array Value} {below : List Frame} {meth : Method} {c : Code} {Q : State → Prop} {M0 : Mem} {G : Geo} {cc : ByteArray} {nL idx : Nat} {own : String} {y : MN} {ci : CI}
theorem room_ok {hh : Nat} (hR : y.2.2.2.2 + 1 ≤ hh) (h5 : y.2.2.1 ≤ 45) : (rmH y.2.2.2.2).frames + 1 ≤ (rmH hh).frames ∧ 8 + (y.2.2.1 + 11) + (rmH y.2.2.2.2).locals ≤ (rmH hh).locals := by
  refine ⟨hR, ?_⟩
  show 8 + (y.2.2.1 + 11) + 64 * y.2.2.2.2 ≤ 64 * hh
  omega
theorem callOk_S {hh : Nat} (hRr : R = rmH hh) (hx : p.tables.exec = Jvm.exec) (hb : c.code = cc) (hml : c.maxLocals = nL) (hown : s.vm.findClass own = some m.cls) (hts : ∀ w ∈ TBL, w.before args s = true) (hK : va_K (gD G) vwCl (gTys G) s) (hinj : gInj wd G) (hrx : RxOk wd.2.2.2) (hRO : RO wd G M0 s s.heap)
    (hM : MetD wd y ci) (hmode : ci.1 = 0) (hk : KnownS y) (hln : LinkS own idx y ∨ LinkN own idx y) (hd : (parseMethodDescriptor y.1.desc).map (fun d => d.parameters.length) = some ci.2.2.1.length) (hR : y.2.2.2.2 + 1 ≤ hh) : CallOk wd nL (idx, ci) (p, l, e, R, s, m, args, below, meth, c, Q, M0, G) cc := by
  subst hRr
  intro pc vs r M M' H locs ls rest hdec hlen hcat hden hrecv hP hS hls hm kk
  have hdec : decode cc pc = .ok (.invokestatic idx, 3) := by simpa [invI, hmode] using hdec
  have hMet := hM l G hinj vs M r M' hlen hden
  obtain ⟨k1, k2, k3, k4, k5⟩ := hk
  have hlenA : (cvs G ci.2.2.1 vs).length = ci.2.2.1.length := by simp [cvs, hlen]
  have hpre : PreS s H (gPc wd G (cvs G ci.2.2.1 vs) M) (cvs G ci.2.2.1 vs) := ⟨gPc_blind hrx, g_pre hrx hK hRO hm hP hS⟩
  rcases hln with hln | ⟨host, hln⟩
  · refine g_call (st0 := (cvs G ci.2.2.1 vs).reverse ++ rest) (va_runS (As := cvs G ci.2.2.1 vs) (rest := rest) (nL := nL) (Ts := TBL) (own := own) (n := ci.2.2.1.length) ⟨hx, hb, hml, hown, hts⟩ hMet (va_cwS _ hts (fun w hw => ?_) rfl rfl rfl ⟨k4.1, k4.2, hd⟩ (room_ok hR k5)) hpre rfl hlenA hls rfl (lv_room hcat) hdec ⟨Nat.zero_le _, Nat.zero_le _⟩) hS (fun H1 locs1 h1 h2 h3 => kk H1 locs1 h1 h2 (fun i hi => (h3 i hi).trans (hm i hi)))
    rcases List.mem_append.mp hw with hw | hw
    · simp only [List.mem_cons, List.not_mem_nil, or_false] at hw
      rcases hw with rfl | rfl | rfl
      · exact good1 hln
      · exact good1 k2
      · exact good1 k3
    · exact code_good k1 w hw
  · exact g_call (st0 := (cvs G ci.2.2.1 vs).reverse ++ rest) (va_runSN (As := cvs G ci.2.2.1 vs) (rest := rest) (nL := nL) (Ts := TBL) (own := own) (host := host) (n := ci.2.2.1.length) ⟨hx, hb, hml, hown, hts⟩ hMet ⟨va_cnB _ hts (code_good k1) rfl rfl rfl (hRO.1 _ hln) (hts _ k3) ⟨k4.1, k4.2, hd⟩ (room_ok hR k5), hts _ k2, trivial⟩ hpre rfl hlenA hls rfl (lv_room hcat) hdec ⟨Nat.zero_le _, Nat.zero_le _⟩) hS (fun H1 locs1 h1 h2 h3 => kk H1 locs1 h1 h2 (fun i hi => (h3 i hi).trans (hm i hi)))
theorem callOk_V {hh : Nat} (hRr : R = rmH hh) (hx : p.tables.exec = Jvm.exec) (hb : c.code = cc) (hml : c.maxLocals = nL) (hown : s.vm.findClass own = some m.cls) (hts : ∀ w ∈ TBL, w.before args s = true) (hK : va_K (gD G) vwCl (gTys G) s) (hinj : gInj wd G) (hrx : RxOk wd.2.2.2) (hRO : RO wd G M0 s s.heap)
    (hM : MetD wd y ci) {tys : List Nat} (hmode : ci.1 = 1) (hty : ci.2.2.1 = 2 :: tys) (hcl : (vwCl[ci.2.1]?).map (fun q => q.1) = some y.1.cls) (hk : KnownV y) (hln : LinkS own idx y ∨ LinkN own idx y) (hd : (parseMethodDescriptor y.1.desc).map (fun d => d.parameters.length) = some tys.length) (hR : y.2.2.2.2 + 1 ≤ hh) : CallOk wd nL (idx, ci) (p, l, e, R, s, m, args, below, meth, c, Q, M0, G) cc := by
  subst hRr
  intro pc vs r M M' H locs ls rest hdec hlen hcat hden hrecv hP hS hls hm kk
  have hdec : decode cc pc = .ok (.invokevirtual idx, 3) := by simpa [invI, hmode] using hdec
  have hMet := hM l G hinj vs M r M' hlen hden
  obtain ⟨k1, k2, k3, k6, k4, k5⟩ := hk
  dsimp only at hlen hden hrecv kk ⊢
  rw [hty] at hlen hMet ⊢
  match vs, hlen, hden, hrecv, hMet with
  | o :: vs, hlen, hden, hrecv, hMet =>
    have hob : isOb wd o ci.2.1 = true := by simpa [recvOk, hmode] using hrecv
    obtain ⟨o0, hl2, n, rs, hsk⟩ := isOb_get hob
    have hg := render_get (wd := wd) (G := G) (M := M) hl2
    rw [cell_3 hsk] at hg
    obtain ⟨q9, hq9, hq8⟩ := Option.map_eq_some_iff.mp hcl
    have hrc := va_recv hK hP hq9 hg
    have e1 : cvs G (2 :: tys) (o :: vs) = Value.ref (gad G o.toNat) :: cvs G tys vs := by
      show cv (gad G) 2 o :: cvs G tys vs = _
      rw [cv_ref o0]
    rw [e1] at hMet ⊢
    have hlenA : (cvs G tys vs).length = tys.length := by
      simp only [List.length_cons, Nat.add_right_cancel_iff] at hlen
      simp [cvs, hlen]
    have hpre : PreV s H y.1.cls (gad G o.toNat) (gPc wd G (Value.ref (gad G o.toNat) :: cvs G tys vs) M) (cvs G tys vs) := ⟨gPc_blind hrx, by rw [hq8] at hrc; exact hrc, g_pre hrx hK hRO hm hP hS⟩
    have est : (Value.ref (gad G o.toNat) :: cvs G tys vs).reverse ++ rest = (cvs G tys vs).reverse ++ Value.ref (gad G o.toNat) :: rest := by simp
    rw [est]
    rcases hln with hln | ⟨host, hln⟩
    · refine g_call (st0 := (cvs G tys vs).reverse ++ Value.ref (gad G o.toNat) :: rest) (va_runV (As := cvs G tys vs) (rest := rest) (nL := nL) (Ts := TBL) (own := own) (C := y.1.cls) (n := tys.length) ⟨hx, hb, hml, hown, hts⟩ hMet (cwV _ hts (fun w hw => ?_) rfl rfl rfl ⟨rfl, k4.1, k4.2, hd⟩ (room_ok hR k5)) hpre rfl hlenA hls rfl (lv_room hcat) hdec ⟨Nat.zero_le _, Nat.zero_le _⟩) hS (fun H1 locs1 h1 h2 h3 => kk H1 locs1 h1 h2 (fun i hi => (h3 i hi).trans (hm i hi)))
      rcases List.mem_append.mp hw with hw | hw
      · simp only [List.mem_cons, List.not_mem_nil, or_false] at hw
        rcases hw with rfl | rfl | rfl | rfl
        · exact good1 hln
        · exact good1 k2
        · exact good1 k3
        · exact good1 k6
      · exact code_good k1 w hw
    · exact g_call (st0 := (cvs G tys vs).reverse ++ Value.ref (gad G o.toNat) :: rest) (va_runVN (As := cvs G tys vs) (rest := rest) (nL := nL) (Ts := TBL) (own := own) (host := host) (C := y.1.cls) (n := tys.length) ⟨hx, hb, hml, hown, hts⟩ hMet ⟨va_cnB _ hts (code_good k1) rfl rfl rfl (hRO.1 _ hln) (hts _ k6) ⟨k4.1, k4.2, hd⟩ (room_ok hR k5), hts _ k2, hts _ k3⟩ hpre rfl hlenA hls rfl (lv_room hcat) hdec ⟨Nat.zero_le _, Nat.zero_le _⟩) hS (fun H1 locs1 h1 h2 h3 => kk H1 locs1 h1 h2 (fun i hi => (h3 i hi).trans (hm i hi)))
/-- a text is an object of its class -/
def RecS (wd : Wd) (cls : String) : Prop := ∀ A ad s H (o : Int), isTx o = true → wd.2.2.2 A ad s H → ∃ cell : Cell, H[ad o.toNat]? = some cell ∧ cell.vm.isStatics = false ∧ s.vm.findClass cls = some cell.cls
theorem callOk_T {hh : Nat} (hRr : R = rmH hh) (hx : p.tables.exec = Jvm.exec) (hb : c.code = cc) (hml : c.maxLocals = nL) (hown : s.vm.findClass own = some m.cls) (hts : ∀ w ∈ TBL, w.before args s = true) (hK : va_K (gD G) vwCl (gTys G) s) (hinj : gInj wd G) (hrx : RxOk wd.2.2.2) (hRO : RO wd G M0 s s.heap)
    (hM : MetD wd y ci) {tys : List Nat} (hmode : ci.1 = 2) (hty : ci.2.2.1 = 2 :: tys) (hrec : RecS wd y.1.cls) (hk : KnownV y) (hln : LinkS own idx y) (hd : (parseMethodDescriptor y.1.desc).map (fun d => d.parameters.length) = some tys.length) (hR : y.2.2.2.2 + 1 ≤ hh) : CallOk wd nL (idx, ci) (p, l, e, R, s, m, args, below, meth, c, Q, M0, G) cc := by
  subst hRr
  intro pc vs r M M' H locs ls rest hdec hlen hcat hden hrecv hP hS hls hm kk
  have hdec : decode cc pc = .ok (.invokevirtual idx, 3) := by simpa [invI, hmode] using hdec
  have hMet := hM l G hinj vs M r M' hlen hden
  obtain ⟨k1, k2, k3, k6, k4, k5⟩ := hk
  dsimp only at hlen hden hrecv kk ⊢
  rw [hty] at hlen hMet ⊢
  match vs, hlen, hden, hrecv, hMet with
  | o :: vs, hlen, hden, hrecv, hMet =>
    have hob : isTx o = true := by simpa [recvOk, hmode] using hrecv
    have o0 : 0 ≤ o := by
      have := of_decide_eq_true hob
      omega
    have hrc := hrec (gA wd G) (gad G) s H o hob (hrx.2.2 _ _ _ _ _ hS.2.1 hRO.2.2)
    have e1 : cvs G (2 :: tys) (o :: vs) = Value.ref (gad G o.toNat) :: cvs G tys vs := by
      show cv (gad G) 2 o :: cvs G tys vs = _
      rw [cv_ref o0]
    rw [e1] at hMet ⊢
    have hlenA : (cvs G tys vs).length = tys.length := by
      simp only [List.length_cons, Nat.add_right_cancel_iff] at hlen
      simp [cvs, hlen]
    have hpre : PreV s H y.1.cls (gad G o.toNat) (gPc wd G (Value.ref (gad G o.toNat) :: cvs G tys vs) M) (cvs G tys vs) := ⟨gPc_blind hrx, hrc, g_pre hrx hK hRO hm hP hS⟩
    have est : (Value.ref (gad G o.toNat) :: cvs G tys vs).reverse ++ rest = (cvs G tys vs).reverse ++ Value.ref (gad G o.toNat) :: rest := by simp
    rw [est]
    refine g_call (st0 := (cvs G tys vs).reverse ++ Value.ref (gad G o.toNat) :: rest) (va_runV (As := cvs G tys vs) (rest := rest) (nL := nL) (Ts := TBL) (own := own) (C := y.1.cls) (n := tys.length) ⟨hx, hb, hml, hown, hts⟩ hMet (cwV _ hts (fun w hw => ?_) rfl rfl rfl ⟨rfl, k4.1, k4.2, hd⟩ (room_ok hR k5)) hpre rfl hlenA hls rfl (lv_room hcat) hdec ⟨Nat.zero_le _, Nat.zero_le _⟩) hS (fun H1 locs1 h1 h2 h3 => kk H1 locs1 h1 h2 (fun i hi => (h3 i hi).trans (hm i hi)))
    rcases List.mem_append.mp hw with hw | hw
    · simp only [List.mem_cons, List.not_mem_nil, or_false] at hw
      rcases hw with rfl | rfl | rfl | rfl
      · exact good1 hln
      · exact good1 k2
      · exact good1 k3
      · exact good1 k6
    · exact code_good k1 w hw
end
end GWK
