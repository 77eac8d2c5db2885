/-! PART 98.l1: the law's own machine: the class, the reference, the row of one long, the script. -/
def R_law : String := "BlackMillLaw"
def lw_P (b : Addr) (xs : List Int32) (args : Array Value) (s : State) : Prop := args = #[.ref b] ∧ s.IntsAt b xs ∧ xs.length ≤ 3072 ∧ (Jvm.Cond.and given_1 narrow_1).before args s = true
def lw_Q (_ : Array Value) (s : State) (o : Outcome) (t : State) : Prop := o = .returned (some (.int 1)) ∧ Framed s o t [] 601024 7293034
def lw_Z (below : List Frame) (a : Array Value) (s : State) : State → Prop := fun t => ∃ o, t.status = .running ∧ Ended t below o ∧ lw_Q a s o t
/-- the law's own end, with 1 on the stack, nothing written that was there before, its room as the claim has it -/
theorem lw_ret {p : Program} {l : Launch} {e : Env} {s : State} {m : MethodId} {below : List Frame} {meth : Method} {c : Code} {b : Nat} (hx : p.tables.exec = Jvm.exec) (hb : c.code = code) (hr : meth.sig.returnType = ret) (hlocks : meth.locks = false) {pc : Nat} {H : Heap} {ls : Array Slot} (hdg : decode code pc = .ok (.ireturn, 1)) : W p l e room_1 s m #[Value.ref b] below meth c H [] 601024 7293034 (lw_Z below #[Value.ref b] s) (F0 m pc ls [.int 1]) := by
  intro T hT X
  obtain ⟨fs, hret, hrun, hended, hW, hframe⟩ := X.leave (v := some (.int 1)) (hlocks := hlocks) (fun h => by rw [hr] at h; cases h)
  have hmeth' : T.vm.method? m = some meth := X.method'
  refine ⟨T.setFrames fs, ?_, .returned (some (.int 1)), hrun, hended, rfl, ⟨_, rfl⟩, hW, hframe⟩
  jvm_step X.here [X.here.top, hx, hb, hdg, hmeth', hr, ret, narrow_b1]
  (try refine ⟨rfl, ?_⟩); (try refine ⟨rfl, ?_⟩)
  first | (intro acts; rw [hret _ acts rfl rfl rfl]) | rw [hret _ _ rfl rfl rfl]
  exact Steps.refl _
/-- what holds at the law's entry: the machine, the code, the tables' words (any of lw_tbl by 'hts w (by decide +kernel)'), the script of L ints xs at the cell b, what the Statement gives of the start (any of its parts by flat_of_before) -/
def lw_At (p : Program) (s : State) (m : MethodId) (meth : Method) (c : Code) (b L : Nat) (xs : Nat → Int32) : Prop :=
  p.tables.exec = Jvm.exec ∧ c.code = code ∧ meth.sig.returnType = ret ∧ c.maxLocals = 7 ∧ s.vm.findClass R_law = some m.cls ∧ (∀ w ∈ lw_tbl, w.before #[Value.ref b] s = true) ∧ va_X b L xs s s.heap ∧ b < s.heap.size ∧ meth.locks = false ∧ (Jvm.Cond.and given_1 narrow_1).before #[Value.ref b] s = true
abbrev Lx : Type := Program × Launch × Env × State × MethodId × List Frame × Method × Code × Geo × (Nat → Nat) × (Nat → Nat) × Nat × ClassId × Nat × Nat × (Nat → Int32)
def LOk : Lx → Prop
  | (p, l, e, s, m, below, meth, c, G, adC, adM, o, cL, b, L, xs) => p.tables.exec = Jvm.exec ∧ c.code = code ∧ c.maxLocals = 7 ∧ s.vm.findClass RL = some m.cls ∧ (∀ w ∈ TBL, w.before #[Value.ref b] s = true) ∧ va_K (gD G) vwCl (tysL G cL) s ∧ gInj wC (gW G adC) ∧ gInj wM (gW G adM) ∧ RO wC (gW G adC) M0C s s.heap ∧ RO wM (gW G adM) M0R s s.heap ∧ ((∀ i j, i < 52 → j < 27 → adC i ≠ adM j) ∧ (∀ i, i < 52 → adC i ≠ o) ∧ ∀ j, j < 27 → adM j ≠ o) ∧ ((∀ i, i < 52 → s.heap.size ≤ adC i) ∧ (∀ j, j < 27 → s.heap.size ≤ adM j) ∧ s.heap.size ≤ o) ∧ va_X b L xs s s.heap ∧ b < s.heap.size ∧ L ≤ 3072 ∧ exU (nwA s) s s.heap ∧ l.flags = flags0 ∧ meth.sig.returnType = ret ∧ meth.locks = false
def LM : Lx → Nat → Nat → Nat → Nat → List (Nat × Value) → Mem → Mem → (Nat → Int64) → List Value → Prop
  | (p, l, e, s, m, below, meth, c, G, adC, adM, o, cL, b, L, xs), cells, slots, pc, i, ex, Mc, Mr, f, st => (∀ j, 52 ≤ j → Mc j = M0C j) → (∀ j, 27 ≤ j → Mr j = M0R j) → ∀ (H : Heap) (locs : List Loc) (ls : Array Slot), va_P (gD G) vwCl (render wC (gW G adC) Mc) H → va_P (gD G) vwCl (render wM (gW G adM) Mr) H → va_P (gD G) vwCl [(o, outE cL f)] H → va_S (nwA s) s.heap H locs → lv_has ls 7 ([(0, .ref b), (1, .ref (adC 0)), (2, .ref (adM 0)), (3, .ref o), (4, .int (nI i))] ++ ex) → W p l e room_1 s m #[Value.ref b] below meth c H locs cells slots (lw_Z below #[Value.ref b] s) (F0 m pc ls st)
abbrev lxC : Lx → Value
  | (_, _, _, _, _, _, _, _, _, adC, _, _, _, _, _, _) => .ref (adC 0)
abbrev lxM : Lx → Value
  | (_, _, _, _, _, _, _, _, _, _, adM, _, _, _, _, _) => .ref (adM 0)
abbrev lxO : Lx → Value
  | (_, _, _, _, _, _, _, _, _, _, _, o, _, _, _, _) => .ref o
abbrev lxL : Lx → Nat
  | (_, _, _, _, _, _, _, _, _, _, _, _, _, _, L, _) => L
abbrev lxX : Lx → Nat → Int
  | (_, _, _, _, _, _, _, _, _, _, _, _, _, _, _, xs), k => (xs k).toInt
theorem wr_i (x : Int32) : wr x.toInt = x.toInt := by unfold wr; rw [oI]
theorem lxX_wr (X : Lx) (k : Nat) : wr (lxX X k) = lxX X k := wr_i _
section LMS
variable {X : Lx} {cells slots pc i : Nat} {ex : List (Nat × Value)} {Mc Mr : Mem} {f : Nat → Int64} {st : List Value}
abbrev ivI (z : Int) : Value := .int (Int32.ofInt z)
theorem lm_arg (h : LOk X) {k : Nat} {n : Int} (hk : Int32.ofInt n = nI k) (hi : i + k < lxL X) (d0 : decode code pc = .ok (.aload_n 0, 1)) (d1 : decode code (pc + 1) = .ok (.iload 4, 2)) (d3 : decode code (pc + 3) = .ok (.iconst n, 1)) (d4 : decode code (pc + 4) = .ok (.iadd, 1)) (d5 : decode code (pc + 5) = .ok (.iaload, 1)) (kk : LM X cells slots (pc + 6) i ex Mc Mr f (ivI (lxX X (i + k)) :: st)) : LM X cells slots pc i ex Mc Mr f st := by
  obtain ⟨p, l, e, s, m, below, meth, c, G, adC, adM, o, cL, b, L, xs⟩ := X
  obtain ⟨hx, hb, hml, hown, hts, hK, hjC, hjM, hrC, hrM, hap, hge, hX, hbl, hL, hex, hfl, hrt, hlk⟩ := h
  intro hmC hmM H locs ls hPC hPM hPo hS hl
  have hbA : ¬ nwA s b := Nat.not_le.mpr hbl
  have hi : i + k < L := hi
  refine lv_aload_n hx hb d0 rfl (lv_at hl 0 rfl) ?_
  refine lv_iload hx hb d1 (lv_at hl 4 rfl) ?_
  refine lv_iconst (v := nI k) hx hb d3 hk ?_
  refine lv_iadd hx hb d4 ?_
  rw [nI_add]
  refine va_sld hx hb hX hbl hbA hS (vp_in_nI hi (by omega)) d5 ?_
  rw [nI_clamp (by omega)]
  have k1 := kk hmC hmM H locs ls hPC hPM hPo hS hl
  have e1 : ivI (lxX (p, l, e, s, m, below, meth, c, G, adC, adM, o, cL, b, L, xs) (i + k)) = .int (xs (i + k)) := congrArg Value.int (oI _)
  rw [e1] at k1
  exact k1
theorem lm_C (h : LOk X) (d : decode code pc = .ok (.aload_n 1, 1)) (kk : LM X cells slots (pc + 1) i ex Mc Mr f (lxC X :: st)) : LM X cells slots pc i ex Mc Mr f st := by
  obtain ⟨p, l, e, s, m, below, meth, c, G, adC, adM, o, cL, b, L, xs⟩ := X
  intro hmC hmM H locs ls hPC hPM hPo hS hl
  exact lv_aload_n h.1 h.2.1 d rfl (lv_at hl 1 rfl) (kk hmC hmM H locs ls hPC hPM hPo hS hl)
theorem lm_M (h : LOk X) (d : decode code pc = .ok (.aload_n 2, 1)) (kk : LM X cells slots (pc + 1) i ex Mc Mr f (lxM X :: st)) : LM X cells slots pc i ex Mc Mr f st := by
  obtain ⟨p, l, e, s, m, below, meth, c, G, adC, adM, o, cL, b, L, xs⟩ := X
  intro hmC hmM H locs ls hPC hPM hPo hS hl
  exact lv_aload_n h.1 h.2.1 d rfl (lv_at hl 2 rfl) (kk hmC hmM H locs ls hPC hPM hPo hS hl)
theorem lm_O (h : LOk X) (d : decode code pc = .ok (.aload_n 3, 1)) (kk : LM X cells slots (pc + 1) i ex Mc Mr f (lxO X :: st)) : LM X cells slots pc i ex Mc Mr f st := by
  obtain ⟨p, l, e, s, m, below, meth, c, G, adC, adM, o, cL, b, L, xs⟩ := X
  intro hmC hmM H locs ls hPC hPM hPo hS hl
  exact lv_aload_n h.1 h.2.1 d rfl (lv_at hl 3 rfl) (kk hmC hmM H locs ls hPC hPM hPo hS hl)
theorem oth_kept {wd wd2 : Wd} {G1 G2 : Geo} {D : va_G} {M : Mem} {H H1 : Heap} (hP : va_P D vwCl (render wd2 G2 M) H) (hap : ∀ i j, i < wd.2.1 → j < wd2.2.1 → gad G1 i ≠ gad G2 j) (hk : ∀ q : Nat, q < H.size → ¬ gA wd G1 q → H1[q]? = H[q]?) : va_P D vwCl (render wd2 G2 M) H1 := by
  refine hP.kept (fun k q hq => hk q.1 ((hP k q hq).lt) (fun z => ?_))
  obtain ⟨i, hi, e⟩ := z
  have hl : k < wd2.2.1 := by
    have := (List.getElem?_eq_some_iff.mp hq).1
    rwa [rend_len] at this
  rw [render_get hl] at hq
  cases hq
  exact hap i k hi hl e
theorem one_kept {D : va_G} {wd : Wd} {G : Geo} {o : Nat} {x : va_E} {H H1 : Heap} (hP : va_P D vwCl [(o, x)] H) (hap : ∀ i, i < wd.2.1 → gad G i ≠ o) (hk : ∀ q : Nat, q < H.size → ¬ gA wd G q → H1[q]? = H[q]?) : va_P D vwCl [(o, x)] H1 := by
  refine hP.kept (fun k q hq => hk q.1 ((hP k q hq).lt) (fun z => ?_))
  obtain ⟨i, hi, e⟩ := z
  have hz : k < 1 := (List.getElem?_eq_some_iff.mp hq).1
  rw [show k = 0 by omega] at hq
  cases hq
  exact hap i hi e
def cvI (tys : List Nat) (vs : List Int) : List Value := (tys.zip vs).map (fun q => cv (fun _ => 0) q.1 q.2)
theorem cvI_eq {G : Geo} {tys : List Nat} {vs : List Int} (ht : ∀ t ∈ tys, ¬ t = 2) : cvI tys vs = cvs G tys vs := by
  unfold cvs cvI
  apply List.map_congr_left
  intro q hq
  exact cv_any (Or.inl (ht q.1 (List.of_mem_zip hq).1))
/-- a call of the class -/
theorem lm_callC (h : LOk X) {idx : Nat} {y : MN} {ci : CI} {tys : List Nat} {vs : List Int} {r : Int} {Mc' : Mem} (hM : MetD wC y ci) (hmode : ci.1 = 1) (hty : ci.2.2.1 = 2 :: tys) (hc10 : ci.2.1 = 10) (hcls : y.1.cls = RX10) (hk : KnownV y) (hln : LinkS RL idx y) (hd : (parseMethodDescriptor y.1.desc).map (fun d => d.parameters.length) = some tys.length) (hR : y.2.2.2.2 + 1 ≤ 2048 ∧ 8 + (y.2.2.1 + 11) + 64 * y.2.2.2.2 ≤ 84000) (hrt : ci.2.2.2.1 = 0) (ht2 : ∀ t ∈ tys, ¬ t = 2) (hcs : cells ≤ 601024 ∧ slots ≤ 7293034)
    (hdec : decode code pc = .ok (.invokevirtual idx, 3)) (hlen : vs.length = tys.length) (hcat : (st.map fun v => v.category).sum ≤ 8) (hden : ci.2.2.2.2 (0 :: vs) Mc = some (r, Mc')) (kk : LM X cells slots (pc + 3) i ex Mc' Mr f (ivI r :: st)) : LM X cells slots pc i ex Mc Mr f ((cvI tys vs).reverse ++ lxC X :: st) := by
  obtain ⟨p, l, e, s, m, below, meth, c, G, adC, adM, o, cL, b, L, xs⟩ := X
  obtain ⟨hx, hb, hml, hown, hts, hK, hjC, hjM, hrC, hrM, hap, hge, hX, hbl, hL, hex, hfl, hret, hlk⟩ := h
  intro hmC hmM H locs ls hPC hPM hPo hS hl
  have hKl := lowK hK
  have hA : ∀ q, gA wC (gW G adC) q → nwA s q := fun q z => by
    obtain ⟨i, hi, e⟩ := z
    rw [← e]
    exact hge.1 i hi
  show W p l e room_1 s m #[Value.ref b] below meth c H locs cells slots (lw_Z below #[Value.ref b] s) (F0 m pc ls ((cvI tys vs).reverse ++ .ref (adC 0) :: st))
  rw [cvI_eq (G := gW G adC) ht2]
  refine gx_V (wd := wC) (G := gW G adC) (M0 := M0C) (o := 0) hx hb hml hown hts hKl hjC rxC_ok hrC hM hmode hty (by rw [hc10, hcls]; rfl) hk (Or.inl hln) hd hR hdec hlen hcat hden (by rw [hc10]; decide) hPC hS hA (fun a h1 _ => hS.2.1 a h1 (Nat.not_le.mpr h1)) hl.1 hmC hcs (fun H1 locs1 g1 g2 _ g4 g5 => ?_)
  rw [hrt]
  exact kk g5 hmM H1 locs1 ls g1 (oth_kept (wd := wC) (wd2 := wM) (G1 := gW G adC) (G2 := gW G adM) hPM (fun i j hi hj => hap.1 i j hi hj) g4) (one_kept (wd := wC) (G := gW G adC) hPo (fun i hi => hap.2.1 i hi) g4) g2 hl
/-- a call of the reference -/
theorem lm_callM (h : LOk X) {idx : Nat} {y : MN} {ci : CI} {tys : List Nat} {vs : List Int} {r : Int} {Mr' : Mem} (hM : MetD wM y ci) (hmode : ci.1 = 1) (hty : ci.2.2.1 = 2 :: tys) (hc11 : ci.2.1 = 11) (hcls : y.1.cls = RX11) (hk : KnownV y) (hln : LinkS RL idx y) (hd : (parseMethodDescriptor y.1.desc).map (fun d => d.parameters.length) = some tys.length) (hR : y.2.2.2.2 + 1 ≤ 2048 ∧ 8 + (y.2.2.1 + 11) + 64 * y.2.2.2.2 ≤ 84000) (hrt : ci.2.2.2.1 = 0) (ht2 : ∀ t ∈ tys, ¬ t = 2) (hcs : cells ≤ 601024 ∧ slots ≤ 7293034)
    (hdec : decode code pc = .ok (.invokevirtual idx, 3)) (hlen : vs.length = tys.length) (hcat : (st.map fun v => v.category).sum ≤ 8) (hden : ci.2.2.2.2 (0 :: vs) Mr = some (r, Mr')) (kk : LM X cells slots (pc + 3) i ex Mc Mr' f (ivI r :: st)) : LM X cells slots pc i ex Mc Mr f ((cvI tys vs).reverse ++ lxM X :: st) := by
  obtain ⟨p, l, e, s, m, below, meth, c, G, adC, adM, o, cL, b, L, xs⟩ := X
  obtain ⟨hx, hb, hml, hown, hts, hK, hjC, hjM, hrC, hrM, hap, hge, hX, hbl, hL, hex, hfl, hret, hlk⟩ := h
  intro hmC hmM H locs ls hPC hPM hPo hS hl
  have hKl := lowK hK
  have hA : ∀ q, gA wM (gW G adM) q → nwA s q := fun q z => by
    obtain ⟨i, hi, e⟩ := z
    rw [← e]
    exact hge.2.1 i hi
  show W p l e room_1 s m #[Value.ref b] below meth c H locs cells slots (lw_Z below #[Value.ref b] s) (F0 m pc ls ((cvI tys vs).reverse ++ .ref (adM 0) :: st))
  rw [cvI_eq (G := gW G adM) ht2]
  refine gx_V (wd := wM) (G := gW G adM) (M0 := M0R) (o := 0) hx hb hml hown hts hKl hjM rxM_ok hrM hM hmode hty (by rw [hc11, hcls]; rfl) hk (Or.inl hln) hd hR hdec hlen hcat hden (by rw [hc11]; decide) hPM hS hA (fun a h1 _ => hS.2.1 a h1 (Nat.not_le.mpr h1)) hl.1 hmM hcs (fun H1 locs1 g1 g2 _ g4 g5 => ?_)
  rw [hrt]
  exact kk hmC g5 H1 locs1 ls (oth_kept (wd := wM) (wd2 := wC) (G1 := gW G adM) (G2 := gW G adC) hPC (fun i j hi hj z => hap.1 j i hj hi z.symm) g4) g1 (one_kept (wd := wM) (G := gW G adM) hPo (fun i hi => hap.2.2 i hi) g4) g2 hl
/-- the answers agree -/
theorem lm_same (h : LOk X) {r off : Int} {tgt : Nat} (d : decode code pc = .ok (.if_icmp .eq off, 3)) (ht : (pc : Int) + off = (tgt : Int)) (kk : LM X cells slots tgt i ex Mc Mr f st) : LM X cells slots pc i ex Mc Mr f (ivI r :: ivI r :: st) := by
  obtain ⟨p, l, e, s, m, below, meth, c, G, adC, adM, o, cL, b, L, xs⟩ := X
  intro hmC hmM H locs ls hPC hPM hPo hS hl
  exact lv_icmp_eq h.1 h.2.1 d ht (fun _ => kk hmC hmM H locs ls hPC hPM hPo hS hl) (fun z => absurd rfl z)
theorem lm_iconst (h : LOk X) {n : Int} (d : decode code pc = .ok (.iconst n, 1)) (kk : LM X cells slots (pc + 1) i ex Mc Mr f (ivI n :: st)) : LM X cells slots pc i ex Mc Mr f st := by
  obtain ⟨p, l, e, s, m, below, meth, c, G, adC, adM, o, cL, b, L, xs⟩ := X
  intro hmC hmM H locs ls hPC hPM hPo hS hl
  exact lv_iconst h.1 h.2.1 d rfl (kk hmC hmM H locs ls hPC hPM hPo hS hl)
theorem lm_goto (h : LOk X) {off : Int} {tgt : Nat} (d : decode code pc = .ok (.goto off, 3)) (ht : (pc : Int) + off = (tgt : Int)) (kk : LM X cells slots tgt i ex Mc Mr f st) : LM X cells slots pc i ex Mc Mr f st := by
  obtain ⟨p, l, e, s, m, below, meth, c, G, adC, adM, o, cL, b, L, xs⟩ := X
  intro hmC hmM H locs ls hPC hPM hPo hS hl
  exact lv_goto h.1 h.2.1 d ht (kk hmC hmM H locs ls hPC hPM hPo hS hl)
theorem lm_if0 (h : LOk X) {a off : Int} {tgt : Nat} (d : decode code pc = .ok (.ifCond .eq off, 3)) (ht : (pc : Int) + off = (tgt : Int)) (kt : wr a = 0 → LM X cells slots tgt i ex Mc Mr f st) (kf : ¬ wr a = 0 → LM X cells slots (pc + 3) i ex Mc Mr f st) : LM X cells slots pc i ex Mc Mr f (ivI a :: st) := by
  obtain ⟨p, l, e, s, m, below, meth, c, G, adC, adM, o, cL, b, L, xs⟩ := X
  intro hmC hmM H locs ls hPC hPM hPo hS hl
  refine lv_if_eq h.1 h.2.1 d ht (fun z => ?_) (fun z => ?_)
  · exact kt (by rw [← wr_0]; exact wr_eq.mp z) hmC hmM H locs ls hPC hPM hPo hS hl
  · exact kf (fun y => z (show Int32.ofInt a = Int32.ofInt 0 from wr_eq.mpr (y.trans wr_0.symm))) hmC hmM H locs ls hPC hPM hPo hS hl
/-- a long out of two ints of the script -/
theorem lm_i2l (h : LOk X) {a : Int} (d : decode code pc = .ok (.i2l, 1)) (kk : LM X cells slots (pc + 1) i ex Mc Mr f (.long (Int64.ofInt (wr a)) :: st)) : LM X cells slots pc i ex Mc Mr f (ivI a :: st) := by
  obtain ⟨p, l, e, s, m, below, meth, c, G, adC, adM, o, cL, b, L, xs⟩ := X
  intro hmC hmM H locs ls hPC hPM hPo hS hl
  exact lv_i2l h.1 h.2.1 d (i2l_eq a) (kk hmC hmM H locs ls hPC hPM hPo hS hl)
theorem lm_bipush (h : LOk X) {n : Int} (h1 : -128 ≤ n) (h2 : n < 128) (d : decode code pc = .ok (.bipush n, 2)) (kk : LM X cells slots (pc + 2) i ex Mc Mr f (ivI n :: st)) : LM X cells slots pc i ex Mc Mr f st := by
  obtain ⟨p, l, e, s, m, below, meth, c, G, adC, adM, o, cL, b, L, xs⟩ := X
  intro hmC hmM H locs ls hPC hPM hPo hS hl
  exact lv_bipush h.1 h.2.1 d (bip h1 h2) (kk hmC hmM H locs ls hPC hPM hPo hS hl)
theorem lm_lshl (h : LOk X) {x : Int64} {n : Int} (d : decode code pc = .ok (.lshl, 1)) (kk : LM X cells slots (pc + 1) i ex Mc Mr f (.long (x <<< ((Int32.ofInt n).toInt64 &&& 63)) :: st)) : LM X cells slots pc i ex Mc Mr f (ivI n :: .long x :: st) := by
  obtain ⟨p, l, e, s, m, below, meth, c, G, adC, adM, o, cL, b, L, xs⟩ := X
  intro hmC hmM H locs ls hPC hPM hPo hS hl
  exact lv_lshl h.1 h.2.1 d rfl (kk hmC hmM H locs ls hPC hPM hPo hS hl)
theorem lm_ldc2 (h : LOk X) {idx : Nat} {v : Int64} (hc : Cond.constantLong RL idx v ∈ TBL) (d : decode code pc = .ok (.ldc2_w idx, 3)) (kk : LM X cells slots (pc + 3) i ex Mc Mr f (.long v :: st)) : LM X cells slots pc i ex Mc Mr f st := by
  obtain ⟨p, l, e, s, m, below, meth, c, G, adC, adM, o, cL, b, L, xs⟩ := X
  intro hmC hmM H locs ls hPC hPM hPo hS hl
  exact lv_ldc2 h.1 h.2.1 h.2.2.2.1 (h.2.2.2.2.1 _ hc) d (kk hmC hmM H locs ls hPC hPM hPo hS hl)
theorem lm_land (h : LOk X) {x y : Int64} (d : decode code pc = .ok (.land, 1)) (kk : LM X cells slots (pc + 1) i ex Mc Mr f (.long (x &&& y) :: st)) : LM X cells slots pc i ex Mc Mr f (.long y :: .long x :: st) := by
  obtain ⟨p, l, e, s, m, below, meth, c, G, adC, adM, o, cL, b, L, xs⟩ := X
  intro hmC hmM H locs ls hPC hPM hPo hS hl
  exact lv_land h.1 h.2.1 d (kk hmC hmM H locs ls hPC hPM hPo hS hl)
theorem lm_lor (h : LOk X) {x y : Int64} (d : decode code pc = .ok (.lor, 1)) (kk : LM X cells slots (pc + 1) i ex Mc Mr f (.long (x ||| y) :: st)) : LM X cells slots pc i ex Mc Mr f (.long y :: .long x :: st) := by
  obtain ⟨p, l, e, s, m, below, meth, c, G, adC, adM, o, cL, b, L, xs⟩ := X
  intro hmC hmM H locs ls hPC hPM hPo hS hl
  exact lv_lor h.1 h.2.1 d (kk hmC hmM H locs ls hPC hPM hPo hS hl)
end LMS
