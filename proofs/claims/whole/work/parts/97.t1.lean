/-! PART 97.t1: calls from a frame that has made cells of its own. -/
theorem gx_call {p : Program} {l : Launch} {e : Env} {R : Room} {s : State} {m : MethodId} {args a : Array Value} {below : List Frame} {meth : Method} {c : Code} {H : Heap} {locs : List Loc} {cells slots pc : Nat} {Q : State → Prop} {wd : Wd} {G : Geo} {A : Nat → Prop} {rt : Nat} {r : Int} {M M' : Mem} {ls : Array Slot} {st0 rest : List Value} (hr : va_Run p l e R s m args below meth c H locs cells slots 0 0 (F0 m pc ls st0) rest (gQc wd G rt r M M' a) (gA wd G)) (hS : va_S A s.heap H locs) (hA : ∀ q, gA wd G q → A q)
    (kk : ∀ (H1 : Heap) (locs1 : List Loc), va_P (gD G) vwCl (render wd G M') H1 → va_S A s.heap H1 locs1 → H.size ≤ H1.size → (∀ q : Nat, q < H.size → ¬ gA wd G q → H1[q]? = H[q]?) → (∀ i, wd.2.1 ≤ i → M' i = M i) → W p l e R s m args below meth c H1 locs1 cells slots Q (F0 m (pc + 3) ls ((rvO G rt r).toList ++ rest))) : W p l e R s m args below meth c H locs cells slots Q (F0 m pc ls st0) := by
  intro T hT X
  obtain ⟨v, st₀, t, T', L, h0, X', hL, e1, e2, ⟨hv, hP, hm, hz, hk⟩, st⟩ := hr T hT X
  cases hv
  rw [h0] at hz hk
  obtain ⟨t2, a1, b1⟩ := kk T'.heap (locs ++ L) (by rw [e1]; exact hP)
    ⟨Nat.le_trans hS.1 (by rw [e1]; exact hz), fun q h1 h2 => by rw [e1, hk q (Nat.lt_of_lt_of_le h1 hS.1) (fun z => h2 (hA q z))]; exact hS.2.1 q h1 h2, fun q hq => by
      rcases List.mem_append.mp hq with h | h
      · exact hS.2.2 q h
      · exact hA _ (hL q h)⟩ (by rw [e1]; exact hz) (fun q h1 h2 => by rw [e1]; exact hk q h1 h2) hm T' rfl X'
  exact ⟨t2, st t2 a1, b1⟩
section
variable {p : Program} {l : Launch} {e : Env} {R : Room} {s : State} {m : MethodId} {args : Array Value} {below : List Frame} {meth : Method} {c : Code} {Q : State → Prop} {M0 : Mem} {wd : Wd} {G : Geo} {cc : ByteArray} {nL idx : Nat} {own : String} {y : MN} {ci : CI} {A : Nat → Prop}
theorem gx_V (hx : p.tables.exec = Jvm.exec) (hb : c.code = cc) (hml : c.maxLocals = nL) (hown : s.vm.findClass own = some m.cls) (hts : ∀ w ∈ TBL, w.before args s = true) (hK : va_K (gD G) vwCl (gTys G) s) (hinj : gInj wd G) (hrx : RxOk wd.2.2.2) (hRO : RO wd G M0 s s.heap)
    (hM : MetD wd y ci) {tys : List Nat} (hmode : ci.1 = 1) (hty : ci.2.2.1 = 2 :: tys) (hcl : (vwCl[ci.2.1]?).map (fun q => q.1) = some y.1.cls) (hk : KnownV y) (hln : LinkS own idx y ∨ LinkN own idx y) (hd : (parseMethodDescriptor y.1.desc).map (fun d => d.parameters.length) = some tys.length) (hR : y.2.2.2.2 + 1 ≤ R.frames ∧ 8 + (y.2.2.1 + 11) + 64 * y.2.2.2.2 ≤ R.locals)
    {pc cells slots : Nat} {o : Int} {vs : List Int} {r : Int} {M M' : Mem} {H : Heap} {locs : List Loc} {ls : Array Slot} {rest : List Value} (hdec : decode cc pc = .ok (.invokevirtual idx, 3)) (hlen : vs.length = tys.length) (hcat : (rest.map fun v => v.category).sum ≤ 8) (hden : ci.2.2.2.2 (o :: vs) M = some (r, M')) (hob : isOb wd o ci.2.1 = true)
    (hP : va_P (gD G) vwCl (render wd G M) H) (hS : va_S A s.heap H locs) (hA : ∀ q, gA wd G q → A q) (hq : ∀ a : Nat, a < s.heap.size → ¬ gA wd G a → H[a]? = s.heap[a]?) (hls : ls.size = nL) (hm : ∀ i, wd.2.1 ≤ i → M i = M0 i) (hroom : cells ≤ R.cells ∧ slots ≤ R.slots)
    (kk : ∀ (H1 : Heap) (locs1 : List Loc), va_P (gD G) vwCl (render wd G M') H1 → va_S A s.heap H1 locs1 → H.size ≤ H1.size → (∀ q : Nat, q < H.size → ¬ gA wd G q → H1[q]? = H[q]?) → (∀ i, wd.2.1 ≤ i → M' i = M0 i) → W p l e R s m args below meth c H1 locs1 cells slots Q (F0 m (pc + 3) ls ((rvO G ci.2.2.2.1 r).toList ++ rest))) :
    W p l e R s m args below meth c H locs cells slots Q (F0 m pc ls ((cvs G tys vs).reverse ++ Value.ref (gad G o.toNat) :: rest)) := by
  have hMet := hM l G hinj (o :: vs) M r M' (by rw [hty]; simp [hlen]) hden
  obtain ⟨k1, k2, k3, k6, k4, k5⟩ := hk
  rw [hty] at hMet
  obtain ⟨o0, hl2, n, rs, hsk⟩ := isOb_get hob
  have hg := render_get (wd := wd) (G := G) (M := M) hl2
  rw [cell_3 hsk] at hg
  obtain ⟨q9, hq9, hq8⟩ := Option.map_eq_some_iff.mp hcl
  have hrc := va_recv hK hP hq9 hg
  have e1 : cvs G (2 :: tys) (o :: vs) = Value.ref (gad G o.toNat) :: cvs G tys vs := by
    show cv (gad G) 2 o :: cvs G tys vs = _
    rw [cv_ref o0]
  rw [e1] at hMet
  have hlenA : (cvs G tys vs).length = tys.length := by simp [cvs, hlen]
  have hpre : PreV s H y.1.cls (gad G o.toNat) (gPc wd G (Value.ref (gad G o.toNat) :: cvs G tys vs) M) (cvs G tys vs) := by
    refine ⟨gPc_blind hrx, by rw [hq8] at hrc; exact hrc, fun U hU hW => ⟨rfl, by rw [hU]; exact hP, va_K.moved hW.alike hK, ?_⟩⟩
    rw [hU]
    exact RO.warm hrx hW (RO.kept hrx hq (RO.mem hm hRO))
  rcases hln with hln | ⟨host, hln⟩
  · refine gx_call (st0 := (cvs G tys vs).reverse ++ Value.ref (gad G o.toNat) :: rest) (va_runV (As := cvs G tys vs) (rest := rest) (nL := nL) (Ts := TBL) (own := own) (C := y.1.cls) (n := tys.length) ⟨hx, hb, hml, hown, hts⟩ hMet (cwV _ hts (fun w hw => ?_) rfl rfl rfl ⟨rfl, k4.1, k4.2, hd⟩ hR) hpre rfl hlenA hls rfl (lv_room hcat) hdec ⟨hroom.1, hroom.2⟩) hS hA (fun H1 locs1 h1 h2 h4 h5 h3 => kk H1 locs1 h1 h2 h4 h5 (fun i hi => (h3 i hi).trans (hm i hi)))
    rcases List.mem_append.mp hw with hw | hw
    · simp only [List.mem_cons, List.not_mem_nil, or_false] at hw
      rcases hw with rfl | rfl | rfl | rfl
      · exact good1 hln
      · exact good1 k2
      · exact good1 k3
      · exact good1 k6
    · exact code_good k1 w hw
  · exact gx_call (st0 := (cvs G tys vs).reverse ++ Value.ref (gad G o.toNat) :: rest) (va_runVN (As := cvs G tys vs) (rest := rest) (nL := nL) (Ts := TBL) (own := own) (host := host) (C := y.1.cls) (n := tys.length) ⟨hx, hb, hml, hown, hts⟩ hMet ⟨va_cnB _ hts (code_good k1) rfl rfl rfl (hRO.1 _ hln) (hts _ k6) ⟨k4.1, k4.2, hd⟩ hR, hts _ k2, hts _ k3⟩ hpre rfl hlenA hls rfl (lv_room hcat) hdec ⟨hroom.1, hroom.2⟩) hS hA (fun H1 locs1 h1 h2 h4 h5 h3 => kk H1 locs1 h1 h2 h4 h5 (fun i hi => (h3 i hi).trans (hm i hi)))
theorem callOk_W (hx : p.tables.exec = Jvm.exec) (hb : c.code = cc) (hml : c.maxLocals = nL) (hown : s.vm.findClass own = some m.cls) (hts : ∀ w ∈ TBL, w.before args s = true) (hK : va_K (gD G) vwCl (gTys G) s) (hinj : gInj wd G) (hrx : RxOk wd.2.2.2) (hRO : RO wd G M0 s s.heap)
    (hM : MetD wd y ci) {tys : List Nat} (hmode : ci.1 = 1) (hty : ci.2.2.1 = 2 :: tys) (hcl : (vwCl[ci.2.1]?).map (fun q => q.1) = some y.1.cls) (hk : KnownV y) (hln : LinkS own idx y ∨ LinkN own idx y) (hd : (parseMethodDescriptor y.1.desc).map (fun d => d.parameters.length) = some tys.length) (hR : y.2.2.2.2 + 1 ≤ R.frames ∧ 8 + (y.2.2.1 + 11) + 64 * y.2.2.2.2 ≤ R.locals) : CallOk wd nL (idx, ci) (p, l, e, R, s, m, args, below, meth, c, Q, M0, G) cc := by
  intro pc vs r M M' H locs ls rest hdec hlen hcat hden hrecv hP hS hls hm kk
  have hdec : decode cc pc = .ok (.invokevirtual idx, 3) := by simpa [invI, hmode] using hdec
  dsimp only at hlen hden hrecv kk ⊢
  rw [hty] at hlen ⊢
  match vs, hlen, hden, hrecv with
  | o :: vs, hlen, hden, hrecv =>
    have hob : isOb wd o ci.2.1 = true := by simpa [recvOk, hmode] using hrecv
    have o0 := (isOb_get hob).1
    have e1 : cvs G (2 :: tys) (o :: vs) = Value.ref (gad G o.toNat) :: cvs G tys vs := by
      show cv (gad G) 2 o :: cvs G tys vs = _
      rw [cv_ref o0]
    have est : (Value.ref (gad G o.toNat) :: cvs G tys vs).reverse ++ rest = (cvs G tys vs).reverse ++ Value.ref (gad G o.toNat) :: rest := by simp
    rw [e1, est]
    exact gx_V hx hb hml hown hts hK hinj hrx hRO hM hmode hty hcl hk hln hd hR hdec (by simpa using hlen) hcat hden hob hP hS (fun _ h => h) hS.2.1 hls hm ⟨Nat.zero_le _, Nat.zero_le _⟩ (fun H1 locs1 h1 h2 _ _ h3 => kk H1 locs1 h1 h2 h3)
end
