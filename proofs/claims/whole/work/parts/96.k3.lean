/-! PART 96.k3: the growing world: stores, and a whole constructor. -/
section KWS
variable {cc : ByteArray} {nL kR sR dR : Nat} {own : String} {X : Kx} {sk : Sk} {Z : Zs} {cells slots pc : Nat} {lv : LVs} {st : STs}
abbrev kmeth (X : Kx) : Method := X.2.2.2.2.2.2.2.2.1
theorem ref_ok {ty : FieldType} {a : Nat} (h : codeOf ty = 2) : narrow ty (.ref a) = .ref a ∧ fits ty (.ref a) = true := by
  cases ty <;> first | exact ⟨rfl, rfl⟩ | (simp [codeOf] at h)
/-- a final field of references, in the constructor -/
theorem kw_putR (h : KOk cc nL own kR sR dR X) {idx i v c k N : Nat} {rs : List Int} {C : String} {T : u_T} (hin : (kmeth X).name = "<init>") (hc : vwCl[c]? = some (C, T, N)) (hsk : sk[i]? = some (c + 3, N, rs)) (hrl : rs.length = N) (hk : k < N) (hco : codeOf (tyC c k) = 2) (hv : v < sk.length) (hlink : Cond.fieldLink own idx (T k).1 (T k).2.1 (T k).2.2.1 ∈ TBL) (hfin : (T k).2.2.2 = true) (hdecl : (T k).1 = own) (hd : decode cc pc = .ok (.putfield idx, 3))
    (kk : KW nL X (sk.set i (c + 3, N, rs.set k (v : Int))) Z cells slots (pc + 3) lv st) : KW nL X sk Z cells slots pc lv ((2, (v : Int)) :: (2, (i : Int)) :: st) := by
  obtain ⟨p, l, e, R, s, m, args, below, meth, cd, Q, G, A, k0, ad0⟩ := X
  obtain ⟨h1, h2, h3, h4, h5, h6, h7, h8, h9, h10, h11, h12, h13⟩ := h
  intro ad ha H locs ls hP hD hS hl
  have hi : i < sk.length := (List.getElem?_eq_some_iff.mp hsk).1
  have hg := render_get (wd := wk sk) (G := gW G ad) (M := mz Z) hi
  rw [cell_3 hsk] at hg
  have e1 : cS (gW G ad) ((2, (v : Int)) :: (2, (i : Int)) :: st) = .ref (ad v) :: .ref (ad i) :: cS (gW G ad) st := by
    show cv ad 2 (v : Int) :: cv ad 2 (i : Int) :: _ = _
    rw [cv_ref (by omega), cv_ref (by omega)]
    rfl
  rw [e1]
  have hlen : k < ((List.range N).map (fun k => cv ad (codeOf (tyC c k)) (fv (mz Z) rs c i k))).length := by simpa using hk
  have hsk2 : (sk.set i (c + 3, N, rs.set k (v : Int)))[i]? = some (c + 3, N, rs.set k (v : Int)) := List.getElem?_set_self hi
  have hset : (render (wk sk) (gW G ad) (mz Z)).set i (ad i, .inr (c, ((List.range N).map (fun k => cv ad (codeOf (tyC c k)) (fv (mz Z) rs c i k))).set k (.ref (ad v)))) = render (wk (sk.set i (c + 3, N, rs.set k (v : Int)))) (gW G ad) (mz Z) := by
    refine rend_set (G := gW G ad) ?_ (fun _ _ => rfl)
    rw [cell_3 hsk2]
    congr 2
    apply List.ext_getElem?
    intro j
    by_cases hj : j = k
    · subst hj
      rw [List.getElem?_set_self hlen]
      have e5 : (rs.set j (v : Int)).getD j (-1) = (v : Int) := by simp [List.getD, hrl, hk]
      simp only [List.getElem?_map, List.getElem?_range hk, Option.map_some]
      unfold fv
      rw [if_pos hco, e5, hco, cv_ref (by omega)]
      rfl
    · rw [List.getElem?_set_ne (Ne.symm hj)]
      simp only [List.getElem?_map]
      by_cases hjn : j < N
      · simp only [List.getElem?_range hjn, Option.map_some]
        unfold fv
        have e5 : (rs.set k (v : Int)).getD j (-1) = rs.getD j (-1) := by simp [List.getD, List.getElem?_set_ne (Ne.symm hj)]
        rw [e5]
      · simp [hjn]
  obtain ⟨f1, f2⟩ := ref_ok (a := ad v) hco
  have hty := tyC_ok c C T N hc
  refine va_putF (T := T) (ci := c) h1 h2 h5 (lays_in c C T N hc) (tyC c) hty (nmC_ok c C T N hc) h4 h6 hP hD hS i hg hc k hk (h5 _ hlink) (fun _ h9 => h9) hfin hin hdecl (hty k hk) f1 f2 hlen hd (fun H1 locs1 hP1 hD1 hS1 => ?_)
  rw [hset] at hP1 hD1
  exact kk ad ha H1 locs1 ls hP1 hD1 hS1 hl
/-- a field of ints -/
theorem kw_putI (h : KOk cc nL own kR sR dR X) {idx i c k N : Nat} {v : Int} {rs : List Int} {C : String} {T : u_T} (hc : vwCl[c]? = some (C, T, N)) (hsk : sk[i]? = some (c + 3, N, rs)) (hk : k < N) (hco : codeOf (tyC c k) = 0) (hlink : Cond.fieldLink own idx (T k).1 (T k).2.1 (T k).2.2.1 ∈ TBL) (hfin : (T k).2.2.2 = false) (hd : decode cc pc = .ok (.putfield idx, 3))
    (kk : KW nL X sk ((i, k, v) :: Z) cells slots (pc + 3) lv st) : KW nL X sk Z cells slots pc lv ((0, v) :: (2, (i : Int)) :: st) := by
  obtain ⟨p, l, e, R, s, m, args, below, meth, cd, Q, G, A, k0, ad0⟩ := X
  obtain ⟨h1, h2, h3, h4, h5, h6, h7, h8, h9, h10, h11, h12, h13⟩ := h
  intro ad ha H locs ls hP hD hS hl
  have hi : i < sk.length := (List.getElem?_eq_some_iff.mp hsk).1
  have hg := render_get (wd := wk sk) (G := gW G ad) (M := mz Z) hi
  rw [cell_3 hsk] at hg
  have e1 : cS (gW G ad) ((0, v) :: (2, (i : Int)) :: st) = .int (Int32.ofInt v) :: .ref (ad i) :: cS (gW G ad) st := by
    show cv ad 0 v :: cv ad 2 (i : Int) :: _ = _
    rw [cv_ref (by omega)]
    rfl
  rw [e1]
  have hlen : k < ((List.range N).map (fun k => cv ad (codeOf (tyC c k)) (fv (mz Z) rs c i k))).length := by simpa using hk
  have hfit : fitC (codeOf (tyC c k)) v = true := by rw [hco]; rfl
  have hset : (render (wk sk) (gW G ad) (mz Z)).set i (ad i, .inr (c, ((List.range N).map (fun k => cv ad (codeOf (tyC c k)) (fv (mz Z) rs c i k))).set k (.int (Int32.ofInt v)))) = render (wk sk) (gW G ad) (mz ((i, k, v) :: Z)) := by
    rw [mz_cons]
    refine render_set ?_ (fun j hj => ms_ne hj)
    rw [cell_3 hsk]
    congr 2
    apply List.ext_getElem?
    intro j
    by_cases hj : j = k
    · subst hj
      rw [List.getElem?_set_self hlen]
      simp only [List.getElem?_map, List.getElem?_range hk, Option.map_some]
      rw [hco]
      simp [fv, hco, ms, cv]
    · rw [List.getElem?_set_ne (Ne.symm hj)]
      simp only [List.getElem?_map]
      by_cases hjn : j < N
      · simp [hjn, fv_ms hfit, hj]
      · simp [hjn]
  have hty := tyC_ok c C T N hc
  obtain ⟨f1, f2⟩ := fit_ok (ad := ad) hfit
  rw [hco] at f1 f2
  refine va_put (T := T) (ci := c) h1 h2 h5 (lays_in c C T N hc) (tyC c) hty (nmC_ok c C T N hc) h4 h6 hP hD hS i hg hc k hk (h5 _ hlink) (fun _ h9 => h9) hfin (hty k hk) f1 f2 hlen hd (fun H1 locs1 hP1 hD1 hS1 => ?_)
  rw [hset] at hP1 hD1
  exact kk ad ha H1 locs1 ls hP1 hD1 hS1 hl
/-- a house into the row of houses -/
theorem kw_astR (h : KOk cc nL own kR sR dR X) {i j v n : Nat} {rs rv : List Int} (hsk : sk[i]? = some (2, n, rs)) (hskv : sk[v]? = some (5, 5, rv)) (hrl : rs.length = n) (hj : j < n) (hn : n < 1000) (hd : decode cc pc = .ok (.aastore, 1))
    (kk : KW nL X (sk.set i (2, n, rs.set j (v : Int))) Z cells slots (pc + 1) lv st) : KW nL X sk Z cells slots pc lv ((2, (v : Int)) :: (0, (j : Int)) :: (2, (i : Int)) :: st) := by
  obtain ⟨p, l, e, R, s, m, args, below, meth, cd, Q, G, A, k0, ad0⟩ := X
  obtain ⟨h1, h2, h3, h4, h5, h6, h7, h8, h9, h10, h11, h12, h13⟩ := h
  intro ad ha H locs ls hP hD hS hl
  have hi : i < sk.length := (List.getElem?_eq_some_iff.mp hsk).1
  have hv : v < sk.length := (List.getElem?_eq_some_iff.mp hskv).1
  have hg := render_get (wd := wk sk) (G := gW G ad) (M := mz Z) hi
  rw [cell_2 hsk] at hg
  have hg2 := render_get (wd := wk sk) (G := gW G ad) (M := mz Z) hv
  rw [cell_3 (c := 2) hskv] at hg2
  have e1 : cS (gW G ad) ((2, (v : Int)) :: (0, (j : Int)) :: (2, (i : Int)) :: st) = .ref (ad v) :: .int (Int32.ofInt (j : Int)) :: .ref (ad i) :: cS (gW G ad) st := by
    show cv ad 2 (v : Int) :: cv ad 0 (j : Int) :: cv ad 2 (i : Int) :: _ = _
    rw [cv_ref (by omega), cv_ref (by omega)]
    rfl
  rw [e1]
  obtain ⟨-, b2, b3⟩ := ofI_nat (n := j) (by omega)
  have hsk2 : (sk.set i (2, n, rs.set j (v : Int)))[i]? = some (2, n, rs.set j (v : Int)) := List.getElem?_set_self hi
  have hset : (render (wk sk) (gW G ad) (mz Z)).set i (ad i, .inl (G.2.2.2.2.1, n, .inr (.inr (.inr (.inr (va_up (fun j => if rs.getD j (-1) < 0 then none else some (ad (rs.getD j (-1)).toNat)) (Int32.ofInt (j : Int)).toNatClampNeg (some (ad v)))))))) = render (wk (sk.set i (2, n, rs.set j (v : Int)))) (gW G ad) (mz Z) := by
    refine rend_set (G := gW G ad) ?_ (fun _ _ => rfl)
    rw [cell_2 hsk2, b3]
    refine congrArg (fun f => (Sum.inl (G.2.2.2.2.1, n, Sum.inr (Sum.inr (Sum.inr (Sum.inr f)))) : va_E)) ?_
    funext q
    unfold va_up
    by_cases hq : q = j
    · subst hq
      have e5 : (rs.set q (v : Int)).getD q (-1) = (v : Int) := by simp [List.getD, hrl, hj]
      rw [if_pos rfl, e5, if_neg (by omega)]
      rfl
    · have e5 : (rs.set j (v : Int)).getD q (-1) = rs.getD q (-1) := by simp [List.getD, List.getElem?_set_ne (Ne.symm hq)]
      rw [if_neg hq, e5]
  refine va_astq (r := (RX2, TX2, 5)) (ci := 2) h1 h2 h6 hP hD hS i 2 v hg rfl hg2 rfl (fun z => z.elim (fun z => b2 z) (fun z => absurd (b3 ▸ z) (by omega))) hd (fun H1 locs1 hP1 hD1 hS1 => ?_)
  have hP1 := hset ▸ hP1
  have hD1 := hset ▸ hD1
  exact kk ad ha H1 locs1 ls hP1 hD1 hS1 hl
theorem kw_getR (h : KOk cc nL own kR sR dR X) {idx i v c k N : Nat} {rs : List Int} {C : String} {T : u_T} (hc : vwCl[c]? = some (C, T, N)) (hsk : sk[i]? = some (c + 3, N, rs)) (hk : k < N) (hco : codeOf (tyC c k) = 2) (hv : rs.getD k (-1) = (v : Int)) (hlink : Cond.fieldLink own idx (T k).1 (T k).2.1 (T k).2.2.1 ∈ TBL) (hd : decode cc pc = .ok (.getfield idx, 3))
    (kk : KW nL X sk Z cells slots (pc + 3) lv ((2, (v : Int)) :: st)) : KW nL X sk Z cells slots pc lv ((2, (i : Int)) :: st) := by
  obtain ⟨p, l, e, R, s, m, args, below, meth, cd, Q, G, A, k0, ad0⟩ := X
  obtain ⟨h1, h2, h3, h4, h5, h6, h7, h8, h9, h10, h11, h12, h13⟩ := h
  intro ad ha H locs ls hP hD hS hl
  have hi : i < sk.length := (List.getElem?_eq_some_iff.mp hsk).1
  have hg := render_get (wd := wk sk) (G := gW G ad) (M := mz Z) hi
  rw [cell_3 hsk] at hg
  have e1 : ∀ z : Nat, cS (gW G ad) ((2, (z : Int)) :: st) = .ref (ad z) :: cS (gW G ad) st := by
    intro z
    show cv ad 2 (z : Int) :: _ = _
    rw [cv_ref (by omega)]
    rfl
  rw [e1]
  have hk2 : ((List.range N).map (fun k => cv ad (codeOf (tyC c k)) (fv (mz Z) rs c i k)))[k]? = some (.ref (ad v)) := by
    simp only [List.getElem?_map, List.getElem?_range hk, Option.map_some]
    unfold fv
    rw [if_pos hco, hv, hco, cv_ref (by omega)]
    rfl
  have k1 := kk ad ha H locs ls hP hD hS hl
  rw [e1] at k1
  exact va_get (T := T) (ci := c) h1 h2 h5 (lays_in c C T N hc) h4 h6 hP i hg hc k hk (h5 _ hlink) (fun _ h9 => h9) hk2 hd k1
theorem kw_alen (h : KOk cc nL own kR sR dR X) {i n : Nat} {rs : List Int} (hsk : sk[i]? = some (2, n, rs)) (hd : decode cc pc = .ok (.arraylength, 1)) (kk : KW nL X sk Z cells slots (pc + 1) lv ((0, (n : Int)) :: st)) : KW nL X sk Z cells slots pc lv ((2, (i : Int)) :: st) := by
  obtain ⟨p, l, e, R, s, m, args, below, meth, cd, Q, G, A, k0, ad0⟩ := X
  obtain ⟨h1, h2, h3, h4, h5, h6, h7, h8, h9, h10, h11, h12, h13⟩ := h
  intro ad ha H locs ls hP hD hS hl
  have hi : i < sk.length := (List.getElem?_eq_some_iff.mp hsk).1
  have hg := render_get (wd := wk sk) (G := gW G ad) (M := mz Z) hi
  rw [cell_2 hsk] at hg
  have e1 : cS (gW G ad) ((2, (i : Int)) :: st) = .ref (ad i) :: cS (gW G ad) st := by
    show cv ad 2 (i : Int) :: _ = _
    rw [cv_ref (by omega)]
    rfl
  rw [e1]
  exact va_alen h1 h2 h6 hP i 2 hg rfl rfl hd (kk ad ha H locs ls hP hD hS hl)
theorem kw_iload_n (h : KOk cc nL own kR sR dR X) {j : Fin 4} {i : Nat} {x : Int} (hd : decode cc pc = .ok (.iload_n j, 1)) (hi : (j : Nat) = i) (hv : (i, 0, x) ∈ lv) (k : KW nL X sk Z cells slots (pc + 1) lv ((0, x) :: st)) : KW nL X sk Z cells slots pc lv st := by
  obtain ⟨p, l, e, R, s, m, args, below, meth, c, Q, G, A, k0, ad0⟩ := X
  intro ad ha H locs ls hP hD hS hl
  exact lv_iload_n h.1 h.2.1 hd hi (hl.2.2 (i, cv ad 0 x) (List.mem_map.mpr ⟨_, hv, rfl⟩)) (k ad ha H locs ls hP hD hS hl)
theorem kw_istore_n (h : KOk cc nL own kR sR dR X) {j : Fin 4} {i : Nat} {x : Int} (hd : decode cc pc = .ok (.istore_n j, 1)) (hi : (j : Nat) = i) (hn : i < nL) (k : KW nL X sk Z cells slots (pc + 1) (setL lv i 0 x) st) : KW nL X sk Z cells slots pc lv ((0, x) :: st) := by
  obtain ⟨p, l, e, R, s, m, args, below, meth, c, Q, G, A, k0, ad0⟩ := X
  intro ad ha H locs ls hP hD hS hl
  exact lv_istore_n h.1 h.2.1 hd hi hl hn (cL_set (gW G ad) lv i 0 x (by decide)) (fun ls' hl' => k ad ha H locs ls' hP hD hS hl')
theorem kw_iinc (h : KOk cc nL own kR sR dR X) {i : Nat} {n x : Int} (hd : decode cc pc = .ok (.iinc i n, 3)) (hv : (i, 0, x) ∈ lv) (hn : i < nL) (k : KW nL X sk Z cells slots (pc + 3) (setL lv i 0 (x + n)) st) : KW nL X sk Z cells slots pc lv st := by
  obtain ⟨p, l, e, R, s, m, args, below, meth, c, Q, G, A, k0, ad0⟩ := X
  intro ad ha H locs ls hP hD hS hl
  obtain ⟨j, hj⟩ := List.getElem?_of_mem hv
  refine lv_iinc (k := j) h.1 h.2.1 hd hl (x := Int32.ofInt x) (v := Int32.ofInt (x + n)) ?_ (Int32.ofInt_add x n).symm hn (cL_set (gW G ad) lv i 0 (x + n) (by decide)) (fun ls' hl' => k ad ha H locs ls' hP hD hS hl')
  simp only [cL, List.getElem?_map, hj]
  rfl
theorem kw_goto (h : KOk cc nL own kR sR dR X) {off : Int} {tgt : Nat} (hd : decode cc pc = .ok (.goto off, 3)) (ht : (pc : Int) + off = (tgt : Int)) (k : KW nL X sk Z cells slots tgt lv st) : KW nL X sk Z cells slots pc lv st := by
  obtain ⟨p, l, e, R, s, m, args, below, meth, c, Q, G, A, k0, ad0⟩ := X
  intro ad ha H locs ls hP hD hS hl
  exact lv_goto h.1 h.2.1 hd ht (k ad ha H locs ls hP hD hS hl)
theorem kw_ge (h : KOk cc nL own kR sR dR X) {a b off : Int} {tgt : Nat} (hd : decode cc pc = .ok (.if_icmp .ge off, 3)) (ht : (pc : Int) + off = (tgt : Int)) (k : KW nL X sk Z cells slots (if wr b ≤ wr a then tgt else pc + 3) lv st) : KW nL X sk Z cells slots pc lv ((0, b) :: (0, a) :: st) := by
  obtain ⟨p, l, e, R, s, m, args, below, meth, c, Q, G, A, k0, ad0⟩ := X
  intro ad ha H locs ls hP hD hS hl
  refine lv_icmp_ge h.1 h.2.1 hd ht (fun c1 => ?_) (fun c1 => ?_)
  · rw [if_pos (wr_le.mp c1)] at k
    exact k ad ha H locs ls hP hD hS hl
  · rw [if_neg (fun z => c1 (wr_le.mpr z))] at k
    exact k ad ha H locs ls hP hD hS hl
end KWS
/-- a whole constructor -/
theorem ct_method {y : MethodName} {cc : ByteArray} {mL d c N : Nat} {sk : Sk} {Z : Zs} {kc ks : Nat} (hy : plainName y.cls = true) (hin : y.name = "<init>") (h1 : 1 ≤ mL) (body : ∀ X : Kx, KOk cc mL y.cls kc ks d X → kq X = 1 → (kmeth X).name = "<init>" → (∀ pc lv, decode cc pc = .ok (.return_, 1) → KW mL X sk Z kc ks pc lv []) → KW mL X [(c + 3, N, List.replicate N (-1))] [] 0 0 0 [(0, 2, 0)] []) : CtD y cc mL d c N sk Z kc ks := by
  intro l G h0 sz
  refine Met.ofW (cc := cc) (maxL := mL) (ret := none) hy rfl ?_
  intro p e s m args below meth cd s₁ B hml hv
  obtain ⟨rfl, hsz, hP, hK, hN, hAO, hD0⟩ := hv
  have hx := B.exec
  have hb := B.bytes
  have hr := B.returns
  have hts0 := atoms_spec (ws := Cond.code y cc mL none :: TBL) B.pre
  have hts : ∀ w ∈ TBL, w.before _ s = true := fun w hw => hts0 w (List.mem_cons_of_mem _ hw)
  have hown : s.vm.findClass y.cls = some m.cls := findClass_of_methodNamed B.named
  have hlocks := B.notSynchronized
  have hin2 : meth.name = "<init>" := by rw [(name_of_methodNamed B.named B.method).1]; exact hin
  subst hsz
  have hD := hD0.self (sz := s.heap.size)
  generalize hAe : va_A [(h0, freshE c N)] s.heap.size = A at hD ⊢
  have hA : ∀ q : Nat, s.heap.size ≤ q → A q := fun q h => by rw [← hAe]; exact Or.inr h
  have e0 : render (wk [((c + 3, N, List.replicate N (-1)) : SkE)]) (gW G (fun _ => h0)) (mz []) = [(h0, freshE c N)] := by
    show [(h0, cellOf [((c + 3, N, List.replicate N (-1)) : SkE)] (gW G (fun _ => h0)) (mz []) 0)] = _
    rw [fresh_cell (c := c) (N := N) rfl (fun k => rfl)]
  have hX : KOk cc mL y.cls kc ks d (p, l, e, { frames := d, cells := kc, slots := ks, locals := 64 * d }, s, m, [Value.ref h0].toArray, below, meth, cd, MQ below (va_Qv (fun ad : Nat → Nat => ad 0 = h0) (fun ad t => va_P (gD G) vwCl (render (wk sk) (gW G ad) (mz Z)) t.heap ∧ va_D A (render (wk sk) (gW G ad) (mz Z))) A) [Value.ref h0].toArray s kc ks A, G, A, 1, fun _ => h0) := ⟨hx, hb, hml, hown, hts, hK, hA, hN, hAO, Nat.le_refl _, Nat.le_refl _, Nat.le_refl _, Nat.le_refl _⟩
  have hl := lv_entry ([.ref h0]) (n := mL) (by show 1 ≤ mL; exact h1)
  rw [lg_entry_eq]
  have k1 := body _ hX rfl hin2 (fun pc lv hdec ad ha H locs ls hP2 hD2 hS2 hl2 => W.vret hx hb hr (fun t ht hW => ⟨⟨ad, rfl, ha 0 (by decide), by rw [ht]; exact hP2, hD2⟩, hS2.F ht⟩) hS2.2.2 hdec) (fun _ => h0) (fun _ _ => rfl) s.heap [] _ (by rw [e0]; exact hP) (by rw [e0]; exact hD) va_S.rf hl
  exact k1
