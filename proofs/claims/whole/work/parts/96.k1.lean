/-! PART 96.k1: a world that grows: what the constructors make. -/
abbrev Zs : Type := List (Nat × Nat × Int)
def mz (Z : Zs) : Mem := fun i k => ((Z.find? (fun q => q.1 == i && q.2.1 == k)).map (fun q => q.2.2)).getD 0
abbrev wk (sk : Sk) : Wd := (sk, sk.length, [], rxM)
abbrev gW (G : Geo) (ad : Nat → Nat) : Geo := (G.1, G.2.1, G.2.2.1, G.2.2.2.1, G.2.2.2.2.1, ad)
def up1 (ad : Nat → Nat) (n q : Nat) : Nat → Nat := fun i => if i = n then q else ad i
def skOk (sk : Sk) : Bool := sk.all (fun e => e.2.2.all (fun r => decide (r < (sk.length : Int))))
def vsOk (n : Nat) (vs : List Int) : Bool := vs.all (fun r => decide (r < (n : Int)))
def zOk (n : Nat) (Z : Zs) : Bool := Z.all (fun q => decide (q.1 < n))
theorem cv_ad {ad ad' : Nat → Nat} {t n : Nat} {z : Int} (hz : z < (n : Int)) (h : ∀ j, j < n → ad' j = ad j) : cv ad' t z = cv ad t z := by
  unfold cv
  by_cases h1 : t = 1
  · simp [h1]
  · by_cases h2 : t = 2
    · by_cases h3 : z < 0
      · simp [h2, h3]
      · simp only [h2, h3, if_false, if_true]
        rw [h z.toNat (by omega)]
    · simp [h1, h2]
theorem getD_lt {rs : List Int} {n : Nat} (h : rs.all (fun r => decide (r < (n : Int))) = true) (k : Nat) : rs.getD k (-1) < (n : Int) := by
  by_cases hk : k < rs.length
  · have h1 := List.all_eq_true.mp h rs[k] (List.getElem_mem hk)
    have h2 := of_decide_eq_true h1
    simpa [List.getD, hk] using h2
  · simp [List.getD, hk]
    omega
theorem cell_ad {sk : Sk} {G : Geo} {ad ad' : Nat → Nat} {M : Mem} {i n : Nat} (hs : ∀ e, sk[i]? = some e → e.2.2.all (fun r => decide (r < (n : Int))) = true) (h : ∀ j, j < n → ad' j = ad j) : cellOf sk (gW G ad') M i = cellOf sk (gW G ad) M i := by
  unfold cellOf
  match hg : sk[i]? with
  | none => rfl
  | some (0, _, _) => rfl
  | some (1, _, _) => rfl
  | some (2, k, rs) =>
    have h1 : rs.all (fun r => decide (r < (n : Int))) = true := hs _ hg
    have e1 : (fun j => if rs.getD j (-1) < 0 then none else some (ad' (rs.getD j (-1)).toNat)) = fun j => if rs.getD j (-1) < 0 then none else some (ad (rs.getD j (-1)).toNat) := by
      funext j
      have h2 := getD_lt h1 j
      by_cases h3 : rs.getD j (-1) < 0
      · rw [if_pos h3, if_pos h3]
      · rw [if_neg h3, if_neg h3, h _ (by omega)]
    show Sum.inl (G.2.2.2.2.1, k, Sum.inr (Sum.inr (Sum.inr (Sum.inr _)))) = Sum.inl (G.2.2.2.2.1, k, Sum.inr (Sum.inr (Sum.inr (Sum.inr _))))
    exact congrArg (fun f => Sum.inl (G.2.2.2.2.1, k, Sum.inr (Sum.inr (Sum.inr (Sum.inr f))))) e1
  | some (c + 3, k, rs) =>
    have h1 : rs.all (fun r => decide (r < (n : Int))) = true := hs _ hg
    show Sum.inr (c, (List.range k).map _) = Sum.inr (c, (List.range k).map _)
    congr 2
    apply List.map_congr_left
    intro j _
    by_cases h2 : codeOf (tyC c j) = 2
    · refine cv_ad (n := n) ?_ h
      unfold fv
      rw [if_pos h2]
      exact getD_lt h1 j
    · unfold cv
      simp [h2]
theorem skOk_at {sk : Sk} (h : skOk sk = true) {i : Nat} : ∀ e, sk[i]? = some e → e.2.2.all (fun r => decide (r < (sk.length : Int))) = true := fun e he => List.all_eq_true.mp h e (List.mem_of_getElem? he)
theorem cell_sk {sk sk' : Sk} {G : Geo} {M : Mem} {i : Nat} (h : sk'[i]? = sk[i]?) : cellOf sk' G M i = cellOf sk G M i := by
  unfold cellOf
  rw [h]
theorem rend_ext {sk sk' : Sk} {G G' : Geo} {M M' : Mem} (hl : sk'.length = sk.length) (h : ∀ i, i < sk.length → gad G' i = gad G i ∧ cellOf sk' G' M' i = cellOf sk G M i) : render (wk sk') G' M' = render (wk sk) G M := by
  unfold render
  show (List.range sk'.length).map _ = (List.range sk.length).map _
  rw [hl]
  apply List.map_congr_left
  intro i hi
  have hi := List.mem_range.mp hi
  rw [(h i hi).1, (h i hi).2]
/-- one more cell -/
theorem rend_push {sk : Sk} {G : Geo} {ad : Nat → Nat} {M : Mem} {e : SkE} {q : Nat} (hs : skOk sk = true) : render (wk (sk ++ [e])) (gW G (up1 ad sk.length q)) M = render (wk sk) (gW G ad) M ++ [(q, cellOf (sk ++ [e]) (gW G (up1 ad sk.length q)) M sk.length)] := by
  unfold render
  show (List.range (sk ++ [e]).length).map _ = (List.range sk.length).map _ ++ _
  rw [List.length_append, List.length_singleton, List.range_succ, List.map_append]
  congr 1
  · apply List.map_congr_left
    intro i hi
    have hi := List.mem_range.mp hi
    have e1 : up1 ad sk.length q i = ad i := by simp [up1, Nat.ne_of_lt hi]
    show (up1 ad sk.length q i, _) = (ad i, _)
    rw [e1, cell_sk (sk := sk) (List.getElem?_append_left hi), cell_ad (ad := ad) (skOk_at hs) (fun j hj => by simp [up1, Nat.ne_of_lt hj])]
  · show [(up1 ad sk.length q sk.length, _)] = [(q, _)]
    simp [up1]
theorem rend_set {sk : Sk} {G : Geo} {M M' : Mem} {i : Nat} {e : SkE} {x : va_E} (hx : x = cellOf (sk.set i e) G M' i) (ho : ∀ j, j ≠ i → M' j = M j) : (render (wk sk) G M).set i (gad G i, x) = render (wk (sk.set i e)) G M' := by
  apply List.ext_getElem?
  intro j
  have hlen : (wk (sk.set i e)).2.1 = sk.length := by simp [wk]
  by_cases hj : j = i
  · subst hj
    by_cases hl : j < sk.length
    · rw [List.getElem?_set_self (by simpa [render] using hl), render_get (by rw [hlen]; exact hl), hx]
    · simp [render, hl]
  · rw [List.getElem?_set_ne (Ne.symm hj)]
    by_cases hl : j < sk.length
    · rw [render_get hl, render_get (by rw [hlen]; exact hl), ← cellOf_congr (ho j hj)]
      rw [cell_sk (sk := sk) (sk' := sk.set i e) (List.getElem?_set_ne (Ne.symm hj))]
    · simp [render, hl]
theorem mz_far {Z : Zs} {n i k : Nat} (h : zOk n Z = true) (hi : n ≤ i) : mz Z i k = 0 := by
  unfold mz
  rw [List.find?_eq_none.mpr]
  · rfl
  · intro q hq h2
    have h3 := of_decide_eq_true (List.all_eq_true.mp h q hq)
    simp only [Bool.and_eq_true, beq_iff_eq] at h2
    omega
theorem mz_cons {Z : Zs} {i k : Nat} {v : Int} : mz ((i, k, v) :: Z) = ms (mz Z) i k v := by
  funext i' k'
  unfold mz ms
  by_cases h : i' = i ∧ k' = k
  · obtain ⟨rfl, rfl⟩ := h
    simp
  · rw [if_neg h, List.find?_cons_of_neg]
    intro h2
    simp only [Bool.and_eq_true, beq_iff_eq] at h2
    exact h ⟨h2.1.symm, h2.2.symm⟩
/-! the growing machine -/
abbrev Kx : Type := Program × Launch × Env × Room × State × MethodId × Array Value × List Frame × Method × Code × (State → Prop) × Geo × (Nat → Prop) × Nat × (Nat → Nat)
def KW (nL : Nat) : Kx → Sk → Zs → Nat → Nat → Nat → LVs → STs → Prop
  | (p, l, e, R, s, m, args, below, meth, c, Q, G, A, k0, ad0), sk, Z, cells, slots, pc, lv, st => ∀ ad : Nat → Nat, (∀ i, i < k0 → ad i = ad0 i) → ∀ (H : Heap) (locs : List Loc) (ls : Array Slot), va_P (gD G) vwCl (render (wk sk) (gW G ad) (mz Z)) H → va_D A (render (wk sk) (gW G ad) (mz Z)) → va_S A s.heap H locs → lv_has ls nL (cL (gW G ad) lv) → W p l e R s m args below meth c H locs cells slots Q (F0 m pc ls (cS (gW G ad) st))
def KOk (cc : ByteArray) (nL : Nat) (own : String) (kR sR dR : Nat) : Kx → Prop
  | (p, l, e, R, s, m, args, below, meth, c, Q, G, A, k0, ad0) => p.tables.exec = Jvm.exec ∧ c.code = cc ∧ c.maxLocals = nL ∧ s.vm.findClass own = some m.cls ∧ (∀ w ∈ TBL, w.before args s = true) ∧ va_K (gD G) vwCl (gTys G) s ∧ (∀ q, s.heap.size ≤ q → A q) ∧ (∀ w ∈ NW, va_Nw w s) ∧ va_AO "BlackMill$House" s ∧ kR ≤ R.cells ∧ sR ≤ R.slots ∧ dR ≤ R.frames ∧ 64 * dR ≤ R.locals
theorem cL_ad {G : Geo} {ad ad' : Nat → Nat} {n : Nat} {lv : LVs} (h : vsOk n (lv.map (fun q => q.2.2)) = true) (ha : ∀ j, j < n → ad' j = ad j) : cL (gW G ad') lv = cL (gW G ad) lv := by
  apply List.map_congr_left
  intro q hq
  have h1 := of_decide_eq_true (List.all_eq_true.mp h q.2.2 (List.mem_map.mpr ⟨q, hq, rfl⟩))
  show (q.1, cv ad' q.2.1 q.2.2) = (q.1, cv ad q.2.1 q.2.2)
  rw [cv_ad h1 ha]
theorem cS_ad {G : Geo} {ad ad' : Nat → Nat} {n : Nat} {st : STs} (h : vsOk n (st.map (fun q => q.2)) = true) (ha : ∀ j, j < n → ad' j = ad j) : cS (gW G ad') st = cS (gW G ad) st := by
  apply List.map_congr_left
  intro q hq
  have h1 := of_decide_eq_true (List.all_eq_true.mp h q.2 (List.mem_map.mpr ⟨q, hq, rfl⟩))
  show cv ad' q.1 q.2 = cv ad q.1 q.2
  rw [cv_ad h1 ha]
theorem up1_lt {ad : Nat → Nat} {n q : Nat} : ∀ j, j < n → up1 ad n q j = ad j := fun j hj => by simp [up1, Nat.ne_of_lt hj]
theorem defV {ad : Nat → Nat} {ty : FieldType} (h : ¬ codeOf ty = 9) : defaultValue ty = cv ad (codeOf ty) (if codeOf ty = 2 then -1 else 0) := by
  cases ty <;> first | rfl | exact absurd rfl h
theorem getD_rep {n j : Nat} : (List.replicate n (-1 : Int)).getD j (-1) = -1 := by
  by_cases h : j < n <;> simp [List.getD, h]
def freshE (c N : Nat) : va_E := .inr (c, (List.range N).map (fun k => cv (fun _ => 0) (codeOf (tyC c k)) (if codeOf (tyC c k) = 2 then -1 else 0)))
theorem cv_any {ad ad' : Nat → Nat} {t : Nat} {z : Int} (h : ¬ t = 2 ∨ z < 0) : cv ad t z = cv ad' t z := by
  unfold cv
  rcases h with h | h
  · simp [h]
  · simp [h]
theorem fresh_cell {sk : Sk} {G : Geo} {Z : Zs} {c N i : Nat} (hs : sk[i]? = some (c + 3, N, List.replicate N (-1))) (hz : ∀ k, mz Z i k = 0) : cellOf sk G (mz Z) i = freshE c N := by
  rw [cell_3 hs]
  unfold freshE
  congr 2
  apply List.map_congr_left
  intro j _
  unfold fv
  rw [hz, getD_rep]
  by_cases h : codeOf (tyC c j) = 2
  · rw [if_pos h]
    exact cv_any (Or.inr (by decide))
  · rw [if_neg h]
    exact cv_any (Or.inl h)
section KWS
variable {cc : ByteArray} {nL kR sR dR : Nat} {own : String} {X : Kx} {sk : Sk} {Z : Zs} {cells slots pc : Nat} {lv : LVs} {st : STs}
abbrev kq (X : Kx) : Nat := X.2.2.2.2.2.2.2.2.2.2.2.2.2.1
theorem kw_aload_n (h : KOk cc nL own kR sR dR X) {j : Fin 4} {i x : Nat} (hd : decode cc pc = .ok (.aload_n j, 1)) (hi : (j : Nat) = i) (hv : (i, 2, (x : Int)) ∈ lv) (k : KW nL X sk Z cells slots (pc + 1) lv ((2, (x : Int)) :: st)) : KW nL X sk Z cells slots pc lv st := by
  obtain ⟨p, l, e, R, s, m, args, below, meth, c, Q, G, A, k0, ad0⟩ := X
  intro ad ha H locs ls hP hD hS hl
  have g := hl.2.2 (i, cv ad 2 x) (List.mem_map.mpr ⟨_, hv, rfl⟩)
  have k1 := k ad ha H locs ls hP hD hS hl
  have e1 : cv ad 2 (x : Int) = .ref (ad x) := cv_ref (by omega)
  rw [e1] at g
  have e2 : cS (gW G ad) ((2, (x : Int)) :: st) = .ref (ad x) :: cS (gW G ad) st := by
    show cv ad 2 (x : Int) :: _ = _
    rw [e1]
    rfl
  rw [e2] at k1
  exact lv_aload_n h.1 h.2.1 hd hi g k1
theorem kw_iconst (h : KOk cc nL own kR sR dR X) {n : Int} (hd : decode cc pc = .ok (.iconst n, 1)) (k : KW nL X sk Z cells slots (pc + 1) lv ((0, n) :: st)) : KW nL X sk Z cells slots pc lv st := by
  obtain ⟨p, l, e, R, s, m, args, below, meth, c, Q, G, A, k0, ad0⟩ := X
  intro ad ha H locs ls hP hD hS hl
  exact lv_iconst h.1 h.2.1 hd rfl (k ad ha H locs ls hP hD hS hl)
theorem kw_bipush (h : KOk cc nL own kR sR dR X) {n : Int} (h1 : -128 ≤ n) (h2 : n < 128) (hd : decode cc pc = .ok (.bipush n, 2)) (k : KW nL X sk Z cells slots (pc + 2) lv ((0, n) :: st)) : KW nL X sk Z cells slots pc lv st := by
  obtain ⟨p, l, e, R, s, m, args, below, meth, c, Q, G, A, k0, ad0⟩ := X
  intro ad ha H locs ls hP hD hS hl
  exact lv_bipush h.1 h.2.1 hd (bip h1 h2) (k ad ha H locs ls hP hD hS hl)
theorem kw_sipush (h : KOk cc nL own kR sR dR X) {n : Int} (h1 : -32768 ≤ n) (h2 : n < 32768) (hd : decode cc pc = .ok (.sipush n, 3)) (k : KW nL X sk Z cells slots (pc + 3) lv ((0, n) :: st)) : KW nL X sk Z cells slots pc lv st := by
  obtain ⟨p, l, e, R, s, m, args, below, meth, c, Q, G, A, k0, ad0⟩ := X
  intro ad ha H locs ls hP hD hS hl
  exact lv_sipush h.1 h.2.1 hd (sip h1 h2) (k ad ha H locs ls hP hD hS hl)
theorem kw_dup (h : KOk cc nL own kR sR dR X) {t : Nat} {a : Int} (ht : ¬ t = 1) (hd : decode cc pc = .ok (.dup, 1)) (k : KW nL X sk Z cells slots (pc + 1) lv ((t, a) :: (t, a) :: st)) : KW nL X sk Z cells slots pc lv ((t, a) :: st) := by
  obtain ⟨p, l, e, R, s, m, args, below, meth, c, Q, G, A, k0, ad0⟩ := X
  intro ad ha H locs ls hP hD hS hl
  exact lv_dup h.1 h.2.1 hd (by rw [cv_cat, if_neg ht]) (k ad ha H locs ls hP hD hS hl)
/-- Object's own constructor -/
theorem kw_obj (h : KOk cc nL own kR sR dR X) {idx i : Nat} (hk : Cond.methodLink own idx objectInit ∈ TBL) (hd : decode cc pc = .ok (.invokespecial idx, 3)) (hdR : 1 ≤ dR) (hst : (st.map (fun q => if q.1 = 1 then 2 else 1)).sum ≤ 8) (hw1 : Cond.instanceMethod objectInit ∈ TBL) (hw2 : Cond.code objectInit ⟨#[0xb1]⟩ 1 none ∈ TBL) (k : KW nL X sk Z cells slots (pc + 3) lv st) : KW nL X sk Z cells slots pc lv ((2, (i : Int)) :: st) := by
  obtain ⟨p, l, e, R, s, m, args, below, meth, c, Q, G, A, k0, ad0⟩ := X
  obtain ⟨h1, h2, h3, h4, h5, h6, h7, h8, h9, h10, h11, h12, h13⟩ := h
  intro ad ha H locs ls hP hD hS hl
  have e1 : cS (gW G ad) ((2, (i : Int)) :: st) = .ref (ad i) :: cS (gW G ad) st := by
    show cv ad 2 (i : Int) :: _ = _
    rw [cv_ref (by omega)]
    rfl
  rw [e1]
  have hc := cS_cat (G := gW G ad) hst
  exact W.objInit h1 h2 h4 (h5 _ hk) (h5 _ hw1) (h5 _ hw2) rfl (by rw [h3]; exact hl.1) rfl hd (by omega) (by show 2 * 0 + _ + 12 ≤ _; omega) (k ad ha H locs ls hP hD hS hl)
/-- a new object -/
theorem kw_new (h : KOk cc nL own kR sR dR X) {idx c N : Nat} {C : String} {T : u_T} (hc : vwCl[c]? = some (C, T, N)) (hcl : Cond.classLink own idx C ∈ TBL) (hins : Cond.instantiable C N ∈ TBL) (hini : Cond.initialized C ∈ TBL) (hok : (List.range N).all (fun j => !(codeOf (tyC c j) == 9)) = true) (hs : skOk sk = true) (hz : zOk sk.length Z = true) (hlv : vsOk sk.length (lv.map (fun q => q.2.2)) = true) (hst : vsOk sk.length (st.map (fun q => q.2)) = true) (hk0 : kq X ≤ sk.length) (hcs : cells + 1 ≤ kR) (hss : slots + N ≤ sR) (hd : decode cc pc = .ok (.new idx, 3))
    (k : KW nL X (sk ++ [(c + 3, N, List.replicate N (-1))]) Z (cells + 1) (slots + N) (pc + 3) lv ((2, (sk.length : Int)) :: st)) : KW nL X sk Z cells slots pc lv st := by
  obtain ⟨p, l, e, R, s, m, args, below, meth, cd, Q, G, A, k0, ad0⟩ := X
  obtain ⟨h1, h2, h3, h4, h5, h6, h7, h8, h9, h10, h11, h12, h13⟩ := h
  intro ad ha H locs ls hP hD hS hl
  have hk0 : k0 ≤ sk.length := hk0
  refine va_new (ci := c) (C := C) (T := T) (N := N) (fs := (List.range N).map (fun k => cv (fun _ => 0) (codeOf (tyC c k)) (if codeOf (tyC c k) = 2 then -1 else 0))) h1 h2 h5 (lays_in c C T N hc) (tyC c) (tyC_ok c C T N hc) h4 (h5 _ hcl) (h5 _ hins) (h5 _ hini) h6 hP hD hS h7 hc ?_ (by omega) (by omega) hd (fun q H1 hP1 hD1 hS1 => ?_)
  · intro j hj
    have h14 := List.all_eq_true.mp hok j (List.mem_range.mpr hj)
    have h15 : ¬ codeOf (tyC c j) = 9 := by simpa using h14
    rw [defV (ad := fun _ => 0) h15]
    simp [vp_V, hj]
  · have e0 : (sk ++ [((c + 3, N, List.replicate N (-1)) : SkE)])[sk.length]? = some (c + 3, N, List.replicate N (-1)) := by simp
    have e1 := rend_push (sk := sk) (G := G) (ad := ad) (M := mz Z) (e := (c + 3, N, List.replicate N (-1))) (q := q) hs
    rw [fresh_cell e0 (fun k => mz_far hz (Nat.le_refl _))] at e1
    have k1 := k (up1 ad sk.length q) (fun i hi => by rw [up1_lt i (by omega)]; exact ha i hi) H1 locs ls (by rw [e1]; exact hP1) (by rw [e1]; exact hD1) hS1 (by rw [cL_ad hlv up1_lt]; exact hl)
    have e2 : cS (gW G (up1 ad sk.length q)) ((2, (sk.length : Int)) :: st) = .ref q :: cS (gW G ad) st := by
      show cv (up1 ad sk.length q) 2 (sk.length : Int) :: cS (gW G (up1 ad sk.length q)) st = _
      rw [cv_ref (by omega), cS_ad hst up1_lt]
      simp [up1]
    rw [e2] at k1
    exact k1
theorem K_row {G : Geo} {s : State} {cA : ClassId} {ty : FieldType} {i : Nat} {c1 : ClassId} (hK : va_K (gD G) vwCl (gTys G) s) (hi : (gTys G)[i]? = some (c1, ty)) (hK1 : va_K (gD G) vwCl (gTys G ++ [(cA, ty)]) s) : cA = c1 := by
  have a1 := (hK.2 i _ hi).2
  have a2 := (hK1.2 3 (cA, ty) rfl).2
  unfold va_RA at a1 a2
  cases ty with
  | object C =>
    obtain ⟨_, _, -, -, -, b1⟩ := a1
    obtain ⟨_, _, -, -, -, b2⟩ := a2
    exact Option.some.inj (b2.symm.trans b1)
  | _ => exact Option.some.inj (a2.symm.trans a1)
theorem ofI_nat {n : Nat} (h : n < 2147483648) : Int32.ofInt (n : Int) = Int32.ofNat n ∧ ¬ Int32.ofInt (n : Int) < 0 ∧ (Int32.ofInt (n : Int)).toNatClampNeg = n := by
  have h1 : wr (n : Int) = n := wr_id (by omega) (by omega)
  refine ⟨rfl, fun z => ?_, ?_⟩
  · have h2 := wr_lt.mp (show Int32.ofInt (n : Int) < Int32.ofInt 0 from z)
    rw [wr_0] at h2
    omega
  · show (wr (n : Int)).toNat = n
    rw [h1]
    omega
/-- a new row of ints, or of booleans -/
theorem kw_rowI (h : KOk cc nL own kR sR dR X) {n : Nat} (hw : Cond.arrayClass .int ∈ TBL) (hn : n ≤ 100000) (hs : skOk sk = true) (hz : zOk sk.length Z = true) (hlv : vsOk sk.length (lv.map (fun q => q.2.2)) = true) (hst : vsOk sk.length (st.map (fun q => q.2)) = true) (hk0 : kq X ≤ sk.length) (hcs : cells + 1 ≤ kR) (hss : slots + n ≤ sR) (hd : decode cc pc = .ok (.newarray .int, 2))
    (k : KW nL X (sk ++ [(0, n, [])]) Z (cells + 1) (slots + n) (pc + 2) lv ((2, (sk.length : Int)) :: st)) : KW nL X sk Z cells slots pc lv ((0, (n : Int)) :: st) := by
  obtain ⟨p, l, e, R, s, m, args, below, meth, cd, Q, G, A, k0, ad0⟩ := X
  obtain ⟨h1, h2, h3, h4, h5, h6, h7, h8, h9, h10, h11, h12, h13⟩ := h
  intro ad ha H locs ls hP hD hS hl
  have hk0 : k0 ≤ sk.length := hk0
  obtain ⟨-, b2, b3⟩ := ofI_nat (n := n) (by omega)
  refine va_newa (atype := .int) (ty := .int) (N' := n) (a0 := (n, .inl (fun _ => 0))) h1 h2 (h5 _ hw) rfl h6 hP hD hS h7 (fun cA => rfl) b2 b3 (by show n * 4 ≤ _; omega) (by omega) (by omega) hd (fun q cA H1 hK1 hP1 hD1 hS1 => ?_)
  have hcA : cA = G.2.2.1 := K_row h6 (i := 0) rfl hK1
  subst hcA
  have e0 : (sk ++ [((0, n, []) : SkE)])[sk.length]? = some (0, n, []) := by simp
  have e1 := rend_push (sk := sk) (G := G) (ad := ad) (M := mz Z) (e := (0, n, [])) (q := q) hs
  have e3 : (fun j => Int32.ofInt (mz Z sk.length j)) = fun _ => (0 : Int32) := by
    funext j
    rw [mz_far hz (Nat.le_refl _)]
    rfl
  rw [cell_0 e0, e3] at e1
  have k1 := k (up1 ad sk.length q) (fun i hi => by rw [up1_lt i (by omega)]; exact ha i hi) H1 locs ls (by rw [e1]; exact hP1) (by rw [e1]; exact hD1) hS1 (by rw [cL_ad hlv up1_lt]; exact hl)
  have e2 : cS (gW G (up1 ad sk.length q)) ((2, (sk.length : Int)) :: st) = .ref q :: cS (gW G ad) st := by
    show cv (up1 ad sk.length q) 2 (sk.length : Int) :: cS (gW G (up1 ad sk.length q)) st = _
    rw [cv_ref (by omega), cS_ad hst up1_lt]
    simp [up1]
  rw [e2] at k1
  exact k1
theorem kw_rowZ (h : KOk cc nL own kR sR dR X) {n : Nat} (hw : Cond.arrayClass .boolean ∈ TBL) (hn : n ≤ 100000) (hs : skOk sk = true) (hz : zOk sk.length Z = true) (hlv : vsOk sk.length (lv.map (fun q => q.2.2)) = true) (hst : vsOk sk.length (st.map (fun q => q.2)) = true) (hk0 : kq X ≤ sk.length) (hcs : cells + 1 ≤ kR) (hss : slots + n ≤ sR) (hd : decode cc pc = .ok (.newarray .boolean, 2))
    (k : KW nL X (sk ++ [(1, n, [])]) Z (cells + 1) (slots + n) (pc + 2) lv ((2, (sk.length : Int)) :: st)) : KW nL X sk Z cells slots pc lv ((0, (n : Int)) :: st) := by
  obtain ⟨p, l, e, R, s, m, args, below, meth, cd, Q, G, A, k0, ad0⟩ := X
  obtain ⟨h1, h2, h3, h4, h5, h6, h7, h8, h9, h10, h11, h12, h13⟩ := h
  intro ad ha H locs ls hP hD hS hl
  have hk0 : k0 ≤ sk.length := hk0
  obtain ⟨-, b2, b3⟩ := ofI_nat (n := n) (by omega)
  refine va_newa (atype := .boolean) (ty := .boolean) (N' := n) (a0 := (n, .inl (fun _ => 0))) h1 h2 (h5 _ hw) rfl h6 hP hD hS h7 (fun cA => rfl) b2 b3 (by show n * 1 ≤ _; omega) (by omega) (by omega) hd (fun q cA H1 hK1 hP1 hD1 hS1 => ?_)
  have hcA : cA = G.2.2.2.1 := K_row h6 (i := 1) rfl hK1
  subst hcA
  have e0 : (sk ++ [((1, n, []) : SkE)])[sk.length]? = some (1, n, []) := by simp
  have e1 := rend_push (sk := sk) (G := G) (ad := ad) (M := mz Z) (e := (1, n, [])) (q := q) hs
  have e3 : (fun j => Int32.ofInt (mz Z sk.length j)) = fun _ => (0 : Int32) := by
    funext j
    rw [mz_far hz (Nat.le_refl _)]
    rfl
  rw [cell_1 e0, e3] at e1
  have k1 := k (up1 ad sk.length q) (fun i hi => by rw [up1_lt i (by omega)]; exact ha i hi) H1 locs ls (by rw [e1]; exact hP1) (by rw [e1]; exact hD1) hS1 (by rw [cL_ad hlv up1_lt]; exact hl)
  have e2 : cS (gW G (up1 ad sk.length q)) ((2, (sk.length : Int)) :: st) = .ref q :: cS (gW G ad) st := by
    show cv (up1 ad sk.length q) 2 (sk.length : Int) :: cS (gW G (up1 ad sk.length q)) st = _
    rw [cv_ref (by omega), cS_ad hst up1_lt]
    simp [up1]
  rw [e2] at k1
  exact k1
/-- a new row of houses -/
theorem kw_rowR (h : KOk cc nL own kR sR dR X) {n idx : Nat} (hw : Cond.classLink own idx "BlackMill$House" ∈ TBL) (hn : n ≤ 100000) (hs : skOk sk = true) (hlv : vsOk sk.length (lv.map (fun q => q.2.2)) = true) (hst : vsOk sk.length (st.map (fun q => q.2)) = true) (hk0 : kq X ≤ sk.length) (hcs : cells + 1 ≤ kR) (hss : slots + n ≤ sR) (hd : decode cc pc = .ok (.anewarray idx, 3))
    (k : KW nL X (sk ++ [(2, n, List.replicate n (-1))]) Z (cells + 1) (slots + n) (pc + 3) lv ((2, (sk.length : Int)) :: st)) : KW nL X sk Z cells slots pc lv ((0, (n : Int)) :: st) := by
  obtain ⟨p, l, e, R, s, m, args, below, meth, cd, Q, G, A, k0, ad0⟩ := X
  obtain ⟨h1, h2, h3, h4, h5, h6, h7, h8, h9, h10, h11, h12, h13⟩ := h
  intro ad ha H locs ls hP hD hS hl
  have hk0 : k0 ≤ sk.length := hk0
  obtain ⟨-, b2, b3⟩ := ofI_nat (n := n) (by omega)
  refine va_newq (N' := n) h1 h2 h4 (h5 _ hw) h9 h6 hP hD hS h7 b2 b3 (by omega) (by omega) (by omega) hd (fun q cA H1 hK1 hP1 hD1 hS1 => ?_)
  have hcA : cA = G.2.2.2.2.1 := K_row h6 (i := 2) rfl hK1
  subst hcA
  have e0 : (sk ++ [((2, n, List.replicate n (-1)) : SkE)])[sk.length]? = some (2, n, List.replicate n (-1)) := by simp
  have e1 := rend_push (sk := sk) (G := G) (ad := ad) (M := mz Z) (e := (2, n, List.replicate n (-1))) (q := q) hs
  rw [cell_2 e0] at e1
  have e3 : (fun j => if (List.replicate n (-1 : Int)).getD j (-1) < 0 then none else some (gad (gW G (up1 ad sk.length q)) ((List.replicate n (-1 : Int)).getD j (-1)).toNat)) = fun _ => none := by
    funext j
    rw [getD_rep]
    rfl
  rw [e3] at e1
  have k1 := k (up1 ad sk.length q) (fun i hi => by rw [up1_lt i (by omega)]; exact ha i hi) H1 locs ls (by rw [e1]; exact hP1) (by rw [e1]; exact hD1) hS1 (by rw [cL_ad hlv up1_lt]; exact hl)
  have e2 : cS (gW G (up1 ad sk.length q)) ((2, (sk.length : Int)) :: st) = .ref q :: cS (gW G ad) st := by
    show cv (up1 ad sk.length q) 2 (sk.length : Int) :: cS (gW G (up1 ad sk.length q)) st = _
    rw [cv_ref (by omega), cS_ad hst up1_lt]
    simp [up1]
  rw [e2] at k1
  exact k1
end KWS
