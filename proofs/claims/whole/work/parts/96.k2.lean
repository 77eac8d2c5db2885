/-! PART 96.k2: the growing world: fields, calls of constructors, their ends. -/
def shE (n : Nat) (e : SkE) : SkE := (e.1, e.2.1, e.2.2.map (fun r => if r < 0 then r else r + n))
def shSk (n : Nat) (sk : Sk) : Sk := sk.map (shE n)
def shZ (n : Nat) (Z : Zs) : Zs := Z.map (fun q => (q.1 + n, q.2.1, q.2.2))
def adJ (ad adc : Nat → Nat) (o : Nat) : Nat → Nat := fun i => if i < o then ad i else adc (i - o)
theorem getD_sh {rs : List Int} {n k : Nat} : (rs.map (fun r => if r < 0 then r else r + (n : Int))).getD k (-1) = (if rs.getD k (-1) < 0 then rs.getD k (-1) else rs.getD k (-1) + n) := by
  by_cases hk : k < rs.length
  · simp [List.getD, hk]
  · simp [List.getD, hk]
theorem adJ_sh {ad adc : Nat → Nat} {o : Nat} {z : Int} (hz : ¬ z < 0) : adJ ad adc o (z + (o : Int)).toNat = adc z.toNat := by
  unfold adJ
  rw [if_neg (by omega)]
  congr 1
  omega
theorem cell_sh {sk0 sk : Sk} {G : Geo} {ad adc : Nat → Nat} {M Mc : Mem} {i : Nat} (hm : ∀ k, M (i + sk0.length) k = Mc i k) : cellOf (sk0 ++ shSk sk0.length sk) (gW G (adJ ad adc sk0.length)) M (i + sk0.length) = cellOf sk (gW G adc) Mc i := by
  have hg : (sk0 ++ shSk sk0.length sk)[i + sk0.length]? = (sk[i]?).map (shE sk0.length) := by
    rw [List.getElem?_append_right (by omega), Nat.add_sub_cancel]
    simp [shSk]
  have hm2 : M (i + sk0.length) = Mc i := funext hm
  match h0 : sk[i]? with
  | none =>
    rw [h0] at hg
    simp [cellOf, hg, h0]
  | some (0, n, rs) =>
    rw [h0] at hg
    rw [cell_0 (n := n) (rs := (shE sk0.length (0, n, rs)).2.2) hg, cell_0 h0, hm2]
  | some (1, n, rs) =>
    rw [h0] at hg
    rw [cell_1 (n := n) (rs := (shE sk0.length (1, n, rs)).2.2) hg, cell_1 h0, hm2]
  | some (2, n, rs) =>
    rw [h0] at hg
    rw [cell_2 (n := n) (rs := (shE sk0.length (2, n, rs)).2.2) hg, cell_2 h0]
    refine congrArg (fun f => (Sum.inl (G.2.2.2.2.1, n, Sum.inr (Sum.inr (Sum.inr (Sum.inr f)))) : va_E)) ?_
    funext j
    show (if (rs.map _).getD j (-1) < 0 then none else some (adJ ad adc sk0.length ((rs.map _).getD j (-1)).toNat)) = if rs.getD j (-1) < 0 then none else some (adc (rs.getD j (-1)).toNat)
    rw [getD_sh]
    by_cases h3 : rs.getD j (-1) < 0
    · rw [if_pos h3, if_pos h3]
      simp only [h3, if_true]
    · rw [if_neg h3, if_neg h3, if_neg (by omega), adJ_sh h3]
  | some (c + 3, n, rs) =>
    rw [h0] at hg
    rw [cell_3 (c := c) (n := n) (rs := (shE sk0.length (c + 3, n, rs)).2.2) hg, cell_3 h0]
    congr 2
    apply List.map_congr_left
    intro j _
    show cv (adJ ad adc sk0.length) (codeOf (tyC c j)) (fv M (rs.map _) c (i + sk0.length) j) = cv adc (codeOf (tyC c j)) (fv Mc rs c i j)
    unfold fv
    by_cases h2 : codeOf (tyC c j) = 2
    · rw [if_pos h2, if_pos h2, getD_sh]
      by_cases h3 : rs.getD j (-1) < 0
      · rw [if_pos h3]
        exact cv_any (Or.inr h3)
      · rw [if_neg h3, h2, cv_ref (by omega), cv_ref (by omega), adJ_sh h3]
    · rw [if_neg h2, if_neg h2, hm]
      exact cv_any (Or.inl h2)
theorem mz_app {Z Zc : Zs} {o i k : Nat} (hz : zOk o Z = true) : mz (Z ++ shZ o Zc) (i + o) k = mz Zc i k := by
  unfold mz
  rw [List.find?_append, List.find?_eq_none.mpr (fun q hq h2 => by
    have h3 := of_decide_eq_true (List.all_eq_true.mp hz q hq)
    simp only [Bool.and_eq_true, beq_iff_eq] at h2
    omega), Option.none_or]
  unfold shZ
  rw [List.find?_map]
  have e : ((fun q : Nat × Nat × Int => q.1 == i + o && q.2.1 == k) ∘ fun q : Nat × Nat × Int => (q.1 + o, q.2.1, q.2.2)) = fun q : Nat × Nat × Int => q.1 == i && q.2.1 == k := by
    funext q
    show (q.1 + o == i + o && q.2.1 == k) = (q.1 == i && q.2.1 == k)
    congr 1
    exact Bool.eq_iff_iff.mpr (by rw [beq_iff_eq, beq_iff_eq]; omega)
  rw [e]
  cases List.find? (fun q => q.1 == i && q.2.1 == k) Zc <;> rfl
theorem mz_low {Z Zc : Zs} {o i k : Nat} (hi : i < o) : mz (Z ++ shZ o Zc) i k = mz Z i k := by
  unfold mz
  rw [List.find?_append]
  have e : List.find? (fun q => q.1 == i && q.2.1 == k) (shZ o Zc) = none := List.find?_eq_none.mpr (fun q hq h2 => by
    obtain ⟨z, -, rfl⟩ := List.mem_map.mp hq
    simp only [Bool.and_eq_true, beq_iff_eq] at h2
    omega)
  rw [e, Option.or_none]
/-- behind a constructor: the cells before it, and its own -/
theorem rend_join {sk0 skc : Sk} {G : Geo} {ad adc : Nat → Nat} {Z Zc : Zs} (hs : skOk sk0 = true) (hz : zOk sk0.length Z = true) : render (wk (sk0 ++ shSk sk0.length skc)) (gW G (adJ ad adc sk0.length)) (mz (Z ++ shZ sk0.length Zc)) = render (wk sk0) (gW G ad) (mz Z) ++ render (wk skc) (gW G adc) (mz Zc) := by
  have e3 : (sk0 ++ shSk sk0.length skc).length = sk0.length + skc.length := by simp [shSk]
  apply List.ext_getElem?
  intro j
  by_cases h1 : j < sk0.length
  · rw [List.getElem?_append_left (by simpa [render] using h1), render_get (wd := wk (sk0 ++ shSk sk0.length skc)) (by show j < (sk0 ++ shSk sk0.length skc).length; omega), render_get (wd := wk sk0) h1]
    have e1 : adJ ad adc sk0.length j = ad j := by simp [adJ, h1]
    have e2 : cellOf (sk0 ++ shSk sk0.length skc) (gW G (adJ ad adc sk0.length)) (mz (Z ++ shZ sk0.length Zc)) j = cellOf sk0 (gW G ad) (mz Z) j := by
      rw [cell_sk (sk := sk0) (List.getElem?_append_left h1), cellOf_congr (M := mz Z) (funext fun k => mz_low h1)]
      exact cell_ad (skOk_at hs) (fun j hj => by simp [adJ, hj])
    show some (adJ ad adc sk0.length j, _) = some (ad j, _)
    rw [e1, e2]
  · have e0 : (render (wk sk0) (gW G ad) (mz Z)).length = sk0.length := by simp [render]
    rw [List.getElem?_append_right (by omega), e0]
    by_cases h2 : j < sk0.length + skc.length
    · rw [render_get (wd := wk (sk0 ++ shSk sk0.length skc)) (by show j < (sk0 ++ shSk sk0.length skc).length; omega), render_get (wd := wk skc) (by show j - sk0.length < skc.length; omega)]
      obtain ⟨i, rfl⟩ : ∃ i, j = i + sk0.length := ⟨j - sk0.length, by omega⟩
      rw [Nat.add_sub_cancel]
      have e1 : adJ ad adc sk0.length (i + sk0.length) = adc i := by
        unfold adJ
        rw [if_neg (by omega), Nat.add_sub_cancel]
      show some (adJ ad adc sk0.length (i + sk0.length), _) = some (adc i, _)
      rw [e1, cell_sh (Mc := mz Zc) (fun k => mz_app hz)]
    · rw [List.getElem?_eq_none (by simp [render, shSk]; omega), List.getElem?_eq_none (by simp [render]; omega)]
/-- what a constructor makes of a fresh object -/
def CtD (y : MethodName) (cc : ByteArray) (mL d c N : Nat) (sk : Sk) (Z : Zs) (kc ks : Nat) : Prop := ∀ (l : Launch) (G : Geo) (h0 sz : Nat),
  Met l y (Cond.code y cc mL none :: TBL) { frames := d, cells := kc, slots := ks, locals := 64 * d } (va_Pc [.ref h0] (fun U => U.heap.size = sz ∧ va_P (gD G) vwCl [(h0, freshE c N)] U.heap ∧ va_K (gD G) vwCl (gTys G) U ∧ (∀ w ∈ NW, va_Nw w U) ∧ va_AO "BlackMill$House" U ∧ va_D (fun _ => True) [(h0, freshE c N)]))
    (va_Qv (fun ad : Nat → Nat => ad 0 = h0) (fun ad t => va_P (gD G) vwCl (render (wk sk) (gW G ad) (mz Z)) t.heap ∧ va_D (va_A [(h0, freshE c N)] sz) (render (wk sk) (gW G ad) (mz Z))) (va_A [(h0, freshE c N)] sz)) kc ks (va_A [(h0, freshE c N)] sz)
section KWS
variable {cc : ByteArray} {nL kR sR dR : Nat} {own : String} {X : Kx} {sk : Sk} {Z : Zs} {cells slots pc : Nat} {lv : LVs} {st : STs}
/-- a constructor's call, on the newest cell -/
theorem kw_ctor (h : KOk cc nL own kR sR dR X) {idx d c N mL kc ks : Nat} {y : MethodName} {cy : ByteArray} {sk0 skc : Sk} {Zc : Zs} (hM : CtD y cy mL d c N skc Zc kc ks) (hsk : sk = sk0 ++ [(c + 3, N, List.replicate N (-1))]) (hy : y.name = "<init>") (hcode : Cond.code y cy mL none ∈ TBL) (hinst : Cond.instanceMethod y ∈ TBL) (hini : Cond.initialized y.cls ∈ TBL) (hmh : y.cls ≠ "java/lang/invoke/MethodHandle" ∧ y.cls ≠ "java/lang/invoke/VarHandle") (hpd : (parseMethodDescriptor y.desc).map (fun d => d.parameters.length) = some 0) (hln : Cond.methodLink own idx y ∈ TBL ∨ ∃ host : String, Cond.methodLinkNest own idx y host ∈ NW) (hmL : mL ≤ 45) (hd1 : d + 1 ≤ dR)
    (hs : skOk sk0 = true) (hz : zOk sk0.length Z = true) (hlv : vsOk sk0.length (lv.map (fun q => q.2.2)) = true) (hst : vsOk (sk0.length + 1) (st.map (fun q => q.2)) = true) (hst2 : (st.map (fun q => if q.1 = 1 then 2 else 1)).sum ≤ 8) (hk0 : kq X ≤ sk0.length) (hcs : cells + kc ≤ kR) (hss : slots + ks ≤ sR) (hd : decode cc pc = .ok (.invokespecial idx, 3))
    (k : KW nL X (sk0 ++ shSk sk0.length skc) (Z ++ shZ sk0.length Zc) (cells + kc) (slots + ks) (pc + 3) lv st) : KW nL X sk Z cells slots pc lv ((2, (sk0.length : Int)) :: st) := by
  subst hsk
  obtain ⟨p, l, e, R, s, m, args, below, meth, cd, Q, G, A, k0, ad0⟩ := X
  obtain ⟨h1, h2, h3, h4, h5, h6, h7, h8, h9, h10, h11, h12, h13⟩ := h
  intro ad ha H locs ls hP hD hS hl
  have hk0 : k0 ≤ sk0.length := hk0
  have e0 : (sk0 ++ [((c + 3, N, List.replicate N (-1)) : SkE)])[sk0.length]? = some (c + 3, N, List.replicate N (-1)) := by simp
  have e1 : render (wk (sk0 ++ [((c + 3, N, List.replicate N (-1)) : SkE)])) (gW G ad) (mz Z) = render (wk sk0) (gW G ad) (mz Z) ++ [(ad sk0.length, freshE c N)] := by
    have e4 := rend_push (sk := sk0) (G := G) (ad := ad) (M := mz Z) (e := (c + 3, N, List.replicate N (-1))) (q := ad sk0.length) hs
    have e5 : up1 ad sk0.length (ad sk0.length) = ad := by
      funext i
      unfold up1
      by_cases hi : i = sk0.length
      · rw [if_pos hi, hi]
      · rw [if_neg hi]
    rw [e5, fresh_cell e0 (fun k => mz_far hz (Nat.le_refl _))] at e4
    exact e4
  have elen : (render (wk sk0) (gW G ad) (mz Z)).length = sk0.length := by simp [render]
  have hC : [sk0.length].map (fun i => (render (wk (sk0 ++ [((c + 3, N, List.replicate N (-1)) : SkE)])) (gW G ad) (mz Z))[i]?) = [(ad sk0.length, freshE c N)].map some := by
    rw [e1]
    show [(render (wk sk0) (gW G ad) (mz Z) ++ [(ad sk0.length, freshE c N)])[sk0.length]?] = [some _]
    rw [List.getElem?_append_right (by omega), elen, Nat.sub_self]
    rfl
  have hR9 : (List.range sk0.length).map (fun i => (render (wk (sk0 ++ [((c + 3, N, List.replicate N (-1)) : SkE)])) (gW G ad) (mz Z))[i]?) = (render (wk sk0) (gW G ad) (mz Z)).map some := by
    rw [e1]
    apply List.ext_getElem?
    intro j
    by_cases hj : j < sk0.length
    · simp only [List.getElem?_map, List.getElem?_range hj, Option.map_some]
      rw [List.getElem?_append_left (by omega), render_get hj]
      rfl
    · rw [List.getElem?_eq_none (by simp; omega), List.getElem?_eq_none (by simp [render]; omega)]
  have hnd : va_nd (List.range sk0.length) = true := by
    have key : ∀ n, va_nd (List.range n) = true := by
      intro n
      have h : ∀ (l : List Nat), l.Nodup → va_nd l = true := by
        intro l
        induction l with
        | nil => intro _; rfl
        | cons a l ih =>
          intro hn
          have hn2 := List.nodup_cons.mp hn
          simp [va_nd, hn2.1, ih hn2.2]
      exact h _ List.nodup_range
    exact key _
  have hdis : ∀ i ∈ List.range sk0.length, i ∉ [sk0.length] := by
    intro i hi h
    have h2 := List.mem_range.mp hi
    have h3 := List.mem_singleton.mp h
    omega
  have hFc := va_free (wc := [(ad sk0.length, freshE c N)]) hD hS h7 [sk0.length] hC
  have hPc : va_P (gD G) vwCl [(ad sk0.length, freshE c N)] H := fun j q hq => by
    have h20 := List.getElem?_eq_some_iff.mp hq
    have h21 : j = 0 := by
      have := h20.1
      simp at this
      exact this
    subst h21
    cases hq
    have h22 := congrArg (fun l => l[0]?) hC
    exact hP sk0.length _ (by simpa using h22)
  have hDc : va_D (fun _ => True) [(ad sk0.length, freshE c N)] := by
    refine ⟨fun i j p q hi hj _ => ?_, fun _ _ _ => trivial⟩
    have a1 := (List.getElem?_eq_some_iff.mp hi).1
    have a2 := (List.getElem?_eq_some_iff.mp hj).1
    simp at a1 a2
    omega
  have est : cS (gW G ad) ((2, (sk0.length : Int)) :: st) = .ref (ad sk0.length) :: cS (gW G ad) st := by
    show cv ad 2 (sk0.length : Int) :: _ = _
    rw [cv_ref (by omega)]
    rfl
  rw [est]
  have hpre : PreS s H (va_Pc [.ref (ad sk0.length)] (fun U => U.heap.size = H.size ∧ va_P (gD G) vwCl [(ad sk0.length, freshE c N)] U.heap ∧ va_K (gD G) vwCl (gTys G) U ∧ (∀ w ∈ NW, va_Nw w U) ∧ va_AO "BlackMill$House" U ∧ va_D (fun _ => True) [(ad sk0.length, freshE c N)])) [.ref (ad sk0.length)] := by
    refine ⟨fun a U g mk q => ?_, fun U hU hW => ?_⟩
    · obtain ⟨q0, q1, q2, q3, q4, q5, q6⟩ := q
      exact ⟨q0, q1, q2, va_K.moved (u := U) (U := U.calling g mk a) (Vm.Alike.refl U.vm) q3, fun w hw => va_Nw.same (u := U) (U := U.calling g mk a) (nw_on w hw) rfl (q4 w hw), va_AO.moved (u := U) (U := U.calling g mk a) (Vm.Alike.refl U.vm) q5, q6⟩
    · exact ⟨rfl, by rw [hU], by rw [hU]; exact hPc, va_K.moved hW.alike h6, fun w hw => nw_warm hW hw (h8 w hw), va_AO.moved hW.alike h9, hDc⟩
  have hroom := lv_room (m := m) (pc := pc) (ls := ls) (rest := .ref (ad sk0.length) :: cS (gW G ad) st) (cS_cat (G := gW G ad) hst2)
  have hgood := code_good (y := (y, cy, mL, none, d)) hcode
  have hR2 : d + 1 ≤ R.frames ∧ 8 + (mL + 11) + 64 * d ≤ R.locals := by omega
  have kk : ∀ (u : Nat → Nat) (t : State) (H1 : Heap) (locs1 : List Loc), t.heap = H1 → s.vm.Alike t.vm → u 0 = ad sk0.length → (va_P (gD G) vwCl (render (wk skc) (gW G u) (mz Zc)) t.heap ∧ va_D (va_A [(ad sk0.length, freshE c N)] H.size) (render (wk skc) (gW G u) (mz Zc))) → H.size ≤ H1.size → (∀ q : Nat, q < H.size → ¬ va_A [(ad sk0.length, freshE c N)] H.size q → H1[q]? = H[q]?) → va_S A s.heap H1 locs1 → W p l e R s m args below meth cd H1 locs1 (cells + kc) (slots + ks) Q (F0 m (pc + 3) ls (cS (gW G ad) st)) := by
    intro u t H1 locs1 ht _ hu hB _ hk1 hS1
    obtain ⟨hP1, hD1⟩ := hB
    rw [ht] at hP1
    obtain ⟨hP2, hD2⟩ := va_join hP hD [sk0.length] (List.range sk0.length) hC hR9 hnd hdis hk1 hFc hP1 hD1
    have e9 := rend_join (sk0 := sk0) (skc := skc) (G := G) (ad := ad) (adc := u) (Z := Z) (Zc := Zc) hs hz
    have had : ∀ j, j < sk0.length + 1 → adJ ad u sk0.length j = ad j := by
      intro j hj
      unfold adJ
      by_cases h20 : j < sk0.length
      · rw [if_pos h20]
      · rw [if_neg h20, show j = sk0.length by omega, Nat.sub_self, hu]
    have k1 := k (adJ ad u sk0.length) (fun i hi => by rw [had i (by omega)]; exact ha i hi) H1 locs1 ls (by rw [e9]; exact hP2) (by rw [e9]; exact hD2) hS1 (by rw [cL_ad hlv (fun j hj => had j (by omega))]; exact hl)
    rw [cS_ad hst had] at k1
    exact k1
  rcases hln with hln | ⟨host, hln⟩
  · exact va_callv (va_runI (As := []) (rest := cS (gW G ad) st) ⟨h1, h2, h3, h4, h5⟩ (hM l G (ad sk0.length) H.size) (cwI 0 h5 hgood rfl rfl rfl (h5 _ hini) (h5 _ hln) (h5 _ hinst) hy ⟨hmh.1, hmh.2, hpd⟩ hR2) hpre rfl rfl hl.1 rfl (lv_room (cS_cat (G := gW G ad) hst2)) hd ⟨by omega, by omega⟩) hS (fun q _ h => hFc q h) hFc kk
  · exact va_callv (va_runIN (As := []) (rest := cS (gW G ad) st) (host := host) ⟨h1, h2, h3, h4, h5⟩ (hM l G (ad sk0.length) H.size) ⟨va_cnB 0 h5 hgood rfl rfl rfl (h8 _ hln) (h5 _ hini) ⟨hmh.1, hmh.2, hpd⟩ hR2, hy, h5 _ hinst⟩ hpre rfl rfl hl.1 rfl (lv_room (cS_cat (G := gW G ad) hst2)) hd ⟨by omega, by omega⟩) hS (fun q _ h => hFc q h) hFc kk
end KWS
