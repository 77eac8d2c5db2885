/-! PART 98.l6: new objects in the law. -/
theorem nd_range (n : Nat) : va_nd (List.range n) = true := by
  have h : ∀ (l : List Nat), l.Nodup → va_nd l = true := by
    intro l
    induction l with
    | nil => intro _; rfl
    | cons a l ih =>
      intro hn
      have hn2 := List.nodup_cons.mp hn
      simp [va_nd, hn2.1, ih hn2.2]
  exact h _ List.nodup_range
theorem w_make {p : Program} {l : Launch} {e : Env} {R : Room} {s : State} {m : MethodId} {args : Array Value} {below : List Frame} {meth : Method} {cd : Code} {Q : State → Prop} {G : Geo} {cc : ByteArray} {nL : Nat} {own : String} {H : Heap} {locs : List Loc} {cells slots pc : Nat} {ls : Array Slot} {rest : List Value} {ws : va_W} {idn idc d c N mL kc ks : Nat} {C : String} {T : u_T} {y : MethodName} {cy : ByteArray} {skc : Sk} {Zc : Zs}
    (h1 : p.tables.exec = Jvm.exec) (h2 : cd.code = cc) (h3 : cd.maxLocals = nL) (h4 : s.vm.findClass own = some m.cls) (h5 : ∀ w ∈ TBL, w.before args s = true) (h6 : va_K (gD G) vwCl (gTys G) s) (h8 : ∀ w ∈ NW, va_Nw w s) (h9 : va_AO "BlackMill$House" s)
    (hM : CtD y cy mL d c N skc Zc kc ks) (hc : vwCl[c]? = some (C, T, N)) (hcl : Cond.classLink own idn C ∈ TBL) (hins : Cond.instantiable C N ∈ TBL) (hini0 : Cond.initialized C ∈ TBL) (hok : (List.range N).all (fun j => !(codeOf (tyC c j) == 9)) = true) (hy : y.name = "<init>") (hcode : Cond.code y cy mL none ∈ TBL) (hinst : Cond.instanceMethod y ∈ TBL) (hini : Cond.initialized y.cls ∈ TBL) (hmh : y.cls ≠ "java/lang/invoke/MethodHandle" ∧ y.cls ≠ "java/lang/invoke/VarHandle") (hpd : (parseMethodDescriptor y.desc).map (fun d => d.parameters.length) = some 0) (hln : Cond.methodLink own idc y ∈ TBL)
    (hR2 : d + 1 ≤ R.frames ∧ 8 + (mL + 11) + 64 * d ≤ R.locals) (hcs : cells + 1 + kc ≤ R.cells) (hss : slots + N + ks ≤ R.slots) (hcat : ((rest.map fun v => v.category).sum + 1) ≤ 8)
    (hd0 : decode cc pc = .ok (.new idn, 3)) (hd3 : decode cc (pc + 3) = .ok (.dup, 1)) (hd4 : decode cc (pc + 4) = .ok (.invokespecial idc, 3)) (hls : ls.size = nL)
    (hP : va_P (gD G) vwCl ws H) (hD : va_D (nwA s) ws) (hS : va_S (nwA s) s.heap H locs)
    (kk : ∀ (ad : Nat → Nat) (H1 : Heap) (locs1 : List Loc), va_P (gD G) vwCl (ws ++ render (wk skc) (gW G ad) (mz Zc)) H1 → va_D (nwA s) (ws ++ render (wk skc) (gW G ad) (mz Zc)) → va_S (nwA s) s.heap H1 locs1 → W p l e R s m args below meth cd H1 locs1 (cells + 1 + kc) (slots + N + ks) Q (F0 m (pc + 7) ls (.ref (ad 0) :: rest))) : W p l e R s m args below meth cd H locs cells slots Q (F0 m pc ls rest) := by
  have hA : ∀ q : Nat, s.heap.size ≤ q → nwA s q := fun _ h => h
  refine va_new (ci := c) (C := C) (T := T) (N := N) (fs := (List.range N).map (fun k => cv (fun _ => 0) (codeOf (tyC c k)) (if codeOf (tyC c k) = 2 then -1 else 0))) h1 h2 h5 (lays_in c C T N hc) (tyC c) (tyC_ok c C T N hc) h4 (h5 _ hcl) (h5 _ hins) (h5 _ hini0) h6 hP hD hS hA hc ?_ (by omega) (by omega) hd0 (fun q H hP hD hS => ?_)
  · intro j hj
    have h14 := List.all_eq_true.mp hok j (List.mem_range.mpr hj)
    have h15 : ¬ codeOf (tyC c j) = 9 := by simpa using h14
    rw [defV (ad := fun _ => 0) h15]
    simp [vp_V, hj]
  have hP : va_P (gD G) vwCl (ws ++ [(q, freshE c N)]) H := hP
  have hD : va_D (nwA s) (ws ++ [(q, freshE c N)]) := hD
  refine lv_dup h1 h2 hd3 rfl ?_
  have hC : [ws.length].map (fun i => (ws ++ [(q, freshE c N)])[i]?) = [(q, freshE c N)].map some := by
    show [(ws ++ [(q, freshE c N)])[ws.length]?] = [some _]
    rw [List.getElem?_append_right (Nat.le_refl _), Nat.sub_self]
    rfl
  have hR9 : (List.range ws.length).map (fun i => (ws ++ [(q, freshE c N)])[i]?) = ws.map some := by
    apply List.ext_getElem?
    intro j
    by_cases hj : j < ws.length
    · simp only [List.getElem?_map, List.getElem?_range hj, Option.map_some]
      rw [List.getElem?_append_left hj, List.getElem?_eq_getElem hj]
      rfl
    · rw [List.getElem?_eq_none (by simp; omega), List.getElem?_eq_none (by simp; omega)]
  have hdis : ∀ i ∈ List.range ws.length, i ∉ [ws.length] := by
    intro i hi h
    have h2 := List.mem_range.mp hi
    have h3 := List.mem_singleton.mp h
    omega
  have hFc := va_free (wc := [(q, freshE c N)]) hD hS hA [ws.length] hC
  have hPc : va_P (gD G) vwCl [(q, freshE c N)] H := fun j x hq => by
    have hz : j < 1 := (List.getElem?_eq_some_iff.mp hq).1
    rw [show j = 0 by omega] at hq
    cases hq
    refine hP ws.length _ ?_
    rw [List.getElem?_append_right (Nat.le_refl _), Nat.sub_self]
    rfl
  have hDc : va_D (fun _ => True) [(q, freshE c N)] := by
    refine ⟨fun i j p q hi hj _ => ?_, fun _ _ _ => trivial⟩
    have a1 := (List.getElem?_eq_some_iff.mp hi).1
    have a2 := (List.getElem?_eq_some_iff.mp hj).1
    simp at a1 a2
    omega
  have hpre : PreS s H (va_Pc [.ref q] (fun U => U.heap.size = H.size ∧ va_P (gD G) vwCl [(q, freshE c N)] U.heap ∧ va_K (gD G) vwCl (gTys G) U ∧ (∀ w ∈ NW, va_Nw w U) ∧ va_AO "BlackMill$House" U ∧ va_D (fun _ => True) [(q, freshE c N)])) [.ref q] := by
    refine ⟨fun a U g mk z => ?_, fun U hU hW => ?_⟩
    · obtain ⟨q0, q1, q2, q3, q4, q5, q6⟩ := z
      exact ⟨q0, q1, q2, va_K.moved (u := U) (U := U.calling g mk a) (Vm.Alike.refl U.vm) q3, fun w hw => va_Nw.same (u := U) (U := U.calling g mk a) (nw_on w hw) rfl (q4 w hw), va_AO.moved (u := U) (U := U.calling g mk a) (Vm.Alike.refl U.vm) q5, q6⟩
    · exact ⟨rfl, by rw [hU], by rw [hU]; exact hPc, va_K.moved hW.alike h6, fun w hw => nw_warm hW hw (h8 w hw), va_AO.moved hW.alike h9, hDc⟩
  have hgood := code_good (y := (y, cy, mL, none, d)) hcode
  refine va_callv (va_runI (As := []) (rest := .ref q :: rest) ⟨h1, h2, h3, h4, h5⟩ (hM l G q H.size) (cwI 0 h5 hgood rfl rfl rfl (h5 _ hini) (h5 _ hln) (h5 _ hinst) hy ⟨hmh.1, hmh.2, hpd⟩ hR2) hpre rfl rfl hls rfl (lv_room (show 1 + (rest.map fun v => v.category).sum ≤ 8 by omega)) hd4 ⟨by omega, by omega⟩) hS (fun q _ h => hFc q h) hFc (fun u t H1 locs1 ht hvm hu hB hz1 hk1 hS1 => ?_)
  obtain ⟨hP1, hD1⟩ := hB
  rw [ht] at hP1
  obtain ⟨hP2, hD2⟩ := va_join hP hD [ws.length] (List.range ws.length) hC hR9 (nd_range _) hdis hk1 hFc hP1 hD1
  have k1 := kk u H1 locs1 hP2 hD2 hS1
  have hu : u 0 = q := hu
  rw [hu] at k1
  exact k1
