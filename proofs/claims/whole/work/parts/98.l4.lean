/-! PART 98.l4: the operation that may throw, in the law. -/
section LMS
variable {X : Lx} {cells slots pc i : Nat} {ex : List (Nat × Value)} {Mc Mr : Mem} {f : Nat → Int64} {st : List Value}
theorem kl_hl : Cond.methodLink RL 42 yL_lad ∈ TBL := tbl_mem 1154 (by decide +kernel) (by decide +kernel)
theorem ks_hl : Cond.static yL_lad ∈ TBL := tbl_mem 1155 (by decide +kernel) (by decide +kernel)
theorem ki_hl : Cond.initialized yL_lad.cls ∈ TBL := tbl_mem 92 (by decide +kernel) (by decide +kernel)
theorem lm_lad (h : LOk X) {a w r : Int} {b dec : Bool} (hhas : ci_X2_has.2.2.2.2 [15, a] Mc = some (b2i b, Mc)) (hdec : dec = true ↔ (b = true ∧ 0 ≤ wr w ∧ wr w ≤ 8)) (hres : dec = true → (if wr w = 7 then ci_X2_fear.2.2.2.2 [15, a] Mc else if wr w = 8 then ci_X2_signs.2.2.2.2 [15, a] Mc else ci_X2_get.2.2.2.2 [15, a, w] Mc) = some (r, Mc)) (hcs : cells + 1 ≤ 601024 ∧ slots + 6 ≤ 7293034) (d : decode code pc = .ok (.invokestatic 42, 3)) (hcat : (st.map fun v => v.category).sum ≤ 8) (kk : ∀ f2 : Nat → Int64, (dec = true → f2 0 = Int64.ofInt (wr r)) → LM X (cells + 1) (slots + 6) (pc + 3) i ex Mc Mr f2 (ivI (if dec = true then 0 else 1) :: st)) : LM X cells slots pc i ex Mc Mr f (lxO X :: ivI w :: ivI a :: lxC X :: st) := by
  obtain ⟨p, l, e, s, m, below, meth, c, G, adC, adM, o, cL, bb, L, xs⟩ := X
  obtain ⟨hx, hb, hml, hown, hts, hK, hjC, hjM, hrC, hrM, hap, hge, hX, hbl, hL, hex, hfl, hret, hlk⟩ := h
  intro hmC hmM H locs ls hPC hPM hPo hS hl
  have hA : ∀ q, gA wC (gW G adC) q → nwA s q := fun q z => by
    obtain ⟨i, hi, e⟩ := z
    rw [← e]
    exact hge.1 i hi
  have hAo : ∀ q, gAo (gW G adC) o q → nwA s q := fun q z => z.elim (hA q) (fun z => by rw [z]; exact hge.2.2)
  have hno : ¬ gA wC (gW G adC) o := fun z => by
    obtain ⟨i, hi, e⟩ := z
    exact hap.2.1 i hi e
  have hkC : ∀ a : Nat, a < s.heap.size → ¬ gA wC (gW G adC) a → H[a]? = s.heap[a]? := fun a h1 _ => hS.2.1 a h1 (Nat.not_le.mpr h1)
  have hpre : PreS s H (llPc (gW G adC) a w Mc o cL f) [.ref (adC 0), .int (Int32.ofInt a), .int (Int32.ofInt w), .ref o] := by
    refine ⟨fun aa U g mk q => ?_, fun U hU hW => ⟨rfl, ⟨by rw [hU]; exact hPC.app hPo, va_K.moved hW.alike hK, ?_⟩, ?_⟩⟩
    · obtain ⟨q0, ⟨q1, q2, q3⟩, q4⟩ := q
      exact ⟨q0, ⟨q1, va_K.moved (u := U) (U := U.calling g mk aa) (Vm.Alike.refl U.vm) q2, RO.same (s := U) (U := U.calling g mk aa) rxC_ok rfl q3⟩, exU.same (s := U) (U := U.calling g mk aa) rfl q4⟩
    · rw [hU]; exact RO.warm rxC_ok hW (RO.kept rxC_ok hkC (RO.mem hmC hrC))
    · rw [hU]; exact exU.warm hW (exU.kept hkC (exU.narrow hA hex))
  have hcw : vx_CSW room_1 s #[Value.ref bb] RL 42 yL_lad cL_lad 5 (some .int) hhL (Cond.codeWith yL_lad cL_lad 5 (some .int) hhL :: TBL) rmLL 1 6 4 := by
    refine vx_cwSW 4 hts (fun w hw => ?_) rfl rfl rfl ⟨by decide, by decide, by decide +kernel⟩ ⟨by decide, by decide⟩
    rcases List.mem_append.mp hw with hw | hw
    · simp only [List.mem_cons, List.not_mem_nil, or_false] at hw
      rcases hw with rfl | rfl | rfl
      · exact good1 kl_hl
      · exact good1 ks_hl
      · exact good1 ki_hl
    · rcases List.mem_cons.mp hw with rfl | hw
      · exact good1 kw_lad
      · exact good1 hw
  show W p l e room_1 s m #[Value.ref bb] below meth c H locs cells slots (lw_Z below #[Value.ref bb] s) (F0 m pc ls (.ref o :: .int (Int32.ofInt w) :: .int (Int32.ofInt a) :: .ref (adC 0) :: st))
  refine va_calli (vx_runSW (As := [.ref (adC 0), .int (Int32.ofInt a), .int (Int32.ofInt w), .ref o]) (rest := st) ⟨hx, hb, hml, hown, hts⟩ (ll_met l hfl (gW G adC) hjC hno f hhas hdec hres) hcw hpre rfl rfl hl.1 rfl (lv_room hcat) d ⟨hcs.1, hcs.2⟩) hS (fun q _ h => hAo q h) hAo (fun r2 u t H1 locs1 ht hvm hp hB hz1 hk1 hS1 => ?_)
  have hB : va_P (gD G) vwCl (render wC (gW G adC) Mc ++ [(o, outE cL u)]) t.heap := hB
  rw [ht] at hB
  obtain ⟨g1, g2⟩ := app_P (G := gW G adC) hB
  have g3 : va_P (gD G) vwCl (render wM (gW G adM) Mr) H1 := by
    refine hPM.kept (fun k q hq => hk1 q.1 ((hPM k q hq).lt) (fun z => ?_))
    have hl2 : k < 27 := by
      have := (List.getElem?_eq_some_iff.mp hq).1
      rwa [rend_len] at this
    rw [render_get (wd := wM) hl2] at hq
    cases hq
    rcases z with ⟨i, hi, e⟩ | e
    · exact hap.1 i k hi hl2 e
    · exact hap.2.2 k hl2 e
  have e9 : r2 = Int32.ofInt (if dec = true then 0 else 1) := by
    have hp : (if dec = true then r2 = 0 ∧ u 0 = Int64.ofInt (wr r) else r2 = 1) := hp
    by_cases z : dec = true
    · rw [if_pos z] at hp ⊢
      exact hp.1
    · rw [if_neg z] at hp ⊢
      exact hp
  rw [e9]
  refine kk u (fun z => ?_) hmC hmM H1 locs1 ls g1 g3 g2 hS1 hl
  have hp : (if dec = true then r2 = 0 ∧ u 0 = Int64.ofInt (wr r) else r2 = 1) := hp
  rw [if_pos z] at hp
  exact hp.2
theorem lv_mem {ls : Array Slot} {n : Nat} {l l' : List (Nat × Value)} (h : lv_has ls n l) (hm : ∀ q ∈ l', q ∈ l) : lv_has ls n l' := ⟨h.1, h.2.1, fun q hq => h.2.2 q (hm q hq)⟩
theorem lm_drop (kk : LM X cells slots pc i [] Mc Mr f st) : LM X cells slots pc i ex Mc Mr f st := by
  obtain ⟨p, l, e, s, m, below, meth, c, G, adC, adM, o, cL, b, L, xs⟩ := X
  intro hmC hmM H locs ls hPC hPM hPo hS hl
  exact kk hmC hmM H locs ls hPC hPM hPo hS (lv_mem hl (fun q hq => List.mem_append_left _ (by simpa using hq)))
theorem lm_st5 (h : LOk X) {v : Int} (d : decode code pc = .ok (.istore 5, 2)) (kk : LM X cells slots (pc + 2) i [(5, ivI v)] Mc Mr f st) : LM X cells slots pc i [] Mc Mr f (ivI v :: st) := by
  obtain ⟨p, l, e, s, m, below, meth, c, G, adC, adM, o, cL, b, L, xs⟩ := X
  intro hmC hmM H locs ls hPC hPM hPo hS hl
  refine lv_istore (lv' := [(5, ivI v), (0, .ref b), (1, .ref (adC 0)), (2, .ref (adM 0)), (3, .ref o), (4, .int (nI i))]) h.1 h.2.1 d hl (by decide) rfl (fun ls hl => ?_)
  exact kk hmC hmM H locs ls hPC hPM hPo hS (lv_mem hl (fun q hq => by
    simp only [List.cons_append, List.nil_append, List.mem_cons, List.not_mem_nil, or_false] at hq ⊢
    rcases hq with h | h | h | h | h | h <;> simp [h]))
theorem lm_st6 (h : LOk X) {u v : Int} (d : decode code pc = .ok (.istore 6, 2)) (kk : LM X cells slots (pc + 2) i [(5, ivI u), (6, ivI v)] Mc Mr f st) : LM X cells slots pc i [(5, ivI u)] Mc Mr f (ivI v :: st) := by
  obtain ⟨p, l, e, s, m, below, meth, c, G, adC, adM, o, cL, b, L, xs⟩ := X
  intro hmC hmM H locs ls hPC hPM hPo hS hl
  refine lv_istore (lv' := [(6, ivI v), (0, .ref b), (1, .ref (adC 0)), (2, .ref (adM 0)), (3, .ref o), (4, .int (nI i)), (5, ivI u)]) h.1 h.2.1 d hl (by decide) rfl (fun ls hl => ?_)
  exact kk hmC hmM H locs ls hPC hPM hPo hS (lv_mem hl (fun q hq => by
    simp only [List.cons_append, List.nil_append, List.mem_cons, List.not_mem_nil, or_false] at hq ⊢
    rcases hq with h | h | h | h | h | h | h <;> simp [h]))
theorem lm_ld (h : LOk X) {k : Nat} {v : Int} (hv : (k, ivI v) ∈ ex) (d : decode code pc = .ok (.iload k, 2)) (kk : LM X cells slots (pc + 2) i ex Mc Mr f (ivI v :: st)) : LM X cells slots pc i ex Mc Mr f st := by
  obtain ⟨p, l, e, s, m, below, meth, c, G, adC, adM, o, cL, b, L, xs⟩ := X
  intro hmC hmM H locs ls hPC hPM hPo hS hl
  exact lv_iload h.1 h.2.1 d (hl.2.2 (k, ivI v) (List.mem_append_right _ hv)) (kk hmC hmM H locs ls hPC hPM hPo hS hl)
theorem lm_ifn (h : LOk X) {a off : Int} {tgt : Nat} (d : decode code pc = .ok (.ifCond .ne off, 3)) (ht : (pc : Int) + off = (tgt : Int)) (kt : ¬ wr a = 0 → LM X cells slots tgt i ex Mc Mr f st) (kf : wr a = 0 → LM X cells slots (pc + 3) i ex Mc Mr f st) : LM X cells slots pc i ex Mc Mr f (ivI a :: st) := by
  obtain ⟨p, l, e, s, m, below, meth, c, G, adC, adM, o, cL, b, L, xs⟩ := X
  intro hmC hmM H locs ls hPC hPM hPo hS hl
  refine lv_if_ne h.1 h.2.1 d ht (fun z => ?_) (fun z => ?_)
  · exact kt (fun y => z (show Int32.ofInt a = Int32.ofInt 0 from wr_eq.mpr (y.trans wr_0.symm))) hmC hmM H locs ls hPC hPM hPo hS hl
  · exact kf (by rw [← wr_0]; exact wr_eq.mp z) hmC hmM H locs ls hPC hPM hPo hS hl
/-- the row's long, compared -/
theorem lm_out (h : LOk X) (d : decode code pc = .ok (.laload, 1)) (kk : LM X cells slots (pc + 1) i ex Mc Mr f (.long (f 0) :: st)) : LM X cells slots pc i ex Mc Mr f (ivI 0 :: lxO X :: st) := by
  obtain ⟨p, l, e, s, m, below, meth, c, G, adC, adM, o, cL, b, L, xs⟩ := X
  intro hmC hmM H locs ls hPC hPM hPo hS hl
  exact va_lald h.1 h.2.1 h.2.2.2.2.2.1 hPo 0 3 rfl rfl (i := 0) (show ¬ ((0 : Int32) < 0 ∨ 1 ≤ (0 : Int32).toNatClampNeg) by decide) d (kk hmC hmM H locs ls hPC hPM hPo hS hl)
theorem lm_lcmp (h : LOk X) {z : Int64} (d : decode code pc = .ok (.lcmp, 1)) (kk : LM X cells slots (pc + 1) i ex Mc Mr f (ivI 0 :: st)) : LM X cells slots pc i ex Mc Mr f (.long z :: .long z :: st) := by
  obtain ⟨p, l, e, s, m, below, meth, c, G, adC, adM, o, cL, b, L, xs⟩ := X
  intro hmC hmM H locs ls hPC hPM hPo hS hl
  refine W.lcmp h.1 h.2.1 d ?_
  have e9 : lg_cmp z z = Int32.ofInt 0 := by
    unfold lg_cmp
    rw [if_neg (show ¬ z > z from Int64.lt_irrefl), if_pos rfl]
    rfl
  rw [e9]
  exact kk hmC hmM H locs ls hPC hPM hPo hS hl
theorem kq_11l (h : Nat) : KnownV (yX11_lad, cX11_lad, 3, (some .int), h) := ⟨tbl_mem (w := Cond.code yX11_lad cX11_lad 3 (some .int)) 1534 (by decide +kernel) (by decide +kernel), tbl_mem (w := Cond.instanceMethod yX11_lad) 1532 (by decide +kernel) (by decide +kernel), tbl_mem (w := Cond.selects RX11 yX11_lad yX11_lad) 1533 (by decide +kernel) (by decide +kernel), in_X11, ne_X11, Nat.le_of_ble_eq_true rfl⟩
theorem kq_11t (h : Nat) : KnownV (yX11_thrown, cX11_thrown, 1, (some .int), h) := ⟨tbl_mem (w := Cond.code yX11_thrown cX11_thrown 1 (some .int)) 1376 (by decide +kernel) (by decide +kernel), tbl_mem (w := Cond.instanceMethod yX11_thrown) 1374 (by decide +kernel) (by decide +kernel), tbl_mem (w := Cond.selects RX11 yX11_thrown yX11_thrown) 1375 (by decide +kernel) (by decide +kernel), in_X11, ne_X11, Nat.le_of_ble_eq_true rfl⟩
theorem kq_47 : Cond.methodLink RL 47 yX11_lad ∈ TBL := tbl_mem 1531 (by decide +kernel) (by decide +kernel)
theorem kq_48 : Cond.methodLink RL 48 yX11_thrown ∈ TBL := tbl_mem 1373 (by decide +kernel) (by decide +kernel)
theorem op_5 (h : LOk X) (hc : cells + 1 ≤ 601024 ∧ slots + 6 ≤ 7293034) (hi : i + 5 < lxL X) (hR : Rel Mc Mr) (kk : ∀ Mc2 Mr2 f2, Rel Mc2 Mr2 → LM X (cells + 1) (slots + 6) 1699 i [] Mc2 Mr2 f2 []) : LM X cells slots 421 i [] Mc Mr f [] := by
  obtain ⟨b, dec, r, Mr2, d1, d2, d3, d4, d5, hR2⟩ := o_lad hR (lxX_wr X (i + 1)) (lxX_wr X (i + 2))
  refine lm_C h (show decode code 421 = .ok (.aload_n 1, 1) by decide +kernel) ?_
  refine lm_arg (k := 1) (n := 1) h rfl (by omega) (show decode code 422 = .ok (.aload_n 0, 1) by decide +kernel) (show decode code 423 = .ok (.iload 4, 2) by decide +kernel) (show decode code 425 = .ok (.iconst 1, 1) by decide +kernel) (show decode code 426 = .ok (.iadd, 1) by decide +kernel) (show decode code 427 = .ok (.iaload, 1) by decide +kernel) ?_
  refine lm_arg (k := 2) (n := 2) h rfl (by omega) (show decode code 428 = .ok (.aload_n 0, 1) by decide +kernel) (show decode code 429 = .ok (.iload 4, 2) by decide +kernel) (show decode code 431 = .ok (.iconst 2, 1) by decide +kernel) (show decode code 432 = .ok (.iadd, 1) by decide +kernel) (show decode code 433 = .ok (.iaload, 1) by decide +kernel) ?_
  refine lm_O h (show decode code 434 = .ok (.aload_n 3, 1) by decide +kernel) ?_
  refine lm_lad h d1 d2 d3 hc (show decode code 435 = .ok (.invokestatic 42, 3) by decide +kernel) (Nat.zero_le _) (fun f2 hf2 => ?_)
  refine lm_st5 h (show decode code 438 = .ok (.istore 5, 2) by decide +kernel) ?_
  refine lm_M h (show decode code 440 = .ok (.aload_n 2, 1) by decide +kernel) ?_
  refine lm_arg (k := 1) (n := 1) h rfl (by omega) (show decode code 441 = .ok (.aload_n 0, 1) by decide +kernel) (show decode code 442 = .ok (.iload 4, 2) by decide +kernel) (show decode code 444 = .ok (.iconst 1, 1) by decide +kernel) (show decode code 445 = .ok (.iadd, 1) by decide +kernel) (show decode code 446 = .ok (.iaload, 1) by decide +kernel) ?_
  refine lm_arg (k := 2) (n := 2) h rfl (by omega) (show decode code 447 = .ok (.aload_n 0, 1) by decide +kernel) (show decode code 448 = .ok (.iload 4, 2) by decide +kernel) (show decode code 450 = .ok (.iconst 2, 1) by decide +kernel) (show decode code 451 = .ok (.iadd, 1) by decide +kernel) (show decode code 452 = .ok (.iaload, 1) by decide +kernel) ?_
  show LM X (cells + 1) (slots + 6) 453 i _ Mc Mr f2 ((cvI [0, 0] [lxX X (i + 1), lxX X (i + 2)]).reverse ++ lxM X :: [])
  refine lm_callM h m_X11_lad rfl rfl rfl rfl (kq_11l 6) kq_47 (by decide +kernel) ⟨by decide, by decide⟩ rfl (by decide) hc (show decode code 453 = .ok (.invokevirtual 47, 3) by decide +kernel) rfl (Nat.zero_le _) d4 ?_
  refine lm_st6 h (show decode code 456 = .ok (.istore 6, 2) by decide +kernel) ?_
  refine lm_M h (show decode code 458 = .ok (.aload_n 2, 1) by decide +kernel) ?_
  show LM X (cells + 1) (slots + 6) 459 i _ Mc Mr2 f2 ((cvI [] []).reverse ++ lxM X :: [])
  refine lm_callM h m_X11_thrown rfl rfl rfl rfl (kq_11t 1) kq_48 (by decide +kernel) ⟨by decide, by decide⟩ rfl (by decide) hc (show decode code 459 = .ok (.invokevirtual 48, 3) by decide +kernel) rfl (Nat.zero_le _) d5 ?_
  refine lm_ld (k := 5) h (List.mem_cons_self) (show decode code 462 = .ok (.iload 5, 2) by decide +kernel) ?_
  refine lm_same (tgt := 469) h (show decode code 464 = .ok (.if_icmp .eq 5, 3) by decide +kernel) (by decide) ?_
  refine lm_ld (k := 5) h (List.mem_cons_self) (show decode code 469 = .ok (.iload 5, 2) by decide +kernel) ?_
  have hend : LM X (cells + 1) (slots + 6) 486 i [(5, ivI (if dec = true then 0 else 1)), (6, ivI (if dec = true then r else 0))] Mc Mr2 f2 [] := lm_goto (tgt := 1699) h (show decode code 486 = .ok (.goto 1213, 3) by decide +kernel) (by decide) (lm_drop (kk Mc Mr2 f2 hR2))
  refine lm_ifn (tgt := 486) h (show decode code 471 = .ok (.ifCond .ne 15, 3) by decide +kernel) (by decide) (fun _ => hend) (fun z => ?_)
  have hd : dec = true := by
    by_cases y : dec = true
    · exact y
    · rw [if_neg y] at z
      exact absurd z (by decide)
  refine lm_O h (show decode code 474 = .ok (.aload_n 3, 1) by decide +kernel) ?_
  refine lm_iconst (n := 0) h (show decode code 475 = .ok (.iconst 0, 1) by decide +kernel) ?_
  refine lm_out h (show decode code 476 = .ok (.laload, 1) by decide +kernel) ?_
  refine lm_ld (k := 6) h (List.mem_cons_of_mem _ List.mem_cons_self) (show decode code 477 = .ok (.iload 6, 2) by decide +kernel) ?_
  refine lm_i2l h (show decode code 479 = .ok (.i2l, 1) by decide +kernel) ?_
  have e7 : Int64.ofInt (wr (if dec = true then r else 0)) = f2 0 := by rw [if_pos hd, hf2 hd]
  rw [e7]
  refine lm_lcmp h (show decode code 480 = .ok (.lcmp, 1) by decide +kernel) ?_
  exact lm_if0 (tgt := 486) h (show decode code 481 = .ok (.ifCond .eq 5, 3) by decide +kernel) (by decide) (fun _ => hend) (fun z => absurd wr_0 z)
end LMS
