/-! PART 13: the texts' own methods (the JDK's String.length and String.charAt on the constants of the class). -/
theorem fs_38 : Cond.fieldLink RJ0 38 "java/lang/String" "COMPACT_STRINGS" "Z" ∈ TBL := tbl_mem (w := Cond.fieldLink RJ0 38 "java/lang/String" "COMPACT_STRINGS" "Z") 471 (by decide +kernel) (by decide +kernel)
theorem fs_15 : Cond.fieldLink RJ0 15 "java/lang/String" "coder" "B" ∈ TBL := tbl_mem (w := Cond.fieldLink RJ0 15 "java/lang/String" "coder" "B") 1865 (by decide +kernel) (by decide +kernel)
theorem fs_9 : Cond.fieldLink RJ0 9 "java/lang/String" "value" "[B" ∈ TBL := tbl_mem (w := Cond.fieldLink RJ0 9 "java/lang/String" "value" "[B") 1864 (by decide +kernel) (by decide +kernel)
theorem fs_1053 : Cond.fieldLink RJ0 1053 "jdk/internal/util/Preconditions" "SIOOBE_FORMATTER" "Ljava/util/function/BiFunction;" ∈ TBL := tbl_mem (w := Cond.fieldLink RJ0 1053 "jdk/internal/util/Preconditions" "SIOOBE_FORMATTER" "Ljava/util/function/BiFunction;") 491 (by decide +kernel) (by decide +kernel)
theorem ls_RJ0_335 : Cond.methodLink RJ0 335 yJ0_coder_7d493 ∈ TBL := tbl_mem 467 (by decide +kernel) (by decide +kernel)
theorem ls_RJ0_492 : Cond.methodLink RJ0 492 yJ0_isLatin1_aae02 ∈ TBL := tbl_mem 481 (by decide +kernel) (by decide +kernel)
theorem ls_RJ0_495 : Cond.methodLink RJ0 495 yJ1_charAt_3b067 ∈ TBL := tbl_mem 485 (by decide +kernel) (by decide +kernel)
theorem ls_RJ1_9 : Cond.methodLink RJ1 9 yJ0_checkIndex_df160 ∈ TBL := tbl_mem 488 (by decide +kernel) (by decide +kernel)
theorem ls_RJ0_1059 : Cond.methodLink RJ0 1059 yJ3_checkIndex_8e157 ∈ TBL := tbl_mem 493 (by decide +kernel) (by decide +kernel)
theorem kt_J0_coder_7d493 (h : Nat) : KnownV (yJ0_coder_7d493, cJ0_coder_7d493, 1, (some .byte), h) := ⟨tbl_mem (w := Cond.code yJ0_coder_7d493 cJ0_coder_7d493 1 (some .byte)) 470 (by decide +kernel) (by decide +kernel), tbl_mem (w := Cond.instanceMethod yJ0_coder_7d493) 468 (by decide +kernel) (by decide +kernel), tbl_mem (w := Cond.selects RJ0 yJ0_coder_7d493 yJ0_coder_7d493) 469 (by decide +kernel) (by decide +kernel), tbl_mem (w := Cond.initialized RJ0) 106 (by decide +kernel) (by decide +kernel), ⟨show RJ0 ≠ _ by decide, show RJ0 ≠ _ by decide⟩, Nat.le_of_ble_eq_true rfl⟩
theorem kt_J0_isLatin1_aae02 (h : Nat) : KnownV (yJ0_isLatin1_aae02, cJ0_isLatin1_aae02, 1, (some .boolean), h) := ⟨tbl_mem (w := Cond.code yJ0_isLatin1_aae02 cJ0_isLatin1_aae02 1 (some .boolean)) 484 (by decide +kernel) (by decide +kernel), tbl_mem (w := Cond.instanceMethod yJ0_isLatin1_aae02) 482 (by decide +kernel) (by decide +kernel), tbl_mem (w := Cond.selects RJ0 yJ0_isLatin1_aae02 yJ0_isLatin1_aae02) 483 (by decide +kernel) (by decide +kernel), tbl_mem (w := Cond.initialized RJ0) 106 (by decide +kernel) (by decide +kernel), ⟨show RJ0 ≠ _ by decide, show RJ0 ≠ _ by decide⟩, Nat.le_of_ble_eq_true rfl⟩
theorem kt_J1_charAt_3b067 (h : Nat) : KnownS (yJ1_charAt_3b067, cJ1_charAt_3b067, 2, (some .char), h) := ⟨tbl_mem (w := Cond.code yJ1_charAt_3b067 cJ1_charAt_3b067 2 (some .char)) 487 (by decide +kernel) (by decide +kernel), tbl_mem (w := Cond.static yJ1_charAt_3b067) 486 (by decide +kernel) (by decide +kernel), tbl_mem (w := Cond.initialized RJ1) 107 (by decide +kernel) (by decide +kernel), ⟨show RJ1 ≠ _ by decide, show RJ1 ≠ _ by decide⟩, Nat.le_of_ble_eq_true rfl⟩
theorem kt_J0_checkIndex_df160 (h : Nat) : KnownS (yJ0_checkIndex_df160, cJ0_checkIndex_df160, 2, none, h) := ⟨tbl_mem (w := Cond.code yJ0_checkIndex_df160 cJ0_checkIndex_df160 2 none) 490 (by decide +kernel) (by decide +kernel), tbl_mem (w := Cond.static yJ0_checkIndex_df160) 489 (by decide +kernel) (by decide +kernel), tbl_mem (w := Cond.initialized RJ0) 106 (by decide +kernel) (by decide +kernel), ⟨show RJ0 ≠ _ by decide, show RJ0 ≠ _ by decide⟩, Nat.le_of_ble_eq_true rfl⟩
theorem kt_J3_checkIndex_8e157 (h : Nat) : KnownS (yJ3_checkIndex_8e157, cJ3_checkIndex_8e157, 3, (some .int), h) := ⟨tbl_mem (w := Cond.code yJ3_checkIndex_8e157 cJ3_checkIndex_8e157 3 (some .int)) 495 (by decide +kernel) (by decide +kernel), tbl_mem (w := Cond.static yJ3_checkIndex_8e157) 494 (by decide +kernel) (by decide +kernel), tbl_mem (w := Cond.initialized RJ3) 108 (by decide +kernel) (by decide +kernel), ⟨show RJ3 ≠ _ by decide, show RJ3 ≠ _ by decide⟩, Nat.le_of_ble_eq_true rfl⟩
theorem eJ0_coder_7d493_0 : decode cJ0_coder_7d493 0 = .ok (.getstatic 38, 3) := by decide +kernel
theorem eJ0_coder_7d493_3 : decode cJ0_coder_7d493 3 = .ok (.ifCond .eq 10, 3) := by decide +kernel
theorem eJ0_coder_7d493_6 : decode cJ0_coder_7d493 6 = .ok (.aload_n 0, 1) := by decide +kernel
theorem eJ0_coder_7d493_7 : decode cJ0_coder_7d493 7 = .ok (.getfield 15, 3) := by decide +kernel
theorem eJ0_coder_7d493_10 : decode cJ0_coder_7d493 10 = .ok (.goto 4, 3) := by decide +kernel
theorem eJ0_coder_7d493_14 : decode cJ0_coder_7d493 14 = .ok (.ireturn, 1) := by decide +kernel
theorem eJ0_isLatin1_aae02_0 : decode cJ0_isLatin1_aae02 0 = .ok (.getstatic 38, 3) := by decide +kernel
theorem eJ0_isLatin1_aae02_3 : decode cJ0_isLatin1_aae02 3 = .ok (.ifCond .eq 14, 3) := by decide +kernel
theorem eJ0_isLatin1_aae02_6 : decode cJ0_isLatin1_aae02 6 = .ok (.aload_n 0, 1) := by decide +kernel
theorem eJ0_isLatin1_aae02_7 : decode cJ0_isLatin1_aae02 7 = .ok (.getfield 15, 3) := by decide +kernel
theorem eJ0_isLatin1_aae02_10 : decode cJ0_isLatin1_aae02 10 = .ok (.ifCond .ne 7, 3) := by decide +kernel
theorem eJ0_isLatin1_aae02_13 : decode cJ0_isLatin1_aae02 13 = .ok (.iconst 1, 1) := by decide +kernel
theorem eJ0_isLatin1_aae02_14 : decode cJ0_isLatin1_aae02 14 = .ok (.goto 4, 3) := by decide +kernel
theorem eJ0_isLatin1_aae02_18 : decode cJ0_isLatin1_aae02 18 = .ok (.ireturn, 1) := by decide +kernel
theorem eJ0_length_8abf5_0 : decode cJ0_length_8abf5 0 = .ok (.aload_n 0, 1) := by decide +kernel
theorem eJ0_length_8abf5_1 : decode cJ0_length_8abf5 1 = .ok (.getfield 9, 3) := by decide +kernel
theorem eJ0_length_8abf5_4 : decode cJ0_length_8abf5 4 = .ok (.arraylength, 1) := by decide +kernel
theorem eJ0_length_8abf5_5 : decode cJ0_length_8abf5 5 = .ok (.aload_n 0, 1) := by decide +kernel
theorem eJ0_length_8abf5_6 : decode cJ0_length_8abf5 6 = .ok (.invokevirtual 335, 3) := by decide +kernel
theorem eJ0_length_8abf5_9 : decode cJ0_length_8abf5 9 = .ok (.ishr, 1) := by decide +kernel
theorem eJ0_length_8abf5_10 : decode cJ0_length_8abf5 10 = .ok (.ireturn, 1) := by decide +kernel
theorem eJ0_charAt_5068e_0 : decode cJ0_charAt_5068e 0 = .ok (.aload_n 0, 1) := by decide +kernel
theorem eJ0_charAt_5068e_1 : decode cJ0_charAt_5068e 1 = .ok (.invokevirtual 492, 3) := by decide +kernel
theorem eJ0_charAt_5068e_4 : decode cJ0_charAt_5068e 4 = .ok (.ifCond .eq 12, 3) := by decide +kernel
theorem eJ0_charAt_5068e_7 : decode cJ0_charAt_5068e 7 = .ok (.aload_n 0, 1) := by decide +kernel
theorem eJ0_charAt_5068e_8 : decode cJ0_charAt_5068e 8 = .ok (.getfield 9, 3) := by decide +kernel
theorem eJ0_charAt_5068e_11 : decode cJ0_charAt_5068e 11 = .ok (.iload_n 1, 1) := by decide +kernel
theorem eJ0_charAt_5068e_12 : decode cJ0_charAt_5068e 12 = .ok (.invokestatic 495, 3) := by decide +kernel
theorem eJ0_charAt_5068e_15 : decode cJ0_charAt_5068e 15 = .ok (.ireturn, 1) := by decide +kernel
theorem eJ1_charAt_3b067_0 : decode cJ1_charAt_3b067 0 = .ok (.iload_n 1, 1) := by decide +kernel
theorem eJ1_charAt_3b067_1 : decode cJ1_charAt_3b067 1 = .ok (.aload_n 0, 1) := by decide +kernel
theorem eJ1_charAt_3b067_2 : decode cJ1_charAt_3b067 2 = .ok (.arraylength, 1) := by decide +kernel
theorem eJ1_charAt_3b067_3 : decode cJ1_charAt_3b067 3 = .ok (.invokestatic 9, 3) := by decide +kernel
theorem eJ1_charAt_3b067_6 : decode cJ1_charAt_3b067 6 = .ok (.aload_n 0, 1) := by decide +kernel
theorem eJ1_charAt_3b067_7 : decode cJ1_charAt_3b067 7 = .ok (.iload_n 1, 1) := by decide +kernel
theorem eJ1_charAt_3b067_8 : decode cJ1_charAt_3b067 8 = .ok (.baload, 1) := by decide +kernel
theorem eJ1_charAt_3b067_9 : decode cJ1_charAt_3b067 9 = .ok (.sipush 255, 3) := by decide +kernel
theorem eJ1_charAt_3b067_12 : decode cJ1_charAt_3b067 12 = .ok (.iand, 1) := by decide +kernel
theorem eJ1_charAt_3b067_13 : decode cJ1_charAt_3b067 13 = .ok (.i2c, 1) := by decide +kernel
theorem eJ1_charAt_3b067_14 : decode cJ1_charAt_3b067 14 = .ok (.ireturn, 1) := by decide +kernel
theorem eJ0_checkIndex_df160_0 : decode cJ0_checkIndex_df160 0 = .ok (.iload_n 0, 1) := by decide +kernel
theorem eJ0_checkIndex_df160_1 : decode cJ0_checkIndex_df160 1 = .ok (.iload_n 1, 1) := by decide +kernel
theorem eJ0_checkIndex_df160_2 : decode cJ0_checkIndex_df160 2 = .ok (.getstatic 1053, 3) := by decide +kernel
theorem eJ0_checkIndex_df160_5 : decode cJ0_checkIndex_df160 5 = .ok (.invokestatic 1059, 3) := by decide +kernel
theorem eJ0_checkIndex_df160_8 : decode cJ0_checkIndex_df160 8 = .ok (.pop, 1) := by decide +kernel
theorem eJ0_checkIndex_df160_9 : decode cJ0_checkIndex_df160 9 = .ok (.return_, 1) := by decide +kernel
theorem eJ3_checkIndex_8e157_0 : decode cJ3_checkIndex_8e157 0 = .ok (.iload_n 0, 1) := by decide +kernel
theorem eJ3_checkIndex_8e157_1 : decode cJ3_checkIndex_8e157 1 = .ok (.ifCond .lt 8, 3) := by decide +kernel
theorem eJ3_checkIndex_8e157_4 : decode cJ3_checkIndex_8e157 4 = .ok (.iload_n 0, 1) := by decide +kernel
theorem eJ3_checkIndex_8e157_5 : decode cJ3_checkIndex_8e157 5 = .ok (.iload_n 1, 1) := by decide +kernel
theorem eJ3_checkIndex_8e157_6 : decode cJ3_checkIndex_8e157 6 = .ok (.if_icmp .lt 10, 3) := by decide +kernel
theorem eJ3_checkIndex_8e157_16 : decode cJ3_checkIndex_8e157 16 = .ok (.iload_n 0, 1) := by decide +kernel
theorem eJ3_checkIndex_8e157_17 : decode cJ3_checkIndex_8e157 17 = .ok (.ireturn, 1) := by decide +kernel
section STR
variable {p : Program} {l : Launch} {e : Env} {R : Room} {s : State} {m : MethodId} {args : Array Value} {below : List Frame} {meth : Method} {c : Code} {Q : State → Prop} {G : Geo} {M M0 : Mem}
/-- the start of a contract: what the machine gives -/
theorem g_raw {wd : Wd} {y : MN} {ci : CI} (hy : plainName y.1.cls = true) (hsl : (ci.2.2.1.map (fun t => if t = 1 then 2 else 1)).sum ≤ y.2.2.1)
    (body : ∀ (p : Program) (l : Launch) (e : Env) (s : State) (m : MethodId) (below : List Frame) (meth : Method) (c : Code) (G : Geo) (vs : List Int) (M : Mem) (r : Int) (M' : Mem) (ls : Array Slot), gInj wd G → vs.length = ci.2.2.1.length → ci.2.2.2.2 vs M = some (r, M') → p.tables.exec = Jvm.exec → c.code = y.2.1 → c.maxLocals = y.2.2.1 → meth.sig.returnType = y.2.2.2.1 → meth.locks = false → s.vm.findClass y.1.cls = some m.cls → (∀ w ∈ TBL, w.before (cvs G ci.2.2.1 vs).toArray s = true) → va_K (gD G) vwCl (gTys G) s → RO wd G M s s.heap → va_P (gD G) vwCl (render wd G M) s.heap → lv_has ls y.2.2.1 (lv_args 0 (cvs G ci.2.2.1 vs)) →
      W p l e (rmH y.2.2.2.2) s m (cvs G ci.2.2.1 vs).toArray below meth c s.heap [] 0 0 (MQ below (gQc wd G ci.2.2.2.1 r M M') (cvs G ci.2.2.1 vs).toArray s 0 0 (gA wd G)) (F0 m 0 ls [])) : MetD wd y ci := by
  intro l G hinj vs M r M' hlen hden
  refine Met.ofW (cc := y.2.1) (maxL := y.2.2.1) (ret := y.2.2.2.1) hy rfl ?_
  intro p e s m args below meth c s₁ B hml hv
  obtain ⟨rfl, hP, hK, hRO⟩ := hv
  have hts0 := atoms_spec (ws := Cond.code y.1 y.2.1 y.2.2.1 y.2.2.2.1 :: TBL) B.pre
  have hl := lv_entry (cvs G ci.2.2.1 vs) (n := y.2.2.1) (Nat.le_trans (sl_len G _ _) hsl)
  rw [lg_entry_eq]
  exact body p l e s m below meth c G vs M r M' _ hinj hlen hden B.exec B.bytes hml B.returns B.notSynchronized (findClass_of_methodNamed B.named) (fun w hw => hts0 w (List.mem_cons_of_mem _ hw)) hK hRO hP hl
theorem g_call0 {H : Heap} {locs : List Loc} {ls : Array Slot} {st0 rest : List Value} {pc : Nat} {a : Array Value} {A : Nat → Prop} {v : Option Value} (hr : va_Run p l e R s m args below meth c H locs 0 0 0 0 (F0 m pc ls st0) rest ((fun _ st oc t => oc = .returned v ∧ t.heap = st.heap) a) (fun _ => False)) (hS : va_S A s.heap H locs)
    (kk : ∀ locs1 : List Loc, va_S A s.heap H locs1 → W p l e R s m args below meth c H locs1 0 0 Q (F0 m (pc + 3) ls (v.toList ++ rest))) : W p l e R s m args below meth c H locs 0 0 Q (F0 m pc ls st0) := by
  intro T hT X
  obtain ⟨w, st₀, t, T', L, h0, X', hL, e1, e2, ⟨hv, hh⟩, st⟩ := hr T hT X
  cases hv
  obtain ⟨t2, a1, b1⟩ := kk (locs ++ L) ⟨hS.1, hS.2.1, fun q hq => by
      rcases List.mem_append.mp hq with h | h
      · exact hS.2.2 q h
      · exact absurd (hL q h) id⟩ T' (by rw [e1, hh, h0]) X'
  exact ⟨t2, st t2 a1, b1⟩
theorem tx_get {o : Int} (h : isTx o = true) : 0 ≤ o ∧ o.toNat - 62 < 4 ∧ 62 + (o.toNat - 62) = o.toNat := by
  have := of_decide_eq_true h
  omega
theorem m_pre (i n : Int32) (v : Value) (l : Launch) (h1 : ¬ i < 0) (h2 : i < n) : Met l yJ3_checkIndex_8e157 (Cond.code yJ3_checkIndex_8e157 cJ3_checkIndex_8e157 3 (some .int) :: TBL) (rmH 1) (va_Pc [.int i, .int n, v] (fun _ => v.category = 1)) (fun _ st oc t => oc = .returned (some (.int i)) ∧ t.heap = st.heap) 0 0 (fun _ => False) := by
  refine Met.ofW (cc := cJ3_checkIndex_8e157) (maxL := 3) (ret := some .int) (by decide) rfl ?_
  intro p e s m args below meth c s₁ B hml hv
  obtain ⟨rfl, hcat⟩ := hv
  have hx := B.exec
  have hb := B.bytes
  have hr := B.returns
  have hlocks := B.notSynchronized
  have hl := lv_entry ([.int i, .int n, v]) (n := 3) (by cases v <;> simp_all [lg_sl, Value.category])
  rw [lg_entry_eq]
  generalize (lg_sl ([.int i, .int n, v]) ++ List.replicate (3 - (lg_sl ([.int i, .int n, v])).length) Slot.unset).toArray = ls at hl ⊢
  have hl : lv_has ls 3 [(0, .int i), (1, .int n), (2, v)] := hl
  refine lv_iload_n hx hb eJ3_checkIndex_8e157_0 rfl (lv_at hl 0 rfl) ?_
  refine lv_if_lt (tgt := 9) hx hb eJ3_checkIndex_8e157_1 (by decide) (fun z => absurd z h1) (fun _ => ?_)
  refine lv_iload_n hx hb eJ3_checkIndex_8e157_4 rfl (lv_at hl 0 rfl) ?_
  refine lv_iload_n hx hb eJ3_checkIndex_8e157_5 rfl (lv_at hl 1 rfl) ?_
  refine lv_icmp_lt (tgt := 16) hx hb eJ3_checkIndex_8e157_6 (by decide) (fun _ => ?_) (fun z => absurd h2 z)
  refine lv_iload_n hx hb eJ3_checkIndex_8e157_16 rfl (lv_at hl 0 rfl) ?_
  exact W.iret hx hb hr (fun t ht _ => ⟨rfl, ht⟩) (fun _ h => by cases h) eJ3_checkIndex_8e157_17
/-- what the callees below need of the caller's start: the formatter's field -/
def fmtOk (U : State) : Prop := va_Zq "jdk/internal/util/Preconditions" "SIOOBE_FORMATTER" "Ljava/util/function/BiFunction;" (fun _ => False) U U.heap
theorem m_chk (i n : Int32) (l : Launch) (h1 : ¬ i < 0) (h2 : i < n) : Met l yJ0_checkIndex_df160 (Cond.code yJ0_checkIndex_df160 cJ0_checkIndex_df160 2 none :: TBL) (rmH 2) (va_Pc [.int i, .int n] fmtOk) (fun _ st oc t => oc = .returned none ∧ t.heap = st.heap) 0 0 (fun _ => False) := by
  refine Met.ofW (cc := cJ0_checkIndex_df160) (maxL := 2) (ret := none) (by decide) rfl ?_
  intro p e s m args below meth c s₁ B hml hv
  obtain ⟨rfl, hZ⟩ := hv
  have hx := B.exec
  have hb := B.bytes
  have hr := B.returns
  have hlocks := B.notSynchronized
  have hown : s.vm.findClass RJ0 = some m.cls := findClass_of_methodNamed B.named
  have hts0 := atoms_spec (ws := Cond.code yJ0_checkIndex_df160 cJ0_checkIndex_df160 2 none :: TBL) B.pre
  have hts : ∀ w ∈ TBL, w.before _ s = true := fun w hw => hts0 w (List.mem_cons_of_mem _ hw)
  have hl := lv_entry ([.int i, .int n]) (n := 2) (Nat.le_of_ble_eq_true rfl)
  rw [lg_entry_eq]
  generalize (lg_sl ([.int i, .int n]) ++ List.replicate (2 - (lg_sl ([.int i, .int n])).length) Slot.unset).toArray = ls at hl ⊢
  have hl : lv_has ls 2 [(0, .int i), (1, .int n)] := hl
  have hS : va_S (fun _ => False) s.heap s.heap [] := va_S.rf
  refine lv_iload_n hx hb eJ0_checkIndex_df160_0 rfl (lv_at hl 0 rfl) ?_
  refine lv_iload_n hx hb eJ0_checkIndex_df160_1 rfl (lv_at hl 1 rfl) ?_
  have key : ∀ v : Value, va_Z "jdk/internal/util/Preconditions" "SIOOBE_FORMATTER" "Ljava/util/function/BiFunction;" v (fun _ => False) s s.heap → v.category = 1 → W p l e (rmH 2) s m #[Value.int i, Value.int n] below meth c s.heap [] 0 0 (MQ below (fun _ st oc t => oc = .returned none ∧ t.heap = st.heap) #[Value.int i, Value.int n] s 0 0 (fun _ => False)) (F0 m 2 ls [.int n, .int i]) := by
    intro v hv hcat
    refine va_gets hx hb hv hS hown (hts _ fs_1053) (fun _ h9 => h9) eJ0_checkIndex_df160_2 ?_
    obtain ⟨k1, k2, k3, k4, k5⟩ := kt_J3_checkIndex_8e157 1
    refine g_call0 (v := some (.int i)) (rest := []) (a := #[.int i, .int n, v]) (va_runS (As := [.int i, .int n, v]) (rest := []) (nL := 2) (Ts := TBL) (own := RJ0) (n := 3) ⟨hx, hb, hml, hown, hts⟩ (m_pre i n v l h1 h2) (va_cwS _ hts (fun w hw => ?_) rfl rfl rfl ⟨by decide, by decide, by decide +kernel⟩ ⟨Nat.le_of_ble_eq_true rfl, Nat.le_of_ble_eq_true rfl⟩) ⟨fun a U g mk q => ⟨q.1, q.2⟩, fun U hU hW => ⟨rfl, hcat⟩⟩ rfl rfl hl.1 rfl (lv_room (Nat.le_of_ble_eq_true rfl)) eJ0_checkIndex_df160_5 ⟨Nat.zero_le _, Nat.zero_le _⟩) hS (fun locs1 hS1 => ?_)
    · rcases List.mem_append.mp hw with hw | hw
      · simp only [List.mem_cons, List.not_mem_nil, or_false] at hw
        rcases hw with rfl | rfl | rfl
        · exact good1 ls_RJ0_1059
        · exact good1 k2
        · exact good1 k3
      · exact code_good k1 w hw
    · refine lv_pop hx hb eJ0_checkIndex_df160_8 rfl ?_
      exact W.vret hx hb hr (fun t ht _ => ⟨rfl, ht⟩) hS1.2.2 eJ0_checkIndex_df160_9
  rcases hZ with hZ | ⟨t, hZ⟩
  · exact key .null hZ rfl
  · exact key (.ref t) hZ rfl
def byK (k : Nat) : Nat → Value := fun j => .int ((bytS.getD k []).getD j 0)
theorem by_ok : ∀ k, k < 4 → ∀ j, j < lenS.getD k 0 → (((bytS.getD k []).getD j 0 &&& 255).toUInt32 % 65536).toInt32 = (bytS.getD k []).getD j 0 ∧ narrow .char (.int ((bytS.getD k []).getD j 0)) = .int ((bytS.getD k []).getD j 0) := by decide +kernel
theorem len_ok : ∀ k, k < 4 → lenS.getD k 0 < 7 := by decide +kernel
theorem m_l1 (k b : Nat) (i : Int32) (l : Launch) (hk : k < 4) (hi : vp_in i (lenS.getD k 0)) : Met l yJ1_charAt_3b067 (Cond.code yJ1_charAt_3b067 cJ1_charAt_3b067 2 (some .char) :: TBL) (rmH 3) (va_Pc [.ref b, .int i] (fun U => fmtOk U ∧ va_T .byte b (lenS.getD k 0) (byK k) (fun _ => False) U U.heap)) (fun _ st oc t => oc = .returned (some (.int ((bytS.getD k []).getD i.toNatClampNeg 0))) ∧ t.heap = st.heap) 0 0 (fun _ => False) := by
  refine Met.ofW (cc := cJ1_charAt_3b067) (maxL := 2) (ret := some .char) (by decide) rfl ?_
  intro p e s m args below meth c s₁ B hml hv
  obtain ⟨rfl, hZ, hT⟩ := hv
  have hx := B.exec
  have hb := B.bytes
  have hr := B.returns
  have hlocks := B.notSynchronized
  have hown : s.vm.findClass RJ1 = some m.cls := findClass_of_methodNamed B.named
  have hts0 := atoms_spec (ws := Cond.code yJ1_charAt_3b067 cJ1_charAt_3b067 2 (some .char) :: TBL) B.pre
  have hts : ∀ w ∈ TBL, w.before _ s = true := fun w hw => hts0 w (List.mem_cons_of_mem _ hw)
  have hl := lv_entry ([.ref b, .int i]) (n := 2) (Nat.le_of_ble_eq_true rfl)
  rw [lg_entry_eq]
  generalize (lg_sl ([.ref b, .int i]) ++ List.replicate (2 - (lg_sl ([.ref b, .int i])).length) Slot.unset).toArray = ls at hl ⊢
  have hl : lv_has ls 2 [(0, .ref b), (1, .int i)] := hl
  have hS : va_S (fun _ => False) s.heap s.heap [] := va_S.rf
  have hlen := len_ok k hk
  obtain ⟨i1, i2⟩ := vp_in_iff.mp hi
  have hn1 : ¬ i < 0 := by
    intro z
    have := Int32.lt_iff_toInt_lt.mp z
    simp at this
    omega
  have hn2 : i < Int32.ofNat (lenS.getD k 0) := by
    apply Int32.lt_iff_toInt_lt.mpr
    rw [show Int32.ofNat (lenS.getD k 0) = nI (lenS.getD k 0) from rfl, nI_toInt (by omega)]
    exact i2
  refine lv_iload_n hx hb eJ1_charAt_3b067_0 rfl (lv_at hl 1 rfl) ?_
  refine lv_aload_n hx hb eJ1_charAt_3b067_1 rfl (lv_at hl 0 rfl) ?_
  refine va_tlen hx hb hT hS rfl eJ1_charAt_3b067_2 ?_
  obtain ⟨k1, k2, k3, k4, k5⟩ := kt_J0_checkIndex_df160 2
  refine g_call0 (v := none) (rest := []) (a := #[.int i, .int (Int32.ofNat (lenS.getD k 0))]) (va_runS (As := [.int i, .int (Int32.ofNat (lenS.getD k 0))]) (rest := []) (nL := 2) (Ts := TBL) (own := RJ1) (n := 2) ⟨hx, hb, hml, hown, hts⟩ (m_chk i (Int32.ofNat (lenS.getD k 0)) l hn1 hn2) (va_cwS _ hts (fun w hw => ?_) rfl rfl rfl ⟨by decide, by decide, by decide +kernel⟩ ⟨Nat.le_of_ble_eq_true rfl, Nat.le_of_ble_eq_true rfl⟩) ⟨fun a U g mk q => ⟨q.1, va_Zq.moved (Vm.Alike.refl U.vm) q.2⟩, fun U hU hW => ⟨rfl, by unfold fmtOk; rw [hU]; exact va_Zq.moved hW.alike hZ⟩⟩ rfl rfl hl.1 rfl (lv_room (Nat.le_of_ble_eq_true rfl)) eJ1_charAt_3b067_3 ⟨Nat.zero_le _, Nat.zero_le _⟩) hS (fun locs1 hS1 => ?_)
  · rcases List.mem_append.mp hw with hw | hw
    · simp only [List.mem_cons, List.not_mem_nil, or_false] at hw
      rcases hw with rfl | rfl | rfl
      · exact good1 ls_RJ1_9
      · exact good1 k2
      · exact good1 k3
    · exact code_good k1 w hw
  · refine lv_aload_n hx hb eJ1_charAt_3b067_6 rfl (lv_at hl 0 rfl) ?_
    refine lv_iload_n hx hb eJ1_charAt_3b067_7 rfl (lv_at hl 1 rfl) ?_
    refine va_tb hx hb hT hS1 hi rfl eJ1_charAt_3b067_8 ?_
    refine lv_sipush (v := 255) hx hb eJ1_charAt_3b067_9 (by decide) ?_
    refine lv_iand hx hb eJ1_charAt_3b067_12 ?_
    obtain ⟨b1, b2⟩ := by_ok k hk i.toNatClampNeg (by show i.toInt.toNat < _; omega)
    refine lv_i2c hx hb eJ1_charAt_3b067_13 b1 ?_
    exact W.zret hx hb hr b2 (fun t ht _ => ⟨rfl, ht⟩) hS1.2.2 eJ1_charAt_3b067_14
theorem sb_shr0' (x : Int32) : x >>> (0 : Int32) = x := by
  have h := sb_shr0 x
  have e : ((0 : Int32) &&& 31) = 0 := by decide
  rw [e] at h
  exact h
theorem sc_shr0' (n : Nat) : (Int32.ofNat n) >>> ((0 : Int32) &&& 31) = Int32.ofInt (n : Int) := by
  have e : ((0 : Int32) &&& 31) = 0 := by decide
  rw [e]
  exact sb_shr0' _
theorem m_cod (a : Nat) (l : Launch) : Met l yJ0_coder_7d493 (Cond.code yJ0_coder_7d493 cJ0_coder_7d493 1 (some .byte) :: TBL) (rmH 1) (va_Pc [.ref a] (fun U => va_Z "java/lang/String" "COMPACT_STRINGS" "Z" (.int 1) (fun _ => False) U U.heap ∧ va_OF "java/lang/String" "coder" "B" (.int 0) a (fun _ => False) U U.heap)) (fun _ st oc t => oc = .returned (some (.int 0)) ∧ t.heap = st.heap) 0 0 (fun _ => False) := by
  refine Met.ofW (cc := cJ0_coder_7d493) (maxL := 1) (ret := some .byte) (by decide) rfl ?_
  intro p e s m args below meth c s₁ B hml hv
  obtain ⟨rfl, hZ, hE⟩ := hv
  have hx := B.exec
  have hb := B.bytes
  have hr := B.returns
  have hlocks := B.notSynchronized
  have hown : s.vm.findClass RJ0 = some m.cls := findClass_of_methodNamed B.named
  have hts0 := atoms_spec (ws := Cond.code yJ0_coder_7d493 cJ0_coder_7d493 1 (some .byte) :: TBL) B.pre
  have hts : ∀ w ∈ TBL, w.before _ s = true := fun w hw => hts0 w (List.mem_cons_of_mem _ hw)
  have hl := lv_entry ([.ref a]) (n := 1) (Nat.le_of_ble_eq_true rfl)
  rw [lg_entry_eq]
  generalize (lg_sl ([.ref a]) ++ List.replicate (1 - (lg_sl ([.ref a])).length) Slot.unset).toArray = ls at hl ⊢
  have hl : lv_has ls 1 [(0, .ref a)] := hl
  have hS : va_S (fun _ => False) s.heap s.heap [] := va_S.rf
  refine va_gets hx hb hZ hS hown (hts _ fs_38) (fun _ h9 => h9) eJ0_coder_7d493_0 ?_
  refine lv_if_eq (tgt := 13) hx hb eJ0_coder_7d493_3 (by decide) (fun z => absurd z (by decide)) (fun _ => ?_)
  refine lv_aload_n hx hb eJ0_coder_7d493_6 rfl (lv_at hl 0 rfl) ?_
  refine vk_getf hx hb hE hS hown (hts _ fs_15) (fun _ h9 => h9) eJ0_coder_7d493_7 ?_
  refine lv_goto (tgt := 14) hx hb eJ0_coder_7d493_10 (by decide) ?_
  exact W.zret hx hb hr rfl (fun t ht _ => ⟨rfl, ht⟩) hS.2.2 eJ0_coder_7d493_14
theorem m_lat (a : Nat) (l : Launch) : Met l yJ0_isLatin1_aae02 (Cond.code yJ0_isLatin1_aae02 cJ0_isLatin1_aae02 1 (some .boolean) :: TBL) (rmH 1) (va_Pc [.ref a] (fun U => va_Z "java/lang/String" "COMPACT_STRINGS" "Z" (.int 1) (fun _ => False) U U.heap ∧ va_OF "java/lang/String" "coder" "B" (.int 0) a (fun _ => False) U U.heap)) (fun _ st oc t => oc = .returned (some (.int 1)) ∧ t.heap = st.heap) 0 0 (fun _ => False) := by
  refine Met.ofW (cc := cJ0_isLatin1_aae02) (maxL := 1) (ret := some .boolean) (by decide) rfl ?_
  intro p e s m args below meth c s₁ B hml hv
  obtain ⟨rfl, hZ, hE⟩ := hv
  have hx := B.exec
  have hb := B.bytes
  have hr := B.returns
  have hlocks := B.notSynchronized
  have hown : s.vm.findClass RJ0 = some m.cls := findClass_of_methodNamed B.named
  have hts0 := atoms_spec (ws := Cond.code yJ0_isLatin1_aae02 cJ0_isLatin1_aae02 1 (some .boolean) :: TBL) B.pre
  have hts : ∀ w ∈ TBL, w.before _ s = true := fun w hw => hts0 w (List.mem_cons_of_mem _ hw)
  have hl := lv_entry ([.ref a]) (n := 1) (Nat.le_of_ble_eq_true rfl)
  rw [lg_entry_eq]
  generalize (lg_sl ([.ref a]) ++ List.replicate (1 - (lg_sl ([.ref a])).length) Slot.unset).toArray = ls at hl ⊢
  have hl : lv_has ls 1 [(0, .ref a)] := hl
  have hS : va_S (fun _ => False) s.heap s.heap [] := va_S.rf
  refine va_gets hx hb hZ hS hown (hts _ fs_38) (fun _ h9 => h9) eJ0_isLatin1_aae02_0 ?_
  refine lv_if_eq (tgt := 17) hx hb eJ0_isLatin1_aae02_3 (by decide) (fun z => absurd z (by decide)) (fun _ => ?_)
  refine lv_aload_n hx hb eJ0_isLatin1_aae02_6 rfl (lv_at hl 0 rfl) ?_
  refine vk_getf hx hb hE hS hown (hts _ fs_15) (fun _ h9 => h9) eJ0_isLatin1_aae02_7 ?_
  refine lv_if_ne (tgt := 17) hx hb eJ0_isLatin1_aae02_10 (by decide) (fun z => absurd rfl z) (fun _ => ?_)
  refine lv_iconst (v := 1) hx hb eJ0_isLatin1_aae02_13 (by decide) ?_
  refine lv_goto (tgt := 18) hx hb eJ0_isLatin1_aae02_14 (by decide) ?_
  exact W.zret hx hb hr rfl (fun t ht _ => ⟨rfl, ht⟩) hS.2.2 eJ0_isLatin1_aae02_18
/-- a text's cells at the start of a method of its own -/
theorem tx_facts {G : Geo} {M : Mem} {s : State} {o : Int} (ho : isTx o = true) (hRO : RO wC G M s s.heap) : (∃ cell : Cell, s.heap[gad G o.toNat]? = some cell ∧ cell.vm.isStatics = false ∧ s.vm.findClass RJ0 = some cell.cls) ∧ va_Z "java/lang/String" "COMPACT_STRINGS" "Z" (.int 1) (fun _ => False) s s.heap ∧ va_OF "java/lang/String" "coder" "B" (.int 0) (gad G o.toNat) (fun _ => False) s s.heap ∧ va_OF "java/lang/String" "value" "[B" (.ref (gad G (66 + (o.toNat - 62)))) (gad G o.toNat) (fun _ => False) s s.heap ∧ va_T .byte (gad G (66 + (o.toNat - 62))) (lenS.getD (o.toNat - 62) 0) (byK (o.toNat - 62)) (fun _ => False) s s.heap ∧ fmtOk s := by
  obtain ⟨o0, o1, o2⟩ := tx_get ho
  have hrec := recS (gA wC G) (gad G) s s.heap o ho hRO.2.2
  obtain ⟨-, -, hT1, -, -, -, -, hZ, hF⟩ := hRO
  have nf : ∀ q : Nat, False → gA wC G q := fun _ h => h.elim
  obtain ⟨h1, h2, h3, h4⟩ := hT1.1 _ o1
  simp only [o2] at h1 h2 h3 h4
  exact ⟨hrec, va_Z.narrow hZ nf, va_OF.narrow h2 nf, va_OF.narrow h3 nf, va_T.narrow h4 nf, va_Zq.narrow hF nf⟩
theorem m_Slen : MetD wC n_Slen ci_Slen := by
  refine g_raw (by decide) (by decide) ?_
  intro p l e s m below meth c G vs M r M' ls hinj hlen hden hx hb hml hr hlocks hown hts hK hRO hP hl
  match vs, hlen, hden, hl, hts with
  | [o], _, hden, hl, hts =>
    have hden : (if isTx o = true then some (((lenS.getD (o.toNat - 62) 0 : Nat) : Int), M) else none) = some (r, M') := hden
    split at hden
    · next ho =>
      cases hden
      obtain ⟨o0, o1, o2⟩ := tx_get ho
      obtain ⟨hrec, hZ, hE, hV, hT, -⟩ := tx_facts ho hRO
      have ea : cvs G [2] [o] = [.ref (gad G o.toNat)] := by rw [← cv_ref o0]; rfl
      have hl : lv_has ls 1 [(0, .ref (gad G o.toNat))] := by
        have hl : lv_has ls 1 (lv_args 0 (cvs G [2] [o])) := hl
        rw [ea] at hl
        exact hl
      have hts : ∀ w ∈ TBL, w.before #[Value.ref (gad G o.toNat)] s = true := by
        have hts : ∀ w ∈ TBL, w.before (cvs G [2] [o]).toArray s = true := hts
        rw [ea] at hts
        exact hts
      show W p l e (rmH 6) s m (cvs G [2] [o]).toArray below meth c s.heap [] 0 0 (MQ below (gQc wC G 0 ((lenS.getD (o.toNat - 62) 0 : Nat) : Int) M M) (cvs G [2] [o]).toArray s 0 0 (gA wC G)) (F0 m 0 ls [])
      rw [ea]
      have hSA : va_S (gA wC G) s.heap s.heap [] := va_S.rf
      have hS : va_S (fun _ => False) s.heap s.heap [] := va_S.rf
      refine lv_aload_n hx hb eJ0_length_8abf5_0 rfl (lv_at hl 0 rfl) ?_
      refine vk_getf hx hb hV hS hown (hts _ fs_9) (fun _ h9 => h9) eJ0_length_8abf5_1 ?_
      refine va_tlen hx hb hT hS rfl eJ0_length_8abf5_4 ?_
      refine lv_aload_n hx hb eJ0_length_8abf5_5 rfl (lv_at hl 0 rfl) ?_
      obtain ⟨k1, k2, k3, k6, k4, k5⟩ := kt_J0_coder_7d493 1
      refine g_call0 (v := some (.int 0)) (rest := [.int (Int32.ofNat (lenS.getD (o.toNat - 62) 0))]) (a := #[.ref (gad G o.toNat)]) (va_runV (As := []) (rest := [.int (Int32.ofNat (lenS.getD (o.toNat - 62) 0))]) (nL := 1) (Ts := TBL) (own := RJ0) (C := RJ0) (n := 0) ⟨hx, hb, hml, hown, hts⟩ (m_cod (gad G o.toNat) l) (cwV _ hts (fun w hw => ?_) rfl rfl rfl ⟨rfl, by decide, by decide, by decide +kernel⟩ ⟨Nat.le_of_ble_eq_true rfl, Nat.le_of_ble_eq_true rfl⟩) ⟨fun a U g mk q => ⟨q.1, va_Z.moved (Vm.Alike.refl U.vm) q.2.1, va_OF.moved (Vm.Alike.refl U.vm) q.2.2⟩, hrec, fun U hU hW => ⟨rfl, by rw [hU]; exact va_Z.moved hW.alike hZ, by rw [hU]; exact va_OF.moved hW.alike hE⟩⟩ rfl rfl hl.1 rfl (lv_room (Nat.le_of_ble_eq_true rfl)) eJ0_length_8abf5_6 ⟨Nat.zero_le _, Nat.zero_le _⟩) hSA (fun locs1 hS1 => ?_)
      · rcases List.mem_append.mp hw with hw | hw
        · simp only [List.mem_cons, List.not_mem_nil, or_false] at hw
          rcases hw with rfl | rfl | rfl | rfl
          · exact good1 ls_RJ0_335
          · exact good1 k2
          · exact good1 k3
          · exact good1 k6
        · exact code_good k1 w hw
      · refine lv_ishr hx hb eJ0_length_8abf5_9 ?_
        rw [sc_shr0' (lenS.getD (o.toNat - 62) 0)]
        exact W.iret hx hb hr (fun t ht _ => ⟨rfl, by rw [ht]; exact hP, fun _ _ => rfl, hS1.F ht⟩) hS1.2.2 eJ0_length_8abf5_10
    · cases hden
theorem m_Schr : MetD wC n_Schr ci_Schr := by
  refine g_raw (by decide) (by decide) ?_
  intro p l e s m below meth c G vs M r M' ls hinj hlen hden hx hb hml hr hlocks hown hts hK hRO hP hl
  match vs, hlen, hden, hl, hts with
  | [o, j], _, hden, hl, hts =>
    have hden : (if isTx o = true ∧ 0 ≤ wr j ∧ wr j < (lenS.getD (o.toNat - 62) 0 : Nat) then some (chS (o.toNat - 62) (wr j).toNat, M) else none) = some (r, M') := hden
    split at hden
    · next ho =>
      obtain ⟨ho, j1, j2⟩ := ho
      cases hden
      obtain ⟨o0, o1, o2⟩ := tx_get ho
      obtain ⟨hrec, hZ, hE, hV, hT, hF⟩ := tx_facts ho hRO
      have ea : cvs G [2, 0] [o, j] = [.ref (gad G o.toNat), .int (Int32.ofInt j)] := by rw [← cv_ref o0]; rfl
      have hl : lv_has ls 2 [(0, .ref (gad G o.toNat)), (1, .int (Int32.ofInt j))] := by
        have hl : lv_has ls 2 (lv_args 0 (cvs G [2, 0] [o, j])) := hl
        rw [ea] at hl
        exact hl
      have hts : ∀ w ∈ TBL, w.before #[Value.ref (gad G o.toNat), Value.int (Int32.ofInt j)] s = true := by
        have hts : ∀ w ∈ TBL, w.before (cvs G [2, 0] [o, j]).toArray s = true := hts
        rw [ea] at hts
        exact hts
      show W p l e (rmH 6) s m (cvs G [2, 0] [o, j]).toArray below meth c s.heap [] 0 0 (MQ below (gQc wC G 0 (chS (o.toNat - 62) (wr j).toNat) M M) (cvs G [2, 0] [o, j]).toArray s 0 0 (gA wC G)) (F0 m 0 ls [])
      rw [ea]
      have hSA : va_S (gA wC G) s.heap s.heap [] := va_S.rf
      have hS : va_S (fun _ => False) s.heap s.heap [] := va_S.rf
      refine lv_aload_n hx hb eJ0_charAt_5068e_0 rfl (lv_at hl 0 rfl) ?_
      obtain ⟨k1, k2, k3, k6, k4, k5⟩ := kt_J0_isLatin1_aae02 1
      refine g_call0 (v := some (.int 1)) (rest := []) (a := #[.ref (gad G o.toNat)]) (va_runV (As := []) (rest := []) (nL := 2) (Ts := TBL) (own := RJ0) (C := RJ0) (n := 0) ⟨hx, hb, hml, hown, hts⟩ (m_lat (gad G o.toNat) l) (cwV _ hts (fun w hw => ?_) rfl rfl rfl ⟨rfl, by decide, by decide, by decide +kernel⟩ ⟨Nat.le_of_ble_eq_true rfl, Nat.le_of_ble_eq_true rfl⟩) ⟨fun a U g mk q => ⟨q.1, va_Z.moved (Vm.Alike.refl U.vm) q.2.1, va_OF.moved (Vm.Alike.refl U.vm) q.2.2⟩, hrec, fun U hU hW => ⟨rfl, by rw [hU]; exact va_Z.moved hW.alike hZ, by rw [hU]; exact va_OF.moved hW.alike hE⟩⟩ rfl rfl hl.1 rfl (lv_room (Nat.le_of_ble_eq_true rfl)) eJ0_charAt_5068e_1 ⟨Nat.zero_le _, Nat.zero_le _⟩) hS (fun locs1 hS1 => ?_)
      · rcases List.mem_append.mp hw with hw | hw
        · simp only [List.mem_cons, List.not_mem_nil, or_false] at hw
          rcases hw with rfl | rfl | rfl | rfl
          · exact good1 ls_RJ0_492
          · exact good1 k2
          · exact good1 k3
          · exact good1 k6
        · exact code_good k1 w hw
      · refine lv_if_eq (tgt := 16) hx hb eJ0_charAt_5068e_4 (by decide) (fun z => absurd z (by decide)) (fun _ => ?_)
        refine lv_aload_n hx hb eJ0_charAt_5068e_7 rfl (lv_at hl 0 rfl) ?_
        refine vk_getf hx hb hV hS1 hown (hts _ fs_9) (fun _ h9 => h9) eJ0_charAt_5068e_8 ?_
        refine lv_iload_n hx hb eJ0_charAt_5068e_11 rfl (lv_at hl 1 rfl) ?_
        obtain ⟨k1, k2, k3, k4, k5⟩ := kt_J1_charAt_3b067 3
        refine g_call0 (v := some (.int ((bytS.getD (o.toNat - 62) []).getD (Int32.ofInt j).toNatClampNeg 0))) (rest := []) (a := #[.ref (gad G (66 + (o.toNat - 62))), .int (Int32.ofInt j)]) (va_runS (As := [.ref (gad G (66 + (o.toNat - 62))), .int (Int32.ofInt j)]) (rest := []) (nL := 2) (Ts := TBL) (own := RJ0) (n := 2) ⟨hx, hb, hml, hown, hts⟩ (m_l1 (o.toNat - 62) (gad G (66 + (o.toNat - 62))) (Int32.ofInt j) l o1 (in_vp j1 j2)) (va_cwS _ hts (fun w hw => ?_) rfl rfl rfl ⟨by decide, by decide, by decide +kernel⟩ ⟨Nat.le_of_ble_eq_true rfl, Nat.le_of_ble_eq_true rfl⟩) ⟨fun a U g mk q => ⟨q.1, va_Zq.moved (Vm.Alike.refl U.vm) q.2.1, va_T.moved (Vm.Alike.refl U.vm) q.2.2⟩, fun U hU hW => ⟨rfl, by unfold fmtOk; rw [hU]; exact va_Zq.moved hW.alike hF, by rw [hU]; exact va_T.moved hW.alike hT⟩⟩ rfl rfl hl.1 rfl (lv_room (Nat.le_of_ble_eq_true rfl)) eJ0_charAt_5068e_12 ⟨Nat.zero_le _, Nat.zero_le _⟩) hS1 (fun locs2 hS2 => ?_)
        · rcases List.mem_append.mp hw with hw | hw
          · simp only [List.mem_cons, List.not_mem_nil, or_false] at hw
            rcases hw with rfl | rfl | rfl
            · exact good1 ls_RJ0_495
            · exact good1 k2
            · exact good1 k3
          · exact code_good k1 w hw
        · have e9 : cv (gad G) 0 (chS (o.toNat - 62) (wr j).toNat) = .int ((bytS.getD (o.toNat - 62) []).getD (Int32.ofInt j).toNatClampNeg 0) := by
            show Value.int (Int32.ofInt ((bytS.getD (o.toNat - 62) []).getD (wr j).toNat 0).toInt) = _
            rw [oI]
            rfl
          refine W.zret hx hb hr (by_ok (o.toNat - 62) o1 (Int32.ofInt j).toNatClampNeg (by show (wr j).toNat < _; omega)).2 (fun t ht _ => ⟨?_, by rw [ht]; exact hP, fun _ _ => rfl, by rw [ht]; exact Nat.le_refl _, fun q _ _ => by rw [ht]⟩) (fun q hq => (hS2.2.2 q hq).elim) eJ0_charAt_5068e_15
          show Outcome.returned (some _) = .returned (rvO G 0 (chS (o.toNat - 62) (wr j).toNat))
          unfold rvO
          rw [if_neg (by decide), e9]
    · cases hden
end STR

