/-! PART 98.m2: the law's entry, walked. -/
section ST
variable {p : Program} {l : Launch} {e : Env} {s : State} {m : MethodId} {below : List Frame} {meth : Method} {c : Code} {b : Nat} {Q : State → Prop} {G : Geo} {H : Heap} {locs : List Loc} {cells slots : Nat} {ls : Array Slot} {ws : va_W}
theorem st_3 (hx : p.tables.exec = Jvm.exec) (hb : c.code = code) (hT : ∀ w ∈ TBL, w.before #[Value.ref b] s = true) (hK : va_K (gD G) vwCl (gTys G) s) (hP : va_P (gD G) vwCl ws H) (hD : va_D (nwA s) ws) (hS : va_S (nwA s) s.heap H locs)
    (kk : ∀ (o : Nat) (cL : ClassId) (H1 : Heap), va_K (gD G) vwCl (tysL G cL) s → va_P (gD G) vwCl (ws ++ [(o, outE cL (fun _ => 0))]) H1 → va_D (nwA s) (ws ++ [(o, outE cL (fun _ => 0))]) → va_S (nwA s) s.heap H1 locs → W p l e room_1 s m #[Value.ref b] below meth c H1 locs (79 + 1) (23064 + 1) Q (F0 m (17 + 2) ls [.ref o])) : W p l e room_1 s m #[Value.ref b] below meth c H locs 79 23064 Q (F0 m 16 ls []) := by
  have hA : ∀ q : Nat, s.heap.size ≤ q → nwA s q := fun _ h => h
  have h9 : (Cond.arrayClass (newarray.typeOf .long)).before #[Value.ref b] s = true := hT _ ka_long
  refine lv_iconst (v := 1) hx hb dl_16 (by decide) ?_
  exact va_newa (atype := .long) (ty := .long) (N' := 1) (a0 := (1, .inr (.inl (fun _ => 0)))) hx hb h9 rfl hK hP hD hS hA (fun cA => rfl) (by decide) (by decide) (Nat.le_of_ble_eq_true rfl) (Nat.le_of_ble_eq_true rfl) (Nat.le_of_ble_eq_true rfl) dl_17 (fun o cL H1 hKL hP hD hS => kk o cL H1 hKL hP hD hS)
theorem st_walk (hx : p.tables.exec = Jvm.exec) (hb : c.code = code) (hml : c.maxLocals = 7) (hown : s.vm.findClass RL = some m.cls) (hT : ∀ w ∈ TBL, w.before #[Value.ref b] s = true) (hK : va_K (gD G) vwCl (gTys G) s) (hN : ∀ w ∈ NW, va_Nw w s) (hAO : va_AO "BlackMill$House" s)
    (kk : ∀ (ad1 ad2 : Nat → Nat) (o : Nat) (cL : ClassId) (H : Heap) (locs : List Loc) (ls : Array Slot), va_K (gD G) vwCl (tysL G cL) s → va_P (gD G) vwCl (rB G ad1 ++ rD G ad2 ++ [(o, outE cL (fun _ => 0))]) H → va_D (nwA s) (rB G ad1 ++ rD G ad2 ++ [(o, outE cL (fun _ => 0))]) → va_S (nwA s) s.heap H locs → lv_has ls 7 [(4, .int 0), (3, .ref o), (2, .ref (ad2 0)), (1, .ref (ad1 0)), (0, .ref b)] → W p l e room_1 s m #[Value.ref b] below meth c H locs 80 23065 Q (F0 m 23 ls [])) : W p l e room_1 s m #[Value.ref b] below meth c s.heap [] 0 0 Q (entryFrame m ([Value.ref b] : List Value).toArray 7) := by
  have hS : va_S (nwA s) s.heap s.heap [] := va_S.rf
  have hP : va_P (gD G) vwCl [] s.heap := fun k q h => by simp at h
  have hD : va_D (nwA s) [] := ⟨fun i j p q h => by simp at h, fun k q h => by simp at h⟩
  have hl := lv_entry ([.ref b]) (n := 7) (Nat.le_of_ble_eq_true rfl)
  rw [lg_entry_eq]
  generalize (lg_sl ([.ref b]) ++ List.replicate (7 - (lg_sl ([.ref b])).length) Slot.unset).toArray = ls at hl ⊢
  have hl : lv_has ls 7 [(0, .ref b)] := hl
  refine st_1 hx hb hml hown hT hK hN hAO hl.1 hP hD hS (fun ad1 H locs hP hD hS => ?_)
  rw [List.nil_append] at hP hD
  refine lv_astore_n (lv' := [(1, .ref (ad1 0)), (0, .ref b)]) hx hb dl_7 rfl hl (by decide) rfl (fun ls hl => ?_)
  refine st_2 hx hb hml hown hT hK hN hAO hl.1 hP hD hS (fun ad2 H locs hP hD hS => ?_)
  refine lv_astore_n (lv' := [(2, .ref (ad2 0)), (1, .ref (ad1 0)), (0, .ref b)]) hx hb dl_15 rfl hl (by decide) rfl (fun ls hl => ?_)
  refine st_3 hx hb hT hK hP hD hS (fun o cL H hKL hP hD hS => ?_)
  refine lv_astore_n (lv' := [(3, .ref o), (2, .ref (ad2 0)), (1, .ref (ad1 0)), (0, .ref b)]) hx hb dl_19 rfl hl (by decide) rfl (fun ls hl => ?_)
  refine lv_iconst (v := 0) hx hb dl_20 (by decide) ?_
  refine lv_istore (lv' := [(4, .int 0), (3, .ref o), (2, .ref (ad2 0)), (1, .ref (ad1 0)), (0, .ref b)]) hx hb dl_21 hl (by decide) rfl (fun ls hl => ?_)
  exact kk ad1 ad2 o cL H locs ls hKL hP hD hS hl
end ST
