/-! PART 98.m1: the law's entry: its objects are made. -/
def rB (G : Geo) (ad : Nat → Nat) : va_W := render (wk skB) (gW G ad) (mz [(0, 15, 5), (1, 3, -1), (9, 6, -1)])
def rD (G : Geo) (ad : Nat → Nat) : va_W := render (wk skD) (gW G ad) (mz [(0, 29, 5), (0, 28, -1)])
theorem dl_0 : decode code 0 = .ok (.new 8, 3) := by decide +kernel
theorem dl_3 : decode code 3 = .ok (.dup, 1) := by decide +kernel
theorem dl_4 : decode code 4 = .ok (.invokespecial 15, 3) := by decide +kernel
theorem dl_7 : decode code 7 = .ok (.astore_n 1, 1) := by decide +kernel
theorem dl_8 : decode code 8 = .ok (.new 16, 3) := by decide +kernel
theorem dl_11 : decode code 11 = .ok (.dup, 1) := by decide +kernel
theorem dl_12 : decode code 12 = .ok (.invokespecial 18, 3) := by decide +kernel
theorem dl_15 : decode code 15 = .ok (.astore_n 2, 1) := by decide +kernel
theorem dl_16 : decode code 16 = .ok (.iconst 1, 1) := by decide +kernel
theorem dl_17 : decode code 17 = .ok (.newarray .long, 2) := by decide +kernel
theorem dl_19 : decode code 19 = .ok (.astore_n 3, 1) := by decide +kernel
theorem dl_20 : decode code 20 = .ok (.iconst 0, 1) := by decide +kernel
theorem dl_21 : decode code 21 = .ok (.istore 4, 2) := by decide +kernel
theorem ok_10 : (List.range 17).all (fun j => !(codeOf (tyC 10 j) == 9)) = true := by decide +kernel
theorem ok_11 : (List.range 46).all (fun j => !(codeOf (tyC 11 j) == 9)) = true := by decide +kernel
theorem pd_10 : (parseMethodDescriptor yX10_init.desc).map (fun d => d.parameters.length) = some 0 := by decide +kernel
theorem pd_11 : (parseMethodDescriptor yX11_init.desc).map (fun d => d.parameters.length) = some 0 := by decide +kernel
section ST
variable {p : Program} {l : Launch} {e : Env} {s : State} {m : MethodId} {below : List Frame} {meth : Method} {c : Code} {b : Nat} {Q : State → Prop} {G : Geo} {H : Heap} {locs : List Loc} {cells slots : Nat} {ls : Array Slot} {ws : va_W}
theorem st_1 (hx : p.tables.exec = Jvm.exec) (hb : c.code = code) (hml : c.maxLocals = 7) (hown : s.vm.findClass RL = some m.cls) (hT : ∀ w ∈ TBL, w.before #[Value.ref b] s = true) (hK : va_K (gD G) vwCl (gTys G) s) (hN : ∀ w ∈ NW, va_Nw w s) (hAO : va_AO "BlackMill$House" s) (hls : ls.size = 7) (hP : va_P (gD G) vwCl ws H) (hD : va_D (nwA s) ws) (hS : va_S (nwA s) s.heap H locs)
    (kk : ∀ (ad : Nat → Nat) (H1 : Heap) (locs1 : List Loc), va_P (gD G) vwCl (ws ++ rB G ad) H1 → va_D (nwA s) (ws ++ rB G ad) → va_S (nwA s) s.heap H1 locs1 → W p l e room_1 s m #[Value.ref b] below meth c H1 locs1 (0 + 1 + 51) (0 + 17 + 5150) Q (F0 m (0 + 7) ls [.ref (ad 0)])) : W p l e room_1 s m #[Value.ref b] below meth c H locs 0 0 Q (F0 m 0 ls []) :=
  w_make (R := room_1) (nL := 7) (own := RL) (skc := skB) (Zc := [(0, 15, 5), (1, 3, -1), (9, 6, -1)]) (C := RX10) (T := TX10) (c := 10) (N := 17) (idn := 8) (idc := 15) (d := 3) (mL := 1) (kc := 51) (ks := 5150) (y := yX10_init) (cy := cX10_init) (pc := 0) (rest := []) (cells := 0) (slots := 0) hx hb hml hown hT hK hN hAO ct_B rfl kl_L8 ki_L10 in_X10 ok_10 rfl kc_B kn_B in_X10 ne_X10 pd_10 km_L15 ⟨Nat.le_of_ble_eq_true rfl, Nat.le_of_ble_eq_true rfl⟩ (Nat.le_of_ble_eq_true rfl) (Nat.le_of_ble_eq_true rfl) (Nat.le_of_ble_eq_true rfl) dl_0 dl_3 dl_4 hls hP hD hS kk
theorem st_2 (hx : p.tables.exec = Jvm.exec) (hb : c.code = code) (hml : c.maxLocals = 7) (hown : s.vm.findClass RL = some m.cls) (hT : ∀ w ∈ TBL, w.before #[Value.ref b] s = true) (hK : va_K (gD G) vwCl (gTys G) s) (hN : ∀ w ∈ NW, va_Nw w s) (hAO : va_AO "BlackMill$House" s) (hls : ls.size = 7) (hP : va_P (gD G) vwCl ws H) (hD : va_D (nwA s) ws) (hS : va_S (nwA s) s.heap H locs)
    (kk : ∀ (ad : Nat → Nat) (H1 : Heap) (locs1 : List Loc), va_P (gD G) vwCl (ws ++ rD G ad) H1 → va_D (nwA s) (ws ++ rD G ad) → va_S (nwA s) s.heap H1 locs1 → W p l e room_1 s m #[Value.ref b] below meth c H1 locs1 (52 + 1 + 26) (5167 + 46 + 17851) Q (F0 m (8 + 7) ls [.ref (ad 0)])) : W p l e room_1 s m #[Value.ref b] below meth c H locs 52 5167 Q (F0 m 8 ls []) :=
  w_make (R := room_1) (nL := 7) (own := RL) (skc := skD) (Zc := [(0, 29, 5), (0, 28, -1)]) (C := RX11) (T := TX11) (c := 11) (N := 46) (idn := 16) (idc := 18) (d := 1) (mL := 1) (kc := 26) (ks := 17851) (y := yX11_init) (cy := cX11_init) (pc := 8) (rest := []) (cells := 52) (slots := 5167) hx hb hml hown hT hK hN hAO ct_D rfl kl_L16 ki_L11 in_X11 ok_11 rfl kc_D kn_D in_X11 ne_X11 pd_11 km_L18 ⟨Nat.le_of_ble_eq_true rfl, Nat.le_of_ble_eq_true rfl⟩ (Nat.le_of_ble_eq_true rfl) (Nat.le_of_ble_eq_true rfl) (Nat.le_of_ble_eq_true rfl) dl_8 dl_11 dl_12 hls hP hD hS kk
end ST
