/-! PART 98.m3: from its entry the law comes to its end, for every script. -/
theorem lr_B {G : Geo} {ad : Nat → Nat} : (rB G ad).length = 52 := lenr_B
theorem lr_D {G : Geo} {ad : Nat → Nat} : (rD G ad).length = 27 := lenr_D
theorem gr_B {G : Geo} {ad : Nat → Nat} (i : Nat) (hi : i < 52) : ∃ y : va_E, (rB G ad)[i]? = some (ad i, y) := getr_B (G := gW G ad) hi
theorem gr_D {G : Geo} {ad : Nat → Nat} (i : Nat) (hi : i < 27) : ∃ y : va_E, (rD G ad)[i]? = some (ad i, y) := getr_D (G := gW G ad) hi
theorem whole_start {p : Program} {e : Env} {s : State} {m : MethodId} {below : List Frame} {meth : Method} {c : Code} (l : Launch) (hflags : l.flags = flags0) {b L : Nat} {xs : Nat → Int32} (hL : L ≤ 3072) (C0 : lw_At p s m meth c b L xs) : W p l e room_1 s m #[Value.ref b] below meth c s.heap [] 0 0 (lw_Z below #[Value.ref b] s) (entryFrame m ([Value.ref b] : List Value).toArray 7) := by
  obtain ⟨hx, hb, hr, hml, hown, hts, hX, hbl, hlocks, hgv⟩ := C0
  have hs := flat_of_before _ hgv
  have hT := TBL_at hts
  obtain ⟨G, hK⟩ := K_at hts
  have hN := NW_at hts
  have hAO := AO_at hts
  have hex := ex_at hts hs
  obtain ⟨adS, hRO⟩ := RO_at hts hs
  refine st_walk hx hb hml hown hT hK hN hAO (fun ad1 ad2 o cL H locs ls hKL hP hD hS hl => ?_)
  obtain ⟨hP1, hP2, hP3⟩ := vaP3 hP
  obtain ⟨⟨d1, d2⟩, ⟨d3, d4, d5⟩, ⟨d6, d7, d8⟩⟩ := vaD3 (Q := nwA s) (A := rB G ad1) (B := rD G ad2) (nA := 52) (nB := 27) (a := ad1) (b := ad2) lr_B lr_D gr_B gr_D hD
  generalize hac : (fun i => if i < 52 then ad1 i else adS i) = adC
  have c1 : ∀ i, i < 52 → adC i = ad1 i := fun i hi => by rw [← hac]; exact if_pos hi
  have c2 : ∀ i, 52 ≤ i → adC i = adS i := fun i hi => by rw [← hac]; exact if_neg (by omega)
  have n1 : ∀ i, i < 52 → s.heap.size ≤ adC i := fun i hi => by
    rw [c1 i hi]
    exact d6 i hi
  have jC : gInj wC (gW G adC) := fun i j hi hj hij => by
    have hi : i < 52 := hi
    have hj : j < 52 := hj
    have hij : adC i = adC j := hij
    rw [c1 i hi, c1 j hj] at hij
    exact d1 i j hi hj hij
  have jM : gInj wM (gW G ad2) := fun i j hi hj hij => d2 i j hi hj hij
  have hROC : RO wC (gW G adC) M0C s s.heap := hRO (gW G adC) (fun i hi => c2 i hi) (fun q z => by
    obtain ⟨i, hi, e9⟩ := z
    rw [← e9]
    exact n1 i hi)
  have hROM : RO wM (gW G ad2) M0R s s.heap := ⟨hN, fun q hq => absurd hq List.not_mem_nil, trivial⟩
  have hLOk : LOk (p, l, e, s, m, below, meth, c, G, adC, ad2, o, cL, b, L, xs) := by
    refine And.intro hx ?_
    refine ⟨hb, hml, hown, hT, hKL, jC, jM, hROC, hROM, ⟨fun i j hi hj z => ?_, fun i hi z => ?_, d5⟩, ⟨n1, d7, d8⟩, hX, hbl, hL, hex, hflags, hr, hlocks⟩
    · rw [c1 i hi] at z
      exact d3 i j hi hj z
    · rw [c1 i hi] at z
      exact d4 i hi z
  have e1 : render wC (gW G adC) M0C = rB G ad1 := e1_B c1
  have e2 : render wM (gW G ad2) M0R = rD G ad2 := e1_D
  rw [← e1] at hP1
  rw [← e2] at hP2
  have hl2 : lv_has ls 7 [(0, .ref b), (1, .ref (adC 0)), (2, .ref (ad2 0)), (3, .ref o), (4, .int (nI 0))] := by
    rw [c1 0 (by decide), nI_0]
    exact lv_sub hl [4, 3, 2, 1, 0] rfl
  have k1 := law_loop hLOk (L + 7) 0 80 23065 M0C M0R (fun _ => 0) (by show L + 7 ≤ 0 + (L + 7); omega) (Nat.zero_le _) (Nat.le_of_ble_eq_true rfl) (Nat.le_of_ble_eq_true rfl) Rel_0
  exact k1 (fun _ _ => rfl) (fun _ _ => rfl) H locs ls hP1 hP2 hP3 hS hl2
