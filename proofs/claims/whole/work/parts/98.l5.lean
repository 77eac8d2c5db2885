/-! PART 98.l5: the law's loop. -/
theorem ian_63 (x : Int) : 0 ≤ ian x 63 ∧ ian x 63 ≤ 63 := by
  unfold ian
  have h : (Int32.ofInt x &&& Int32.ofInt 63).toBitVec.toNat ≤ 63 := by
    rw [Int32.toBitVec_and, BitVec.toNat_and]
    exact Nat.and_le_right
  have e : (Int32.ofInt x &&& Int32.ofInt 63).toInt = (Int32.ofInt x &&& Int32.ofInt 63).toBitVec.toInt := rfl
  rw [e, BitVec.toInt_eq_toNat_of_lt (by omega)]
  omega
abbrev lawOffs : Array Int := #[208, 281, 306, 331, 356, 381, 449, 486, 511, 548, 573, 598, 623, 648, 673, 742, 767, 780, 817, 830, 879, 904, 929, 954, 991, 1016, 1069, 1106, 1131, 1156, 1181, 1194, 1207, 1232, 1305, 1354, 1419, 1432, 1469, 1482, 1507, 1520, 1545, 1570, 1583, 1608, 1621, 1634]
set_option maxRecDepth 100000 in
theorem d_sw : decode code 40 = .ok (.tableswitch 1659 0 47 lawOffs, 208) := by decide +kernel
section LMS
variable {X : Lx} {cells slots pc i : Nat} {ex : List (Nat × Value)} {Mc Mr : Mem} {f : Nat → Int64} {st : List Value}
theorem lm_next (h : LOk X) (hi : i + 6 < 2147483648) (kk : LM X cells slots 23 (i + 6) [] Mc Mr f []) : LM X cells slots 1699 i [] Mc Mr f [] := by
  obtain ⟨p, l, e, s, m, below, meth, c, G, adC, adM, o, cL, b, L, xs⟩ := X
  intro hmC hmM H locs ls hPC hPM hPo hS hl
  refine lv_iinc (k := 4) (v := nI (i + 6)) (lv' := [(4, .int (nI (i + 6))), (0, .ref b), (1, .ref (adC 0)), (2, .ref (adM 0)), (3, .ref o)]) h.1 h.2.1 (show decode code 1699 = .ok (.iinc 4 6, 3) by decide +kernel) hl rfl (nI_add i 6) (by decide) rfl (fun ls hl => ?_)
  refine lv_goto (tgt := 23) h.1 h.2.1 (show decode code 1702 = .ok (.goto (-1679), 3) by decide +kernel) (by decide) ?_
  exact kk hmC hmM H locs ls hPC hPM hPo hS (lv_mem hl (fun q hq => by
    simp only [List.append_nil, List.mem_cons, List.not_mem_nil, or_false] at hq ⊢
    rcases hq with h | h | h | h | h <;> simp [h]))
theorem lm_exit (h : LOk X) (hc : cells ≤ 601024 ∧ slots ≤ 7293034) : LM X cells slots 1705 i ex Mc Mr f [] := by
  obtain ⟨p, l, e, s, m, below, meth, c, G, adC, adM, o, cL, b, L, xs⟩ := X
  obtain ⟨hx, hb, hml, hown, hts, hK, hjC, hjM, hrC, hrM, hap, hge, hX, hbl, hL, hex, hfl, hrt, hlk⟩ := h
  intro hmC hmM H locs ls hPC hPM hPo hS hl
  refine lv_iconst (v := 1) hx hb (show decode code 1705 = .ok (.iconst 1, 1) by decide +kernel) (by decide) ?_
  refine va_forget (fun q hq => hS.2.2 q hq) ?_
  refine W.widen (k := 601024) (n := 7293034) hc.1 hc.2 ?_
  exact lw_ret hx hb hrt hlk (show decode code 1706 = .ok (.ireturn, 1) by decide +kernel)
theorem lm_head (h : LOk X) (hi : i ≤ lxL X + 6) (k1 : LM X cells slots 1705 i ex Mc Mr f []) (k2 : i + 6 ≤ lxL X → ∀ z : Int, 0 ≤ z → z ≤ 63 → (wr z = z) → LM X cells slots 40 i ex Mc Mr f [ivI z]) : LM X cells slots 23 i ex Mc Mr f [] := by
  obtain ⟨p, l, e, s, m, below, meth, c, G, adC, adM, o, cL, b, L, xs⟩ := X
  obtain ⟨hx, hb, hml, hown, hts, hK, hjC, hjM, hrC, hrM, hap, hge, hX, hbl, hL, hex, hfl, hrt, hlk⟩ := h
  intro hmC hmM H locs ls hPC hPM hPo hS hl
  have hbA : ¬ nwA s b := Nat.not_le.mpr hbl
  have hi : i ≤ L + 6 := hi
  refine lv_iload hx hb (show decode code 23 = .ok (.iload 4, 2) by decide +kernel) (lv_at hl 4 rfl) ?_
  refine lv_aload_n hx hb (show decode code 25 = .ok (.aload_n 0, 1) by decide +kernel) rfl (lv_at hl 0 rfl) ?_
  refine va_slen hx hb hX hbl hbA hS (show decode code 26 = .ok (.arraylength, 1) by decide +kernel) ?_
  refine lv_bipush (v := Int32.ofInt 6) hx hb (show decode code 27 = .ok (.bipush 6, 2) by decide +kernel) (by decide) ?_
  refine lv_isub hx hb (show decode code 29 = .ok (.isub, 1) by decide +kernel) ?_
  have e1 : Int32.ofNat L - Int32.ofInt 6 = Int32.ofInt ((L : Int) - 6) := (Int32.ofInt_sub (L : Int) 6).symm
  rw [e1]
  have w1 : wr ((L : Int) - 6) = (L : Int) - 6 := wr_id (by omega) (by omega)
  have w2 : wr (i : Int) = i := wr_id (by omega) (by omega)
  refine lv_icmp_gt (tgt := 1705) hx hb (show decode code 30 = .ok (.if_icmp .gt 1675, 3) by decide +kernel) (by decide) (fun _ => k1 hmC hmM H locs ls hPC hPM hPo hS hl) (fun c1 => ?_)
  have c2 : ¬ wr ((L : Int) - 6) < wr (i : Int) := fun z => c1 (show Int32.ofInt ((L : Int) - 6) < Int32.ofInt (i : Int) from wr_lt.mpr z)
  rw [w1, w2] at c2
  have hi6 : i + 6 ≤ L := by omega
  refine lv_aload_n hx hb (show decode code 33 = .ok (.aload_n 0, 1) by decide +kernel) rfl (lv_at hl 0 rfl) ?_
  refine lv_iload hx hb (show decode code 34 = .ok (.iload 4, 2) by decide +kernel) (lv_at hl 4 rfl) ?_
  refine va_sld hx hb hX hbl hbA hS (vp_in_nI (show i < L by omega) (by omega)) (show decode code 36 = .ok (.iaload, 1) by decide +kernel) ?_
  refine lv_bipush (v := Int32.ofInt 63) hx hb (show decode code 37 = .ok (.bipush 63, 2) by decide +kernel) (by decide) ?_
  refine lv_iand hx hb (show decode code 39 = .ok (.iand, 1) by decide +kernel) ?_
  have z1 := ian_63 (xs (nI i).toNatClampNeg).toInt
  have z2 : xs (nI i).toNatClampNeg &&& Int32.ofInt 63 = Int32.ofInt (ian (xs (nI i).toNatClampNeg).toInt 63) := by
    unfold ian
    rw [oI, oI]
  rw [z2]
  exact k2 hi6 _ z1.1 z1.2 (wr_id (by omega) (by omega)) hmC hmM H locs ls hPC hPM hPo hS hl
theorem lm_in (h : LOk X) {k tgt : Nat} (hk : k ≤ 47) (ho : lawOffs[k]? = some ((tgt : Int) - 40)) (kk : LM X cells slots tgt i ex Mc Mr f st) : LM X cells slots 40 i ex Mc Mr f (ivI (k : Int) :: st) := by
  obtain ⟨p, l, e, s, m, below, meth, c, G, adC, adM, o, cL, b, L, xs⟩ := X
  intro hmC hmM H locs ls hPC hPM hPo hS hl
  have w : (Int32.ofInt (k : Int)).toInt = (k : Int) := wr_id (by omega) (by omega)
  refine lv_tableIn (tgt := tgt) h.1 h.2.1 d_sw (by rw [w]; omega) (by rw [w]; omega) (off := (tgt : Int) - 40) ?_ (by show (40 : Int) + _ = _; omega) (kk hmC hmM H locs ls hPC hPM hPo hS hl)
  rw [w, show ((k : Int) - 0).toNat = k by omega]
  exact ho
theorem lm_outr (h : LOk X) {z : Int} (hz : 47 < z ∧ z ≤ 63) (kk : LM X cells slots 1699 i ex Mc Mr f st) : LM X cells slots 40 i ex Mc Mr f (ivI z :: st) := by
  obtain ⟨p, l, e, s, m, below, meth, c, G, adC, adM, o, cL, b, L, xs⟩ := X
  intro hmC hmM H locs ls hPC hPM hPo hS hl
  have w : (Int32.ofInt z).toInt = z := wr_id (by omega) (by omega)
  exact lv_tableOut (tgt := 1699) h.1 h.2.1 d_sw (Or.inr (by rw [w]; omega)) (by decide) (kk hmC hmM H locs ls hPC hPM hPo hS hl)
theorem law_step (h : LOk X) (hi : i + 6 ≤ lxL X) (hc : cells + 1 ≤ 601024 ∧ slots + 6 ≤ 7293034) (hR : Rel Mc Mr) (kk : ∀ c2 s2 Mc2 Mr2 f2, c2 ≤ cells + 1 → s2 ≤ slots + 6 → Rel Mc2 Mr2 → LM X c2 s2 1699 i [] Mc2 Mr2 f2 []) : ∀ k : Nat, k ≤ 47 → LM X cells slots 40 i [] Mc Mr f [ivI (k : Int)] := by
  have hc0 : cells ≤ 601024 ∧ slots ≤ 7293034 := by omega
  have k0 : ∀ Mc2 Mr2, Rel Mc2 Mr2 → LM X cells slots 1699 i [] Mc2 Mr2 f [] := fun Mc2 Mr2 r => kk _ _ _ _ _ (by omega) (by omega) r
  have hi5 : i + 5 < lxL X := by omega
  intro k hk
  match k, hk with
  | 0, _ => exact lm_in (k := 0) (tgt := 248) h (by decide) (by decide) (op_0 h hc0 hi5 hR k0)
  | 1, _ => exact lm_in (k := 1) (tgt := 321) h (by decide) (by decide) (op_1 h hc0 hi5 hR k0)
  | 2, _ => exact lm_in (k := 2) (tgt := 346) h (by decide) (by decide) (op_2 h hc0 hi5 hR k0)
  | 3, _ => exact lm_in (k := 3) (tgt := 371) h (by decide) (by decide) (op_3 h hc0 hi5 hR k0)
  | 4, _ => exact lm_in (k := 4) (tgt := 396) h (by decide) (by decide) (op_4 h hc0 hi5 hR k0)
  | 5, _ => exact lm_in (k := 5) (tgt := 421) h (by decide) (by decide) (op_5 h hc hi5 hR (fun a b c r => kk _ _ a b c (by omega) (by omega) r))
  | 6, _ => exact lm_in (k := 6) (tgt := 489) h (by decide) (by decide) (op_6 h hc0 hi5 hR k0)
  | 7, _ => exact lm_in (k := 7) (tgt := 526) h (by decide) (by decide) (op_7 h hc0 hi5 hR k0)
  | 8, _ => exact lm_in (k := 8) (tgt := 551) h (by decide) (by decide) (op_8 h hc0 hi5 hR k0)
  | 9, _ => exact lm_in (k := 9) (tgt := 588) h (by decide) (by decide) (op_9 h hc0 hi5 hR k0)
  | 10, _ => exact lm_in (k := 10) (tgt := 613) h (by decide) (by decide) (op_10 h hc0 hi5 hR k0)
  | 11, _ => exact lm_in (k := 11) (tgt := 638) h (by decide) (by decide) (op_11 h hc0 hi5 hR k0)
  | 12, _ => exact lm_in (k := 12) (tgt := 663) h (by decide) (by decide) (op_12 h hc0 hi5 hR k0)
  | 13, _ => exact lm_in (k := 13) (tgt := 688) h (by decide) (by decide) (op_13 h hc0 hi5 hR k0)
  | 14, _ => exact lm_in (k := 14) (tgt := 713) h (by decide) (by decide) (op_14 h hc0 hi5 hR k0)
  | 15, _ => exact lm_in (k := 15) (tgt := 782) h (by decide) (by decide) (op_15 h hc0 hi5 hR k0)
  | 16, _ => exact lm_in (k := 16) (tgt := 807) h (by decide) (by decide) (op_16 h hc0 hi5 hR k0)
  | 17, _ => exact lm_in (k := 17) (tgt := 820) h (by decide) (by decide) (op_17 h hc0 hi5 hR k0)
  | 18, _ => exact lm_in (k := 18) (tgt := 857) h (by decide) (by decide) (op_18 h hc0 hi5 hR k0)
  | 19, _ => exact lm_in (k := 19) (tgt := 870) h (by decide) (by decide) (op_19 h hc0 hi5 hR k0)
  | 20, _ => exact lm_in (k := 20) (tgt := 919) h (by decide) (by decide) (op_20 h hc0 hi5 hR k0)
  | 21, _ => exact lm_in (k := 21) (tgt := 944) h (by decide) (by decide) (op_21 h hc0 hi5 hR k0)
  | 22, _ => exact lm_in (k := 22) (tgt := 969) h (by decide) (by decide) (op_22 h hc0 hi5 hR k0)
  | 23, _ => exact lm_in (k := 23) (tgt := 994) h (by decide) (by decide) (op_23 h hc0 hi5 hR k0)
  | 24, _ => exact lm_in (k := 24) (tgt := 1031) h (by decide) (by decide) (op_24 h hc0 hi5 hR k0)
  | 25, _ => exact lm_in (k := 25) (tgt := 1056) h (by decide) (by decide) (op_25 h hc0 hi5 hR k0)
  | 26, _ => exact lm_in (k := 26) (tgt := 1109) h (by decide) (by decide) (op_26 h hc0 hi5 hR k0)
  | 27, _ => exact lm_in (k := 27) (tgt := 1146) h (by decide) (by decide) (op_27 h hc0 hi5 hR k0)
  | 28, _ => exact lm_in (k := 28) (tgt := 1171) h (by decide) (by decide) (op_28 h hc0 hi5 hR k0)
  | 29, _ => exact lm_in (k := 29) (tgt := 1196) h (by decide) (by decide) (op_29 h hc0 hi5 hR k0)
  | 30, _ => exact lm_in (k := 30) (tgt := 1221) h (by decide) (by decide) (op_30 h hc0 hi5 hR k0)
  | 31, _ => exact lm_in (k := 31) (tgt := 1234) h (by decide) (by decide) (op_31 h hc0 hi5 hR k0)
  | 32, _ => exact lm_in (k := 32) (tgt := 1247) h (by decide) (by decide) (op_32 h hc0 hi5 hR k0)
  | 33, _ => exact lm_in (k := 33) (tgt := 1272) h (by decide) (by decide) (op_33 h hc0 hi5 hR k0)
  | 34, _ => exact lm_in (k := 34) (tgt := 1345) h (by decide) (by decide) (op_34 h hc0 hi5 hR k0)
  | 35, _ => exact lm_in (k := 35) (tgt := 1394) h (by decide) (by decide) (op_35 h hc0 hi5 hR k0)
  | 36, _ => exact lm_in (k := 36) (tgt := 1459) h (by decide) (by decide) (op_36 h hc0 hi5 hR k0)
  | 37, _ => exact lm_in (k := 37) (tgt := 1472) h (by decide) (by decide) (op_37 h hc0 hi5 hR k0)
  | 38, _ => exact lm_in (k := 38) (tgt := 1509) h (by decide) (by decide) (op_38 h hc0 hi5 hR k0)
  | 39, _ => exact lm_in (k := 39) (tgt := 1522) h (by decide) (by decide) (op_39 h hc0 hi5 hR k0)
  | 40, _ => exact lm_in (k := 40) (tgt := 1547) h (by decide) (by decide) (op_40 h hc0 hi5 hR k0)
  | 41, _ => exact lm_in (k := 41) (tgt := 1560) h (by decide) (by decide) (op_41 h hc0 hi5 hR k0)
  | 42, _ => exact lm_in (k := 42) (tgt := 1585) h (by decide) (by decide) (op_42 h hc0 hi5 hR k0)
  | 43, _ => exact lm_in (k := 43) (tgt := 1610) h (by decide) (by decide) (op_43 h hc0 hi5 hR k0)
  | 44, _ => exact lm_in (k := 44) (tgt := 1623) h (by decide) (by decide) (op_44 h hc0 hi5 hR k0)
  | 45, _ => exact lm_in (k := 45) (tgt := 1648) h (by decide) (by decide) (op_45 h hc0 hi5 hR k0)
  | 46, _ => exact lm_in (k := 46) (tgt := 1661) h (by decide) (by decide) (op_46 h hc0 hi5 hR k0)
  | 47, _ => exact lm_in (k := 47) (tgt := 1674) h (by decide) (by decide) (op_47 h hc0 hi5 hR k0)
  | k + 48, hk => exact absurd hk (by omega)
theorem law_loop (h : LOk X) : ∀ (n i cells slots : Nat) (Mc Mr : Mem) (f : Nat → Int64), lxL X + 7 ≤ i + n → i ≤ lxL X + 6 → cells ≤ 100 + i → slots ≤ 30000 + 6 * i → Rel Mc Mr → LM X cells slots 23 i [] Mc Mr f [] := by
  have hL : lxL X ≤ 3072 := by
    obtain ⟨p, l, e, s, m, below, meth, c, G, adC, adM, o, cL, b, L, xs⟩ := X
    exact h.2.2.2.2.2.2.2.2.2.2.2.2.2.2.1
  intro n
  induction n with
  | zero => intro i cells slots Mc Mr f h1 h2; exact absurd h1 (by omega)
  | succ n ih =>
    intro i cells slots Mc Mr f h1 h2 hc hs hR
    refine lm_head h h2 (lm_exit h (by omega)) (fun hi z z0 z1 _ => ?_)
    have nx : ∀ c2 s2 Mc2 Mr2 f2, c2 ≤ cells + 1 → s2 ≤ slots + 6 → Rel Mc2 Mr2 → LM X c2 s2 1699 i [] Mc2 Mr2 f2 [] := fun c2 s2 Mc2 Mr2 f2 q1 q2 r => lm_next h (by omega) (ih (i + 6) c2 s2 Mc2 Mr2 f2 (by omega) (by omega) (by omega) (by omega) r)
    by_cases hz : z ≤ 47
    · have hk := law_step (f := f) h hi (by omega) hR nx z.toNat (by omega)
      rw [show ((z.toNat : Nat) : Int) = z by omega] at hk
      exact hk
    · exact lm_outr h (by omega) (nx _ _ _ _ _ (by omega) (by omega) hR)
end LMS
