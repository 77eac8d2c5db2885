/-! PART 98.l7: the law from its entry. -/
def eqE (a b : SkE) : Bool := a.1 == b.1 && (a.2.1 == b.2.1 && (if a.1 = 2 then a.2.2 == b.2.2 else if a.1 < 2 then true else (List.range a.2.1).all (fun k => !(codeOf (tyC (a.1 - 3) k) == 2) || a.2.2.getD k (-1) == b.2.2.getD k (-1))))
theorem cell_eqv {sk1 sk2 : Sk} {G : Geo} {M : Mem} {i : Nat} {a b : SkE} (h1 : sk1[i]? = some a) (h2 : sk2[i]? = some b) (he : eqE a b = true) : cellOf sk1 G M i = cellOf sk2 G M i := by
  obtain ⟨t, n, rs⟩ := a
  obtain ⟨t2, n2, rs2⟩ := b
  simp only [eqE, Bool.and_eq_true, beq_iff_eq] at he
  obtain ⟨rfl, rfl, he⟩ := he
  match t, h1, h2, he with
  | 0, h1, h2, _ => rw [cell_0 h1, cell_0 h2]
  | 1, h1, h2, _ => rw [cell_1 h1, cell_1 h2]
  | 2, h1, h2, he =>
    have he : rs = rs2 := by simpa using he
    subst he
    rw [cell_2 h1, cell_2 h2]
  | c + 3, h1, h2, he =>
    rw [cell_3 h1, cell_3 h2]
    rw [if_neg (by omega), if_neg (by omega)] at he
    congr 2
    apply List.map_congr_left
    intro k hk
    have h9 := List.all_eq_true.mp he k hk
    rw [show c + 3 - 3 = c by omega] at h9
    unfold fv
    by_cases h8 : codeOf (tyC c k) = 2
    · rw [if_pos h8, if_pos h8]
      have h7 : rs.getD k (-1) = rs2.getD k (-1) := by simpa [h8] using h9
      rw [h7]
    · rw [if_neg h8, if_neg h8]
theorem rend_fin {sk1 : Sk} {wd : Wd} {G : Geo} {ad ad' : Nat → Nat} {M M' : Mem} (hn : wd.2.1 = sk1.length) (hl : sk1.length ≤ wd.1.length) (he : (sk1.zip wd.1).all (fun q => eqE q.1 q.2) = true) (hs : skOk sk1 = true) (ha : ∀ i, i < sk1.length → ad' i = ad i) (hm : ∀ i, i < sk1.length → M' i = M i) : render wd (gW G ad') M' = render (wk sk1) (gW G ad) M := by
  unfold render
  show (List.range wd.2.1).map _ = (List.range sk1.length).map _
  rw [hn]
  apply List.map_congr_left
  intro i hi
  have hi := List.mem_range.mp hi
  have g1 : sk1[i]? = some sk1[i] := List.getElem?_eq_getElem hi
  have g2 : wd.1[i]? = some wd.1[i] := List.getElem?_eq_getElem (by omega)
  have g3 : eqE sk1[i] wd.1[i] = true := List.all_eq_true.mp he (sk1[i], wd.1[i]) (List.mem_of_getElem? (i := i) (by rw [List.getElem?_zip_eq_some]; exact ⟨g1, g2⟩))
  show (ad' i, _) = (ad i, _)
  rw [ha i hi, ← cell_eqv g1 g2 g3, cellOf_congr (hm i hi), cell_ad (ad := ad) (skOk_at hs) ha]
def skB : Sk := [(13, 17, [1, 3, 7, 9, 14, 15, 17, 19, 21, 23, 25, 28, 42, 45, 51, -1, -1]), (11, 4, [2, -1, -1, -1]), (0, 240, []), (9, 6, [4, 5, 6, -1, -1, -1]), (0, 4, []), (0, 40, []), (0, 27, []), (6, 2, [8, -1]), (0, 240, []), (7, 7, [10, 11, 12, 13, -1, -1, -1]), (0, 960, []), (0, 4, []), (0, 6, []), (0, 64, []), (0, 4, []), (5, 5, [16, -1, -1, -1, -1]), (0, 56, []), (5, 5, [18, -1, -1, -1, -1]), (0, 56, []), (5, 5, [20, -1, -1, -1, -1]), (0, 56, []), (8, 1, [22]), (0, 300, []), (8, 1, [24]), (0, 300, []), (3, 4, [26, 27, -1, -1]), (0, 2240, []), (0, 40, []), (12, 3, [29, -1, -1]), (2, 6, [30, 32, 34, 36, 38, 40]), (5, 5, [31, -1, -1, -1, -1]), (0, 56, []), (5, 5, [33, -1, -1, -1, -1]), (0, 56, []), (5, 5, [35, -1, -1, -1, -1]), (0, 56, []), (5, 5, [37, -1, -1, -1, -1]), (0, 56, []), (5, 5, [39, -1, -1, -1, -1]), (0, 56, []), (5, 5, [41, -1, -1, -1, -1]), (0, 56, []), (10, 3, [43, 44, -1]), (0, 27, []), (0, 6, []), (4, 7, [46, 47, 48, 49, 50, -1, -1]), (0, 10, []), (1, 10, []), (0, 10, []), (0, 10, []), (1, 10, []), (0, 5, [])]
def skD : Sk := [(14, 46, [-1, 1, -1, -1, -1, -1, 2, 3, 4, 5, 6, 7, 8, -1, -1, 9, 10, 11, 12, 13, -1, -1, 14, 15, -1, -1, 16, 17, -1, -1, 18, -1, -1, 19, -1, -1, 20, 21, -1, 22, 23, 24, 25, -1, 26, -1]), (0, 240, []), (0, 2600, []), (0, 2600, []), (0, 5, []), (0, 5, []), (0, 700, []), (0, 700, []), (0, 700, []), (0, 6, []), (0, 80, []), (0, 4, []), (0, 40, []), (0, 27, []), (0, 4, []), (0, 27, []), (0, 231, []), (0, 5, []), (0, 9240, []), (0, 350, []), (0, 10, []), (1, 10, []), (0, 6, []), (0, 10, []), (0, 10, []), (1, 10, []), (0, 231, [])]
theorem M0_B : ∀ i, i < skB.length → M0C i = mz [(0, 15, 5), (1, 3, -1), (9, 6, -1)] i := fun i hi => by
  funext k
  exact if_pos (show i < 52 from hi)
theorem e_B : (skB.zip wC.1).all (fun q => eqE q.1 q.2) = true := by decide +kernel
theorem e_D : (skD.zip wM.1).all (fun q => eqE q.1 q.2) = true := by decide +kernel
theorem kl_L8 : Cond.classLink RL 8 RX10 ∈ TBL := tbl_mem 116 (by decide +kernel) (by decide +kernel)
theorem kl_L16 : Cond.classLink RL 16 RX11 ∈ TBL := tbl_mem 1228 (by decide +kernel) (by decide +kernel)
theorem ki_L10 : Cond.instantiable RX10 17 ∈ TBL := tbl_mem 117 (by decide +kernel) (by decide +kernel)
theorem ki_L11 : Cond.instantiable RX11 46 ∈ TBL := tbl_mem 1229 (by decide +kernel) (by decide +kernel)
theorem km_L15 : Cond.methodLink RL 15 yX10_init ∈ TBL := tbl_mem 118 (by decide +kernel) (by decide +kernel)
theorem km_L18 : Cond.methodLink RL 18 yX11_init ∈ TBL := tbl_mem 1230 (by decide +kernel) (by decide +kernel)
theorem kc_B : Cond.code yX10_init cX10_init 1 none ∈ TBL := tbl_mem 120 (by decide +kernel) (by decide +kernel)
theorem kc_D : Cond.code yX11_init cX11_init 1 none ∈ TBL := tbl_mem 1232 (by decide +kernel) (by decide +kernel)
theorem kn_B : Cond.instanceMethod yX10_init ∈ TBL := tbl_mem 119 (by decide +kernel) (by decide +kernel)
theorem kn_D : Cond.instanceMethod yX11_init ∈ TBL := tbl_mem 1231 (by decide +kernel) (by decide +kernel)
theorem ka_long : Cond.arrayClass .long ∈ TBL := tbl_mem 1847 (by decide +kernel) (by decide +kernel)
theorem ex_at {s : State} {b : Nat} (hts : ∀ w ∈ lw_tbl, w.before #[Value.ref b] s = true) (hs : ∀ w ∈ flatC (Cond.and given_1 narrow_1), w.before #[Value.ref b] s = true) : exU (nwA s) s s.heap := by
  have hA : ∀ a : Nat, a < s.heap.size → ¬ nwA s a := fun a h1 h2 => Nat.lt_irrefl a (Nat.lt_of_lt_of_le h1 h2)
  have hx : (Cond.exactly (.string "BlackMill" 161) "java/lang/String").before #[Value.ref b] s = true := hs _ (by decide +kernel)
  obtain ⟨a, c, cA, kA, q1, -⟩ := Cond.exactly_spec (args := #[Value.ref b]) (first := s) (o := none) (s := s) (idx := []) (t := .string "BlackMill" 161) (cls := "java/lang/String") hx
  refine ⟨⟨a, vk_R.of (A := #[Value.ref b]) (hts (.stringRef "BlackMill" 161 "no such lad") (List.mem_of_getElem? (i := 1201) (by decide +kernel))) q1⟩, ?_, ?_, fun w hw => va_tabs (nxB_on hw) rfl (hts w (of_decide_eq_true (List.all_eq_true.mp lad_w0 w (List.mem_filter.mp hw).1)))⟩
  · exact vx_Zqof (args := #[Value.ref b]) (hts (.laysStatic "java/lang/Throwable" "UNASSIGNED_STACK" "[Ljava/lang/StackTraceElement;") (List.mem_of_getElem? (i := 1189) (by decide +kernel))) (hts (.initialized "java/lang/Throwable") (List.mem_of_getElem? (i := 110) (by decide +kernel))) (hs _ (by decide +kernel)) hA
  · exact vx_Zqof (args := #[Value.ref b]) (hts (.laysStatic "java/lang/Throwable" "SUPPRESSED_SENTINEL" "Ljava/util/List;") (List.mem_of_getElem? (i := 1191) (by decide +kernel))) (hts (.initialized "java/lang/Throwable") (List.mem_of_getElem? (i := 110) (by decide +kernel))) (hs _ (by decide +kernel)) hA
