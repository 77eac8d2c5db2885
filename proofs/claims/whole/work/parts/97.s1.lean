/-! PART 97.s1: what holds at the law's entry. -/
def M0C : Mem := fun i k => if i < 52 then mz [(0, 15, 5), (1, 3, -1), (9, 6, -1)] i k else ((staV.find? (fun q => q.1 == i)).map (fun q => q.2.getD k 0)).getD 0
def M0R : Mem := mz [(0, 29, 5), (0, 28, -1)]
abbrev nwA (s : State) : Nat → Prop := fun q => s.heap.size ≤ q
section
variable {s : State} {b : Nat}
theorem TBL_at (hts : ∀ w ∈ lw_tbl, w.before #[Value.ref b] s = true) : ∀ w ∈ TBL, w.before #[Value.ref b] s = true := fun w hw => hts w (List.mem_filter.mp hw).1
theorem NW_at (hts : ∀ w ∈ lw_tbl, w.before #[Value.ref b] s = true) : ∀ w ∈ NW, va_Nw w s := fun w hw => va_tabs (nw_on w hw) rfl (hts w (List.mem_append_right _ (List.mem_filter.mp hw).1))
theorem AO_at (hts : ∀ w ∈ lw_tbl, w.before #[Value.ref b] s = true) : va_AO "BlackMill$House" s := va_AO.of (hts (.arrayOver (.object "BlackMill$House")) (List.mem_of_getElem? (i := 290) (by decide +kernel)))
theorem arr_at {ty : FieldType} (hp : ∀ C, ¬ ty = .object C) (h : (Cond.arrayClass ty).before #[Value.ref b] s = true) : ∃ c : ClassId, ArrOfT s c ty ∧ va_RA s c ty := by
  obtain ⟨c, k, comp, h1, h2, h3⟩ := Cond.arrayClass_spec h
  refine ⟨c, fun n z => ⟨fun k h => (by cases h), k, h2, comp, h3⟩, ?_⟩
  unfold va_RA
  cases ty <;> first | exact h1 | exact absurd rfl (hp _)
theorem K_at (hts : ∀ w ∈ lw_tbl, w.before #[Value.ref b] s = true) : ∃ G : Geo, va_K (gD G) vwCl (gTys G) s := by
  have hT := TBL_at hts
  have h0 : ∀ k : Nat, ∃ q : ClassId × (Nat → Nat), ∀ r : vw_C, vwCl[k]? = some r → u_Kn s r.1 r.2.1 r.2.2 q.1 q.2 := by
    intro k
    cases hk : vwCl[k]? with
    | none => exact ⟨(0, fun _ => 0), fun r h => by cases h⟩
    | some r =>
      obtain ⟨C, T, N⟩ := r
      have hi : ∃ n, (Cond.instantiable C n).before #[Value.ref b] s = true := by
        match k, hk with

        | 0, hk => cases hk; exact ⟨4, hts (.instantiable RX0 4) (List.mem_of_getElem? (i := 264) (by decide +kernel))⟩
        | 1, hk => cases hk; exact ⟨7, hts (.instantiable RX1 7) (List.mem_of_getElem? (i := 323) (by decide +kernel))⟩
        | 2, hk => cases hk; exact ⟨5, hts (.instantiable RX2 5) (List.mem_of_getElem? (i := 225) (by decide +kernel))⟩
        | 3, hk => cases hk; exact ⟨2, hts (.instantiable RX3 2) (List.mem_of_getElem? (i := 180) (by decide +kernel))⟩
        | 4, hk => cases hk; exact ⟨7, hts (.instantiable RX4 7) (List.mem_of_getElem? (i := 195) (by decide +kernel))⟩
        | 5, hk => cases hk; exact ⟨1, hts (.instantiable RX5 1) (List.mem_of_getElem? (i := 254) (by decide +kernel))⟩
        | 6, hk => cases hk; exact ⟨6, hts (.instantiable RX6 6) (List.mem_of_getElem? (i := 150) (by decide +kernel))⟩
        | 7, hk => cases hk; exact ⟨3, hts (.instantiable RX7 3) (List.mem_of_getElem? (i := 305) (by decide +kernel))⟩
        | 8, hk => cases hk; exact ⟨4, hts (.instantiable RX8 4) (List.mem_of_getElem? (i := 125) (by decide +kernel))⟩
        | 9, hk => cases hk; exact ⟨3, hts (.instantiable RX9 3) (List.mem_of_getElem? (i := 284) (by decide +kernel))⟩
        | 10, hk => cases hk; exact ⟨17, hts (.instantiable RX10 17) (List.mem_of_getElem? (i := 117) (by decide +kernel))⟩
        | 11, hk => cases hk; exact ⟨46, hts (.instantiable RX11 46) (List.mem_of_getElem? (i := 1229) (by decide +kernel))⟩
        | k + 12, hk => simp [vwCl] at hk
      obtain ⟨n, hi⟩ := hi
      obtain ⟨c, iS, hKn⟩ := u_known (n := n) hT (lays_in k C T N hk) hi
      exact ⟨(c, iS), fun r h => by cases h; exact hKn⟩
  obtain ⟨f, hf⟩ := Classical.axiomOfChoice h0
  obtain ⟨c1, a1, b1⟩ := arr_at (ty := .int) (fun C h => by cases h) (hts (.arrayClass .int) (List.mem_of_getElem? (i := 148) (by decide +kernel)))
  obtain ⟨c2, a2, b2⟩ := arr_at (ty := .boolean) (fun C h => by cases h) (hts (.arrayClass .boolean) (List.mem_of_getElem? (i := 352) (by decide +kernel)))
  obtain ⟨comp, c3, k3, g1, -, g3, g4, g5⟩ := Cond.arrayOver_spec (va_AO.use (A := #[Value.ref b]) (AO_at hts))
  refine ⟨(fun k => (f k).1, fun k => (f k).2, c1, c2, c3, fun _ => 0), fun c q hq => hf c q hq, fun k q hq => ?_⟩
  match k, hq with
  | 0, hq => cases hq; exact ⟨a1, b1⟩
  | 1, hq => cases hq; exact ⟨a2, b2⟩
  | 2, hq => cases hq; exact ⟨fun n z => ⟨fun k h => (by cases h), k3, g3, comp, g4⟩, k3, comp, g3, g4, g1, g5⟩
  | k + 3, hq => simp at hq
theorem row_at {C n : String} {N i : Nat} (hN : N < 2 ^ 31) (h1 : (Cond.laysStatic C n "[I").before #[Value.ref b] s = true) (h2 : (Cond.initialized C).before #[Value.ref b] s = true) (h3 : (Cond.arrayOf (.static C n "[I") .int).before #[Value.ref b] s = true) (h4 : (Cond.eq (.length (.static C n "[I")) (.int (Int32.ofNat N))).before #[Value.ref b] s = true) (h5 : ∀ j, j < N → (Cond.eq (.elem (.static C n "[I") (.int (Int32.ofNat j))) (.int (Int32.ofInt (M0C i j)))).before #[Value.ref b] s = true) : ∃ t : Nat, va_Z C n "[I" (.ref t) (nwA s) s s.heap ∧ va_T .int t N (fun j => .int (Int32.ofInt (M0C i j))) (nwA s) s s.heap := by
  have hA : ∀ a : Nat, a < s.heap.size → ¬ nwA s a := fun a h1 h2 => Nat.lt_irrefl a (Nat.lt_of_lt_of_le h1 h2)
  obtain ⟨t, e1, e2⟩ := va_Tof (A := nwA s) hN h3 (va_eqt h4) (fun j hj => va_eqt (h5 j hj)) hA
  exact ⟨t, va_Zof h1 h2 e1 hA, e2⟩
theorem row_52 (hts : ∀ w ∈ lw_tbl, w.before #[Value.ref b] s = true) (hs : ∀ w ∈ flatC (Cond.and given_1 narrow_1), w.before #[Value.ref b] s = true) : ∃ t : Nat, va_Z "BlackMill$MillText" "MASTER_LEAST" "[I" (.ref t) (nwA s) s s.heap ∧ va_T .int t 4 (fun j => .int (Int32.ofInt (M0C 52 j))) (nwA s) s s.heap := by
  refine row_at (by decide) (hts (.laysStatic "BlackMill$MillText" "MASTER_LEAST" "[I") (List.mem_of_getElem? (i := 457) (by decide +kernel))) (hts (.initialized "BlackMill$MillText") (List.mem_of_getElem? (i := 95) (by decide +kernel))) (hs _ (by decide +kernel)) (hs _ (by decide +kernel)) (fun j hj => ?_)
  match j, hj with
  | 0, _ => exact hs _ (by decide +kernel)
  | 1, _ => exact hs _ (by decide +kernel)
  | 2, _ => exact hs _ (by decide +kernel)
  | 3, _ => exact hs _ (by decide +kernel)
  | j + 4, hj => exact absurd hj (by omega)
theorem row_53 (hts : ∀ w ∈ lw_tbl, w.before #[Value.ref b] s = true) (hs : ∀ w ∈ flatC (Cond.and given_1 narrow_1), w.before #[Value.ref b] s = true) : ∃ t : Nat, va_Z "BlackMill$MillText" "MASTER_MOST" "[I" (.ref t) (nwA s) s s.heap ∧ va_T .int t 4 (fun j => .int (Int32.ofInt (M0C 53 j))) (nwA s) s s.heap := by
  refine row_at (by decide) (hts (.laysStatic "BlackMill$MillText" "MASTER_MOST" "[I") (List.mem_of_getElem? (i := 459) (by decide +kernel))) (hts (.initialized "BlackMill$MillText") (List.mem_of_getElem? (i := 95) (by decide +kernel))) (hs _ (by decide +kernel)) (hs _ (by decide +kernel)) (fun j hj => ?_)
  match j, hj with
  | 0, _ => exact hs _ (by decide +kernel)
  | 1, _ => exact hs _ (by decide +kernel)
  | 2, _ => exact hs _ (by decide +kernel)
  | 3, _ => exact hs _ (by decide +kernel)
  | j + 4, hj => exact absurd hj (by omega)
theorem row_54 (hts : ∀ w ∈ lw_tbl, w.before #[Value.ref b] s = true) (hs : ∀ w ∈ flatC (Cond.and given_1 narrow_1), w.before #[Value.ref b] s = true) : ∃ t : Nat, va_Z "BlackMill$MillText" "MASTER_USUAL" "[I" (.ref t) (nwA s) s s.heap ∧ va_T .int t 4 (fun j => .int (Int32.ofInt (M0C 54 j))) (nwA s) s s.heap := by
  refine row_at (by decide) (hts (.laysStatic "BlackMill$MillText" "MASTER_USUAL" "[I") (List.mem_of_getElem? (i := 436) (by decide +kernel))) (hts (.initialized "BlackMill$MillText") (List.mem_of_getElem? (i := 95) (by decide +kernel))) (hs _ (by decide +kernel)) (hs _ (by decide +kernel)) (fun j hj => ?_)
  match j, hj with
  | 0, _ => exact hs _ (by decide +kernel)
  | 1, _ => exact hs _ (by decide +kernel)
  | 2, _ => exact hs _ (by decide +kernel)
  | 3, _ => exact hs _ (by decide +kernel)
  | j + 4, hj => exact absurd hj (by omega)
theorem row_55 (hts : ∀ w ∈ lw_tbl, w.before #[Value.ref b] s = true) (hs : ∀ w ∈ flatC (Cond.and given_1 narrow_1), w.before #[Value.ref b] s = true) : ∃ t : Nat, va_Z "BlackMill$MillText" "LAD_LEAST" "[I" (.ref t) (nwA s) s s.heap ∧ va_T .int t 5 (fun j => .int (Int32.ofInt (M0C 55 j))) (nwA s) s s.heap := by
  refine row_at (by decide) (hts (.laysStatic "BlackMill$MillText" "LAD_LEAST" "[I") (List.mem_of_getElem? (i := 541) (by decide +kernel))) (hts (.initialized "BlackMill$MillText") (List.mem_of_getElem? (i := 95) (by decide +kernel))) (hs _ (by decide +kernel)) (hs _ (by decide +kernel)) (fun j hj => ?_)
  match j, hj with
  | 0, _ => exact hs _ (by decide +kernel)
  | 1, _ => exact hs _ (by decide +kernel)
  | 2, _ => exact hs _ (by decide +kernel)
  | 3, _ => exact hs _ (by decide +kernel)
  | 4, _ => exact hs _ (by decide +kernel)
  | j + 5, hj => exact absurd hj (by omega)
theorem row_56 (hts : ∀ w ∈ lw_tbl, w.before #[Value.ref b] s = true) (hs : ∀ w ∈ flatC (Cond.and given_1 narrow_1), w.before #[Value.ref b] s = true) : ∃ t : Nat, va_Z "BlackMill$MillText" "LAD_MOST" "[I" (.ref t) (nwA s) s s.heap ∧ va_T .int t 5 (fun j => .int (Int32.ofInt (M0C 56 j))) (nwA s) s s.heap := by
  refine row_at (by decide) (hts (.laysStatic "BlackMill$MillText" "LAD_MOST" "[I") (List.mem_of_getElem? (i := 543) (by decide +kernel))) (hts (.initialized "BlackMill$MillText") (List.mem_of_getElem? (i := 95) (by decide +kernel))) (hs _ (by decide +kernel)) (hs _ (by decide +kernel)) (fun j hj => ?_)
  match j, hj with
  | 0, _ => exact hs _ (by decide +kernel)
  | 1, _ => exact hs _ (by decide +kernel)
  | 2, _ => exact hs _ (by decide +kernel)
  | 3, _ => exact hs _ (by decide +kernel)
  | 4, _ => exact hs _ (by decide +kernel)
  | j + 5, hj => exact absurd hj (by omega)
theorem row_57 (hts : ∀ w ∈ lw_tbl, w.before #[Value.ref b] s = true) (hs : ∀ w ∈ flatC (Cond.and given_1 narrow_1), w.before #[Value.ref b] s = true) : ∃ t : Nat, va_Z "BlackMill$MillText" "LAD_USUAL" "[I" (.ref t) (nwA s) s s.heap ∧ va_T .int t 5 (fun j => .int (Int32.ofInt (M0C 57 j))) (nwA s) s s.heap := by
  refine row_at (by decide) (hts (.laysStatic "BlackMill$MillText" "LAD_USUAL" "[I") (List.mem_of_getElem? (i := 538) (by decide +kernel))) (hts (.initialized "BlackMill$MillText") (List.mem_of_getElem? (i := 95) (by decide +kernel))) (hs _ (by decide +kernel)) (hs _ (by decide +kernel)) (fun j hj => ?_)
  match j, hj with
  | 0, _ => exact hs _ (by decide +kernel)
  | 1, _ => exact hs _ (by decide +kernel)
  | 2, _ => exact hs _ (by decide +kernel)
  | 3, _ => exact hs _ (by decide +kernel)
  | 4, _ => exact hs _ (by decide +kernel)
  | j + 5, hj => exact absurd hj (by omega)
theorem row_58 (hts : ∀ w ∈ lw_tbl, w.before #[Value.ref b] s = true) (hs : ∀ w ∈ flatC (Cond.and given_1 narrow_1), w.before #[Value.ref b] s = true) : ∃ t : Nat, va_Z "BlackMill$MillText" "WAY_LEAST" "[I" (.ref t) (nwA s) s s.heap ∧ va_T .int t 3 (fun j => .int (Int32.ofInt (M0C 58 j))) (nwA s) s s.heap := by
  refine row_at (by decide) (hts (.laysStatic "BlackMill$MillText" "WAY_LEAST" "[I") (List.mem_of_getElem? (i := 548) (by decide +kernel))) (hts (.initialized "BlackMill$MillText") (List.mem_of_getElem? (i := 95) (by decide +kernel))) (hs _ (by decide +kernel)) (hs _ (by decide +kernel)) (fun j hj => ?_)
  match j, hj with
  | 0, _ => exact hs _ (by decide +kernel)
  | 1, _ => exact hs _ (by decide +kernel)
  | 2, _ => exact hs _ (by decide +kernel)
  | j + 3, hj => exact absurd hj (by omega)
theorem row_59 (hts : ∀ w ∈ lw_tbl, w.before #[Value.ref b] s = true) (hs : ∀ w ∈ flatC (Cond.and given_1 narrow_1), w.before #[Value.ref b] s = true) : ∃ t : Nat, va_Z "BlackMill$MillText" "WAY_MOST" "[I" (.ref t) (nwA s) s s.heap ∧ va_T .int t 3 (fun j => .int (Int32.ofInt (M0C 59 j))) (nwA s) s s.heap := by
  refine row_at (by decide) (hts (.laysStatic "BlackMill$MillText" "WAY_MOST" "[I") (List.mem_of_getElem? (i := 550) (by decide +kernel))) (hts (.initialized "BlackMill$MillText") (List.mem_of_getElem? (i := 95) (by decide +kernel))) (hs _ (by decide +kernel)) (hs _ (by decide +kernel)) (fun j hj => ?_)
  match j, hj with
  | 0, _ => exact hs _ (by decide +kernel)
  | 1, _ => exact hs _ (by decide +kernel)
  | 2, _ => exact hs _ (by decide +kernel)
  | j + 3, hj => exact absurd hj (by omega)
theorem row_60 (hts : ∀ w ∈ lw_tbl, w.before #[Value.ref b] s = true) (hs : ∀ w ∈ flatC (Cond.and given_1 narrow_1), w.before #[Value.ref b] s = true) : ∃ t : Nat, va_Z "BlackMill$MillText" "WAY_USUAL" "[I" (.ref t) (nwA s) s s.heap ∧ va_T .int t 3 (fun j => .int (Int32.ofInt (M0C 60 j))) (nwA s) s s.heap := by
  refine row_at (by decide) (hts (.laysStatic "BlackMill$MillText" "WAY_USUAL" "[I") (List.mem_of_getElem? (i := 545) (by decide +kernel))) (hts (.initialized "BlackMill$MillText") (List.mem_of_getElem? (i := 95) (by decide +kernel))) (hs _ (by decide +kernel)) (hs _ (by decide +kernel)) (fun j hj => ?_)
  match j, hj with
  | 0, _ => exact hs _ (by decide +kernel)
  | 1, _ => exact hs _ (by decide +kernel)
  | 2, _ => exact hs _ (by decide +kernel)
  | j + 3, hj => exact absurd hj (by omega)
theorem row_61 (hts : ∀ w ∈ lw_tbl, w.before #[Value.ref b] s = true) (hs : ∀ w ∈ flatC (Cond.and given_1 narrow_1), w.before #[Value.ref b] s = true) : ∃ t : Nat, va_Z "BlackMill$House" "FACTORIALS" "[I" (.ref t) (nwA s) s s.heap ∧ va_T .int t 5 (fun j => .int (Int32.ofInt (M0C 61 j))) (nwA s) s s.heap := by
  refine row_at (by decide) (hts (.laysStatic "BlackMill$House" "FACTORIALS" "[I") (List.mem_of_getElem? (i := 1109) (by decide +kernel))) (hts (.initialized "BlackMill$House") (List.mem_of_getElem? (i := 98) (by decide +kernel))) (hs _ (by decide +kernel)) (hs _ (by decide +kernel)) (fun j hj => ?_)
  match j, hj with
  | 0, _ => exact hs _ (by decide +kernel)
  | 1, _ => exact hs _ (by decide +kernel)
  | 2, _ => exact hs _ (by decide +kernel)
  | 3, _ => exact hs _ (by decide +kernel)
  | 4, _ => exact hs _ (by decide +kernel)
  | j + 5, hj => exact absurd hj (by omega)
def tmS : Nat → Term := fun i => match i with
  | 0 => .string "BlackMill$MillText" 72
  | 1 => .string "BlackMill$MillText" 87
  | 2 => .string "BlackMill$MillText" 98
  | _ => .string "BlackMill$LawText" 89
set_option maxRecDepth 20000 in
theorem str_at (hs : ∀ w ∈ flatC (Cond.and given_1 narrow_1), w.before #[Value.ref b] s = true) : ∃ adK adV : Nat → Nat, vk_S 4 lenS bytS adK adV (nwA s) s s.heap ∧ ∀ i, i < 4 → (tmS i).eval #[Value.ref b] s none [] s = some (.ref (adK i)) := by
  have hA : ∀ a : Nat, a < s.heap.size → ¬ nwA s a := fun a h1 h2 => Nat.lt_irrefl a (Nat.lt_of_lt_of_le h1 h2)
  refine vk_Sof (args := #[Value.ref b]) ?_ ?_ ?_ ?_ ?_ ?_ ?_ hA
  · intro i hi
    match i, hi with
    | 0, _ => decide
    | 1, _ => decide
    | 2, _ => decide
    | 3, _ => decide
    | i + 4, hi => exact absurd hi (by omega)
  · intro i hi
    match i, hi with
    | 0, _ => exact hs _ (by decide +kernel)
    | 1, _ => exact hs _ (by decide +kernel)
    | 2, _ => exact hs _ (by decide +kernel)
    | 3, _ => exact hs _ (by decide +kernel)
    | i + 4, hi => exact absurd hi (by omega)
  · intro i hi
    match i, hi with
    | 0, _ => exact hs _ (by decide +kernel)
    | 1, _ => exact hs _ (by decide +kernel)
    | 2, _ => exact hs _ (by decide +kernel)
    | 3, _ => exact hs _ (by decide +kernel)
    | i + 4, hi => exact absurd hi (by omega)
  · intro i hi
    match i, hi with
    | 0, _ => exact hs _ (by decide +kernel)
    | 1, _ => exact hs _ (by decide +kernel)
    | 2, _ => exact hs _ (by decide +kernel)
    | 3, _ => exact hs _ (by decide +kernel)
    | i + 4, hi => exact absurd hi (by omega)
  · intro i hi
    match i, hi with
    | 0, _ => exact hs _ (by decide +kernel)
    | 1, _ => exact hs _ (by decide +kernel)
    | 2, _ => exact hs _ (by decide +kernel)
    | 3, _ => exact hs _ (by decide +kernel)
    | i + 4, hi => exact absurd hi (by omega)
  · intro i hi j hj
    match i, hi with
    | 0, _ =>
      match j, hj with
      | 0, _ => exact hs _ (by decide +kernel)
      | 1, _ => exact hs _ (by decide +kernel)
      | 2, _ => exact hs _ (by decide +kernel)
      | 3, _ => exact hs _ (by decide +kernel)
      | j + 4, hj => exact absurd (show j + 4 < 4 from hj) (by omega)
    | 1, _ =>
      match j, hj with
      | 0, _ => exact hs _ (by decide +kernel)
      | 1, _ => exact hs _ (by decide +kernel)
      | 2, _ => exact hs _ (by decide +kernel)
      | 3, _ => exact hs _ (by decide +kernel)
      | 4, _ => exact hs _ (by decide +kernel)
      | j + 5, hj => exact absurd (show j + 5 < 5 from hj) (by omega)
    | 2, _ =>
      match j, hj with
      | 0, _ => exact hs _ (by decide +kernel)
      | 1, _ => exact hs _ (by decide +kernel)
      | 2, _ => exact hs _ (by decide +kernel)
      | j + 3, hj => exact absurd (show j + 3 < 3 from hj) (by omega)
    | 3, _ =>
      match j, hj with
      | 0, _ => exact hs _ (by decide +kernel)
      | 1, _ => exact hs _ (by decide +kernel)
      | 2, _ => exact hs _ (by decide +kernel)
      | 3, _ => exact hs _ (by decide +kernel)
      | 4, _ => exact hs _ (by decide +kernel)
      | 5, _ => exact hs _ (by decide +kernel)
      | j + 6, hj => exact absurd (show j + 6 < 6 from hj) (by omega)
    | i + 4, hi => exact absurd hi (by omega)
  · intro i j hi hj hij
    match i, j, hi, hj, hij with
    | 0, 0, _, _, h => exact absurd rfl h
    | 0, 1, _, _, _ => first | exact Or.inl (hs _ (by decide +kernel)) | exact Or.inr (hs _ (by decide +kernel))
    | 0, 2, _, _, _ => first | exact Or.inl (hs _ (by decide +kernel)) | exact Or.inr (hs _ (by decide +kernel))
    | 0, 3, _, _, _ => first | exact Or.inl (hs _ (by decide +kernel)) | exact Or.inr (hs _ (by decide +kernel))
    | 1, 0, _, _, _ => first | exact Or.inl (hs _ (by decide +kernel)) | exact Or.inr (hs _ (by decide +kernel))
    | 1, 1, _, _, h => exact absurd rfl h
    | 1, 2, _, _, _ => first | exact Or.inl (hs _ (by decide +kernel)) | exact Or.inr (hs _ (by decide +kernel))
    | 1, 3, _, _, _ => first | exact Or.inl (hs _ (by decide +kernel)) | exact Or.inr (hs _ (by decide +kernel))
    | 2, 0, _, _, _ => first | exact Or.inl (hs _ (by decide +kernel)) | exact Or.inr (hs _ (by decide +kernel))
    | 2, 1, _, _, _ => first | exact Or.inl (hs _ (by decide +kernel)) | exact Or.inr (hs _ (by decide +kernel))
    | 2, 2, _, _, h => exact absurd rfl h
    | 2, 3, _, _, _ => first | exact Or.inl (hs _ (by decide +kernel)) | exact Or.inr (hs _ (by decide +kernel))
    | 3, 0, _, _, _ => first | exact Or.inl (hs _ (by decide +kernel)) | exact Or.inr (hs _ (by decide +kernel))
    | 3, 1, _, _, _ => first | exact Or.inl (hs _ (by decide +kernel)) | exact Or.inr (hs _ (by decide +kernel))
    | 3, 2, _, _, _ => first | exact Or.inl (hs _ (by decide +kernel)) | exact Or.inr (hs _ (by decide +kernel))
    | 3, 3, _, _, h => exact absurd rfl h
    | i + 4, _, hi, _, _ => exact absurd hi (by omega)
    | _, j + 4, _, hj, _ => exact absurd hj (by omega)
theorem rx_at (hts : ∀ w ∈ lw_tbl, w.before #[Value.ref b] s = true) (hs : ∀ w ∈ flatC (Cond.and given_1 narrow_1), w.before #[Value.ref b] s = true) : ∃ adK adV : Nat → Nat, vk_S 4 lenS bytS adK adV (nwA s) s s.heap ∧ vk_R "BlackMill$MillText" 72 "plhy" (adK 0) s ∧ vk_R "BlackMill$MillText" 87 "askfo" (adK 1) s ∧ vk_R "BlackMill$MillText" 98 "abh" (adK 2) s ∧ vk_R "BlackMill$LawText" 89 "askoyn" (adK 3) s ∧ va_Z "java/lang/String" "COMPACT_STRINGS" "Z" (.int 1) (nwA s) s s.heap ∧ va_Zq "jdk/internal/util/Preconditions" "SIOOBE_FORMATTER" "Ljava/util/function/BiFunction;" (nwA s) s s.heap := by
  have hA : ∀ a : Nat, a < s.heap.size → ¬ nwA s a := fun a h1 h2 => Nat.lt_irrefl a (Nat.lt_of_lt_of_le h1 h2)
  obtain ⟨adK, adV, h1, h2⟩ := str_at hs
  refine ⟨adK, adV, h1, ?_, ?_, ?_, ?_, ?_, ?_⟩
  · exact vk_R.of (A := #[Value.ref b]) (hts (.stringRef "BlackMill$MillText" 72 "plhy") (List.mem_of_getElem? (i := 455) (by decide +kernel))) (h2 0 (by decide))
  · exact vk_R.of (A := #[Value.ref b]) (hts (.stringRef "BlackMill$MillText" 87 "askfo") (List.mem_of_getElem? (i := 539) (by decide +kernel))) (h2 1 (by decide))
  · exact vk_R.of (A := #[Value.ref b]) (hts (.stringRef "BlackMill$MillText" 98 "abh") (List.mem_of_getElem? (i := 546) (by decide +kernel))) (h2 2 (by decide))
  · exact vk_R.of (A := #[Value.ref b]) (hts (.stringRef "BlackMill$LawText" 89 "askoyn") (List.mem_of_getElem? (i := 591) (by decide +kernel))) (h2 3 (by decide))
  · exact va_Zof (args := #[Value.ref b]) (hts (.laysStatic "java/lang/String" "COMPACT_STRINGS" "Z") (List.mem_of_getElem? (i := 472) (by decide +kernel))) (hts (.initialized "java/lang/String") (List.mem_of_getElem? (i := 106) (by decide +kernel))) (va_eqt (hs _ (by decide +kernel))) hA
  · exact va_Zqof (args := #[Value.ref b]) (hts (.laysStatic "jdk/internal/util/Preconditions" "SIOOBE_FORMATTER" "Ljava/util/function/BiFunction;") (List.mem_of_getElem? (i := 492) (by decide +kernel))) (hts (.initialized "jdk/internal/util/Preconditions") (List.mem_of_getElem? (i := 108) (by decide +kernel))) (hs _ (by decide +kernel)) hA
theorem RO_at (hts : ∀ w ∈ lw_tbl, w.before #[Value.ref b] s = true) (hs : ∀ w ∈ flatC (Cond.and given_1 narrow_1), w.before #[Value.ref b] s = true) : ∃ adS : Nat → Nat, ∀ G : Geo, (∀ i, 52 ≤ i → gad G i = adS i) → (∀ q, gA wC G q → s.heap.size ≤ q) → RO wC G M0C s s.heap := by
  obtain ⟨t52, z52, y52⟩ := row_52 hts hs
  obtain ⟨t53, z53, y53⟩ := row_53 hts hs
  obtain ⟨t54, z54, y54⟩ := row_54 hts hs
  obtain ⟨t55, z55, y55⟩ := row_55 hts hs
  obtain ⟨t56, z56, y56⟩ := row_56 hts hs
  obtain ⟨t57, z57, y57⟩ := row_57 hts hs
  obtain ⟨t58, z58, y58⟩ := row_58 hts hs
  obtain ⟨t59, z59, y59⟩ := row_59 hts hs
  obtain ⟨t60, z60, y60⟩ := row_60 hts hs
  obtain ⟨t61, z61, y61⟩ := row_61 hts hs
  obtain ⟨adK, adV, g1, g2, g3, g4, g5, g6, g7⟩ := rx_at hts hs
  refine ⟨fun i => if i = 52 then t52 else if i = 53 then t53 else if i = 54 then t54 else if i = 55 then t55 else if i = 56 then t56 else if i = 57 then t57 else if i = 58 then t58 else if i = 59 then t59 else if i = 60 then t60 else if i = 61 then t61 else if i < 66 then adK (i - 62) else adV (i - 66), fun G hG hA => ⟨NW_at hts, ?_, ?_⟩⟩
  · intro q hq
    simp only [wC, stC, List.mem_cons, List.not_mem_nil, or_false] at hq
    rcases hq with rfl | rfl | rfl | rfl | rfl | rfl | rfl | rfl | rfl | rfl

    · have e : gad G 52 = t52 := hG 52 (by decide)
      exact ⟨by decide, by rw [e]; exact z52.narrow hA, by rw [e]; exact y52.narrow hA⟩
    · have e : gad G 53 = t53 := hG 53 (by decide)
      exact ⟨by decide, by rw [e]; exact z53.narrow hA, by rw [e]; exact y53.narrow hA⟩
    · have e : gad G 54 = t54 := hG 54 (by decide)
      exact ⟨by decide, by rw [e]; exact z54.narrow hA, by rw [e]; exact y54.narrow hA⟩
    · have e : gad G 55 = t55 := hG 55 (by decide)
      exact ⟨by decide, by rw [e]; exact z55.narrow hA, by rw [e]; exact y55.narrow hA⟩
    · have e : gad G 56 = t56 := hG 56 (by decide)
      exact ⟨by decide, by rw [e]; exact z56.narrow hA, by rw [e]; exact y56.narrow hA⟩
    · have e : gad G 57 = t57 := hG 57 (by decide)
      exact ⟨by decide, by rw [e]; exact z57.narrow hA, by rw [e]; exact y57.narrow hA⟩
    · have e : gad G 58 = t58 := hG 58 (by decide)
      exact ⟨by decide, by rw [e]; exact z58.narrow hA, by rw [e]; exact y58.narrow hA⟩
    · have e : gad G 59 = t59 := hG 59 (by decide)
      exact ⟨by decide, by rw [e]; exact z59.narrow hA, by rw [e]; exact y59.narrow hA⟩
    · have e : gad G 60 = t60 := hG 60 (by decide)
      exact ⟨by decide, by rw [e]; exact z60.narrow hA, by rw [e]; exact y60.narrow hA⟩
    · have e : gad G 61 = t61 := hG 61 (by decide)
      exact ⟨by decide, by rw [e]; exact z61.narrow hA, by rw [e]; exact y61.narrow hA⟩
  · have eK : ∀ i, i < 4 → gad G (62 + i) = adK i := by
      intro i hi
      rw [hG _ (by omega)]
      match i, hi with
      | 0, _ => rfl
      | 1, _ => rfl
      | 2, _ => rfl
      | 3, _ => rfl
      | i + 4, hi => exact absurd hi (by omega)
    have eV : ∀ i, i < 4 → gad G (66 + i) = adV i := by
      intro i hi
      rw [hG _ (by omega)]
      match i, hi with
      | 0, _ => rfl
      | 1, _ => rfl
      | 2, _ => rfl
      | 3, _ => rfl
      | i + 4, hi => exact absurd hi (by omega)
    show rxC (gA wC G) (gad G) s s.heap
    refine ⟨?_, ?_, ?_, ?_, ?_, g6.narrow hA, g7.narrow hA⟩
    · have g := g1.narrow hA
      refine ⟨fun i hi => ?_, fun i j hi hj h => ?_⟩
      · show va_O "java/lang/String" (gad G (62 + i)) (gA wC G) s s.heap ∧ va_OF "java/lang/String" "coder" "B" (.int 0) (gad G (62 + i)) (gA wC G) s s.heap ∧ va_OF "java/lang/String" "value" "[B" (.ref (gad G (66 + i))) (gad G (62 + i)) (gA wC G) s s.heap ∧ va_T .byte (gad G (66 + i)) (lenS.getD i 0) (fun j => .int ((bytS.getD i []).getD j 0)) (gA wC G) s s.heap
        rw [eK i hi, eV i hi]
        exact g.1 i hi
      · have h : gad G (62 + i) = gad G (62 + j) := h
        rw [eK i hi, eK j hj] at h
        exact g.2 i j hi hj h
    · rw [show gad G 62 = adK 0 from eK 0 (by decide)]; exact g2
    · rw [show gad G 63 = adK 1 from eK 1 (by decide)]; exact g3
    · rw [show gad G 64 = adK 2 from eK 2 (by decide)]; exact g4
    · rw [show gad G 65 = adK 3 from eK 3 (by decide)]; exact g5
end
