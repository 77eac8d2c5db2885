/-! PART 02: a small machine over the kit's: the world is a fixed set of cells, numbered; what they hold is a memory of whole numbers. -/
abbrev Mem : Type := Nat → Nat → Int
/-- a cell of the world: 0 row of ints, 1 row of booleans, 2 row of objects, 3 + c object of class c; how long; its references -/
abbrev SkE : Type := Nat × Nat × List Int
abbrev Sk : Type := List SkE
/-- classes, slots, three classes of rows, addresses -/
abbrev Geo : Type := (Nat → ClassId) × (Nat → Nat → Nat) × ClassId × ClassId × ClassId × (Nat → Nat)
abbrev gD (G : Geo) : va_G := (G.1, G.2.1)
abbrev gTys (G : Geo) : List (ClassId × FieldType) := [(G.2.2.1, .int), (G.2.2.2.1, .boolean), (G.2.2.2.2.1, .object "BlackMill$House")]
abbrev gad (G : Geo) : Nat → Nat := G.2.2.2.2.2
/-- cells, how many can be written, constant rows (number, class, name, length), what else stays -/
abbrev Wd : Type := Sk × Nat × List (Nat × String × String × Nat) × ((Nat → Prop) → (Nat → Nat) → State → Heap → Prop)
def wr (z : Int) : Int := (Int32.ofInt z).toInt
def wrL (z : Int) : Int := (Int64.ofInt z).toInt
/-- a number as a value: 1 long, 2 reference, else int -/
def cv (ad : Nat → Nat) (t : Nat) (z : Int) : Value := if t = 1 then .long (Int64.ofInt z) else if t = 2 then (if z < 0 then .null else .ref (ad z.toNat)) else .int (Int32.ofInt z)
def codeOf (ty : FieldType) : Nat := match ty with
  | .int => 0
  | .long => 1
  | .boolean => 3
  | .object _ => 2
  | .array _ => 2
  | _ => 9
def tyC (c : Nat) : Nat → FieldType := match c with
  | 0 => tyX0
  | 1 => tyX1
  | 2 => tyX2
  | 3 => tyX3
  | 4 => tyX4
  | 5 => tyX5
  | 6 => tyX6
  | 7 => tyX7
  | 8 => tyX8
  | 9 => tyX9
  | 10 => tyX10
  | _ => tyX11
theorem tyC_ok : ∀ (c : Nat) (C : String) (T : u_T) (N : Nat), vwCl[c]? = some (C, T, N) → ∀ k, k < N → parseFieldDescriptor (T k).2.2.1 = some (tyC c k)
  | 0, _, _, _, h => by cases h; exact tyX0_ok
  | 1, _, _, _, h => by cases h; exact tyX1_ok
  | 2, _, _, _, h => by cases h; exact tyX2_ok
  | 3, _, _, _, h => by cases h; exact tyX3_ok
  | 4, _, _, _, h => by cases h; exact tyX4_ok
  | 5, _, _, _, h => by cases h; exact tyX5_ok
  | 6, _, _, _, h => by cases h; exact tyX6_ok
  | 7, _, _, _, h => by cases h; exact tyX7_ok
  | 8, _, _, _, h => by cases h; exact tyX8_ok
  | 9, _, _, _, h => by cases h; exact tyX9_ok
  | 10, _, _, _, h => by cases h; exact tyX10_ok
  | 11, _, _, _, h => by cases h; exact tyX11_ok
  | n + 12, _, _, _, h => by simp [vwCl] at h
theorem nmC_ok : ∀ (c : Nat) (C : String) (T : u_T) (N : Nat), vwCl[c]? = some (C, T, N) → ∀ a, a < N → ∀ b, b < N → a ≠ b → (T a).2.1 ≠ (T b).2.1
  | 0, _, _, _, h => by cases h; exact nmX0
  | 1, _, _, _, h => by cases h; exact nmX1
  | 2, _, _, _, h => by cases h; exact nmX2
  | 3, _, _, _, h => by cases h; exact nmX3
  | 4, _, _, _, h => by cases h; exact nmX4
  | 5, _, _, _, h => by cases h; exact nmX5
  | 6, _, _, _, h => by cases h; exact nmX6
  | 7, _, _, _, h => by cases h; exact nmX7
  | 8, _, _, _, h => by cases h; exact nmX8
  | 9, _, _, _, h => by cases h; exact nmX9
  | 10, _, _, _, h => by cases h; exact nmX10
  | 11, _, _, _, h => by cases h; exact nmX11
  | n + 12, _, _, _, h => by simp [vwCl] at h
/-- what a field holds -/
def fv (M : Mem) (rs : List Int) (c i k : Nat) : Int := if codeOf (tyC c k) = 2 then rs.getD k (-1) else M i k
def cellOf (sk : Sk) (G : Geo) (M : Mem) (i : Nat) : va_E :=
  match sk[i]? with
  | some (0, n, _) => .inl (G.2.2.1, n, .inl (fun j => Int32.ofInt (M i j)))
  | some (1, n, _) => .inl (G.2.2.2.1, n, .inl (fun j => Int32.ofInt (M i j)))
  | some (2, n, rs) => .inl (G.2.2.2.2.1, n, .inr (.inr (.inr (.inr (fun j => if rs.getD j (-1) < 0 then none else some (gad G (rs.getD j (-1)).toNat))))))
  | some (c + 3, n, rs) => .inr (c, (List.range n).map (fun k => cv (gad G) (codeOf (tyC c k)) (fv M rs c i k)))
  | none => .inr (99, [])
def render (wd : Wd) (G : Geo) (M : Mem) : va_W := (List.range wd.2.1).map (fun i => (gad G i, cellOf wd.1 G M i))
def gA (wd : Wd) (G : Geo) : Nat → Prop := fun q => ∃ i, i < wd.2.1 ∧ gad G i = q
def ms (M : Mem) (i k : Nat) (v : Int) : Mem := fun i' k' => if i' = i ∧ k' = k then v else M i' k'
theorem ms_ne {M : Mem} {i k j : Nat} {v : Int} (h : j ≠ i) : ms M i k v j = M j := by funext q; simp [ms, h]
theorem cellOf_congr {sk : Sk} {G : Geo} {M M' : Mem} {j : Nat} (h : M' j = M j) : cellOf sk G M' j = cellOf sk G M j := by
  unfold cellOf fv
  rw [h]
theorem render_get {wd : Wd} {G : Geo} {M : Mem} {i : Nat} (h : i < wd.2.1) : (render wd G M)[i]? = some (gad G i, cellOf wd.1 G M i) := by
  simp [render, h]
theorem render_set {wd : Wd} {G : Geo} {M M' : Mem} {i : Nat} {e : va_E} (he : e = cellOf wd.1 G M' i) (ho : ∀ j, j ≠ i → M' j = M j) : (render wd G M).set i (gad G i, e) = render wd G M' := by
  apply List.ext_getElem?
  intro j
  by_cases hj : j = i
  · subst hj
    by_cases hl : j < wd.2.1
    · rw [List.getElem?_set_self (by simpa [render] using hl), render_get hl, he]
    · simp [render, hl]
  · rw [List.getElem?_set_ne (Ne.symm hj)]
    by_cases hl : j < wd.2.1
    · rw [render_get hl, render_get hl, cellOf_congr (ho j hj)]
    · simp [render, hl]
theorem cell_0 {sk : Sk} {G : Geo} {M : Mem} {i n : Nat} {rs : List Int} (h : sk[i]? = some (0, n, rs)) : cellOf sk G M i = .inl (G.2.2.1, n, .inl (fun j => Int32.ofInt (M i j))) := by simp [cellOf, h]
theorem cell_1 {sk : Sk} {G : Geo} {M : Mem} {i n : Nat} {rs : List Int} (h : sk[i]? = some (1, n, rs)) : cellOf sk G M i = .inl (G.2.2.2.1, n, .inl (fun j => Int32.ofInt (M i j))) := by simp [cellOf, h]
theorem cell_2 {sk : Sk} {G : Geo} {M : Mem} {i n : Nat} {rs : List Int} (h : sk[i]? = some (2, n, rs)) : cellOf sk G M i = .inl (G.2.2.2.2.1, n, .inr (.inr (.inr (.inr (fun j => if rs.getD j (-1) < 0 then none else some (gad G (rs.getD j (-1)).toNat)))))) := by simp [cellOf, h]
theorem cell_3 {sk : Sk} {G : Geo} {M : Mem} {i n c : Nat} {rs : List Int} (h : sk[i]? = some (c + 3, n, rs)) : cellOf sk G M i = .inr (c, (List.range n).map (fun k => cv (gad G) (codeOf (tyC c k)) (fv M rs c i k))) := by simp [cellOf, h]
theorem render_D {wd : Wd} {G : Geo} {M : Mem} (h : ∀ i j, i < wd.2.1 → j < wd.2.1 → gad G i = gad G j → i = j) : va_D (gA wd G) (render wd G M) := by
  have key : ∀ (i : Nat) (q : Nat × va_E), (render wd G M)[i]? = some q → i < wd.2.1 ∧ q.1 = gad G i := by
    intro i q hq
    by_cases hl : i < wd.2.1
    · rw [render_get hl] at hq
      cases hq
      exact ⟨hl, rfl⟩
    · simp [render, hl] at hq
  refine ⟨fun i j p q hi hj e => ?_, fun k q hq => ?_⟩
  · obtain ⟨h1, h2⟩ := key i p hi
    obtain ⟨h3, h4⟩ := key j q hj
    exact h i j h1 h3 (by rw [← h2, ← h4, e])
  · obtain ⟨h1, h2⟩ := key k q hq
    exact ⟨k, h1, h2.symm⟩
/-! the tables' words -/
def TBL : List Cond := lw_tbl.filter goodWord
def isNest (w : Cond) : Bool := match w with
  | .fieldLinkNest .. => true
  | .methodLinkNest .. => true
  | _ => false
def NW : List Cond := tables_1.filter isNest
theorem tbl_mem {w : Cond} (i : Nat) (h : lw_tbl[i]? = some w) (g : goodWord w = true) : w ∈ TBL := List.mem_filter.mpr ⟨List.mem_of_getElem? h, g⟩
theorem nw_mem {w : Cond} (i : Nat) (h : tables_1[i]? = some w) (g : isNest w = true) : w ∈ NW := List.mem_filter.mpr ⟨List.mem_of_getElem? h, g⟩
theorem tbl_good : ∀ w ∈ TBL, goodWord w = true := fun w h => (List.mem_filter.mp h).2
theorem nw_on : ∀ w ∈ NW, w.onTables = true := by
  intro w h
  have h2 := (List.mem_filter.mp h).2
  cases w <;> first | rfl | (simp [isNest] at h2)
theorem nw_warm {s U : State} (hW : s.WarmedH U.vm) {w : Cond} (hw : w ∈ NW) (h : va_Nw w s) : va_Nw w U := by
  have h2 := (List.mem_filter.mp hw).2
  cases w <;> first | exact va_Nw.warmF hW h | exact va_Nw.warmM hW h | (simp [isNest] at h2)
/-! what stays -/
def RO (wd : Wd) (G : Geo) (M : Mem) (U : State) (H : Heap) : Prop :=
  (∀ w ∈ NW, va_Nw w U) ∧ (∀ q ∈ wd.2.2.1, wd.2.1 ≤ q.1 ∧ va_Z q.2.1 q.2.2.1 "[I" (.ref (gad G q.1)) (gA wd G) U H ∧ va_T .int (gad G q.1) q.2.2.2 (fun j => .int (Int32.ofInt (M q.1 j))) (gA wd G) U H) ∧ wd.2.2.2 (gA wd G) (gad G) U H
def RxOk (rx : (Nat → Prop) → (Nat → Nat) → State → Heap → Prop) : Prop :=
  (∀ A ad s U H, s.WarmedH U.vm → rx A ad s H → rx A ad U H) ∧ (∀ A ad (s U : State) H, s.vm = U.vm → rx A ad s H → rx A ad U H) ∧ ∀ A ad s H H1, (∀ a : Nat, a < H.size → ¬ A a → H1[a]? = H[a]?) → rx A ad s H → rx A ad s H1
theorem RO.warm {wd : Wd} {G : Geo} {M : Mem} {s U : State} {H : Heap} (hx : RxOk wd.2.2.2) (hW : s.WarmedH U.vm) (h : RO wd G M s H) : RO wd G M U H :=
  ⟨fun w hw => nw_warm hW hw (h.1 w hw), fun q hq => ⟨(h.2.1 q hq).1, va_Z.moved hW.alike (h.2.1 q hq).2.1, va_T.moved hW.alike (h.2.1 q hq).2.2⟩, hx.1 _ _ _ _ _ hW h.2.2⟩
theorem RO.same {wd : Wd} {G : Geo} {M : Mem} {s U : State} {H : Heap} (hx : RxOk wd.2.2.2) (hv : s.vm = U.vm) (h : RO wd G M s H) : RO wd G M U H :=
  ⟨fun w hw => va_Nw.same (nw_on w hw) hv (h.1 w hw), fun q hq => ⟨(h.2.1 q hq).1, va_Z.moved (by rw [hv]; exact Vm.Alike.refl _) (h.2.1 q hq).2.1, va_T.moved (by rw [hv]; exact Vm.Alike.refl _) (h.2.1 q hq).2.2⟩, hx.2.1 _ _ _ _ _ hv h.2.2⟩
theorem RO.kept {wd : Wd} {G : Geo} {M : Mem} {s : State} {H H1 : Heap} (hx : RxOk wd.2.2.2) (hq : ∀ a : Nat, a < H.size → ¬ gA wd G a → H1[a]? = H[a]?) (h : RO wd G M s H) : RO wd G M s H1 :=
  ⟨h.1, fun q hq2 => ⟨(h.2.1 q hq2).1, va_Z.kept (h.2.1 q hq2).2.1 hq, va_T.kept (h.2.1 q hq2).2.2 hq⟩, hx.2.2 _ _ _ _ _ hq h.2.2⟩
theorem RO.mem {wd : Wd} {G : Geo} {M M' : Mem} {s : State} {H : Heap} (hm : ∀ i, wd.2.1 ≤ i → M' i = M i) (h : RO wd G M s H) : RO wd G M' s H :=
  ⟨h.1, fun q hq => ⟨(h.2.1 q hq).1, (h.2.1 q hq).2.1, by rw [hm q.1 (h.2.1 q hq).1]; exact (h.2.1 q hq).2.2⟩, h.2.2⟩
/-! contracts -/
abbrev Den : Type := List Int → Mem → Option (Int × Mem)
/-- how it is called (0 static, 1 of an object), the object's class, the arguments' types (the object's first), the answer's (3: none), what it does -/
abbrev CI : Type := Nat × Nat × List Nat × Nat × Den
/-- name, bytes, locals, answer's type, depth -/
abbrev MN : Type := MethodName × ByteArray × Nat × Option FieldType × Nat
def rmH (h : Nat) : Room := { frames := h, cells := 0, slots := 0, locals := 64 * h }
def cvs (G : Geo) (tys : List Nat) (vs : List Int) : List Value := (tys.zip vs).map (fun q => cv (gad G) q.1 q.2)
def rvO (G : Geo) (rt : Nat) (r : Int) : Option Value := if rt = 3 then none else some (cv (gad G) rt r)
def gPc (wd : Wd) (G : Geo) (av : List Value) (M : Mem) : Array Value → State → Prop := va_Pc av (fun U => va_P (gD G) vwCl (render wd G M) U.heap ∧ va_K (gD G) vwCl (gTys G) U ∧ RO wd G M U U.heap)
def gQc (wd : Wd) (G : Geo) (rt : Nat) (r : Int) (M M' : Mem) : Array Value → State → Outcome → State → Prop := fun _ st oc t => oc = .returned (rvO G rt r) ∧ va_P (gD G) vwCl (render wd G M') t.heap ∧ (∀ i, wd.2.1 ≤ i → M' i = M i) ∧ va_F (gA wd G) st t
def gInj (wd : Wd) (G : Geo) : Prop := ∀ i j, i < wd.2.1 → j < wd.2.1 → gad G i = gad G j → i = j
def MetD (wd : Wd) (y : MN) (ci : CI) : Prop := ∀ (l : Launch) (G : Geo), gInj wd G → ∀ (vs : List Int) (M : Mem) (r : Int) (M' : Mem), vs.length = ci.2.2.1.length → ci.2.2.2.2 vs M = some (r, M') →
  Met l y.1 (Cond.code y.1 y.2.1 y.2.2.1 y.2.2.2.1 :: TBL) (rmH y.2.2.2.2) (gPc wd G (cvs G ci.2.2.1 vs) M) (gQc wd G ci.2.2.2.1 r M M') 0 0 (gA wd G)
theorem gPc_blind {wd : Wd} {G : Geo} {M : Mem} (hx : RxOk wd.2.2.2) {av : List Value} : FrameBlind (gPc wd G av M) := by
  intro a U g mk h
  exact ⟨h.1, h.2.1, va_K.moved (u := U) (U := U.calling g mk a) (Vm.Alike.refl U.vm) h.2.2.1, RO.same (s := U) (U := U.calling g mk a) hx rfl h.2.2.2⟩
