/-! PART 03: the instructions, over the small machine. -/
abbrev Cx : Type := Program × Launch × Env × Room × State × MethodId × Array Value × List Frame × Method × Code × (State → Prop) × Mem × Geo
abbrev LVs : Type := List (Nat × Nat × Int)
abbrev STs : Type := List (Nat × Int)
def cL (G : Geo) (lv : LVs) : List (Nat × Value) := lv.map (fun q => (q.1, cv (gad G) q.2.1 q.2.2))
def cS (G : Geo) (st : STs) : List Value := st.map (fun q => cv (gad G) q.1 q.2)
/-- from here the machine comes to its end -/
def GW (wd : Wd) (nL : Nat) : Cx → Nat → LVs → STs → Mem → Prop
  | (p, l, e, R, s, m, args, below, meth, c, Q, M0, G), pc, lv, st, M => (∀ i, wd.2.1 ≤ i → M i = M0 i) → ∀ (H : Heap) (locs : List Loc) (ls : Array Slot), va_P (gD G) vwCl (render wd G M) H → va_S (gA wd G) s.heap H locs → lv_has ls nL (cL G lv) → W p l e R s m args below meth c H locs 0 0 Q (F0 m pc ls (cS G st))
def lk {α : Type} (k : Nat) : List (Nat × α) → Option α
  | [] => none
  | (i, a) :: l => if i = k then some a else lk k l
theorem lk_mem {α : Type} {k : Nat} {a : α} : ∀ {l : List (Nat × α)}, lk k l = some a → (k, a) ∈ l
  | [], h => by cases h
  | (i, b) :: l, h => by
    unfold lk at h
    by_cases hi : i = k
    · rw [if_pos hi] at h
      cases h
      rw [hi]
      exact List.mem_cons_self
    · rw [if_neg hi] at h
      exact List.mem_cons_of_mem _ (lk_mem h)
/-- bytes, locals, own class, constants (int, long, text), fields, constant rows, library calls, calls -/
abbrev MI : Type := ByteArray × Nat × String × List (Nat × Int) × List (Nat × Int) × List (Nat × Nat) × List (Nat × Nat × Nat) × List (Nat × Nat) × List (Nat × Nat) × List (Nat × CI)
abbrev miC (mi : MI) : ByteArray := mi.1
abbrev miL (mi : MI) : Nat := mi.2.1
abbrev miO (mi : MI) : String := mi.2.2.1
abbrev miI (mi : MI) : List (Nat × Int) := mi.2.2.2.1
abbrev miJ (mi : MI) : List (Nat × Int) := mi.2.2.2.2.1
abbrev miS (mi : MI) : List (Nat × Nat) := mi.2.2.2.2.2.1
abbrev miF (mi : MI) : List (Nat × Nat × Nat) := mi.2.2.2.2.2.2.1
abbrev miT (mi : MI) : List (Nat × Nat) := mi.2.2.2.2.2.2.2.1
abbrev miM (mi : MI) : List (Nat × Nat) := mi.2.2.2.2.2.2.2.2.1
abbrev miK (mi : MI) : List (Nat × CI) := mi.2.2.2.2.2.2.2.2.2
def FldOk (s : State) (args : Array Value) (own : String) (q : Nat × Nat × Nat) : Prop :=
  ∃ (C : String) (T : u_T) (N : Nat), vwCl[q.2.1]? = some (C, T, N) ∧ q.2.2 < N ∧ ((Cond.fieldLink own q.1 (T q.2.2).1 (T q.2.2).2.1 (T q.2.2).2.2.1).before args s = true ∨ ∃ host : String, (Cond.fieldLinkNest own q.1 (T q.2.2).1 (T q.2.2).2.1 (T q.2.2).2.2.1 host).before args s = true)
def mathWs (own : String) (i : Nat) (op : Nat) : List Cond := match op with
  | 0 => [.methodLink own i Lib.Math.max.name, .static Lib.Math.max.name, .initialized "java/lang/Math", .code Lib.Math.max.name Lib.Math.max.code 2 (some .int)]
  | 1 => [.methodLink own i Lib.Math.min.name, .static Lib.Math.min.name, .initialized "java/lang/Math", .code Lib.Math.min.name Lib.Math.min.code 2 (some .int)]
  | 2 => [.methodLink own i Lib.Math.abs.name, .static Lib.Math.abs.name, .initialized "java/lang/Math", .code Lib.Math.abs.name Lib.Math.abs.code 1 (some .int)]
  | 3 => [.methodLink own i Lib.MathLoose.max_long.x, .static Lib.MathLoose.max_long.x, .initialized "java/lang/Math", .code Lib.MathLoose.max_long.x Lib.MathLoose.max_long.code 4 (some .long)]
  | 4 => [.methodLink own i Lib.MathLoose.min_long.x, .static Lib.MathLoose.min_long.x, .initialized "java/lang/Math", .code Lib.MathLoose.min_long.x Lib.MathLoose.min_long.code 4 (some .long)]
  | _ => [.methodLink own i arraycopyName, .native arraycopyName, .static arraycopyName, .initialized "java/lang/System"]
def invI (mode idx : Nat) : Instr := if mode = 0 then .invokestatic idx else .invokevirtual idx
/-- the object's cell is of the class -/
def isOb (wd : Wd) (o : Int) (c : Nat) : Bool := decide (0 ≤ o ∧ o.toNat < wd.2.1) && (match wd.1[o.toNat]? with | some (t, _, _) => decide (t = c + 3) | none => false)
def recvOk (wd : Wd) (ci : CI) (vs : List Int) : Bool := if ci.1 = 0 then true else isOb wd (vs.headD (-1)) ci.2.1
def CallOk (wd : Wd) (nL : Nat) (q : Nat × CI) : Cx → ByteArray → Prop
  | (p, l, e, R, s, m, args, below, meth, c, Q, M0, G), cc => ∀ (pc : Nat) (vs : List Int) (r : Int) (M M' : Mem) (H : Heap) (locs : List Loc) (ls : Array Slot) (rest : List Value), decode cc pc = .ok (invI q.2.1 q.1, 3) → vs.length = q.2.2.2.1.length → (rest.map fun v => v.category).sum ≤ 8 → q.2.2.2.2.2 vs M = some (r, M') → recvOk wd q.2 vs = true →
    va_P (gD G) vwCl (render wd G M) H → va_S (gA wd G) s.heap H locs → ls.size = nL → (∀ i, wd.2.1 ≤ i → M i = M0 i) →
    (∀ (H1 : Heap) (locs1 : List Loc), va_P (gD G) vwCl (render wd G M') H1 → va_S (gA wd G) s.heap H1 locs1 → (∀ i, wd.2.1 ≤ i → M' i = M0 i) → W p l e R s m args below meth c H1 locs1 0 0 Q (F0 m (pc + 3) ls ((rvO G q.2.2.2.2.1 r).toList ++ rest))) →
    W p l e R s m args below meth c H locs 0 0 Q (F0 m pc ls ((cvs G q.2.2.2.1 vs).reverse ++ rest))
def GOk (wd : Wd) (mi : MI) : Cx → Prop
  | (p, l, e, R, s, m, args, below, meth, c, Q, M0, G) => p.tables.exec = Jvm.exec ∧ c.code = miC mi ∧ c.maxLocals = miL mi ∧ s.vm.findClass (miO mi) = some m.cls ∧ (∀ w ∈ TBL, w.before args s = true) ∧ va_K (gD G) vwCl (gTys G) s ∧ gInj wd G ∧ RO wd G M0 s s.heap ∧ (1 ≤ R.frames ∧ 64 ≤ R.locals) ∧
    (∀ q ∈ miI mi, (Cond.constant (miO mi) q.1 (Int32.ofInt q.2)).before args s = true) ∧ (∀ q ∈ miJ mi, (Cond.constantLong (miO mi) q.1 (Int64.ofInt q.2)).before args s = true) ∧ (∀ q ∈ miS mi, ∃ tx : String, vk_R (miO mi) q.1 tx (gad G q.2) s) ∧ (∀ q ∈ miF mi, FldOk s args (miO mi) q) ∧
    (∀ q ∈ miT mi, ∃ t ∈ wd.2.2.1, t.1 = q.2 ∧ (Cond.fieldLink (miO mi) q.1 t.2.1 t.2.2.1 "[I").before args s = true) ∧ (∀ q ∈ miM mi, ∀ w ∈ mathWs (miO mi) q.1 q.2, w.before args s = true) ∧ (∀ q ∈ miK mi, CallOk wd (miL mi) q (p, l, e, R, s, m, args, below, meth, c, Q, M0, G) (miC mi))
theorem lays_in (c : Nat) (C : String) (T : u_T) (N : Nat) (h : vwCl[c]? = some (C, T, N)) : ∀ w ∈ u_ws C T N, w ∈ TBL := by
  sorry
section GWS
variable {wd : Wd} {mi : MI} {X : Cx} {pc : Nat} {lv : LVs} {st : STs} {M : Mem}
theorem gw_sub {nL : Nat} {lv' : LVs} (hs : ∀ q ∈ lv', q ∈ lv) (k : GW wd nL X pc lv' st M) : GW wd nL X pc lv st M := by
  obtain ⟨p, l, e, R, s, m, args, below, meth, c, Q, M0, G⟩ := X
  intro hm H locs ls hP hS hl
  refine k hm H locs ls hP hS ⟨hl.1, hl.2.1, fun q hq => hl.2.2 q ?_⟩
  obtain ⟨z, h1, h2⟩ := List.mem_map.mp hq
  exact List.mem_map.mpr ⟨z, hs z h1, h2⟩
theorem gw_iconst (h : GOk wd mi X) {n : Int} (hd : decode (miC mi) pc = .ok (.iconst n, 1)) (k : GW wd (miL mi) X (pc + 1) lv ((0, n) :: st) M) : GW wd (miL mi) X pc lv st M := by
  obtain ⟨p, l, e, R, s, m, args, below, meth, c, Q, M0, G⟩ := X
  intro hm H locs ls hP hS hl
  exact lv_iconst h.1 h.2.1 hd rfl (k hm H locs ls hP hS hl)
theorem gw_iadd (h : GOk wd mi X) {a b : Int} (hd : decode (miC mi) pc = .ok (.iadd, 1)) (k : GW wd (miL mi) X (pc + 1) lv ((0, a + b) :: st) M) : GW wd (miL mi) X pc lv ((0, b) :: (0, a) :: st) M := by
  obtain ⟨p, l, e, R, s, m, args, below, meth, c, Q, M0, G⟩ := X
  intro hm H locs ls hP hS hl
  refine lv_iadd h.1 h.2.1 hd ?_
  rw [← Int32.ofInt_add]
  exact k hm H locs ls hP hS hl
end GWS
