/-! PART 03: the instructions, over the small machine. -/
abbrev Cx : Type := Program × Launch × Env × Room × State × MethodId × Array Value × List Frame × Method × Code × (State → Prop) × Mem × Geo
abbrev LVs : Type := List (Nat × Nat × Int)
abbrev STs : Type := List (Nat × Int)
def cL (G : Geo) (lv : LVs) : List (Nat × Value) := lv.map (fun q => (q.1, cv (gad G) q.2.1 q.2.2))
def cS (G : Geo) (st : STs) : List Value := st.map (fun q => cv (gad G) q.1 q.2)
/-- from here the machine comes to its end -/
def GW (wd : Wd) (nL : Nat) : Cx → Nat → LVs → STs → Mem → Prop
  | (p, l, e, R, s, m, args, below, meth, c, Q, M0, G), pc, lv, st, M => (∀ i, wd.2.1 ≤ i → M i = M0 i) → ∀ (H : Heap) (locs : List Loc) (ls : Array Slot), va_P (gD G) vwCl (render wd G M) H → va_S (gA wd G) s.heap H locs → lv_has ls nL (cL G lv) → W p l e R s m args below meth c H locs 0 0 Q (F0 m pc ls (cS G st))
def lk {α : Type} (k : Nat) : List (Nat × α) → Option α
  | [] => none
  | (i, a) :: l => if i = k then some a else lk k l
theorem lk_mem {α : Type} {k : Nat} {a : α} : ∀ {l : List (Nat × α)}, lk k l = some a → (k, a) ∈ l
  | [], h => by cases h
  | (i, b) :: l, h => by
    unfold lk at h
    by_cases hi : i = k
    · rw [if_pos hi] at h
      cases h
      rw [hi]
      exact List.mem_cons_self
    · rw [if_neg hi] at h
      exact List.mem_cons_of_mem _ (lk_mem h)
/-- bytes, locals, own class, constants (int, long, text), fields, constant rows, library calls, calls -/
abbrev MI : Type := ByteArray × Nat × String × List (Nat × Int) × List (Nat × Int) × List (Nat × Nat) × List (Nat × Nat × Nat) × List (Nat × Nat) × List (Nat × Nat) × List (Nat × CI)
abbrev miC (mi : MI) : ByteArray := mi.1
abbrev miL (mi : MI) : Nat := mi.2.1
abbrev miO (mi : MI) : String := mi.2.2.1
abbrev miI (mi : MI) : List (Nat × Int) := mi.2.2.2.1
abbrev miJ (mi : MI) : List (Nat × Int) := mi.2.2.2.2.1
abbrev miS (mi : MI) : List (Nat × Nat) := mi.2.2.2.2.2.1
abbrev miF (mi : MI) : List (Nat × Nat × Nat) := mi.2.2.2.2.2.2.1
abbrev miT (mi : MI) : List (Nat × Nat) := mi.2.2.2.2.2.2.2.1
abbrev miM (mi : MI) : List (Nat × Nat) := mi.2.2.2.2.2.2.2.2.1
abbrev miK (mi : MI) : List (Nat × CI) := mi.2.2.2.2.2.2.2.2.2
def FldOk (s : State) (args : Array Value) (own : String) (q : Nat × Nat × Nat) : Prop :=
  ∃ (C : String) (T : u_T) (N : Nat), vwCl[q.2.1]? = some (C, T, N) ∧ q.2.2 < N ∧ ((Cond.fieldLink own q.1 (T q.2.2).1 (T q.2.2).2.1 (T q.2.2).2.2.1).before args s = true ∨ ∃ host : String, (Cond.fieldLinkNest own q.1 (T q.2.2).1 (T q.2.2).2.1 (T q.2.2).2.2.1 host).before args s = true)
def mathWs (own : String) (i : Nat) (op : Nat) : List Cond := match op with
  | 0 => [.methodLink own i Lib.Math.max.name, .static Lib.Math.max.name, .initialized "java/lang/Math", .code Lib.Math.max.name Lib.Math.max.code 2 (some .int)]
  | 1 => [.methodLink own i Lib.Math.min.name, .static Lib.Math.min.name, .initialized "java/lang/Math", .code Lib.Math.min.name Lib.Math.min.code 2 (some .int)]
  | 2 => [.methodLink own i Lib.Math.abs.name, .static Lib.Math.abs.name, .initialized "java/lang/Math", .code Lib.Math.abs.name Lib.Math.abs.code 1 (some .int)]
  | 3 => [.methodLink own i Lib.MathLoose.max_long.x, .static Lib.MathLoose.max_long.x, .initialized "java/lang/Math", .code Lib.MathLoose.max_long.x Lib.MathLoose.max_long.code 4 (some .long)]
  | 4 => [.methodLink own i Lib.MathLoose.min_long.x, .static Lib.MathLoose.min_long.x, .initialized "java/lang/Math", .code Lib.MathLoose.min_long.x Lib.MathLoose.min_long.code 4 (some .long)]
  | _ => [.methodLink own i arraycopyName, .native arraycopyName, .static arraycopyName, .initialized "java/lang/System"]
def invI (mode idx : Nat) : Instr := if mode = 0 then .invokestatic idx else .invokevirtual idx
/-- the object's cell is of the class -/
def isOb (wd : Wd) (o : Int) (c : Nat) : Bool := decide (0 ≤ o ∧ o.toNat < wd.2.1) && (match wd.1[o.toNat]? with | some (t, _, _) => decide (t = c + 3) | none => false)
/-- one of the texts -/
def isTx (o : Int) : Bool := decide (62 ≤ o ∧ o < 66)
def recvOk (wd : Wd) (ci : CI) (vs : List Int) : Bool := if ci.1 = 0 then true else if ci.1 = 2 then isTx (vs.headD (-1)) else isOb wd (vs.headD (-1)) ci.2.1
def CallOk (wd : Wd) (nL : Nat) (q : Nat × CI) : Cx → ByteArray → Prop
  | (p, l, e, R, s, m, args, below, meth, c, Q, M0, G), cc => ∀ (pc : Nat) (vs : List Int) (r : Int) (M M' : Mem) (H : Heap) (locs : List Loc) (ls : Array Slot) (rest : List Value), decode cc pc = .ok (invI q.2.1 q.1, 3) → vs.length = q.2.2.2.1.length → (rest.map fun v => v.category).sum ≤ 8 → q.2.2.2.2.2 vs M = some (r, M') → recvOk wd q.2 vs = true →
    va_P (gD G) vwCl (render wd G M) H → va_S (gA wd G) s.heap H locs → ls.size = nL → (∀ i, wd.2.1 ≤ i → M i = M0 i) →
    (∀ (H1 : Heap) (locs1 : List Loc), va_P (gD G) vwCl (render wd G M') H1 → va_S (gA wd G) s.heap H1 locs1 → (∀ i, wd.2.1 ≤ i → M' i = M0 i) → W p l e R s m args below meth c H1 locs1 0 0 Q (F0 m (pc + 3) ls ((rvO G q.2.2.2.2.1 r).toList ++ rest))) →
    W p l e R s m args below meth c H locs 0 0 Q (F0 m pc ls ((cvs G q.2.2.2.1 vs).reverse ++ rest))
def GOk (wd : Wd) (mi : MI) : Cx → Prop
  | (p, l, e, R, s, m, args, below, meth, c, Q, M0, G) => p.tables.exec = Jvm.exec ∧ c.code = miC mi ∧ c.maxLocals = miL mi ∧ s.vm.findClass (miO mi) = some m.cls ∧ (∀ w ∈ TBL, w.before args s = true) ∧ va_K (gD G) vwCl (gTys G) s ∧ gInj wd G ∧ RO wd G M0 s s.heap ∧ (1 ≤ R.frames ∧ 64 ≤ R.locals) ∧
    (∀ q ∈ miI mi, (Cond.constant (miO mi) q.1 (Int32.ofInt q.2)).before args s = true) ∧ (∀ q ∈ miJ mi, (Cond.constantLong (miO mi) q.1 (Int64.ofInt q.2)).before args s = true) ∧ (∀ q ∈ miS mi, ∃ tx : String, vk_R (miO mi) q.1 tx (gad G q.2) s) ∧ (∀ q ∈ miF mi, FldOk s args (miO mi) q) ∧
    (∀ q ∈ miT mi, ∃ t ∈ wd.2.2.1, t.1 = q.2 ∧ (Cond.fieldLink (miO mi) q.1 t.2.1 t.2.2.1 "[I").before args s = true) ∧ (∀ q ∈ miM mi, ∀ w ∈ mathWs (miO mi) q.1 q.2, w.before args s = true) ∧ (∀ q ∈ miK mi, CallOk wd (miL mi) q (p, l, e, R, s, m, args, below, meth, c, Q, M0, G) (miC mi))
theorem in_by {big : List Cond} (ws : List Cond) (ps : List Nat) (hp : ws = ps.filterMap (fun i => big[i]?)) (hg : ws.all goodWord = true) : ∀ w ∈ ws, w ∈ big.filter goodWord := by
  intro w hw
  refine List.mem_filter.mpr ⟨?_, List.all_eq_true.mp hg w hw⟩
  rw [hp] at hw
  obtain ⟨i, -, hi⟩ := List.mem_filterMap.mp hw
  exact List.mem_of_getElem? hi
set_option maxRecDepth 100000 in
theorem lay_0 : ∀ w ∈ u_ws RX0 TX0 4, w ∈ TBL := in_by _ [274, 276, 278, 280] (by decide +kernel) (by decide +kernel)
set_option maxRecDepth 100000 in
theorem lay_1 : ∀ w ∈ u_ws RX1 TX1 7, w ∈ TBL := in_by _ [337, 339, 341, 343, 345, 347, 349] (by decide +kernel) (by decide +kernel)
set_option maxRecDepth 100000 in
theorem lay_2 : ∀ w ∈ u_ws RX2 TX2 5, w ∈ TBL := in_by _ [242, 244, 246, 248, 250] (by decide +kernel) (by decide +kernel)
set_option maxRecDepth 100000 in
theorem lay_3 : ∀ w ∈ u_ws RX3 TX3 2, w ∈ TBL := in_by _ [189, 191] (by decide +kernel) (by decide +kernel)
set_option maxRecDepth 100000 in
theorem lay_4 : ∀ w ∈ u_ws RX4 TX4 7, w ∈ TBL := in_by _ [209, 211, 213, 215, 217, 219, 221] (by decide +kernel) (by decide +kernel)
set_option maxRecDepth 100000 in
theorem lay_5 : ∀ w ∈ u_ws RX5 TX5 1, w ∈ TBL := in_by _ [260] (by decide +kernel) (by decide +kernel)
set_option maxRecDepth 100000 in
theorem lay_6 : ∀ w ∈ u_ws RX6 TX6 6, w ∈ TBL := in_by _ [166, 168, 170, 172, 174, 176] (by decide +kernel) (by decide +kernel)
set_option maxRecDepth 100000 in
theorem lay_7 : ∀ w ∈ u_ws RX7 TX7 3, w ∈ TBL := in_by _ [315, 317, 319] (by decide +kernel) (by decide +kernel)
set_option maxRecDepth 100000 in
theorem lay_8 : ∀ w ∈ u_ws RX8 TX8 4, w ∈ TBL := in_by _ [139, 141, 143, 145] (by decide +kernel) (by decide +kernel)
set_option maxRecDepth 100000 in
theorem lay_9 : ∀ w ∈ u_ws RX9 TX9 3, w ∈ TBL := in_by _ [297, 299, 301] (by decide +kernel) (by decide +kernel)
set_option maxRecDepth 100000 in
theorem lay_10 : ∀ w ∈ u_ws RX10 TX10 17, w ∈ TBL := in_by _ [370, 372, 374, 376, 378, 380, 382, 384, 386, 388, 390, 392, 394, 396, 398, 400, 402] (by decide +kernel) (by decide +kernel)
set_option maxRecDepth 100000 in
theorem lay_11 : ∀ w ∈ u_ws RX11 TX11 46, w ∈ TBL := in_by _ [1280, 1282, 1284, 1286, 1288, 1290, 1292, 1294, 1296, 1298, 1300, 1302, 1304, 1306, 1308, 1310, 1312, 1314, 1316, 1318, 1320, 1322, 1324, 1326, 1328, 1330, 1332, 1334, 1336, 1338, 1340, 1342, 1344, 1346, 1348, 1350, 1352, 1354, 1356, 1358, 1360, 1362, 1364, 1366, 1368, 1370] (by decide +kernel) (by decide +kernel)
theorem lays_in : ∀ (c : Nat) (C : String) (T : u_T) (N : Nat), vwCl[c]? = some (C, T, N) → ∀ w ∈ u_ws C T N, w ∈ TBL
  | 0, _, _, _, h => by cases h; exact lay_0
  | 1, _, _, _, h => by cases h; exact lay_1
  | 2, _, _, _, h => by cases h; exact lay_2
  | 3, _, _, _, h => by cases h; exact lay_3
  | 4, _, _, _, h => by cases h; exact lay_4
  | 5, _, _, _, h => by cases h; exact lay_5
  | 6, _, _, _, h => by cases h; exact lay_6
  | 7, _, _, _, h => by cases h; exact lay_7
  | 8, _, _, _, h => by cases h; exact lay_8
  | 9, _, _, _, h => by cases h; exact lay_9
  | 10, _, _, _, h => by cases h; exact lay_10
  | 11, _, _, _, h => by cases h; exact lay_11
  | n + 12, _, _, _, h => by simp [vwCl] at h
/-! numbers -/
def idv (a b : Int) : Int := (Int32.ofInt a / Int32.ofInt b).toInt
def irm (a b : Int) : Int := (Int32.ofInt a - Int32.ofInt a / Int32.ofInt b * Int32.ofInt b).toInt
def ian (a b : Int) : Int := (Int32.ofInt a &&& Int32.ofInt b).toInt
def iio (a b : Int) : Int := (Int32.ofInt a ||| Int32.ofInt b).toInt
def ixr (a b : Int) : Int := (Int32.ofInt a ^^^ Int32.ofInt b).toInt
def isl (a b : Int) : Int := (Int32.ofInt a <<< (Int32.ofInt b &&& 31)).toInt
def isr (a b : Int) : Int := (Int32.ofInt a >>> (Int32.ofInt b &&& 31)).toInt
def iur (a b : Int) : Int := (((Int32.ofInt a).toUInt32 >>> ((Int32.ofInt b).toUInt32 &&& Int32.toUInt32 31)).toInt32).toInt
def ldi (a b : Int) : Int := (Int64.ofInt a / Int64.ofInt b).toInt
def lrm (a b : Int) : Int := (Int64.ofInt a - Int64.ofInt a / Int64.ofInt b * Int64.ofInt b).toInt
def lan (a b : Int) : Int := (Int64.ofInt a &&& Int64.ofInt b).toInt
def lio (a b : Int) : Int := (Int64.ofInt a ||| Int64.ofInt b).toInt
def lsl (a b : Int) : Int := (Int64.ofInt a <<< ((Int32.ofInt b).toInt64 &&& 63)).toInt
def lur (a b : Int) : Int := (((Int64.ofInt a).toUInt64 >>> ((Int32.ofInt b).toInt64.toUInt64 &&& Int64.toUInt64 63)).toInt64).toInt
def lcm (a b : Int) : Int := if wrL a > wrL b then 1 else if wrL a = wrL b then 0 else -1
def mxI (a b : Int) : Int := if wr a < wr b then wr b else wr a
def mnI (a b : Int) : Int := if wr b < wr a then wr b else wr a
def abI (a : Int) : Int := if 0 ≤ wr a then wr a else 0 - wr a
def mxL (a b : Int) : Int := if wrL b < wrL a then wrL a else wrL b
def mnL (a b : Int) : Int := if wrL b < wrL a then wrL b else wrL a
def cmpI (c : Jvm.ClassFile.Cond) (a b : Int) : Bool := match c with
  | .eq => decide (wr a = wr b)
  | .ne => decide (¬ wr a = wr b)
  | .lt => decide (wr a < wr b)
  | .ge => decide (wr b ≤ wr a)
  | .gt => decide (wr b < wr a)
  | .le => decide (wr a ≤ wr b)
theorem oI (x : Int32) : Int32.ofInt x.toInt = x := Int32.ofInt_toInt x
theorem oL (x : Int64) : Int64.ofInt x.toInt = x := Int64.ofInt_toInt x
theorem oW (a : Int) : Int32.ofInt (wr a) = Int32.ofInt a := oI _
theorem oWL (a : Int) : Int64.ofInt (wrL a) = Int64.ofInt a := oL _
theorem wr_eq {a b : Int} : Int32.ofInt a = Int32.ofInt b ↔ wr a = wr b := Int32.toInt_inj.symm
theorem wr_lt {a b : Int} : Int32.ofInt a < Int32.ofInt b ↔ wr a < wr b := Int32.lt_iff_toInt_lt
theorem wr_le {a b : Int} : Int32.ofInt a ≤ Int32.ofInt b ↔ wr a ≤ wr b := Int32.le_iff_toInt_le
theorem wrL_eq {a b : Int} : Int64.ofInt a = Int64.ofInt b ↔ wrL a = wrL b := Int64.toInt_inj.symm
theorem wrL_lt {a b : Int} : Int64.ofInt a < Int64.ofInt b ↔ wrL a < wrL b := Int64.lt_iff_toInt_lt
theorem wr_id {z : Int} (h1 : -2147483648 ≤ z) (h2 : z < 2147483648) : wr z = z := Int32.toInt_ofInt_of_le h1 h2
theorem wr_rng (z : Int) : -2147483648 ≤ wr z ∧ wr z < 2147483648 := by
  have h1 := Int32.le_toInt (Int32.ofInt z)
  have h2 := Int32.toInt_lt (Int32.ofInt z)
  unfold wr
  omega
theorem wrL_rng (z : Int) : -9223372036854775808 ≤ wrL z ∧ wrL z < 9223372036854775808 := by
  have h1 := Int64.le_toInt (Int64.ofInt z)
  have h2 := Int64.toInt_lt (Int64.ofInt z)
  unfold wrL
  omega
theorem wrL_id {z : Int} (h1 : -9223372036854775808 ≤ z) (h2 : z < 9223372036854775808) : wrL z = z := Int64.toInt_ofInt_of_le h1 h2
theorem wr_wr (z : Int) : wr (wr z) = wr z := by unfold wr; rw [oI]
theorem wr_0 : wr 0 = 0 := by decide
theorem bip {n : Int} (h1 : -128 ≤ n) (h2 : n < 128) : (Int8.ofInt n).toInt32 = Int32.ofInt n := by
  apply Int32.toInt_inj.mp
  rw [show (Int8.ofInt n).toInt32.toInt = (Int8.ofInt n).toInt from Int8.toInt_toInt32 _]
  rw [show (Int32.ofInt n).toInt = wr n from rfl, wr_id (by omega) (by omega)]
  exact Int8.toInt_ofInt_of_le h1 h2
theorem sip {n : Int} (h1 : -32768 ≤ n) (h2 : n < 32768) : (Int16.ofInt n).toInt32 = Int32.ofInt n := by
  apply Int32.toInt_inj.mp
  rw [show (Int16.ofInt n).toInt32.toInt = (Int16.ofInt n).toInt from Int16.toInt_toInt32 _]
  rw [show (Int32.ofInt n).toInt = wr n from rfl, wr_id (by omega) (by omega)]
  exact Int16.toInt_ofInt_of_le h1 h2
theorem ofN (n : Nat) : Int32.ofInt (n : Int) = Int32.ofNat n := rfl
theorem i2l_eq (a : Int) : (Int32.ofInt a).toInt64 = Int64.ofInt (wr a) := by
  apply Int64.toInt_inj.mp
  rw [show (Int32.ofInt a).toInt64.toInt = (Int32.ofInt a).toInt from Int32.toInt_toInt64 _]
  have h := wr_rng a
  rw [show (Int64.ofInt (wr a)).toInt = wr a from wrL_id (by omega) (by omega)]
  rfl
theorem cv_0 {ad : Nat → Nat} {z : Int} : cv ad 0 z = .int (Int32.ofInt z) := rfl
theorem cv_1 {ad : Nat → Nat} {z : Int} : cv ad 1 z = .long (Int64.ofInt z) := rfl
theorem cv_cat {ad : Nat → Nat} {t : Nat} {z : Int} : (cv ad t z).category = if t = 1 then 2 else 1 := by
  unfold cv
  split
  · rfl
  · split
    · split <;> rfl
    · rfl
section GWS
variable {wd : Wd} {mi : MI} {X : Cx} {pc : Nat} {lv : LVs} {st : STs} {M : Mem}
theorem gw_sub {nL : Nat} {lv' : LVs} (hs : ∀ q ∈ lv', q ∈ lv) (k : GW wd nL X pc lv' st M) : GW wd nL X pc lv st M := by
  obtain ⟨p, l, e, R, s, m, args, below, meth, c, Q, M0, G⟩ := X
  intro hm H locs ls hP hS hl
  refine k hm H locs ls hP hS ⟨hl.1, hl.2.1, fun q hq => hl.2.2 q ?_⟩
  obtain ⟨z, h1, h2⟩ := List.mem_map.mp hq
  exact List.mem_map.mpr ⟨z, hs z h1, h2⟩
theorem gw_iconst (h : GOk wd mi X) {n : Int} (hd : decode (miC mi) pc = .ok (.iconst n, 1)) (k : GW wd (miL mi) X (pc + 1) lv ((0, n) :: st) M) : GW wd (miL mi) X pc lv st M := by
  obtain ⟨p, l, e, R, s, m, args, below, meth, c, Q, M0, G⟩ := X
  intro hm H locs ls hP hS hl
  exact lv_iconst h.1 h.2.1 hd rfl (k hm H locs ls hP hS hl)
theorem gw_bipush (h : GOk wd mi X) {n : Int} (h1 : -128 ≤ n) (h2 : n < 128) (hd : decode (miC mi) pc = .ok (.bipush n, 2)) (k : GW wd (miL mi) X (pc + 2) lv ((0, n) :: st) M) : GW wd (miL mi) X pc lv st M := by
  obtain ⟨p, l, e, R, s, m, args, below, meth, c, Q, M0, G⟩ := X
  intro hm H locs ls hP hS hl
  exact lv_bipush h.1 h.2.1 hd (bip h1 h2) (k hm H locs ls hP hS hl)
theorem gw_sipush (h : GOk wd mi X) {n : Int} (h1 : -32768 ≤ n) (h2 : n < 32768) (hd : decode (miC mi) pc = .ok (.sipush n, 3)) (k : GW wd (miL mi) X (pc + 3) lv ((0, n) :: st) M) : GW wd (miL mi) X pc lv st M := by
  obtain ⟨p, l, e, R, s, m, args, below, meth, c, Q, M0, G⟩ := X
  intro hm H locs ls hP hS hl
  exact lv_sipush h.1 h.2.1 hd (sip h1 h2) (k hm H locs ls hP hS hl)
theorem gw_ldc (h : GOk wd mi X) {i : Nat} {n : Int} (hq : lk i (miI mi) = some n) (hd : decode (miC mi) pc = .ok (.ldc i, 2)) (k : GW wd (miL mi) X (pc + 2) lv ((0, n) :: st) M) : GW wd (miL mi) X pc lv st M := by
  obtain ⟨p, l, e, R, s, m, args, below, meth, c, Q, M0, G⟩ := X
  intro hm H locs ls hP hS hl
  exact lv_ldc h.1 h.2.1 h.2.2.2.1 (h.2.2.2.2.2.2.2.2.2.1 _ (lk_mem hq)) hd (k hm H locs ls hP hS hl)
theorem gw_ldcw (h : GOk wd mi X) {i : Nat} {n : Int} (hq : lk i (miI mi) = some n) (hd : decode (miC mi) pc = .ok (.ldc_w i, 3)) (k : GW wd (miL mi) X (pc + 3) lv ((0, n) :: st) M) : GW wd (miL mi) X pc lv st M := by
  obtain ⟨p, l, e, R, s, m, args, below, meth, c, Q, M0, G⟩ := X
  intro hm H locs ls hP hS hl
  exact lv_ldcw h.1 h.2.1 h.2.2.2.1 (h.2.2.2.2.2.2.2.2.2.1 _ (lk_mem hq)) hd (k hm H locs ls hP hS hl)
theorem gw_ldc2 (h : GOk wd mi X) {i : Nat} {n : Int} (hq : lk i (miJ mi) = some n) (hd : decode (miC mi) pc = .ok (.ldc2_w i, 3)) (k : GW wd (miL mi) X (pc + 3) lv ((1, n) :: st) M) : GW wd (miL mi) X pc lv st M := by
  obtain ⟨p, l, e, R, s, m, args, below, meth, c, Q, M0, G⟩ := X
  intro hm H locs ls hP hS hl
  exact lv_ldc2 h.1 h.2.1 h.2.2.2.1 (h.2.2.2.2.2.2.2.2.2.2.1 _ (lk_mem hq)) hd (k hm H locs ls hP hS hl)
theorem gw_ldcS (h : GOk wd mi X) {i n : Nat} (hq : lk i (miS mi) = some n) (hd : decode (miC mi) pc = .ok (.ldc i, 2)) (k : GW wd (miL mi) X (pc + 2) lv ((2, (n : Int)) :: st) M) : GW wd (miL mi) X pc lv st M := by
  obtain ⟨p, l, e, R, s, m, args, below, meth, c, Q, M0, G⟩ := X
  intro hm H locs ls hP hS hl
  obtain ⟨tx, hv⟩ := h.2.2.2.2.2.2.2.2.2.2.2.1 _ (lk_mem hq)
  refine va_ldcS h.1 h.2.1 h.2.2.2.1 hv hd ?_
  have e : cv (gad G) 2 (n : Int) = .ref (gad G n) := by simp [cv]
  have k1 := k hm H locs ls hP hS hl
  simp only [cS, List.map_cons, e] at k1
  exact k1
theorem gw_lconst (h : GOk wd mi X) {n : Fin 2} (hd : decode (miC mi) pc = .ok (.lconst n, 1)) (k : GW wd (miL mi) X (pc + 1) lv ((1, ((n : Nat) : Int)) :: st) M) : GW wd (miL mi) X pc lv st M := by
  obtain ⟨p, l, e, R, s, m, args, below, meth, c, Q, M0, G⟩ := X
  intro hm H locs ls hP hS hl
  exact lv_lconst h.1 h.2.1 hd rfl (k hm H locs ls hP hS hl)
theorem gw_iload_n (h : GOk wd mi X) {j : Fin 4} {i : Nat} {x : Int} (hd : decode (miC mi) pc = .ok (.iload_n j, 1)) (hi : (j : Nat) = i) (hv : (i, 0, x) ∈ lv) (k : GW wd (miL mi) X (pc + 1) lv ((0, x) :: st) M) : GW wd (miL mi) X pc lv st M := by
  obtain ⟨p, l, e, R, s, m, args, below, meth, c, Q, M0, G⟩ := X
  intro hm H locs ls hP hS hl
  exact lv_iload_n h.1 h.2.1 hd hi (hl.2.2 (i, cv (gad G) 0 x) (List.mem_map.mpr ⟨_, hv, rfl⟩)) (k hm H locs ls hP hS hl)
theorem gw_iload (h : GOk wd mi X) {i : Nat} {x : Int} (hd : decode (miC mi) pc = .ok (.iload i, 2)) (hv : (i, 0, x) ∈ lv) (k : GW wd (miL mi) X (pc + 2) lv ((0, x) :: st) M) : GW wd (miL mi) X pc lv st M := by
  obtain ⟨p, l, e, R, s, m, args, below, meth, c, Q, M0, G⟩ := X
  intro hm H locs ls hP hS hl
  exact lv_iload h.1 h.2.1 hd (hl.2.2 (i, cv (gad G) 0 x) (List.mem_map.mpr ⟨_, hv, rfl⟩)) (k hm H locs ls hP hS hl)
theorem gw_lload_n (h : GOk wd mi X) {j : Fin 4} {i : Nat} {x : Int} (hd : decode (miC mi) pc = .ok (.lload_n j, 1)) (hi : (j : Nat) = i) (hv : (i, 1, x) ∈ lv) (k : GW wd (miL mi) X (pc + 1) lv ((1, x) :: st) M) : GW wd (miL mi) X pc lv st M := by
  obtain ⟨p, l, e, R, s, m, args, below, meth, c, Q, M0, G⟩ := X
  intro hm H locs ls hP hS hl
  exact lv_lload_n h.1 h.2.1 hd hi (hl.2.2 (i, cv (gad G) 1 x) (List.mem_map.mpr ⟨_, hv, rfl⟩)) (k hm H locs ls hP hS hl)
theorem gw_lload (h : GOk wd mi X) {i : Nat} {x : Int} (hd : decode (miC mi) pc = .ok (.lload i, 2)) (hv : (i, 1, x) ∈ lv) (k : GW wd (miL mi) X (pc + 2) lv ((1, x) :: st) M) : GW wd (miL mi) X pc lv st M := by
  obtain ⟨p, l, e, R, s, m, args, below, meth, c, Q, M0, G⟩ := X
  intro hm H locs ls hP hS hl
  exact lv_lload h.1 h.2.1 hd (hl.2.2 (i, cv (gad G) 1 x) (List.mem_map.mpr ⟨_, hv, rfl⟩)) (k hm H locs ls hP hS hl)
theorem gw_aload_n (h : GOk wd mi X) {j : Fin 4} {i : Nat} {x : Int} (hd : decode (miC mi) pc = .ok (.aload_n j, 1)) (hi : (j : Nat) = i) (hv : (i, 2, x) ∈ lv) (k : GW wd (miL mi) X (pc + 1) lv ((2, x) :: st) M) : GW wd (miL mi) X pc lv st M := by
  obtain ⟨p, l, e, R, s, m, args, below, meth, c, Q, M0, G⟩ := X
  intro hm H locs ls hP hS hl
  have g := hl.2.2 (i, cv (gad G) 2 x) (List.mem_map.mpr ⟨_, hv, rfl⟩)
  have k1 := k hm H locs ls hP hS hl
  simp only [cS, List.map_cons] at k1
  by_cases hx : x < 0
  · have e : cv (gad G) 2 x = .null := by simp [cv, hx]
    rw [e] at g k1
    exact lv_aload_nN h.1 h.2.1 hd hi g k1
  · have e : cv (gad G) 2 x = .ref (gad G x.toNat) := by simp [cv, hx]
    rw [e] at g k1
    exact lv_aload_n h.1 h.2.1 hd hi g k1
theorem gw_aload (h : GOk wd mi X) {i : Nat} {x : Int} (hd : decode (miC mi) pc = .ok (.aload i, 2)) (hv : (i, 2, x) ∈ lv) (k : GW wd (miL mi) X (pc + 2) lv ((2, x) :: st) M) : GW wd (miL mi) X pc lv st M := by
  obtain ⟨p, l, e, R, s, m, args, below, meth, c, Q, M0, G⟩ := X
  intro hm H locs ls hP hS hl
  have g := hl.2.2 (i, cv (gad G) 2 x) (List.mem_map.mpr ⟨_, hv, rfl⟩)
  have k1 := k hm H locs ls hP hS hl
  simp only [cS, List.map_cons] at k1
  by_cases hx : x < 0
  · have e : cv (gad G) 2 x = .null := by simp [cv, hx]
    rw [e] at g k1
    exact lv_aloadN h.1 h.2.1 hd g k1
  · have e : cv (gad G) 2 x = .ref (gad G x.toNat) := by simp [cv, hx]
    rw [e] at g k1
    exact lv_aload h.1 h.2.1 hd g k1
/-- one slot is written -/
def setL (lv : LVs) (i t : Nat) (x : Int) : LVs := if t = 1 then (i, t, x) :: lv.filter (fun q => !(q.1 == i) && (!(q.1 == i + 1) && !(q.1 + 1 == i && q.2.1 == 1))) else (i, t, x) :: lv.filter (fun q => !(q.1 == i) && !(q.1 + 1 == i && q.2.1 == 1))
theorem cat_b {ad : Nat → Nat} {t : Nat} {z : Int} : ((cv ad t z).category == 2) = (t == 1) := by
  rw [cv_cat]
  by_cases h : t = 1 <;> simp [h]
theorem cL_set (G : Geo) (lv : LVs) (i t : Nat) (x : Int) (ht : ¬ t = 1) : (i, cv (gad G) t x) :: (cL G lv).filter (fun q => !(q.1 == i) && !(q.1 + 1 == i && q.2.category == 2)) = cL G (setL lv i t x) := by
  unfold setL cL
  rw [if_neg ht, List.map_cons, List.filter_map]
  congr 2
  apply List.filter_congr
  intro q hq
  simp only [Function.comp, cat_b]
theorem cL_setL (G : Geo) (lv : LVs) (i : Nat) (x : Int) : (i, Value.long (Int64.ofInt x)) :: (cL G lv).filter (fun q => !(q.1 == i) && (!(q.1 == i + 1) && !(q.1 + 1 == i && q.2.category == 2))) = cL G (setL lv i 1 x) := by
  unfold setL cL
  rw [if_pos rfl, List.map_cons, List.filter_map]
  congr 2
  apply List.filter_congr
  intro q hq
  simp only [Function.comp, cat_b]
theorem gw_istore_n (h : GOk wd mi X) {j : Fin 4} {i : Nat} {x : Int} (hd : decode (miC mi) pc = .ok (.istore_n j, 1)) (hi : (j : Nat) = i) (hn : i < miL mi) (k : GW wd (miL mi) X (pc + 1) (setL lv i 0 x) st M) : GW wd (miL mi) X pc lv ((0, x) :: st) M := by
  obtain ⟨p, l, e, R, s, m, args, below, meth, c, Q, M0, G⟩ := X
  intro hm H locs ls hP hS hl
  exact lv_istore_n h.1 h.2.1 hd hi hl hn (cL_set G lv i 0 x (by decide)) (fun ls' hl' => k hm H locs ls' hP hS hl')
theorem gw_istore (h : GOk wd mi X) {i : Nat} {x : Int} (hd : decode (miC mi) pc = .ok (.istore i, 2)) (hn : i < miL mi) (k : GW wd (miL mi) X (pc + 2) (setL lv i 0 x) st M) : GW wd (miL mi) X pc lv ((0, x) :: st) M := by
  obtain ⟨p, l, e, R, s, m, args, below, meth, c, Q, M0, G⟩ := X
  intro hm H locs ls hP hS hl
  exact lv_istore h.1 h.2.1 hd hl hn (cL_set G lv i 0 x (by decide)) (fun ls' hl' => k hm H locs ls' hP hS hl')
theorem gw_lstore_n (h : GOk wd mi X) {j : Fin 4} {i : Nat} {x : Int} (hd : decode (miC mi) pc = .ok (.lstore_n j, 1)) (hi : (j : Nat) = i) (hn : i + 1 < miL mi) (k : GW wd (miL mi) X (pc + 1) (setL lv i 1 x) st M) : GW wd (miL mi) X pc lv ((1, x) :: st) M := by
  obtain ⟨p, l, e, R, s, m, args, below, meth, c, Q, M0, G⟩ := X
  intro hm H locs ls hP hS hl
  exact lv_lstore_n h.1 h.2.1 hd hi hl hn (cL_setL G lv i x) (fun ls' hl' => k hm H locs ls' hP hS hl')
theorem gw_lstore (h : GOk wd mi X) {i : Nat} {x : Int} (hd : decode (miC mi) pc = .ok (.lstore i, 2)) (hn : i + 1 < miL mi) (k : GW wd (miL mi) X (pc + 2) (setL lv i 1 x) st M) : GW wd (miL mi) X pc lv ((1, x) :: st) M := by
  obtain ⟨p, l, e, R, s, m, args, below, meth, c, Q, M0, G⟩ := X
  intro hm H locs ls hP hS hl
  exact lv_lstore h.1 h.2.1 hd hl hn (cL_setL G lv i x) (fun ls' hl' => k hm H locs ls' hP hS hl')
theorem gw_astore_n (h : GOk wd mi X) {j : Fin 4} {i : Nat} {x : Int} (hd : decode (miC mi) pc = .ok (.astore_n j, 1)) (hi : (j : Nat) = i) (hn : i < miL mi) (k : GW wd (miL mi) X (pc + 1) (setL lv i 2 x) st M) : GW wd (miL mi) X pc lv ((2, x) :: st) M := by
  obtain ⟨p, l, e, R, s, m, args, below, meth, c, Q, M0, G⟩ := X
  intro hm H locs ls hP hS hl
  have g := cL_set G lv i 2 x (by decide)
  show W p l e R s m args below meth c H locs 0 0 Q (F0 m pc ls (cv (gad G) 2 x :: cS G st))
  by_cases hx : x < 0
  · have e : cv (gad G) 2 x = .null := by simp [cv, hx]
    rw [e] at g ⊢
    exact lv_astore_nN h.1 h.2.1 hd hi hl hn g (fun ls' hl' => k hm H locs ls' hP hS hl')
  · have e : cv (gad G) 2 x = .ref (gad G x.toNat) := by simp [cv, hx]
    rw [e] at g ⊢
    exact lv_astore_n h.1 h.2.1 hd hi hl hn g (fun ls' hl' => k hm H locs ls' hP hS hl')
theorem gw_astore (h : GOk wd mi X) {i : Nat} {x : Int} (hd : decode (miC mi) pc = .ok (.astore i, 2)) (hn : i < miL mi) (k : GW wd (miL mi) X (pc + 2) (setL lv i 2 x) st M) : GW wd (miL mi) X pc lv ((2, x) :: st) M := by
  obtain ⟨p, l, e, R, s, m, args, below, meth, c, Q, M0, G⟩ := X
  intro hm H locs ls hP hS hl
  have g := cL_set G lv i 2 x (by decide)
  show W p l e R s m args below meth c H locs 0 0 Q (F0 m pc ls (cv (gad G) 2 x :: cS G st))
  by_cases hx : x < 0
  · have e : cv (gad G) 2 x = .null := by simp [cv, hx]
    rw [e] at g ⊢
    exact lv_astoreN h.1 h.2.1 hd hl hn g (fun ls' hl' => k hm H locs ls' hP hS hl')
  · have e : cv (gad G) 2 x = .ref (gad G x.toNat) := by simp [cv, hx]
    rw [e] at g ⊢
    exact lv_astore h.1 h.2.1 hd hl hn g (fun ls' hl' => k hm H locs ls' hP hS hl')
theorem gw_iinc (h : GOk wd mi X) {i : Nat} {n x : Int} (hd : decode (miC mi) pc = .ok (.iinc i n, 3)) (hv : (i, 0, x) ∈ lv) (hn : i < miL mi) (k : GW wd (miL mi) X (pc + 3) (setL lv i 0 (x + n)) st M) : GW wd (miL mi) X pc lv st M := by
  obtain ⟨p, l, e, R, s, m, args, below, meth, c, Q, M0, G⟩ := X
  intro hm H locs ls hP hS hl
  obtain ⟨j, hj⟩ := List.getElem?_of_mem hv
  refine lv_iinc (k := j) h.1 h.2.1 hd hl (x := Int32.ofInt x) (v := Int32.ofInt (x + n)) ?_ (Int32.ofInt_add x n).symm hn (cL_set G lv i 0 (x + n) (by decide)) (fun ls' hl' => k hm H locs ls' hP hS hl')
  simp only [cL, List.getElem?_map, hj]
  rfl
theorem gw_iadd (h : GOk wd mi X) {a b : Int} (hd : decode (miC mi) pc = .ok (.iadd, 1)) (k : GW wd (miL mi) X (pc + 1) lv ((0, a + b) :: st) M) : GW wd (miL mi) X pc lv ((0, b) :: (0, a) :: st) M := by
  obtain ⟨p, l, e, R, s, m, args, below, meth, c, Q, M0, G⟩ := X
  intro hm H locs ls hP hS hl
  refine lv_iadd h.1 h.2.1 hd ?_
  rw [← Int32.ofInt_add]
  exact k hm H locs ls hP hS hl
theorem gw_isub (h : GOk wd mi X) {a b : Int} (hd : decode (miC mi) pc = .ok (.isub, 1)) (k : GW wd (miL mi) X (pc + 1) lv ((0, a - b) :: st) M) : GW wd (miL mi) X pc lv ((0, b) :: (0, a) :: st) M := by
  obtain ⟨p, l, e, R, s, m, args, below, meth, c, Q, M0, G⟩ := X
  intro hm H locs ls hP hS hl
  refine lv_isub h.1 h.2.1 hd ?_
  rw [← Int32.ofInt_sub]
  exact k hm H locs ls hP hS hl
theorem gw_imul (h : GOk wd mi X) {a b : Int} (hd : decode (miC mi) pc = .ok (.imul, 1)) (k : GW wd (miL mi) X (pc + 1) lv ((0, a * b) :: st) M) : GW wd (miL mi) X pc lv ((0, b) :: (0, a) :: st) M := by
  obtain ⟨p, l, e, R, s, m, args, below, meth, c, Q, M0, G⟩ := X
  intro hm H locs ls hP hS hl
  refine lv_imul h.1 h.2.1 hd ?_
  rw [← Int32.ofInt_mul]
  exact k hm H locs ls hP hS hl
theorem gw_ladd (h : GOk wd mi X) {a b : Int} (hd : decode (miC mi) pc = .ok (.ladd, 1)) (k : GW wd (miL mi) X (pc + 1) lv ((1, a + b) :: st) M) : GW wd (miL mi) X pc lv ((1, b) :: (1, a) :: st) M := by
  obtain ⟨p, l, e, R, s, m, args, below, meth, c, Q, M0, G⟩ := X
  intro hm H locs ls hP hS hl
  refine lv_ladd h.1 h.2.1 hd ?_
  rw [← Int64.ofInt_add]
  exact k hm H locs ls hP hS hl
theorem gw_lsub (h : GOk wd mi X) {a b : Int} (hd : decode (miC mi) pc = .ok (.lsub, 1)) (k : GW wd (miL mi) X (pc + 1) lv ((1, a - b) :: st) M) : GW wd (miL mi) X pc lv ((1, b) :: (1, a) :: st) M := by
  obtain ⟨p, l, e, R, s, m, args, below, meth, c, Q, M0, G⟩ := X
  intro hm H locs ls hP hS hl
  refine lv_lsub h.1 h.2.1 hd ?_
  rw [← Int64.ofInt_sub]
  exact k hm H locs ls hP hS hl
theorem gw_lmul (h : GOk wd mi X) {a b : Int} (hd : decode (miC mi) pc = .ok (.lmul, 1)) (k : GW wd (miL mi) X (pc + 1) lv ((1, a * b) :: st) M) : GW wd (miL mi) X pc lv ((1, b) :: (1, a) :: st) M := by
  obtain ⟨p, l, e, R, s, m, args, below, meth, c, Q, M0, G⟩ := X
  intro hm H locs ls hP hS hl
  refine lv_lmul h.1 h.2.1 hd ?_
  rw [← Int64.ofInt_mul]
  exact k hm H locs ls hP hS hl
theorem gw_iand (h : GOk wd mi X) {a b : Int} (hd : decode (miC mi) pc = .ok (.iand, 1)) (k : GW wd (miL mi) X (pc + 1) lv ((0, ian a b) :: st) M) : GW wd (miL mi) X pc lv ((0, b) :: (0, a) :: st) M := by
  obtain ⟨p, l, e, R, s, m, args, below, meth, c, Q, M0, G⟩ := X
  intro hm H locs ls hP hS hl
  have k1 := k hm H locs ls hP hS hl
  simp only [cS, List.map_cons, cv_0, ian, oI] at k1
  exact lv_iand h.1 h.2.1 hd k1
theorem gw_ior (h : GOk wd mi X) {a b : Int} (hd : decode (miC mi) pc = .ok (.ior, 1)) (k : GW wd (miL mi) X (pc + 1) lv ((0, iio a b) :: st) M) : GW wd (miL mi) X pc lv ((0, b) :: (0, a) :: st) M := by
  obtain ⟨p, l, e, R, s, m, args, below, meth, c, Q, M0, G⟩ := X
  intro hm H locs ls hP hS hl
  have k1 := k hm H locs ls hP hS hl
  simp only [cS, List.map_cons, cv_0, iio, oI] at k1
  exact lv_ior h.1 h.2.1 hd k1
theorem gw_ixor (h : GOk wd mi X) {a b : Int} (hd : decode (miC mi) pc = .ok (.ixor, 1)) (k : GW wd (miL mi) X (pc + 1) lv ((0, ixr a b) :: st) M) : GW wd (miL mi) X pc lv ((0, b) :: (0, a) :: st) M := by
  obtain ⟨p, l, e, R, s, m, args, below, meth, c, Q, M0, G⟩ := X
  intro hm H locs ls hP hS hl
  have k1 := k hm H locs ls hP hS hl
  simp only [cS, List.map_cons, cv_0, ixr, oI] at k1
  exact lv_ixor h.1 h.2.1 hd k1
theorem gw_ishl (h : GOk wd mi X) {a b : Int} (hd : decode (miC mi) pc = .ok (.ishl, 1)) (k : GW wd (miL mi) X (pc + 1) lv ((0, isl a b) :: st) M) : GW wd (miL mi) X pc lv ((0, b) :: (0, a) :: st) M := by
  obtain ⟨p, l, e, R, s, m, args, below, meth, c, Q, M0, G⟩ := X
  intro hm H locs ls hP hS hl
  have k1 := k hm H locs ls hP hS hl
  simp only [cS, List.map_cons, cv_0, isl, oI] at k1
  exact lv_ishl h.1 h.2.1 hd k1
theorem gw_ishr (h : GOk wd mi X) {a b : Int} (hd : decode (miC mi) pc = .ok (.ishr, 1)) (k : GW wd (miL mi) X (pc + 1) lv ((0, isr a b) :: st) M) : GW wd (miL mi) X pc lv ((0, b) :: (0, a) :: st) M := by
  obtain ⟨p, l, e, R, s, m, args, below, meth, c, Q, M0, G⟩ := X
  intro hm H locs ls hP hS hl
  have k1 := k hm H locs ls hP hS hl
  simp only [cS, List.map_cons, cv_0, isr, oI] at k1
  exact lv_ishr h.1 h.2.1 hd k1
theorem gw_iushr (h : GOk wd mi X) {a b : Int} (hd : decode (miC mi) pc = .ok (.iushr, 1)) (k : GW wd (miL mi) X (pc + 1) lv ((0, iur a b) :: st) M) : GW wd (miL mi) X pc lv ((0, b) :: (0, a) :: st) M := by
  obtain ⟨p, l, e, R, s, m, args, below, meth, c, Q, M0, G⟩ := X
  intro hm H locs ls hP hS hl
  have k1 := k hm H locs ls hP hS hl
  simp only [cS, List.map_cons, cv_0, iur, oI] at k1
  exact lv_iushr h.1 h.2.1 hd rfl k1
theorem gw_idiv (h : GOk wd mi X) {a b : Int} (hb : ¬ wr b = 0) (hd : decode (miC mi) pc = .ok (.idiv, 1)) (k : GW wd (miL mi) X (pc + 1) lv ((0, idv a b) :: st) M) : GW wd (miL mi) X pc lv ((0, b) :: (0, a) :: st) M := by
  obtain ⟨p, l, e, R, s, m, args, below, meth, c, Q, M0, G⟩ := X
  intro hm H locs ls hP hS hl
  have k1 := k hm H locs ls hP hS hl
  simp only [cS, List.map_cons, cv_0, idv, oI] at k1
  exact lv_idiv h.1 h.2.1 hd (fun z => hb (by rw [← wr_0]; exact wr_eq.mp z)) k1
theorem gw_irem (h : GOk wd mi X) {a b : Int} (hb : ¬ wr b = 0) (hd : decode (miC mi) pc = .ok (.irem, 1)) (k : GW wd (miL mi) X (pc + 1) lv ((0, irm a b) :: st) M) : GW wd (miL mi) X pc lv ((0, b) :: (0, a) :: st) M := by
  obtain ⟨p, l, e, R, s, m, args, below, meth, c, Q, M0, G⟩ := X
  intro hm H locs ls hP hS hl
  have k1 := k hm H locs ls hP hS hl
  simp only [cS, List.map_cons, cv_0, irm, oI] at k1
  exact lv_irem h.1 h.2.1 hd (fun z => hb (by rw [← wr_0]; exact wr_eq.mp z)) k1
theorem gw_land (h : GOk wd mi X) {a b : Int} (hd : decode (miC mi) pc = .ok (.land, 1)) (k : GW wd (miL mi) X (pc + 1) lv ((1, lan a b) :: st) M) : GW wd (miL mi) X pc lv ((1, b) :: (1, a) :: st) M := by
  obtain ⟨p, l, e, R, s, m, args, below, meth, c, Q, M0, G⟩ := X
  intro hm H locs ls hP hS hl
  have k1 := k hm H locs ls hP hS hl
  simp only [cS, List.map_cons, cv_1, lan, oL] at k1
  exact lv_land h.1 h.2.1 hd k1
theorem gw_lor (h : GOk wd mi X) {a b : Int} (hd : decode (miC mi) pc = .ok (.lor, 1)) (k : GW wd (miL mi) X (pc + 1) lv ((1, lio a b) :: st) M) : GW wd (miL mi) X pc lv ((1, b) :: (1, a) :: st) M := by
  obtain ⟨p, l, e, R, s, m, args, below, meth, c, Q, M0, G⟩ := X
  intro hm H locs ls hP hS hl
  have k1 := k hm H locs ls hP hS hl
  simp only [cS, List.map_cons, cv_1, lio, oL] at k1
  exact lv_lor h.1 h.2.1 hd k1
theorem gw_lshl (h : GOk wd mi X) {a b : Int} (hd : decode (miC mi) pc = .ok (.lshl, 1)) (k : GW wd (miL mi) X (pc + 1) lv ((1, lsl a b) :: st) M) : GW wd (miL mi) X pc lv ((0, b) :: (1, a) :: st) M := by
  obtain ⟨p, l, e, R, s, m, args, below, meth, c, Q, M0, G⟩ := X
  intro hm H locs ls hP hS hl
  have k1 := k hm H locs ls hP hS hl
  simp only [cS, List.map_cons, cv_1, lsl, oL] at k1
  exact lv_lshl h.1 h.2.1 hd rfl k1
theorem gw_lushr (h : GOk wd mi X) {a b : Int} (hd : decode (miC mi) pc = .ok (.lushr, 1)) (k : GW wd (miL mi) X (pc + 1) lv ((1, lur a b) :: st) M) : GW wd (miL mi) X pc lv ((0, b) :: (1, a) :: st) M := by
  obtain ⟨p, l, e, R, s, m, args, below, meth, c, Q, M0, G⟩ := X
  intro hm H locs ls hP hS hl
  have k1 := k hm H locs ls hP hS hl
  simp only [cS, List.map_cons, cv_1, lur, oL] at k1
  exact lv_lushr h.1 h.2.1 hd rfl k1
theorem gw_ldiv (h : GOk wd mi X) {a b : Int} (hb : ¬ wrL b = 0) (hd : decode (miC mi) pc = .ok (.ldiv, 1)) (k : GW wd (miL mi) X (pc + 1) lv ((1, ldi a b) :: st) M) : GW wd (miL mi) X pc lv ((1, b) :: (1, a) :: st) M := by
  obtain ⟨p, l, e, R, s, m, args, below, meth, c, Q, M0, G⟩ := X
  intro hm H locs ls hP hS hl
  have k1 := k hm H locs ls hP hS hl
  simp only [cS, List.map_cons, cv_1, ldi, oL] at k1
  exact lv_ldiv h.1 h.2.1 hd (fun z => hb (by have := wrL_eq.mp (show Int64.ofInt b = Int64.ofInt 0 from z); rw [this]; decide)) k1
theorem gw_lrem (h : GOk wd mi X) {a b : Int} (hb : ¬ wrL b = 0) (hd : decode (miC mi) pc = .ok (.lrem, 1)) (k : GW wd (miL mi) X (pc + 1) lv ((1, lrm a b) :: st) M) : GW wd (miL mi) X pc lv ((1, b) :: (1, a) :: st) M := by
  obtain ⟨p, l, e, R, s, m, args, below, meth, c, Q, M0, G⟩ := X
  intro hm H locs ls hP hS hl
  have k1 := k hm H locs ls hP hS hl
  simp only [cS, List.map_cons, cv_1, lrm, oL] at k1
  exact lv_lrem h.1 h.2.1 hd (fun z => hb (by have := wrL_eq.mp (show Int64.ofInt b = Int64.ofInt 0 from z); rw [this]; decide)) k1
theorem gw_i2l (h : GOk wd mi X) {a : Int} (hd : decode (miC mi) pc = .ok (.i2l, 1)) (k : GW wd (miL mi) X (pc + 1) lv ((1, wr a) :: st) M) : GW wd (miL mi) X pc lv ((0, a) :: st) M := by
  obtain ⟨p, l, e, R, s, m, args, below, meth, c, Q, M0, G⟩ := X
  intro hm H locs ls hP hS hl
  exact lv_i2l h.1 h.2.1 hd (i2l_eq a) (k hm H locs ls hP hS hl)
theorem gw_l2i (h : GOk wd mi X) {a : Int} (hd : decode (miC mi) pc = .ok (.l2i, 1)) (k : GW wd (miL mi) X (pc + 1) lv ((0, a) :: st) M) : GW wd (miL mi) X pc lv ((1, a) :: st) M := by
  obtain ⟨p, l, e, R, s, m, args, below, meth, c, Q, M0, G⟩ := X
  intro hm H locs ls hP hS hl
  exact lv_l2i h.1 h.2.1 hd (Int64.toInt32_ofInt) (k hm H locs ls hP hS hl)
theorem gw_lcmp (h : GOk wd mi X) {a b : Int} (hd : decode (miC mi) pc = .ok (.lcmp, 1)) (k : GW wd (miL mi) X (pc + 1) lv ((0, lcm a b) :: st) M) : GW wd (miL mi) X pc lv ((1, b) :: (1, a) :: st) M := by
  obtain ⟨p, l, e, R, s, m, args, below, meth, c, Q, M0, G⟩ := X
  intro hm H locs ls hP hS hl
  have e : lg_cmp (Int64.ofInt a) (Int64.ofInt b) = Int32.ofInt (lcm a b) := by
    unfold lg_cmp lcm
    by_cases h1 : wrL b < wrL a
    · rw [if_pos (show Int64.ofInt a > Int64.ofInt b from wrL_lt.mpr h1), if_pos h1]; rfl
    · rw [if_neg (show ¬ Int64.ofInt a > Int64.ofInt b from fun z => h1 (wrL_lt.mp z)), if_neg h1]
      by_cases h2 : wrL a = wrL b
      · rw [if_pos (wrL_eq.mpr h2), if_pos h2]; rfl
      · rw [if_neg (fun z => h2 (wrL_eq.mp z)), if_neg h2]; rfl
  refine W.lcmp h.1 h.2.1 hd ?_
  rw [e]
  exact k hm H locs ls hP hS hl
theorem gw_dup (h : GOk wd mi X) {t : Nat} {a : Int} (ht : ¬ t = 1) (hd : decode (miC mi) pc = .ok (.dup, 1)) (k : GW wd (miL mi) X (pc + 1) lv ((t, a) :: (t, a) :: st) M) : GW wd (miL mi) X pc lv ((t, a) :: st) M := by
  obtain ⟨p, l, e, R, s, m, args, below, meth, c, Q, M0, G⟩ := X
  intro hm H locs ls hP hS hl
  exact lv_dup h.1 h.2.1 hd (by rw [cv_cat, if_neg ht]) (k hm H locs ls hP hS hl)
theorem gw_pop (h : GOk wd mi X) {t : Nat} {a : Int} (ht : ¬ t = 1) (hd : decode (miC mi) pc = .ok (.pop, 1)) (k : GW wd (miL mi) X (pc + 1) lv st M) : GW wd (miL mi) X pc lv ((t, a) :: st) M := by
  obtain ⟨p, l, e, R, s, m, args, below, meth, c, Q, M0, G⟩ := X
  intro hm H locs ls hP hS hl
  exact lv_pop h.1 h.2.1 hd (by rw [cv_cat, if_neg ht]) (k hm H locs ls hP hS hl)
theorem gw_dup2 (h : GOk wd mi X) {t u : Nat} {a b : Int} (ht : ¬ t = 1) (hu : ¬ u = 1) (hd : decode (miC mi) pc = .ok (.dup2, 1)) (k : GW wd (miL mi) X (pc + 1) lv ((t, a) :: (u, b) :: (t, a) :: (u, b) :: st) M) : GW wd (miL mi) X pc lv ((t, a) :: (u, b) :: st) M := by
  obtain ⟨p, l, e, R, s, m, args, below, meth, c, Q, M0, G⟩ := X
  intro hm H locs ls hP hS hl
  exact lv_dup2_11 h.1 h.2.1 hd (by rw [cv_cat, if_neg ht]) (by rw [cv_cat, if_neg hu]) (k hm H locs ls hP hS hl)
theorem gw_goto (h : GOk wd mi X) {off : Int} {tgt : Nat} (hd : decode (miC mi) pc = .ok (.goto off, 3)) (ht : (pc : Int) + off = (tgt : Int)) (k : GW wd (miL mi) X tgt lv st M) : GW wd (miL mi) X pc lv st M := by
  obtain ⟨p, l, e, R, s, m, args, below, meth, c, Q, M0, G⟩ := X
  intro hm H locs ls hP hS hl
  exact lv_goto h.1 h.2.1 hd ht (k hm H locs ls hP hS hl)
theorem gw_icmp (h : GOk wd mi X) {a b off : Int} {tgt : Nat} {q : Jvm.ClassFile.Cond} (hd : decode (miC mi) pc = .ok (.if_icmp q off, 3)) (ht : (pc : Int) + off = (tgt : Int)) (kt : cmpI q a b = true → GW wd (miL mi) X tgt lv st M) (kf : cmpI q a b = false → GW wd (miL mi) X (pc + 3) lv st M) : GW wd (miL mi) X pc lv ((0, b) :: (0, a) :: st) M := by
  obtain ⟨p, l, e, R, s, m, args, below, meth, c, Q, M0, G⟩ := X
  intro hm H locs ls hP hS hl
  have kt1 := fun z => kt z hm H locs ls hP hS hl
  have kf1 := fun z => kf z hm H locs ls hP hS hl
  cases q with
  | eq => exact lv_icmp_eq h.1 h.2.1 hd ht (fun z => kt1 (by simp [cmpI, wr_eq.mp z])) (fun z => kf1 (by simp only [cmpI, decide_eq_false_iff_not]; exact fun y => z (wr_eq.mpr y)))
  | ne => exact lv_icmp_ne h.1 h.2.1 hd ht (fun z => kt1 (by simp only [cmpI, decide_eq_true_eq]; exact fun y => z (wr_eq.mpr y))) (fun z => kf1 (by simp only [cmpI, decide_eq_false_iff_not, Classical.not_not]; exact wr_eq.mp z))
  | lt => exact lv_icmp_lt h.1 h.2.1 hd ht (fun z => kt1 (by simp only [cmpI, decide_eq_true_eq]; exact wr_lt.mp z)) (fun z => kf1 (by simp only [cmpI, decide_eq_false_iff_not]; exact fun y => z (wr_lt.mpr y)))
  | ge => exact lv_icmp_ge h.1 h.2.1 hd ht (fun z => kt1 (by simp only [cmpI, decide_eq_true_eq]; exact wr_le.mp z)) (fun z => kf1 (by simp only [cmpI, decide_eq_false_iff_not]; exact fun y => z (wr_le.mpr y)))
  | gt => exact lv_icmp_gt h.1 h.2.1 hd ht (fun z => kt1 (by simp only [cmpI, decide_eq_true_eq]; exact wr_lt.mp z)) (fun z => kf1 (by simp only [cmpI, decide_eq_false_iff_not]; exact fun y => z (wr_lt.mpr y)))
  | le => exact lv_icmp_le h.1 h.2.1 hd ht (fun z => kt1 (by simp only [cmpI, decide_eq_true_eq]; exact wr_le.mp z)) (fun z => kf1 (by simp only [cmpI, decide_eq_false_iff_not]; exact fun y => z (wr_le.mpr y)))
theorem gw_if (h : GOk wd mi X) {a off : Int} {tgt : Nat} {q : Jvm.ClassFile.Cond} (hd : decode (miC mi) pc = .ok (.ifCond q off, 3)) (ht : (pc : Int) + off = (tgt : Int)) (kt : cmpI q a 0 = true → GW wd (miL mi) X tgt lv st M) (kf : cmpI q a 0 = false → GW wd (miL mi) X (pc + 3) lv st M) : GW wd (miL mi) X pc lv ((0, a) :: st) M := by
  obtain ⟨p, l, e, R, s, m, args, below, meth, c, Q, M0, G⟩ := X
  intro hm H locs ls hP hS hl
  have kt1 := fun z => kt z hm H locs ls hP hS hl
  have kf1 := fun z => kf z hm H locs ls hP hS hl
  cases q with
  | eq => exact lv_if_eq h.1 h.2.1 hd ht (fun z => kt1 (by simp only [cmpI, decide_eq_true_eq]; exact wr_eq.mp z)) (fun z => kf1 (by simp only [cmpI, decide_eq_false_iff_not]; exact fun y => z (wr_eq.mpr y)))
  | ne => exact lv_if_ne h.1 h.2.1 hd ht (fun z => kt1 (by simp only [cmpI, decide_eq_true_eq]; exact fun y => z (wr_eq.mpr y))) (fun z => kf1 (by simp only [cmpI, decide_eq_false_iff_not, Classical.not_not]; exact wr_eq.mp z))
  | lt => exact lv_if_lt h.1 h.2.1 hd ht (fun z => kt1 (by simp only [cmpI, decide_eq_true_eq]; exact wr_lt.mp z)) (fun z => kf1 (by simp only [cmpI, decide_eq_false_iff_not]; exact fun y => z (wr_lt.mpr y)))
  | ge => exact lv_if_ge h.1 h.2.1 hd ht (fun z => kt1 (by simp only [cmpI, decide_eq_true_eq]; exact wr_le.mp z)) (fun z => kf1 (by simp only [cmpI, decide_eq_false_iff_not]; exact fun y => z (wr_le.mpr y)))
  | gt => exact lv_if_gt h.1 h.2.1 hd ht (fun z => kt1 (by simp only [cmpI, decide_eq_true_eq]; exact wr_lt.mp z)) (fun z => kf1 (by simp only [cmpI, decide_eq_false_iff_not]; exact fun y => z (wr_lt.mpr y)))
  | le => exact lv_if_le h.1 h.2.1 hd ht (fun z => kt1 (by simp only [cmpI, decide_eq_true_eq]; exact wr_le.mp z)) (fun z => kf1 (by simp only [cmpI, decide_eq_false_iff_not]; exact fun y => z (wr_le.mpr y)))
theorem gw_ifnull (h : GOk wd mi X) {a off : Int} {tgt : Nat} (hd : decode (miC mi) pc = .ok (.ifnull off, 3)) (ht : (pc : Int) + off = (tgt : Int)) (kt : a < 0 → GW wd (miL mi) X tgt lv st M) (kf : ¬ a < 0 → GW wd (miL mi) X (pc + 3) lv st M) : GW wd (miL mi) X pc lv ((2, a) :: st) M := by
  obtain ⟨p, l, e, R, s, m, args, below, meth, c, Q, M0, G⟩ := X
  intro hm H locs ls hP hS hl
  show W p l e R s m args below meth c H locs 0 0 Q (F0 m pc ls (cv (gad G) 2 a :: cS G st))
  by_cases hx : a < 0
  · have e9 : cv (gad G) 2 a = .null := by simp [cv, hx]
    rw [e9]
    exact lv_ifnullN h.1 h.2.1 hd ht (kt hx hm H locs ls hP hS hl)
  · have e9 : cv (gad G) 2 a = .ref (gad G a.toNat) := by simp [cv, hx]
    rw [e9]
    exact lv_ifnull h.1 h.2.1 hd (kf hx hm H locs ls hP hS hl)
theorem gw_ifnonnull (h : GOk wd mi X) {a off : Int} {tgt : Nat} (hd : decode (miC mi) pc = .ok (.ifnonnull off, 3)) (ht : (pc : Int) + off = (tgt : Int)) (kt : ¬ a < 0 → GW wd (miL mi) X tgt lv st M) (kf : a < 0 → GW wd (miL mi) X (pc + 3) lv st M) : GW wd (miL mi) X pc lv ((2, a) :: st) M := by
  obtain ⟨p, l, e, R, s, m, args, below, meth, c, Q, M0, G⟩ := X
  intro hm H locs ls hP hS hl
  show W p l e R s m args below meth c H locs 0 0 Q (F0 m pc ls (cv (gad G) 2 a :: cS G st))
  by_cases hx : a < 0
  · have e9 : cv (gad G) 2 a = .null := by simp [cv, hx]
    rw [e9]
    exact lv_ifnonnullN h.1 h.2.1 hd (kf hx hm H locs ls hP hS hl)
  · have e9 : cv (gad G) 2 a = .ref (gad G a.toNat) := by simp [cv, hx]
    rw [e9]
    exact lv_ifnonnull h.1 h.2.1 hd ht (kt hx hm H locs ls hP hS hl)
end GWS
