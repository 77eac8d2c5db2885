/-! PART 07: expressions and conditions: what they do, how their bytes are checked, and that the two agree. -/
def decO (cc : ByteArray) (pc : Nat) : Option (Instr × Nat) := match decode cc pc with
  | .ok q => some q
  | .error _ => none
theorem decO_ok {cc : ByteArray} {pc : Nat} {q : Instr × Nat} (h : decO cc pc = some q) : decode cc pc = .ok q := by
  unfold decO at h
  split at h
  · next x e => cases h; exact e
  · cases h
def isI (cc : ByteArray) (pc : Nat) (i : Instr) (n : Nat) : Bool := decide (decO cc pc = some (i, n))
theorem isI_ok {cc : ByteArray} {pc : Nat} {i : Instr} {n : Nat} (h : isI cc pc i n = true) : decode cc pc = .ok (i, n) := decO_ok (of_decide_eq_true h)
def grd {α : Type} (b : Bool) (x : Option α) : Option α := if b then x else none
theorem ogrd {α : Type} {b : Bool} {x : Option α} {y : α} (h : grd b x = some y) : b = true ∧ x = some y := by
  unfold grd at h
  split at h
  · next e => exact ⟨e, h⟩
  · cases h
theorem obind {α β : Type} {x : Option α} {f : α → Option β} {y : β} (h : x.bind f = some y) : ∃ a, x = some a ∧ f a = some y := Option.bind_eq_some_iff.mp h
def jmp (pc : Nat) (off : Int) : Option Nat := if 0 ≤ (pc : Int) + off then some ((pc : Int) + off).toNat else none
theorem jmp_ok {pc : Nat} {off : Int} {t : Nat} (h : jmp pc off = some t) : (pc : Int) + off = (t : Int) := by
  unfold jmp at h
  split at h
  · next e => cases h; omega
  · cases h
def icmpO (cc : ByteArray) (pc : Nat) : Option (Jvm.ClassFile.Cond × Nat) := match decO cc pc with
  | some (.if_icmp q off, 3) => (jmp pc off).map (fun t => (q, t))
  | _ => none
def ifO (cc : ByteArray) (pc : Nat) : Option (Jvm.ClassFile.Cond × Nat) := match decO cc pc with
  | some (.ifCond q off, 3) => (jmp pc off).map (fun t => (q, t))
  | _ => none
def gotoO (cc : ByteArray) (pc : Nat) : Option Nat := match decO cc pc with
  | some (.goto off, 3) => jmp pc off
  | _ => none
/-- true: ifnull, false: ifnonnull -/
def nullO (cc : ByteArray) (pc : Nat) : Option (Bool × Nat) := match decO cc pc with
  | some (.ifnull off, 3) => (jmp pc off).map (fun t => (true, t))
  | some (.ifnonnull off, 3) => (jmp pc off).map (fun t => (false, t))
  | _ => none
theorem icmpO_ok {cc : ByteArray} {pc t : Nat} {q : Jvm.ClassFile.Cond} (h : icmpO cc pc = some (q, t)) : ∃ off, decode cc pc = .ok (.if_icmp q off, 3) ∧ (pc : Int) + off = (t : Int) := by
  unfold icmpO at h
  split at h
  · next q2 off e =>
    obtain ⟨t2, h1, h2⟩ := Option.map_eq_some_iff.mp h
    cases h2
    exact ⟨off, decO_ok e, jmp_ok h1⟩
  · cases h
theorem ifO_ok {cc : ByteArray} {pc t : Nat} {q : Jvm.ClassFile.Cond} (h : ifO cc pc = some (q, t)) : ∃ off, decode cc pc = .ok (.ifCond q off, 3) ∧ (pc : Int) + off = (t : Int) := by
  unfold ifO at h
  split at h
  · next q2 off e =>
    obtain ⟨t2, h1, h2⟩ := Option.map_eq_some_iff.mp h
    cases h2
    exact ⟨off, decO_ok e, jmp_ok h1⟩
  · cases h
theorem gotoO_ok {cc : ByteArray} {pc t : Nat} (h : gotoO cc pc = some t) : ∃ off, decode cc pc = .ok (.goto off, 3) ∧ (pc : Int) + off = (t : Int) := by
  unfold gotoO at h
  split at h
  · next off e => exact ⟨off, decO_ok e, jmp_ok h⟩
  · cases h
theorem nullO_ok {cc : ByteArray} {pc t : Nat} {b : Bool} (h : nullO cc pc = some (b, t)) : ∃ off, decode cc pc = .ok ((if b then .ifnull off else .ifnonnull off), 3) ∧ (pc : Int) + off = (t : Int) := by
  unfold nullO at h
  split at h
  · next off e =>
    obtain ⟨t2, h1, h2⟩ := Option.map_eq_some_iff.mp h
    cases h2
    exact ⟨off, decO_ok e, jmp_ok h1⟩
  · next off e =>
    obtain ⟨t2, h1, h2⟩ := Option.map_eq_some_iff.mp h
    cases h2
    exact ⟨off, decO_ok e, jmp_ok h1⟩
  · cases h
/-- the locals that are in use, with their types (9: none) -/
def lvOf (te : List Nat) (ρ : List Int) : LVs := (List.range te.length).filterMap (fun i => if te.getD i 9 = 9 then none else some (i, te.getD i 9, ρ.getD i 0))
theorem mem_lv {te : List Nat} {ρ : List Int} {i t : Nat} {x : Int} : (i, t, x) ∈ lvOf te ρ ↔ te.getD i 9 = t ∧ t ≠ 9 ∧ x = ρ.getD i 0 := by
  unfold lvOf
  rw [List.mem_filterMap]
  constructor
  · rintro ⟨j, h1, h2⟩
    split at h2
    · cases h2
    · next h3 =>
      cases h2
      exact ⟨rfl, h3, rfl⟩
  · rintro ⟨rfl, h2, rfl⟩
    refine ⟨i, ?_, by rw [if_neg h2]⟩
    rw [List.mem_range]
    rcases Nat.lt_or_ge i te.length with h | h
    · exact h
    · exact absurd (by simp [List.getD, List.getElem?_eq_none h]) h2
def leT (te te' : List Nat) : Bool := (List.range te.length).all (fun i => decide (te.getD i 9 = 9) || decide (te.getD i 9 = te'.getD i 9))
theorem lv_mono {te te' : List Nat} {ρ : List Int} (h : leT te te' = true) : ∀ q ∈ lvOf te ρ, q ∈ lvOf te' ρ := by
  rintro ⟨i, t, x⟩ hq
  obtain ⟨h1, h2, h3⟩ := mem_lv.mp hq
  have hi : i < te.length := by
    rcases Nat.lt_or_ge i te.length with h | h
    · exact h
    · exact absurd (by rw [← h1]; simp [List.getD, List.getElem?_eq_none h]) h2
  have h4 := List.all_eq_true.mp h i (List.mem_range.mpr hi)
  simp only [Bool.or_eq_true, decide_eq_true_eq] at h4
  refine mem_lv.mpr ⟨?_, h2, h3⟩
  rcases h4 with h4 | h4
  · exact absurd (h1.symm.trans h4) h2
  · rw [← h4]; exact h1
def catS (st : STs) : Nat := (st.map (fun q => if q.1 = 1 then 2 else 1)).sum
def catT (t : Nat) : Nat := if t = 1 then 2 else 1
theorem catS_cons {t : Nat} {x : Int} {st : STs} : catS ((t, x) :: st) = catT t + catS st := by simp [catS, catT]
/-- all pending jumps come here -/
def rsv (pc : Nat) (ex : List Nat) : Bool := ex.all (fun q => q == pc)
theorem rsv_all {pc : Nat} {ex : List Nat} {P : Nat → Prop} (h : rsv pc ex = true) (k : P pc) : ∀ q, q ∈ pc :: ex → P q := by
  intro q hq
  rcases List.mem_cons.mp hq with rfl | hq
  · exact k
  · have := List.all_eq_true.mp h q hq
    rw [beq_iff_eq.mp this]
    exact k
theorem rsv_mem {pc : Nat} {ex : List Nat} {P : Nat → Prop} (h : rsv pc ex = true) (k : P pc) : ∀ q, q ∈ ex → P q := fun q hq => rsv_all h k q (List.mem_cons_of_mem _ hq)
abbrev ExD : Type := List Int → Mem → Option (Int × Mem)
abbrev ExC : Type := List Nat → Nat → Nat → Option (Nat × Nat × List Nat)
def SoundE (wd : Wd) (mi : MI) (d : ExD) (c : ExC) : Prop := ∀ X : Cx, GOk wd mi X → ∀ (te : List Nat) (sz pc pc' t : Nat) (ex : List Nat), c te sz pc = some (pc', t, ex) → ∀ (ρ : List Int) (M : Mem) (v : Int) (M' : Mem) (st : STs), catS st = sz → d ρ M = some (v, M') → (∀ q, q ∈ pc' :: ex → GW wd (miL mi) X q (lvOf te ρ) ((t, v) :: st) M') → GW wd (miL mi) X pc (lvOf te ρ) st M
abbrev Ex (wd : Wd) (mi : MI) : Type := { q : ExD × ExC // SoundE wd mi q.1 q.2 }
abbrev CoD : Type := List Int → Mem → Option (Bool × Mem)
abbrev CoC : Type := Bool → List Nat → Nat → Nat → Option (Nat × List Nat × List Nat)
/-- where a condition may come to: true mode falls through when it holds -/
def goals (md b : Bool) (pc : Nat) (fs ts : List Nat) : List Nat := if b then (if md then pc :: ts else ts) else (if md then fs else pc :: fs)
def SoundC (wd : Wd) (mi : MI) (d : CoD) (c : CoC) : Prop := ∀ X : Cx, GOk wd mi X → ∀ (md : Bool) (te : List Nat) (sz pc pc' : Nat) (fs ts : List Nat), c md te sz pc = some (pc', fs, ts) → ∀ (ρ : List Int) (M : Mem) (b : Bool) (M' : Mem) (st : STs), catS st = sz → d ρ M = some (b, M') → (∀ q, q ∈ goals md b pc' fs ts → GW wd (miL mi) X q (lvOf te ρ) st M') → GW wd (miL mi) X pc (lvOf te ρ) st M
abbrev Co (wd : Wd) (mi : MI) : Type := { q : CoD × CoC // SoundC wd mi q.1 q.2 }
abbrev ArD : Type := List Int → Mem → Option (List Int × Mem)
abbrev ArC : Type := List Nat → Nat → Nat → Option (Nat × List Nat)
/-- arguments: they lie on the stack, the last on top -/
def SoundA (wd : Wd) (mi : MI) (d : ArD) (c : ArC) : Prop := ∀ X : Cx, GOk wd mi X → ∀ (te : List Nat) (sz pc pc' : Nat) (ts : List Nat), c te sz pc = some (pc', ts) → ∀ (ρ : List Int) (M : Mem) (vs : List Int) (M' : Mem) (st : STs), catS st = sz → d ρ M = some (vs, M') → vs.length = ts.length ∧ (GW wd (miL mi) X pc' (lvOf te ρ) ((ts.zip vs).reverse ++ st) M' → GW wd (miL mi) X pc (lvOf te ρ) st M)
abbrev Ar (wd : Wd) (mi : MI) : Type := { q : ArD × ArC // SoundA wd mi q.1 q.2 }
/-! what they do -/
def dInt (n : Int) : ExD := fun _ M => some (n, M)
def dLoc (k : Nat) : ExD := fun ρ M => some (ρ.getD k 0, M)
def dBin (f : Int → Int → Int) (a b : ExD) : ExD := fun ρ M => (a ρ M).bind fun x => (b ρ x.2).bind fun y => some (f x.1 y.1, y.2)
def dDiv (f : Int → Int → Int) (w : Int → Int) (a b : ExD) : ExD := fun ρ M => (a ρ M).bind fun x => (b ρ x.2).bind fun y => if w y.1 = 0 then none else some (f x.1 y.1, y.2)
def dUn (f : Int → Int) (a : ExD) : ExD := fun ρ M => (a ρ M).bind fun x => some (f x.1, x.2)
def obR (wd : Wd) (o : Int) (c : Nat) : Option (Nat × List Int) := if 0 ≤ o ∧ o.toNat < wd.2.1 then (match wd.1[o.toNat]? with | some (t, n, rs) => if t = c + 3 then some (n, rs) else none | none => none) else none
def dFld (wd : Wd) (c k : Nat) (a : ExD) : ExD := fun ρ M => (a ρ M).bind fun x => (obR wd x.1 c).bind fun q => if k < q.1 then some (fv x.2 q.2 c x.1.toNat k, x.2) else none
/-- a row that can be read: its length -/
def arR (wd : Wd) (t : Nat) (a : Int) : Option Nat := if 0 ≤ a then (match wd.1[a.toNat]? with | some (u, n, _) => if u = t ∧ (a.toNat < wd.2.1 ∨ t = 0 ∧ arC wd a n = true) then some n else none | none => none) else none
def dAr (wd : Wd) (t : Nat) (a i : ExD) : ExD := fun ρ M => (a ρ M).bind fun x => (i ρ x.2).bind fun y => (arR wd t x.1).bind fun n => if 0 ≤ wr y.1 ∧ wr y.1 < n then some (y.2 x.1.toNat (wr y.1).toNat, y.2) else none
/-- a row of objects -/
def roR (wd : Wd) (a : Int) : Option (Nat × List Int) := if 0 ≤ a ∧ a.toNat < wd.2.1 then (match wd.1[a.toNat]? with | some (u, n, rs) => if u = 2 then some (n, rs) else none | none => none) else none
def dRo (wd : Wd) (a i : ExD) : ExD := fun ρ M => (a ρ M).bind fun x => (i ρ x.2).bind fun y => (roR wd x.1).bind fun q => if 0 ≤ wr y.1 ∧ wr y.1 < q.1 then some (q.2.getD (wr y.1).toNat (-1), y.2) else none
def dLen (wd : Wd) (t : Nat) (a : ExD) : ExD := fun ρ M => (a ρ M).bind fun x => (if t < 2 then arR wd t x.1 else (roR wd x.1).map (fun q => q.1)).bind fun n => some ((n : Int), x.2)
def dCal (wd : Wd) (ci : CI) (a : ArD) : ExD := fun ρ M => (a ρ M).bind fun x => if recvOk wd ci x.1 = true then ci.2.2.2.2 x.1 x.2 else none
def dCon (c : CoD) (a b : ExD) : ExD := fun ρ M => (c ρ M).bind fun x => if x.1 = true then a ρ x.2 else b ρ x.2
def dBo (c : CoD) : ExD := fun ρ M => (c ρ M).bind fun x => some (if x.1 = true then 1 else 0, x.2)
def dCmp (q : Jvm.ClassFile.Cond) (a b : ExD) : CoD := fun ρ M => (a ρ M).bind fun x => (b ρ x.2).bind fun y => some (cmpI q x.1 y.1, y.2)
def cmpL (c : Jvm.ClassFile.Cond) (a b : Int) : Bool := match c with
  | .eq => decide (wrL a = wrL b)
  | .ne => decide (¬ wrL a = wrL b)
  | .lt => decide (wrL a < wrL b)
  | .ge => decide (wrL b ≤ wrL a)
  | .gt => decide (wrL b < wrL a)
  | .le => decide (wrL a ≤ wrL b)
def dCmpL (q : Jvm.ClassFile.Cond) (a b : ExD) : CoD := fun ρ M => (a ρ M).bind fun x => (b ρ x.2).bind fun y => some (cmpL q x.1 y.1, y.2)
def dCm0 (q : Jvm.ClassFile.Cond) (a : ExD) : CoD := fun ρ M => (a ρ M).bind fun x => some (cmpI q x.1 0, x.2)
def dNul (a : ExD) : CoD := fun ρ M => (a ρ M).bind fun x => some (decide (x.1 < 0), x.2)
def dAnd (a b : CoD) : CoD := fun ρ M => (a ρ M).bind fun x => if x.1 = true then b ρ x.2 else some (false, x.2)
def dOr (a b : CoD) : CoD := fun ρ M => (a ρ M).bind fun x => if x.1 = true then some (true, x.2) else b ρ x.2
def dNot (a : CoD) : CoD := fun ρ M => (a ρ M).bind fun x => some (!x.1, x.2)
def dA0 : ArD := fun _ M => some ([], M)
def dA1 (a : ArD) (b : ExD) : ArD := fun ρ M => (a ρ M).bind fun x => (b ρ x.2).bind fun y => some (x.1 ++ [y.1], y.2)
section EX
variable {wd : Wd} {mi : MI}
def cInt (mi : MI) (n : Int) : ExC := fun _ _ pc => match decO (miC mi) pc with
  | some (.iconst k, 1) => grd (decide (k = n)) (some (pc + 1, 0, []))
  | some (.bipush k, 2) => grd (decide (k = n ∧ -128 ≤ n ∧ n < 128)) (some (pc + 2, 0, []))
  | some (.sipush k, 3) => grd (decide (k = n ∧ -32768 ≤ n ∧ n < 32768)) (some (pc + 3, 0, []))
  | some (.ldc i, 2) => grd (decide (lk i (miI mi) = some n)) (some (pc + 2, 0, []))
  | some (.ldc_w i, 3) => grd (decide (lk i (miI mi) = some n)) (some (pc + 3, 0, []))
  | _ => none
theorem sInt (n : Int) : SoundE wd mi (dInt n) (cInt mi n) := by
  intro X hX te sz pc pc' t ex hc ρ M v M' st hst hd k
  cases hd
  unfold cInt at hc
  split at hc
  · next q e =>
    obtain ⟨h1, h2⟩ := ogrd hc
    cases h2
    have h1 := of_decide_eq_true h1
    subst h1
    exact gw_iconst hX (decO_ok e) (k _ List.mem_cons_self)
  · next q e =>
    obtain ⟨h1, h2⟩ := ogrd hc
    cases h2
    obtain ⟨h1, h3, h4⟩ := of_decide_eq_true h1
    subst h1
    exact gw_bipush hX h3 h4 (decO_ok e) (k _ List.mem_cons_self)
  · next q e =>
    obtain ⟨h1, h2⟩ := ogrd hc
    cases h2
    obtain ⟨h1, h3, h4⟩ := of_decide_eq_true h1
    subst h1
    exact gw_sipush hX h3 h4 (decO_ok e) (k _ List.mem_cons_self)
  · next q e =>
    obtain ⟨h1, h2⟩ := ogrd hc
    cases h2
    exact gw_ldc hX (of_decide_eq_true h1) (decO_ok e) (k _ List.mem_cons_self)
  · next q e =>
    obtain ⟨h1, h2⟩ := ogrd hc
    cases h2
    exact gw_ldcw hX (of_decide_eq_true h1) (decO_ok e) (k _ List.mem_cons_self)
  · cases hc
def eInt (n : Int) : Ex wd mi := ⟨(dInt n, cInt mi n), sInt n⟩
def cLng (mi : MI) (n : Int) : ExC := fun _ _ pc => match decO (miC mi) pc with
  | some (.lconst k, 1) => grd (decide (((k : Nat) : Int) = n)) (some (pc + 1, 1, []))
  | some (.ldc2_w i, 3) => grd (decide (lk i (miJ mi) = some n)) (some (pc + 3, 1, []))
  | _ => none
theorem sLng (n : Int) : SoundE wd mi (dInt n) (cLng mi n) := by
  intro X hX te sz pc pc' t ex hc ρ M v M' st hst hd k
  cases hd
  unfold cLng at hc
  split at hc
  · next q e =>
    obtain ⟨h1, h2⟩ := ogrd hc
    cases h2
    have h1 := of_decide_eq_true h1
    subst h1
    exact gw_lconst hX (decO_ok e) (k _ List.mem_cons_self)
  · next q e =>
    obtain ⟨h1, h2⟩ := ogrd hc
    cases h2
    exact gw_ldc2 hX (of_decide_eq_true h1) (decO_ok e) (k _ List.mem_cons_self)
  · cases hc
def eLng (n : Int) : Ex wd mi := ⟨(dInt n, cLng mi n), sLng n⟩
theorem gw_null {X : Cx} {pc : Nat} {lv : LVs} {st : STs} {M : Mem} (h : GOk wd mi X) (hd : decode (miC mi) pc = .ok (.aconst_null, 1)) (k : GW wd (miL mi) X (pc + 1) lv ((2, -1) :: st) M) : GW wd (miL mi) X pc lv st M := by
  obtain ⟨p, l, e, R, s, m, args, below, meth, cc0, Q, M0, G⟩ := X
  intro hm H locs ls hP hS hl
  exact lv_null h.1 h.2.1 hd (k hm H locs ls hP hS hl)
def cNll (mi : MI) : ExC := fun _ _ pc => grd (isI (miC mi) pc .aconst_null 1) (some (pc + 1, 2, []))
theorem sNll : SoundE wd mi (dInt (-1)) (cNll mi) := by
  intro X hX te sz pc pc' t ex hc ρ M v M' st hst hd k
  cases hd
  obtain ⟨hg, h2⟩ := ogrd hc
  cases h2
  exact gw_null hX (isI_ok hg) (k _ List.mem_cons_self)
def eNll : Ex wd mi := ⟨(dInt (-1), cNll mi), sNll⟩
def cStr (mi : MI) (n : Nat) : ExC := fun _ _ pc => match decO (miC mi) pc with
  | some (.ldc i, 2) => grd (decide (lk i (miS mi) = some n)) (some (pc + 2, 2, []))
  | _ => none
theorem sStr (n : Nat) : SoundE wd mi (dInt n) (cStr mi n) := by
  intro X hX te sz pc pc' t ex hc ρ M v M' st hst hd k
  cases hd
  unfold cStr at hc
  split at hc
  · next q e =>
    obtain ⟨h1, h2⟩ := ogrd hc
    cases h2
    exact gw_ldcS hX (of_decide_eq_true h1) (decO_ok e) (k _ List.mem_cons_self)
  · cases hc
def eStr (n : Nat) : Ex wd mi := ⟨(dInt n, cStr mi n), sStr n⟩
def cSta (mi : MI) (n : Nat) : ExC := fun _ _ pc => match decO (miC mi) pc with
  | some (.getstatic i, 3) => grd (decide (lk i (miT mi) = some n)) (some (pc + 3, 2, []))
  | _ => none
theorem sSta (n : Nat) : SoundE wd mi (dInt n) (cSta mi n) := by
  intro X hX te sz pc pc' t ex hc ρ M v M' st hst hd k
  cases hd
  unfold cSta at hc
  split at hc
  · next q e =>
    obtain ⟨h1, h2⟩ := ogrd hc
    cases h2
    exact gw_gets hX (of_decide_eq_true h1) (decO_ok e) (k _ List.mem_cons_self)
  · cases hc
def eSta (n : Nat) : Ex wd mi := ⟨(dInt n, cSta mi n), sSta n⟩
def cLoc (mi : MI) (i : Nat) : ExC := fun te _ pc => match decO (miC mi) pc with
  | some (.iload_n j, 1) => grd (decide ((j : Nat) = i ∧ te.getD i 9 = 0)) (some (pc + 1, 0, []))
  | some (.iload j, 2) => grd (decide (j = i ∧ te.getD i 9 = 0)) (some (pc + 2, 0, []))
  | some (.lload_n j, 1) => grd (decide ((j : Nat) = i ∧ te.getD i 9 = 1)) (some (pc + 1, 1, []))
  | some (.lload j, 2) => grd (decide (j = i ∧ te.getD i 9 = 1)) (some (pc + 2, 1, []))
  | some (.aload_n j, 1) => grd (decide ((j : Nat) = i ∧ te.getD i 9 = 2)) (some (pc + 1, 2, []))
  | some (.aload j, 2) => grd (decide (j = i ∧ te.getD i 9 = 2)) (some (pc + 2, 2, []))
  | _ => none
theorem sLoc (i : Nat) : SoundE wd mi (dLoc i) (cLoc mi i) := by
  intro X hX te sz pc pc' t ex hc ρ M v M' st hst hd k
  cases hd
  unfold cLoc at hc
  split at hc
  · next q e =>
    obtain ⟨h1, h2⟩ := ogrd hc
    cases h2
    obtain ⟨h1, h3⟩ := of_decide_eq_true h1
    exact gw_iload_n hX (decO_ok e) h1 (mem_lv.mpr ⟨h3, by decide, rfl⟩) (k _ List.mem_cons_self)
  · next q e =>
    obtain ⟨h1, h2⟩ := ogrd hc
    cases h2
    obtain ⟨h1, h3⟩ := of_decide_eq_true h1
    subst h1
    exact gw_iload hX (decO_ok e) (mem_lv.mpr ⟨h3, by decide, rfl⟩) (k _ List.mem_cons_self)
  · next q e =>
    obtain ⟨h1, h2⟩ := ogrd hc
    cases h2
    obtain ⟨h1, h3⟩ := of_decide_eq_true h1
    exact gw_lload_n hX (decO_ok e) h1 (mem_lv.mpr ⟨h3, by decide, rfl⟩) (k _ List.mem_cons_self)
  · next q e =>
    obtain ⟨h1, h2⟩ := ogrd hc
    cases h2
    obtain ⟨h1, h3⟩ := of_decide_eq_true h1
    subst h1
    exact gw_lload hX (decO_ok e) (mem_lv.mpr ⟨h3, by decide, rfl⟩) (k _ List.mem_cons_self)
  · next q e =>
    obtain ⟨h1, h2⟩ := ogrd hc
    cases h2
    obtain ⟨h1, h3⟩ := of_decide_eq_true h1
    exact gw_aload_n hX (decO_ok e) h1 (mem_lv.mpr ⟨h3, by decide, rfl⟩) (k _ List.mem_cons_self)
  · next q e =>
    obtain ⟨h1, h2⟩ := ogrd hc
    cases h2
    obtain ⟨h1, h3⟩ := of_decide_eq_true h1
    subst h1
    exact gw_aload hX (decO_ok e) (mem_lv.mpr ⟨h3, by decide, rfl⟩) (k _ List.mem_cons_self)
  · cases hc
def eLoc (i : Nat) : Ex wd mi := ⟨(dLoc i, cLoc mi i), sLoc i⟩
/-- one expression, its jumps resolved, of a type -/
def c1 (a : ExC) (t : Nat) (te : List Nat) (sz pc : Nat) : Option Nat := (a te sz pc).bind fun q => grd (decide (q.2.1 = t) && rsv q.1 q.2.2) (some q.1)
theorem s1 {d : ExD} {a : ExC} (ha : SoundE wd mi d a) {X : Cx} (hX : GOk wd mi X) {te : List Nat} {sz pc pc' t : Nat} (hc : c1 a t te sz pc = some pc') {ρ : List Int} {M M' : Mem} {v : Int} {st : STs} (hst : catS st = sz) (hd : d ρ M = some (v, M')) (k : GW wd (miL mi) X pc' (lvOf te ρ) ((t, v) :: st) M') : GW wd (miL mi) X pc (lvOf te ρ) st M := by
  obtain ⟨⟨q1, q2, q3⟩, h1, h2⟩ := obind hc
  obtain ⟨hg, h3⟩ := ogrd h2
  cases h3
  simp only [Bool.and_eq_true, decide_eq_true_eq] at hg
  obtain ⟨rfl, h4⟩ := hg
  exact ha X hX te sz pc q1 q2 q3 h1 ρ M v M' st hst hd (rsv_all h4 k)
/-- two, one behind the other -/
def c2 (a b : ExC) (t u : Nat) (te : List Nat) (sz pc : Nat) : Option Nat := (c1 a t te sz pc).bind fun p1 => c1 b u te (sz + catT t) p1
theorem s2 {d1 d2 : ExD} {a b : ExC} (ha : SoundE wd mi d1 a) (hb : SoundE wd mi d2 b) {X : Cx} (hX : GOk wd mi X) {te : List Nat} {sz pc pc' t u : Nat} (hc : c2 a b t u te sz pc = some pc') {ρ : List Int} {M M1 M2 : Mem} {v w : Int} {st : STs} (hst : catS st = sz) (hd1 : d1 ρ M = some (v, M1)) (hd2 : d2 ρ M1 = some (w, M2)) (k : GW wd (miL mi) X pc' (lvOf te ρ) ((u, w) :: (t, v) :: st) M2) : GW wd (miL mi) X pc (lvOf te ρ) st M := by
  obtain ⟨p1, h1, h2⟩ := obind hc
  exact s1 ha hX h1 hst hd1 (s1 hb hX h2 (by rw [catS_cons, hst, Nat.add_comm]) hd2 k)
/-- the arithmetic of two ints; of two longs; a long's shift -/
def opI (o : Nat) : Instr := match o with
  | 0 => .iadd
  | 1 => .isub
  | 2 => .imul
  | 3 => .iand
  | 4 => .ior
  | 5 => .ixor
  | 6 => .ishl
  | 7 => .ishr
  | 8 => .iushr
  | 9 => .ladd
  | 10 => .lsub
  | 11 => .lmul
  | 12 => .land
  | 13 => .lor
  | 14 => .lshl
  | _ => .lushr
def opF (o : Nat) : Int → Int → Int := match o with
  | 0 => fun a b => a + b
  | 1 => fun a b => a - b
  | 2 => fun a b => a * b
  | 3 => ian
  | 4 => iio
  | 5 => ixr
  | 6 => isl
  | 7 => isr
  | 8 => iur
  | 9 => fun a b => a + b
  | 10 => fun a b => a - b
  | 11 => fun a b => a * b
  | 12 => lan
  | 13 => lio
  | 14 => lsl
  | _ => lur
/-- the types: left, right (the answer's is the left's) -/
def opT (o : Nat) : Nat := if o < 9 then 0 else 1
def opU (o : Nat) : Nat := if o < 9 then 0 else if o < 14 then 1 else 0
theorem gw_op {X : Cx} {pc : Nat} {lv : LVs} {st : STs} {M : Mem} (h : GOk wd mi X) {o : Nat} {a b : Int} (ho : o < 16) (hd : decode (miC mi) pc = .ok (opI o, 1)) (k : GW wd (miL mi) X (pc + 1) lv ((opT o, opF o a b) :: st) M) : GW wd (miL mi) X pc lv ((opU o, b) :: (opT o, a) :: st) M := by
  match o, ho, hd, k with
  | 0, _, hd, k => exact gw_iadd h hd k
  | 1, _, hd, k => exact gw_isub h hd k
  | 2, _, hd, k => exact gw_imul h hd k
  | 3, _, hd, k => exact gw_iand h hd k
  | 4, _, hd, k => exact gw_ior h hd k
  | 5, _, hd, k => exact gw_ixor h hd k
  | 6, _, hd, k => exact gw_ishl h hd k
  | 7, _, hd, k => exact gw_ishr h hd k
  | 8, _, hd, k => exact gw_iushr h hd k
  | 9, _, hd, k => exact gw_ladd h hd k
  | 10, _, hd, k => exact gw_lsub h hd k
  | 11, _, hd, k => exact gw_lmul h hd k
  | 12, _, hd, k => exact gw_land h hd k
  | 13, _, hd, k => exact gw_lor h hd k
  | 14, _, hd, k => exact gw_lshl h hd k
  | 15, _, hd, k => exact gw_lushr h hd k
  | n + 16, ho, _, _ => exact absurd ho (by omega)
def cBin (mi : MI) (o : Nat) (a b : ExC) : ExC := fun te sz pc => (c2 a b (opT o) (opU o) te sz pc).bind fun p => grd (decide (o < 16) && isI (miC mi) p (opI o) 1) (some (p + 1, opT o, []))
theorem sBin (o : Nat) (a b : Ex wd mi) : SoundE wd mi (dBin (opF o) a.1.1 b.1.1) (cBin mi o a.1.2 b.1.2) := by
  intro X hX te sz pc pc' t ex hc ρ M v M' st hst hd k
  obtain ⟨p, h1, h2⟩ := obind hc
  obtain ⟨hg, h3⟩ := ogrd h2
  cases h3
  simp only [Bool.and_eq_true, decide_eq_true_eq] at hg
  obtain ⟨⟨x, M1⟩, g1, g2⟩ := obind hd
  obtain ⟨⟨y, M2⟩, e2, g3⟩ := obind g2
  cases g3
  exact s2 a.2 b.2 hX h1 hst g1 e2 (gw_op hX hg.1 (isI_ok hg.2) (k _ List.mem_cons_self))
def eBin (o : Nat) (a b : Ex wd mi) : Ex wd mi := ⟨(dBin (opF o) a.1.1 b.1.1, cBin mi o a.1.2 b.1.2), sBin o a b⟩
/-- 0 idiv, 1 irem, 2 ldiv, 3 lrem -/
def dvI (o : Nat) : Instr := match o with
  | 0 => .idiv
  | 1 => .irem
  | 2 => .ldiv
  | _ => .lrem
def dvF (o : Nat) : Int → Int → Int := match o with
  | 0 => idv
  | 1 => irm
  | 2 => ldi
  | _ => lrm
def dvW (o : Nat) : Int → Int := if o < 2 then wr else wrL
def dvT (o : Nat) : Nat := if o < 2 then 0 else 1
def cDiv (mi : MI) (o : Nat) (a b : ExC) : ExC := fun te sz pc => (c2 a b (dvT o) (dvT o) te sz pc).bind fun p => grd (decide (o < 4) && isI (miC mi) p (dvI o) 1) (some (p + 1, dvT o, []))
theorem gw_dv {X : Cx} {pc : Nat} {lv : LVs} {st : STs} {M : Mem} (h : GOk wd mi X) {o : Nat} {a b : Int} (ho : o < 4) (hb : ¬ dvW o b = 0) (hd : decode (miC mi) pc = .ok (dvI o, 1)) (k : GW wd (miL mi) X (pc + 1) lv ((dvT o, dvF o a b) :: st) M) : GW wd (miL mi) X pc lv ((dvT o, b) :: (dvT o, a) :: st) M := by
  match o, ho, hb, hd, k with
  | 0, _, hb, hd, k => exact gw_idiv h hb hd k
  | 1, _, hb, hd, k => exact gw_irem h hb hd k
  | 2, _, hb, hd, k => exact gw_ldiv h hb hd k
  | 3, _, hb, hd, k => exact gw_lrem h hb hd k
  | n + 4, ho, _, _, _ => exact absurd ho (by omega)
theorem sDiv (o : Nat) (a b : Ex wd mi) : SoundE wd mi (dDiv (dvF o) (dvW o) a.1.1 b.1.1) (cDiv mi o a.1.2 b.1.2) := by
  intro X hX te sz pc pc' t ex hc ρ M v M' st hst hd k
  obtain ⟨p, h1, h2⟩ := obind hc
  obtain ⟨hg, h3⟩ := ogrd h2
  cases h3
  simp only [Bool.and_eq_true, decide_eq_true_eq] at hg
  obtain ⟨⟨x, M1⟩, g1, g2⟩ := obind hd
  obtain ⟨⟨y, M2⟩, e2, g3⟩ := obind g2
  split at g3
  · cases g3
  · next hb =>
    cases g3
    exact s2 a.2 b.2 hX h1 hst g1 e2 (gw_dv hX hg.1 hb (isI_ok hg.2) (k _ List.mem_cons_self))
def eDiv (o : Nat) (a b : Ex wd mi) : Ex wd mi := ⟨(dDiv (dvF o) (dvW o) a.1.1 b.1.1, cDiv mi o a.1.2 b.1.2), sDiv o a b⟩
def cI2L (mi : MI) (a : ExC) : ExC := fun te sz pc => (c1 a 0 te sz pc).bind fun p => grd (isI (miC mi) p .i2l 1) (some (p + 1, 1, []))
theorem sI2L (a : Ex wd mi) : SoundE wd mi (dUn wr a.1.1) (cI2L mi a.1.2) := by
  intro X hX te sz pc pc' t ex hc ρ M v M' st hst hd k
  obtain ⟨p, h1, h2⟩ := obind hc
  obtain ⟨hg, h3⟩ := ogrd h2
  cases h3
  obtain ⟨⟨x, M1⟩, g1, g2⟩ := obind hd
  cases g2
  exact s1 a.2 hX h1 hst g1 (gw_i2l hX (isI_ok hg) (k _ List.mem_cons_self))
def eI2L (a : Ex wd mi) : Ex wd mi := ⟨(dUn wr a.1.1, cI2L mi a.1.2), sI2L a⟩
def cL2I (mi : MI) (a : ExC) : ExC := fun te sz pc => (c1 a 1 te sz pc).bind fun p => grd (isI (miC mi) p .l2i 1) (some (p + 1, 0, []))
theorem sL2I (a : Ex wd mi) : SoundE wd mi (dUn id a.1.1) (cL2I mi a.1.2) := by
  intro X hX te sz pc pc' t ex hc ρ M v M' st hst hd k
  obtain ⟨p, h1, h2⟩ := obind hc
  obtain ⟨hg, h3⟩ := ogrd h2
  cases h3
  obtain ⟨⟨x, M1⟩, g1, g2⟩ := obind hd
  cases g2
  exact s1 a.2 hX h1 hst g1 (gw_l2i hX (isI_ok hg) (k _ List.mem_cons_self))
def eL2I (a : Ex wd mi) : Ex wd mi := ⟨(dUn id a.1.1, cL2I mi a.1.2), sL2I a⟩
theorem obR_get {o : Int} {c n : Nat} {rs : List Int} (h : obR wd o c = some (n, rs)) : 0 ≤ o ∧ o.toNat < wd.2.1 ∧ wd.1[o.toNat]? = some (c + 3, n, rs) := by
  unfold obR at h
  split at h
  · next h1 =>
    split at h
    · next t n2 rs2 e =>
      split at h
      · next h2 =>
        cases h
        exact ⟨h1.1, h1.2, by rw [e, h2]⟩
      · cases h
    · cases h
  · cases h
theorem arR_get {t n : Nat} {a : Int} (h : arR wd t a = some n) : arN wd t a n = true ∧ (arW wd a || decide (t = 0) && arC wd a n) = true := by
  unfold arR at h
  split at h
  · next h1 =>
    split at h
    · next u n2 rs2 e =>
      split at h
      · next h2 =>
        cases h
        obtain ⟨rfl, h3⟩ := h2
        refine ⟨by simp [arN, e, h1], ?_⟩
        simp only [arW, Bool.or_eq_true, decide_eq_true_eq, Bool.and_eq_true]
        exact h3
      · cases h
    · cases h
  · cases h
theorem roR_get {a : Int} {n : Nat} {rs : List Int} (h : roR wd a = some (n, rs)) : 0 ≤ a ∧ wd.1[a.toNat]? = some (2, n, rs) ∧ arW wd a = true := by
  unfold roR at h
  split at h
  · next h1 =>
    split at h
    · next u n2 rs2 e =>
      split at h
      · next h2 =>
        cases h
        subst h2
        exact ⟨h1.1, e, by simp [arW, h1.2]⟩
      · cases h
    · cases h
  · cases h
def cFld (mi : MI) (c k : Nat) (a : ExC) : ExC := fun te sz pc => (c1 a 2 te sz pc).bind fun p => match decO (miC mi) p with
  | some (.getfield i, 3) => grd (decide (lk i (miF mi) = some (c, k))) (some (p + 3, tc (codeOf (tyC c k)), []))
  | _ => none
theorem sFld (c k : Nat) (a : Ex wd mi) : SoundE wd mi (dFld wd c k a.1.1) (cFld mi c k a.1.2) := by
  intro X hX te sz pc pc' t ex hc ρ M v M' st hst hd kk
  obtain ⟨p, h1, h2⟩ := obind hc
  obtain ⟨⟨x, M1⟩, g1, g2⟩ := obind hd
  obtain ⟨⟨n, rs⟩, e2, g3⟩ := obind g2
  split at g3
  · next hk =>
    cases g3
    obtain ⟨o0, o1, o2⟩ := obR_get e2
    split at h2
    · next i e =>
      obtain ⟨hg, h3⟩ := ogrd h2
      cases h3
      exact s1 a.2 hX h1 hst g1 (gw_getf hX (of_decide_eq_true hg) o0 o1 o2 hk (decO_ok e) (kk _ List.mem_cons_self))
    · cases h2
  · cases g3
def eFld (c k : Nat) (a : Ex wd mi) : Ex wd mi := ⟨(dFld wd c k a.1.1, cFld mi c k a.1.2), sFld c k a⟩
def cAr (mi : MI) (t : Nat) (a i : ExC) : ExC := fun te sz pc => (c2 a i 2 0 te sz pc).bind fun p => grd (decide (t < 2) && isI (miC mi) p (if t = 0 then .iaload else .baload) 1) (some (p + 1, 0, []))
theorem sAr (u : Nat) (a i : Ex wd mi) : SoundE wd mi (dAr wd u a.1.1 i.1.1) (cAr mi u a.1.2 i.1.2) := by
  intro X hX te sz pc pc' t ex hc ρ M v M' st hst hd k
  obtain ⟨p, h1, h2⟩ := obind hc
  obtain ⟨hg, h3⟩ := ogrd h2
  cases h3
  simp only [Bool.and_eq_true, decide_eq_true_eq] at hg
  obtain ⟨⟨x, M1⟩, g1, g2⟩ := obind hd
  obtain ⟨⟨y, M2⟩, e2, g3⟩ := obind g2
  obtain ⟨n, e3, g4⟩ := obind g3
  split at g4
  · next hi =>
    cases g4
    obtain ⟨q1, q2⟩ := arR_get e3
    refine s2 a.2 i.2 hX h1 hst g1 e2 ?_
    rcases (show u = 0 ∨ u = 1 by omega) with rfl | rfl
    · exact gw_iald hX q1 (by simpa using q2) hi.1 hi.2 (isI_ok hg.2) (k _ List.mem_cons_self)
    · exact gw_zald hX q1 (by simpa using q2) hi.1 hi.2 (isI_ok hg.2) (k _ List.mem_cons_self)
  · cases g4
def eAr (u : Nat) (a i : Ex wd mi) : Ex wd mi := ⟨(dAr wd u a.1.1 i.1.1, cAr mi u a.1.2 i.1.2), sAr u a i⟩
def cRo (mi : MI) (a i : ExC) : ExC := fun te sz pc => (c2 a i 2 0 te sz pc).bind fun p => grd (isI (miC mi) p .aaload 1) (some (p + 1, 2, []))
theorem sRo (a i : Ex wd mi) : SoundE wd mi (dRo wd a.1.1 i.1.1) (cRo mi a.1.2 i.1.2) := by
  intro X hX te sz pc pc' t ex hc ρ M v M' st hst hd k
  obtain ⟨p, h1, h2⟩ := obind hc
  obtain ⟨hg, h3⟩ := ogrd h2
  cases h3
  obtain ⟨⟨x, M1⟩, g1, g2⟩ := obind hd
  obtain ⟨⟨y, M2⟩, e2, g3⟩ := obind g2
  obtain ⟨⟨n, rs⟩, e3, g4⟩ := obind g3
  split at g4
  · next hi =>
    cases g4
    obtain ⟨q0, q1, q2⟩ := roR_get e3
    exact s2 a.2 i.2 hX h1 hst g1 e2 (gw_aald hX q0 q1 q2 hi.1 hi.2 (isI_ok hg) (k _ List.mem_cons_self))
  · cases g4
def eRo (a i : Ex wd mi) : Ex wd mi := ⟨(dRo wd a.1.1 i.1.1, cRo mi a.1.2 i.1.2), sRo a i⟩
def cLen (mi : MI) (t : Nat) (a : ExC) : ExC := fun te sz pc => (c1 a 2 te sz pc).bind fun p => grd (decide (t < 3) && isI (miC mi) p .arraylength 1) (some (p + 1, 0, []))
theorem sLen (u : Nat) (a : Ex wd mi) : SoundE wd mi (dLen wd u a.1.1) (cLen mi u a.1.2) := by
  intro X hX te sz pc pc' t ex hc ρ M v M' st hst hd k
  obtain ⟨p, h1, h2⟩ := obind hc
  obtain ⟨hg, h3⟩ := ogrd h2
  cases h3
  simp only [Bool.and_eq_true, decide_eq_true_eq] at hg
  obtain ⟨⟨x, M1⟩, g1, g2⟩ := obind hd
  obtain ⟨n, e2, g3⟩ := obind g2
  cases g3
  refine s1 a.2 hX h1 hst g1 ?_
  split at e2
  · next hu =>
    obtain ⟨q1, q2⟩ := arR_get e2
    exact gw_alen hX (by omega) q1 q2 (isI_ok hg.2) (k _ List.mem_cons_self)
  · next hu =>
    obtain ⟨⟨n2, rs⟩, r1, r2⟩ := Option.map_eq_some_iff.mp e2
    cases r2
    obtain ⟨q0, q1, q2⟩ := roR_get r1
    have hu2 : u = 2 := by omega
    subst hu2
    exact gw_alen hX (by omega) (show arN wd 2 x n2 = true by simp [arN, q1, q0]) (by rw [q2]; rfl) (isI_ok hg.2) (k _ List.mem_cons_self)
def eLen (u : Nat) (a : Ex wd mi) : Ex wd mi := ⟨(dLen wd u a.1.1, cLen mi u a.1.2), sLen u a⟩
/-! arguments, calls, library calls -/
def cA0 : ArC := fun _ _ pc => some (pc, [])
theorem sA0 : SoundA wd mi dA0 cA0 := by
  intro X hX te sz pc pc' ts hc ρ M vs M' st hst hd
  cases hd
  cases hc
  exact ⟨rfl, fun k => k⟩
def aA0 : Ar wd mi := ⟨(dA0, cA0), sA0⟩
def cA1 (a : ArC) (b : ExC) : ArC := fun te sz pc => (a te sz pc).bind fun q => (b te (sz + (q.2.map catT).sum) q.1).bind fun r => grd (rsv r.1 r.2.2) (some (r.1, q.2 ++ [r.2.1]))
theorem catS_app (a b : STs) : catS (a ++ b) = catS a + catS b := by simp [catS]
theorem catS_zip : ∀ (ts : List Nat) (vs : List Int), vs.length = ts.length → catS ((ts.zip vs).reverse) = (ts.map catT).sum
  | [], vs, _ => by simp [catS]
  | t :: ts, [], h => by cases h
  | t :: ts, v :: vs, h => by
    have ih := catS_zip ts vs (by simpa using h)
    simp only [List.zip_cons_cons, List.reverse_cons, catS_app, ih, List.map_cons, List.sum_cons]
    simp [catS, catT, Nat.add_comm]
theorem sA1 (a : Ar wd mi) (b : Ex wd mi) : SoundA wd mi (dA1 a.1.1 b.1.1) (cA1 a.1.2 b.1.2) := by
  intro X hX te sz pc pc' ts hc ρ M vs M' st hst hd
  obtain ⟨⟨q1, q2⟩, h1, h2⟩ := obind hc
  obtain ⟨⟨r1, r2, r3⟩, e5, h3⟩ := obind h2
  obtain ⟨hg, h4⟩ := ogrd h3
  cases h4
  obtain ⟨⟨x, M1⟩, g1, g2⟩ := obind hd
  obtain ⟨⟨y, M2⟩, e2, g3⟩ := obind g2
  cases g3
  obtain ⟨k1, k2⟩ := a.2 X hX te sz pc q1 q2 h1 ρ M x M1 st hst g1
  refine ⟨by simp [k1], fun k => k2 ?_⟩
  refine b.2 X hX te _ q1 r1 r2 r3 e5 ρ M1 y M2 _ ?_ e2 (rsv_all hg ?_)
  · rw [catS_app, catS_zip _ _ k1, hst, Nat.add_comm]
  · have e : ((q2 ++ [r2]).zip (x ++ [y])).reverse ++ st = (r2, y) :: ((q2.zip x).reverse ++ st) := by
      rw [List.zip_append (by rw [k1])]
      simp
    rw [e] at k
    exact k
def aA1 (a : Ar wd mi) (b : Ex wd mi) : Ar wd mi := ⟨(dA1 a.1.1 b.1.1, cA1 a.1.2 b.1.2), sA1 a b⟩
def cCal (mi : MI) (idx : Nat) (ci : CI) (a : ArC) : ExC := fun te sz pc => (a te sz pc).bind fun q => grd (decide (q.2 = ci.2.2.1) && decide (sz ≤ 8) && decide (¬ ci.2.2.2.1 = 3) && isI (miC mi) q.1 (invI ci.1 idx) 3) (some (q.1 + 3, ci.2.2.2.1, []))
theorem sCal (idx : Nat) (ci : CI) (h : lk idx (miK mi) = some ci) (a : Ar wd mi) : SoundE wd mi (dCal wd ci a.1.1) (cCal mi idx ci a.1.2) := by
  intro X hX te sz pc pc' t ex hc ρ M v M' st hst hd k
  obtain ⟨⟨q1, q2⟩, h1, h2⟩ := obind hc
  obtain ⟨hg, h3⟩ := ogrd h2
  cases h3
  simp only [Bool.and_eq_true, decide_eq_true_eq] at hg
  obtain ⟨⟨⟨rfl, b2⟩, b3⟩, b4⟩ := hg
  obtain ⟨⟨x, M1⟩, g1, g2⟩ := obind hd
  split at g2
  · next hr =>
    obtain ⟨k1, k2⟩ := a.2 X hX te sz pc q1 _ h1 ρ M x M1 st hst g1
    refine k2 (gw_call hX h (isI_ok b4) k1 (by show catS st ≤ 8; omega) g2 hr ?_)
    rw [if_neg b3]
    exact k _ List.mem_cons_self
  · cases g2
def eCal (idx : Nat) (ci : CI) (h : lk idx (miK mi) = some ci) (a : Ar wd mi) : Ex wd mi := ⟨(dCal wd ci a.1.1, cCal mi idx ci a.1.2), sCal idx ci h a⟩
/-- 0 max, 1 min, 3 max of longs, 4 min of longs -/
def mtF (o : Nat) : Int → Int → Int := match o with
  | 0 => mxI
  | 1 => mnI
  | 3 => mxL
  | _ => mnL
def mtT (o : Nat) : Nat := if o < 2 then 0 else 1
def cMt (mi : MI) (o : Nat) (a b : ExC) : ExC := fun te sz pc => (c2 a b (mtT o) (mtT o) te sz pc).bind fun p => match decO (miC mi) p with
  | some (.invokestatic i, 3) => grd (decide (lk i (miM mi) = some o) && decide (sz ≤ 8) && decide (o < 5 ∧ ¬ o = 2)) (some (p + 3, mtT o, []))
  | _ => none
theorem gw_mt {X : Cx} {pc : Nat} {lv : LVs} {st : STs} {M : Mem} (h : GOk wd mi X) {o i : Nat} {a b : Int} (ho : o < 5 ∧ ¬ o = 2) (hq : lk i (miM mi) = some o) (hst : catS st ≤ 8) (hd : decode (miC mi) pc = .ok (.invokestatic i, 3)) (k : GW wd (miL mi) X (pc + 3) lv ((mtT o, mtF o a b) :: st) M) : GW wd (miL mi) X pc lv ((mtT o, b) :: (mtT o, a) :: st) M := by
  match o, ho, hq, k with
  | 0, _, hq, k => exact gw_max h hq hst hd k
  | 1, _, hq, k => exact gw_min h hq hst hd k
  | 2, ho, _, _ => exact absurd rfl ho.2
  | 3, _, hq, k => exact gw_maxL h hq hst hd k
  | 4, _, hq, k => exact gw_minL h hq hst hd k
  | n + 5, ho, _, _ => exact absurd ho.1 (by omega)
theorem sMt (o : Nat) (a b : Ex wd mi) : SoundE wd mi (dBin (mtF o) a.1.1 b.1.1) (cMt mi o a.1.2 b.1.2) := by
  intro X hX te sz pc pc' t ex hc ρ M v M' st hst hd k
  obtain ⟨p, h1, h2⟩ := obind hc
  obtain ⟨⟨x, M1⟩, g1, g2⟩ := obind hd
  obtain ⟨⟨y, M2⟩, e2, g3⟩ := obind g2
  cases g3
  split at h2
  · next i e =>
    obtain ⟨hg, h3⟩ := ogrd h2
    cases h3
    simp only [Bool.and_eq_true, decide_eq_true_eq] at hg
    exact s2 a.2 b.2 hX h1 hst g1 e2 (gw_mt hX hg.2 hg.1.1 (by omega) (decO_ok e) (k _ List.mem_cons_self))
  · cases h2
def eMt (o : Nat) (a b : Ex wd mi) : Ex wd mi := ⟨(dBin (mtF o) a.1.1 b.1.1, cMt mi o a.1.2 b.1.2), sMt o a b⟩
def cAbs (mi : MI) (a : ExC) : ExC := fun te sz pc => (c1 a 0 te sz pc).bind fun p => match decO (miC mi) p with
  | some (.invokestatic i, 3) => grd (decide (lk i (miM mi) = some 2) && decide (sz ≤ 8)) (some (p + 3, 0, []))
  | _ => none
theorem sAbs (a : Ex wd mi) : SoundE wd mi (dUn abI a.1.1) (cAbs mi a.1.2) := by
  intro X hX te sz pc pc' t ex hc ρ M v M' st hst hd k
  obtain ⟨p, h1, h2⟩ := obind hc
  obtain ⟨⟨x, M1⟩, g1, g2⟩ := obind hd
  cases g2
  split at h2
  · next i e =>
    obtain ⟨hg, h3⟩ := ogrd h2
    cases h3
    simp only [Bool.and_eq_true, decide_eq_true_eq] at hg
    exact s1 a.2 hX h1 hst g1 (gw_abs hX hg.1 (by show catS st ≤ 8; omega) (decO_ok e) (k _ List.mem_cons_self))
  · cases h2
def eAbs (a : Ex wd mi) : Ex wd mi := ⟨(dUn abI a.1.1, cAbs mi a.1.2), sAbs a⟩
end EX
