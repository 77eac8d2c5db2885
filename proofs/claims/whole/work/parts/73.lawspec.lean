/-! PART 73: laws as texts: what is read (no machine here). -/
/-- well (true) or not; where it goes on, or the fault; the codes -/
abbrev Rd : Type := Bool × Nat × List Int
def okR1 (p : Nat) (o : List Int) : Rd := (true, p, o)
def ftR (p : Nat) : Rd := (false, p, [])
/-- one behind the other -/
def bnR (r : Rd) (f : Nat → Rd) : Rd := if r.1 = true then ((f r.2.1).1, (f r.2.1).2.1, r.2.2 ++ (f r.2.1).2.2) else r
/-- this sign, no code -/
def sgR (T : List Int) (d : Int) (p : Nat) : Rd := if sgT T p = d then okR1 (skS T p + 1) [] else ftR (skS T p)
/-- as a loop goes: while one of these signs stands there, that is read, and its code put -/
def lpR (T : List Int) (is : Int → Bool) (A : Nat → Rd) : Nat → Nat → Rd
  | 0, p => okR1 (skS T p) []
  | f + 1, p => if is (sgT T p) = true then bnR (bnR (A (skS T p + 1)) (fun q => okR1 q [10000 + sgT T p])) (lpR T is A f) else okR1 (skS T p) []
def isMul (c : Int) : Bool := decide (c = 42 ∨ c = 47)
def isAdd (c : Int) : Bool := decide (c = 43 ∨ c = 45)
def isRel (c : Int) : Bool := decide (c = 61 ∨ c = 60 ∨ c = 62)
def isC (d c : Int) : Bool := decide (c = d)
def atR (T : List Int) (inn : Option (Nat → Rd)) (p : Nat) : Rd :=
  if dgB (sgT T p) = true then (if (nuS T 4 0 (skS T p)).1 = true then okR1 (nuS T 4 0 (skS T p)).2.1 [(nuS T 4 0 (skS T p)).2.2] else ftR (nuS T 4 0 (skS T p)).2.1)
  else if ¬ plS 3 (sgT T p) = -1 then okR1 (skS T p + 1) [20000 + plS 3 (sgT T p)]
  else if sgT T p = 91 then (match inn with | none => ftR (skS T p) | some g => bnR (g (skS T p + 1)) (sgR T 93))
  else ftR (skS T p)
def teR (T : List Int) (inn : Option (Nat → Rd)) (p : Nat) : Rd := bnR (atR T inn p) (lpR T isMul (atR T inn) 240)
def suW (T : List Int) (inn : Option (Nat → Rd)) (p : Nat) : Rd := bnR (teR T inn p) (lpR T isAdd (teR T inn) 240)
/-- a sum; k more may be within one another -/
def suR (T : List Int) : Nat → Nat → Rd
  | 0 => suW T none
  | k + 1 => suW T (some (suR T k))
def inR (T : List Int) : Nat → Option (Nat → Rd)
  | 0 => none
  | k + 1 => some (suR T k)
theorem suR_eq (T : List Int) (k : Nat) : suR T k = suW T (inR T k) := by cases k <;> rfl
def cmR (T : List Int) (k : Nat) (p : Nat) : Rd := if isRel (sgT T p) = true then bnR (suR T k (skS T p + 1)) (fun q => okR1 q [10000 + sgT T p]) else ftR (skS T p)
def trW (T : List Int) (U : Nat → Rd) (p : Nat) : Rd := bnR (U p) (lpR T (isC 38) U 240)
def coW (T : List Int) (U : Nat → Rd) (p : Nat) : Rd := bnR (trW T U p) (lpR T (isC 124) (trW T U) 240)
def unW1 (T : List Int) (inn : Option (Nat → Rd)) (k : Nat) (p : Nat) : Rd :=
  if sgT T p = 33 then (match inn with | none => ftR (skS T p) | some u => bnR (u (skS T p + 1)) (fun q => okR1 q [10033]))
  else if sgT T p = 40 then (match inn with | none => ftR (skS T p) | some u => bnR (coW T u (skS T p + 1)) (sgR T 41))
  else bnR (suR T k p) (cmR T k)
/-- a unit; k more may be within one another -/
def unR (T : List Int) : Nat → Nat → Rd
  | 0 => unW1 T none 0
  | k + 1 => unW1 T (some (unR T k)) (k + 1)
def iuR (T : List Int) : Nat → Option (Nat → Rd)
  | 0 => none
  | k + 1 => some (unR T k)
theorem unR_eq (T : List Int) (k : Nat) : unR T k = unW1 T (iuR T k) k := by cases k <;> rfl
def trR (T : List Int) (k : Nat) : Nat → Rd := trW T (unR T k)
def coR (T : List Int) (k : Nat) : Nat → Rd := coW T (unR T k)
/-- when a condition has begun with a sum -/
def trB (T : List Int) (p : Nat) : Rd := bnR (cmR T 6 p) (lpR T (isC 38) (unR T 6) 240)
def coB (T : List Int) (p : Nat) : Rd := bnR (trB T p) (lpR T (isC 124) (trR T 6) 240)
/-- a clause: its test, its sum -/
abbrev RdC : Type := Bool × Nat × (List Int × List Int)
def teSu (T : List Int) (r : Rd) : RdC :=
  let s := bnR r (sgR T 63)
  if s.1 = true then ((suR T 6 s.2.1).1, (suR T 6 s.2.1).2.1, (s.2.2, (suR T 6 s.2.1).2.2)) else (false, s.2.1, ([], []))
def clR (T : List Int) (p : Nat) : RdC :=
  let h := bnR (sgR T 121 p) (sgR T 58)
  if h.1 = true then
    (if sgT T h.2.1 = 33 ∨ sgT T h.2.1 = 40 then teSu T (coR T 6 h.2.1)
     else
      let s := suR T 6 h.2.1
      if s.1 = true then (if isRel (sgT T s.2.1) = true then teSu T (bnR s (coB T)) else (true, s.2.1, ([], s.2.2))) else (false, s.2.1, ([], [])))
  else (false, h.2.1, ([], []))
abbrev RdL : Type := Bool × Nat × List (List Int × List Int)
/-- clauses, while a ; stands there -/
def clsR (T : List Int) : Nat → Nat → RdL
  | 0, p => (true, skS T p, [])
  | f + 1, p => if sgT T p = 59 then (if (clR T (skS T p + 1)).1 = true then ((clsR T f (clR T (skS T p + 1)).2.1).1, (clsR T f (clR T (skS T p + 1)).2.1).2.1, (clR T (skS T p + 1)).2.2 :: (clsR T f (clR T (skS T p + 1)).2.1).2.2) else (false, (clR T (skS T p + 1)).2.1, [])) else (true, skS T p, [])
/-- a law: clauses, and nothing behind them -/
def lawR (T : List Int) : RdL :=
  let c := clR T 0
  if c.1 = true then
    (let s := clsR T 240 c.2.1
     if s.1 = true then (if sgT T s.2.1 = -1 then (true, s.2.1, c.2.2 :: s.2.2) else (false, skS T s.2.1, [])) else (false, s.2.1, []))
  else (false, c.2.1, [])
/-! it goes forward, and puts no more codes than it reads signs -/
def Fwd (T : List Int) (p : Nat) (r : Rd) : Prop := (r.1 = true → p + r.2.2.length ≤ r.2.1 ∧ p ≤ r.2.1) ∧ r.2.1 ≤ T.length
theorem fw_bn {T : List Int} {p : Nat} {r : Rd} {f : Nat → Rd} (h : Fwd T p r) (hf : ∀ q, q ≤ T.length → Fwd T q (f q)) : Fwd T p (bnR r f) := by
  unfold bnR
  by_cases e : r.1 = true
  · rw [if_pos e]
    obtain ⟨h1, h2⟩ := h
    obtain ⟨h3, h4⟩ := h1 e
    obtain ⟨g1, g2⟩ := hf r.2.1 h2
    refine ⟨fun q => ?_, g2⟩
    have := g1 q
    simp only [List.length_append]
    omega
  · rw [if_neg e]
    exact h
theorem fw_bn1 {T : List Int} {p : Nat} {r : Rd} {f : Nat → Rd} (h : Fwd T (p + 1) r) (hf : ∀ q, q ≤ T.length → (f q).2.2.length ≤ 1 ∧ q ≤ (f q).2.1 ∧ (f q).2.1 ≤ T.length) : Fwd T p (bnR r f) := by
  unfold bnR
  by_cases e : r.1 = true
  · rw [if_pos e]
    obtain ⟨h1, h2⟩ := h
    obtain ⟨h3, h4⟩ := h1 e
    obtain ⟨g1, g2, g3⟩ := hf r.2.1 h2
    refine ⟨fun q => ?_, g3⟩
    simp only [List.length_append]
    omega
  · rw [if_neg e]
    exact ⟨fun q => absurd q e, h.2⟩
theorem sg_lt {T : List Int} {p : Nat} (h : ¬ sgT T p = -1) : skS T p < T.length := tp_in h
theorem fw_sg {T : List Int} {d : Int} (hd : ¬ d = -1) {p : Nat} (hp : p ≤ T.length) : Fwd T p (sgR T d p) := by
  have hs := skS_le hp
  unfold sgR
  by_cases e : sgT T p = d
  · rw [if_pos e]
    have := sg_lt (T := T) (p := p) (by rw [e]; exact hd)
    exact ⟨fun _ => ⟨by show p + 0 ≤ skS T p + 1; omega, by show p ≤ skS T p + 1; omega⟩, by show skS T p + 1 ≤ T.length; omega⟩
  · rw [if_neg e]
    exact ⟨fun q => (by cases q), hs.2⟩
theorem fw_lp {T : List Int} {is : Int → Bool} (h1 : is (-1) = false) {A : Nat → Rd} (hA : ∀ q, q ≤ T.length → Fwd T q (A q)) : ∀ f p, p ≤ T.length → Fwd T p (lpR T is A f p)
  | 0, p, hp => by
    have hs := skS_le hp
    exact ⟨fun _ => ⟨hs.1, hs.1⟩, hs.2⟩
  | f + 1, p, hp => by
    have hs := skS_le hp
    unfold lpR
    by_cases e : is (sgT T p) = true
    · rw [if_pos e]
      have hl := sg_lt (T := T) (p := p) (fun z => by rw [z, h1] at e; cases e)
      refine fw_bn (fw_bn1 ?_ (fun q hq => ⟨Nat.le_refl 1, Nat.le_refl _, hq⟩)) (fw_lp h1 hA f)
      have := hA (skS T p + 1) hl
      exact ⟨fun q => (by have := this.1 q; omega), this.2⟩
    · rw [if_neg e]
      exact ⟨fun _ => ⟨hs.1, hs.1⟩, hs.2⟩
theorem nuS_pos {T : List Int} {d : Nat} {v : Int} {p : Nat} (h : dgB (tp T p) = true) (hd : 1 ≤ d) (hp : p < T.length) : p + 1 ≤ (nuS T d v p).2.1 := by
  obtain ⟨d, rfl⟩ : ∃ e, d = e + 1 := ⟨d - 1, by omega⟩
  unfold nuS
  rw [if_pos h]
  exact (nuS_le d _ (p + 1) hp).1
theorem fw_at {T : List Int} {inn : Option (Nat → Rd)} (hi : ∀ g, inn = some g → ∀ q, q ≤ T.length → Fwd T q (g q)) {p : Nat} (hp : p ≤ T.length) : Fwd T p (atR T inn p) := by
  have hs := skS_le hp
  unfold atR
  by_cases e : dgB (sgT T p) = true
  · rw [if_pos e]
    have hl := sg_lt (T := T) (p := p) (fun z => by rw [z] at e; cases e)
    have h1 := nuS_le (T := T) 4 0 (skS T p) (by omega)
    have h2 := nuS_pos (T := T) (v := 0) (p := skS T p) (d := 4) e (by decide) hl
    by_cases e2 : (nuS T 4 0 (skS T p)).1 = true
    · rw [if_pos e2]
      exact ⟨fun _ => ⟨by show p + 1 ≤ (nuS T 4 0 (skS T p)).2.1; omega, by show p ≤ (nuS T 4 0 (skS T p)).2.1; omega⟩, h1.2⟩
    · rw [if_neg e2]
      exact ⟨fun q => (by cases q), h1.2⟩
  · rw [if_neg e]
    by_cases e2 : plS 3 (sgT T p) = -1
    · rw [if_neg (fun z => z e2)]
      by_cases e3 : sgT T p = 91
      · rw [if_pos e3]
        have hl := sg_lt (T := T) (p := p) (by rw [e3]; decide)
        cases inn with
        | none => exact ⟨fun q => (by cases q), hs.2⟩
        | some g =>
          show Fwd T p (bnR (g (skS T p + 1)) (sgR T 93))
          have h3 := fw_bn (hi g rfl (skS T p + 1) hl) (fun q hq => fw_sg (d := 93) (by decide) hq)
          exact ⟨fun q => (by have := h3.1 q; omega), h3.2⟩
      · rw [if_neg e3]
        exact ⟨fun q => (by cases q), hs.2⟩
    · rw [if_pos e2]
      have hl := sg_lt (T := T) (p := p) (fun z => e2 (by rw [z]; decide))
      exact ⟨fun _ => ⟨by show p + 1 ≤ skS T p + 1; omega, by show p ≤ skS T p + 1; omega⟩, hl⟩
theorem fw_te {T : List Int} {inn : Option (Nat → Rd)} (hi : ∀ g, inn = some g → ∀ q, q ≤ T.length → Fwd T q (g q)) {p : Nat} (hp : p ≤ T.length) : Fwd T p (teR T inn p) :=
  fw_bn (fw_at hi hp) (fun q hq => fw_lp rfl (fun z hz => fw_at hi hz) 240 q hq)
theorem fw_suW {T : List Int} {inn : Option (Nat → Rd)} (hi : ∀ g, inn = some g → ∀ q, q ≤ T.length → Fwd T q (g q)) {p : Nat} (hp : p ≤ T.length) : Fwd T p (suW T inn p) :=
  fw_bn (fw_te hi hp) (fun q hq => fw_lp rfl (fun z hz => fw_te hi hz) 240 q hq)
theorem fw_su {T : List Int} : ∀ (k : Nat) (p : Nat), p ≤ T.length → Fwd T p (suR T k p)
  | 0, p, hp => fw_suW (fun g e => by cases e) hp
  | k + 1, p, hp => fw_suW (fun g e => by cases e; exact fw_su k) hp
theorem fw_in {T : List Int} (k : Nat) : ∀ g, inR T k = some g → ∀ q, q ≤ T.length → Fwd T q (g q) := fun g e => by
  cases k with
  | zero => cases e
  | succ k => cases e; exact fw_su k
theorem fw_cm {T : List Int} (k : Nat) {p : Nat} (hp : p ≤ T.length) : Fwd T p (cmR T k p) := by
  have hs := skS_le hp
  unfold cmR
  by_cases e : isRel (sgT T p) = true
  · rw [if_pos e]
    have hl := sg_lt (T := T) (p := p) (fun z => by rw [z] at e; cases e)
    refine fw_bn1 ?_ (fun q hq => ⟨Nat.le_refl 1, Nat.le_refl _, hq⟩)
    have h3 := fw_su (T := T) k (skS T p + 1) hl
    exact ⟨fun q => (by have := h3.1 q; omega), h3.2⟩
  · rw [if_neg e]
    exact ⟨fun q => (by cases q), hs.2⟩
theorem fw_tr {T : List Int} {U : Nat → Rd} (hU : ∀ q, q ≤ T.length → Fwd T q (U q)) {p : Nat} (hp : p ≤ T.length) : Fwd T p (trW T U p) :=
  fw_bn (hU p hp) (fun q hq => fw_lp rfl hU 240 q hq)
theorem fw_co {T : List Int} {U : Nat → Rd} (hU : ∀ q, q ≤ T.length → Fwd T q (U q)) {p : Nat} (hp : p ≤ T.length) : Fwd T p (coW T U p) :=
  fw_bn (fw_tr hU hp) (fun q hq => fw_lp rfl (fun z hz => fw_tr hU hz) 240 q hq)
theorem fw_un1 {T : List Int} {inn : Option (Nat → Rd)} (hi : ∀ g, inn = some g → ∀ q, q ≤ T.length → Fwd T q (g q)) (k : Nat) {p : Nat} (hp : p ≤ T.length) : Fwd T p (unW1 T inn k p) := by
  have hs := skS_le hp
  unfold unW1
  by_cases e : sgT T p = 33
  · rw [if_pos e]
    have hl := sg_lt (T := T) (p := p) (by rw [e]; decide)
    cases inn with
    | none => exact ⟨fun q => (by cases q), hs.2⟩
    | some u =>
      refine fw_bn1 ?_ (fun q hq => ⟨Nat.le_refl 1, Nat.le_refl _, hq⟩)
      have h3 := hi u rfl (skS T p + 1) hl
      exact ⟨fun q => (by have := h3.1 q; omega), h3.2⟩
  · rw [if_neg e]
    by_cases e2 : sgT T p = 40
    · rw [if_pos e2]
      have hl := sg_lt (T := T) (p := p) (by rw [e2]; decide)
      cases inn with
      | none => exact ⟨fun q => (by cases q), hs.2⟩
      | some u =>
        show Fwd T p (bnR (coW T u (skS T p + 1)) (sgR T 41))
        have h3 := fw_bn (fw_co (p := skS T p + 1) (hi u rfl) hl) (fun q hq => fw_sg (d := 41) (by decide) hq)
        exact ⟨fun q => (by have := h3.1 q; omega), h3.2⟩
    · rw [if_neg e2]
      exact fw_bn (fw_su k p hp) (fun q hq => fw_cm k hq)
theorem fw_un {T : List Int} : ∀ (k : Nat) (p : Nat), p ≤ T.length → Fwd T p (unR T k p)
  | 0, p, hp => fw_un1 (fun g e => by cases e) 0 hp
  | k + 1, p, hp => fw_un1 (fun g e => by cases e; exact fw_un k) (k + 1) hp
