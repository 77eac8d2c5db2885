/-! PART 93.r24: turning orders, one after another or by sets: the same. -/
/-- who turns it, taken one after another -/
def pvS (n : Nat) (a : Nat → Nat → Int) (p : Int) (l : Nat) : Nat → Nat → Int → Int
  | 0, _, _ => 0
  | k + 1, L, r => smF (fun o => if L.testBit o = true then (if r < p ∧ p ≤ r + a o 0 then (if o = l then facS (pc (wo L o)) else 0) else pvS n a p l k (wo L o) (r + a o 0)) else 0) n
/-- the sets ahead of l -/
def orT (n : Nat) (a : Nat → Nat → Int) (p : Int) (l O : Nat) (r : Int) (i : Nat) : Int := if inB i O = true ∧ r + artS a i n < p ∧ p ≤ r + artS a i n + a l 0 then facS (pc i) * facS ((pc O : Int) - pc i) else 0
theorem pvS_no {n : Nat} {a : Nat → Nat → Int} {p : Int} {l : Nat} : ∀ (k L : Nat) (r : Int), L < 256 → L.testBit l = false → pvS n a p l k L r = 0
  | 0, _, _, _, _ => rfl
  | k + 1, L, r, hL, hl => by
    unfold pvS
    refine smF_z n (fun o ho => ?_)
    cases q : L.testBit o with
    | false => rfl
    | true =>
      rw [if_pos rfl]
      have e : ¬ o = l := fun z => by rw [z] at q; rw [q] at hl; cases hl
      rw [if_neg e]
      split
      · rfl
      · exact pvS_no k (wo L o) (r + a o 0) (wo_lt hL) (by rw [wo_bit hL, hl]; rfl)
theorem artS_0 (a : Nat → Nat → Int) : ∀ n, artS a 0 n = 0
  | 0 => rfl
  | n + 1 => by
    unfold artS
    rw [artS_0 a n, Nat.zero_testBit]
    rfl
theorem fac_s {m : Nat} (h1 : 1 ≤ m) (h4 : m ≤ 4) : facS (m : Int) = facS ((m : Int) - 1) * m := by
  have : m = 1 ∨ m = 2 ∨ m = 3 ∨ m = 4 := by omega
  rcases this with rfl | rfl | rfl | rfl <;> rfl
theorem pvS_eq {n : Nat} {a : Nat → Nat → Int} (hb : HB n a) {p : Int} {l : Nat} (hl : l < n) : ∀ (k L : Nat) (r : Int), L < 2 ^ n → L.testBit l = true → pc L ≤ 5 → pc L ≤ k → r < p → pvS n a p l k L r = smF (orT n a p l (wo L l) r) (2 ^ n)
  | 0, L, r, hL, hbit, h5, hk, hr => by
    exfalso
    have h8 := hb.1
    have := pow_le h8
    have := pc_cut L (by omega) l (by omega) hbit
    omega
  | k + 1, L, r, hL, hbit, h5, hk, hr => by
    have h8 := hb.1
    have hpw := pow_le h8
    have hL8 : L < 256 := by omega
    have hkl := hb.2 l hl
    obtain ⟨O, hO⟩ : ∃ O, wo L l = O := ⟨_, rfl⟩
    have hO8 : O < 256 := by rw [← hO]; exact wo_lt hL8
    have pO : pc O + 1 = pc L := by rw [← hO]; exact pc_cut L hL8 l (by omega) hbit
    have Obit : ∀ j, O.testBit j = (L.testBit j && decide (¬ j = l)) := fun j => by rw [← hO]; exact wo_bit hL8
    obtain ⟨D, hD⟩ : ∃ D : Int, D = if p ≤ r + a l 0 then facS (pc O) else 0 := ⟨_, rfl⟩
    obtain ⟨T, hT⟩ : ∃ T : Nat → Int, T = fun j => if inB j O = true ∧ r + artS a j n < p ∧ p ≤ r + artS a j n + a l 0 then facS ((pc j : Int) - 1) * facS ((pc O : Int) - pc j) else 0 := ⟨_, rfl⟩
    have T0 : ∀ j, j < 2 ^ n → ∀ o, O.testBit o = false → j.testBit o = true → T j = 0 := fun j hj o h1 h2 => by
      rw [hT]
      dsimp only
      rw [if_neg (fun z => by
        have := (and_no (i := j) (O := O) (by omega)).mp z.1 o h2
        rw [h1] at this
        cases this)]
    have G : ∀ o, o < n → (if L.testBit o = true then (if r < p ∧ p ≤ r + a o 0 then (if o = l then facS (pc (wo L o)) else 0) else pvS n a p l k (wo L o) (r + a o 0)) else 0) = (if o = l then D else 0) + smF (fun j => if j.testBit o = true then T j else 0) (2 ^ n) := by
      intro o ho
      by_cases e : o = l
      · subst e
        rw [hbit, if_pos rfl, if_pos rfl]
        rw [smF_z (f := fun j => if j.testBit o = true then T j else 0) _ (fun j hj => by
          by_cases q : j.testBit o = true
          · rw [if_pos q]
            exact T0 j hj o (by rw [Obit]; simp) q
          · rw [if_neg q])]
        rw [Int.add_zero, hD]
        by_cases c : p ≤ r + a o 0
        · rw [if_pos ⟨hr, c⟩, if_pos c, if_pos rfl, hO]
        · rw [if_neg (fun z => c z.2), if_neg c, if_pos rfl]
          refine pvS_no k (wo L o) _ (wo_lt hL8) ?_
          rw [wo_bit hL8]
          simp
      · rw [if_neg e, if_neg e, Int.zero_add]
        cases q : L.testBit o with
        | false =>
          rw [if_neg (by decide)]
          rw [smF_z _ (fun j hj => by
            by_cases q2 : j.testBit o = true
            · rw [if_pos q2]
              exact T0 j hj o (by rw [Obit, q]; rfl) q2
            · rw [if_neg q2])]
        | true =>
          rw [if_pos rfl]
          have hko := hb.2 o ho
          rw [smF_bit n o T ho]
          have Oo : O.testBit o = true := by rw [Obit, q]; simp [e]
          have pOo : pc (wo O o) + 1 = pc O := pc_cut O hO8 o (by omega) Oo
          -- each set's term
          have tm : ∀ i, i < 2 ^ n → orT n a p l (wo O o) (r + a o 0) i = if i.testBit o = true then 0 else T (i ||| 2 ^ o) := by
            intro i hi
            have i8 : i < 256 := by omega
            unfold orT
            cases qi : i.testBit o with
            | true =>
              rw [if_pos rfl, if_neg]
              intro z
              have := (and_no i8).mp z.1 o qi
              rw [wo_bit hO8] at this
              simp at this
            | false =>
              rw [show (if false = true then (0 : Int) else T (i ||| 2 ^ o)) = T (i ||| 2 ^ o) from rfl, hT]
              dsimp only
              have j8 : i ||| 2 ^ o < 256 := Nat.or_lt_two_pow (n := 8) i8 (Nat.pow_lt_pow_right (by decide) (by omega))
              have pi := pc_up i i8 o (by omega) qi
              rw [artS_or a qi n, if_pos ho, pi]
              have eb : inB i (wo O o) = inB (i ||| 2 ^ o) O := by
                rw [Bool.eq_iff_iff, and_no i8, and_no j8]
                constructor
                · intro h j hj
                  rw [Nat.testBit_or, Nat.testBit_two_pow] at hj
                  by_cases ej : o = j
                  · rw [← ej]; exact Oo
                  · have := h j (by simpa [ej] using hj)
                    rw [wo_bit hO8] at this
                    simp only [Bool.and_eq_true] at this
                    exact this.1
                · intro h j hj
                  have ej : ¬ j = o := fun z => by rw [z, qi] at hj; cases hj
                  rw [wo_bit hO8, h j (by rw [Nat.testBit_or, hj]; rfl)]
                  simp [ej]
              rw [eb]
              have ea : r + a o 0 + artS a i n = r + (artS a i n + a o 0) := by omega
              rw [ea]
              have e1 : ((pc i + 1 : Nat) : Int) - 1 = (pc i : Int) := by omega
              have e2 : (pc O : Int) - ((pc i + 1 : Nat) : Int) = (pc (wo O o) : Int) - pc i := by omega
              rw [e1, e2]
          rw [← smF_eq _ tm]
          by_cases c : p ≤ r + a o 0
          · rw [if_pos ⟨hr, c⟩]
            rw [smF_z _ (fun i hi => by
              unfold orT
              rw [if_neg (fun z => by
                have := artS_nn hb i
                omega)])]
          · rw [if_neg (fun z => c z.2)]
            have pL : pc (wo L o) + 1 = pc L := pc_cut L hL8 o (by omega) q
            have lt2 : wo L o < 2 ^ n := Nat.lt_of_le_of_lt Nat.and_le_left hL
            rw [pvS_eq hb hl k (wo L o) (r + a o 0) lt2 (by rw [wo_bit hL8, hbit]; simp; omega) (by omega) (by omega) (by omega), wo_comm hL8, hO]
    unfold pvS
    rw [smF_eq n G, smF_plus, smF_one, if_pos hl, smF_swap]
    rw [hO]
    have TT : ∀ j, j < 2 ^ n → smF (fun o => if j.testBit o = true then T j else 0) n = T j * (pc j : Nat) := fun j hj => by
      rw [smF_cnt (T j) (fun o => j.testBit o) n, pc_n hj h8]
    rw [smF_eq _ TT]
    have pz : 0 < 2 ^ n := Nat.two_pow_pos n
    have fin1 : ∀ j, j < 2 ^ n → orT n a p l O r j = (if j = 0 then D else 0) + T j * (pc j : Nat) := by
      intro j hj
      have j8 : j < 256 := by omega
      unfold orT
      rw [hT]
      dsimp only
      by_cases c : inB j O = true ∧ r + artS a j n < p ∧ p ≤ r + artS a j n + a l 0
      · rw [if_pos c, if_pos c]
        have mono := pc_mono ((and_no j8).mp c.1)
        by_cases z : j = 0
        · subst z
          have a0 : artS a 0 n = 0 := artS_0 a n
          rw [if_pos rfl, hD, if_pos (by have := c.2.2; rw [a0] at this; omega)]
          have p0 : pc 0 = 0 := by decide
          rw [p0]
          simp [facS]
        · rw [if_neg z, Int.zero_add]
          have p1 : 1 ≤ pc j := by
            rcases Nat.eq_zero_or_pos (pc j) with q | q
            · exact absurd (pc_0 j j8 q) z
            · exact q
          rw [fac_s p1 (by omega), Int.mul_assoc, Int.mul_assoc, Int.mul_comm ((pc j : Nat) : Int)]
      · rw [if_neg c, if_neg c, Int.zero_mul, Int.add_zero]
        by_cases z : j = 0
        · subst z
          have a0 : artS a 0 n = 0 := artS_0 a n
          rw [if_pos rfl, hD, if_neg]
          intro y
          refine c ⟨(and_no (by decide)).mpr (fun j hj => by rw [Nat.zero_testBit] at hj; cases hj), by rw [a0]; omega, by rw [a0]; omega⟩
        · rw [if_neg z]
    rw [smF_eq _ fin1, smF_plus, smF_one, if_pos pz]
theorem ordS_smF (n : Nat) (a : Nat → Nat → Int) (p : Int) (l O : Nat) : ∀ i, ordS n a p l O i = smF (orT n a p l O 0) i
  | 0 => rfl
  | i + 1 => by
    unfold ordS smF
    rw [ordS_smF n a p l O i]
    unfold ordOk orT inB
    rw [Int.zero_add]
    by_cases h1 : i &&& (255 ^^^ O) = 0 <;> by_cases h2 : artS a i n < p <;> by_cases h3 : p ≤ artS a i n + a l 0 <;> simp [h1, h2, h3]
