/-! PART 74: laws as texts: what is read can be worked (no machine here). -/
theorem okR_app : ∀ (p q : List Int) (ks : List Bool), okR (p ++ q) ks = (okR p ks).bind (okR q)
  | [], q, ks => rfl
  | c :: p, q, ks => by
    show (okW c ks).bind (okR (p ++ q)) = ((okW c ks).bind (okR p)).bind (okR q)
    cases okW c ks with
    | none => rfl
    | some k1 => exact okR_app p q k1
theorem noM_app {p q : List Int} (h1 : noM p) (h2 : noM q) : noM (p ++ q) := fun c hc => by
  rcases List.mem_append.mp hc with h | h
  · exact h1 c h
  · exact h2 c h
theorem noM_nil : noM [] := fun c hc => by cases hc
theorem noM_one {c : Int} (h0 : 0 ≤ c) (h1 : c < 30000) (h2 : ¬ c = 10059) (h3 : ¬ c = 10063) : noM [c] := fun z hz => by
  rw [List.mem_singleton] at hz
  subst hz
  exact ⟨h0, h1, h2, h3⟩
def KN (h : Nat) (b : Bool) (r : Rd) : Prop := r.1 = true → noM r.2.2 ∧ ∀ ks : List Bool, ks.length + h ≤ 40 → okR r.2.2 ks = some (b :: ks)
def KL (h : Nat) (a b : Bool) (r : Rd) : Prop := r.1 = true → noM r.2.2 ∧ ∀ ks : List Bool, ks.length + h ≤ 40 → okR r.2.2 (a :: ks) = some (b :: ks)
theorem kn_up {h h' : Nat} {b : Bool} {r : Rd} (k : KN h b r) (hh : h ≤ h') : KN h' b r := fun e => ⟨(k e).1, fun ks hk => (k e).2 ks (by omega)⟩
theorem kl_up {h h' : Nat} {a b : Bool} {r : Rd} (k : KL h a b r) (hh : h ≤ h') : KL h' a b r := fun e => ⟨(k e).1, fun ks hk => (k e).2 ks (by omega)⟩
theorem kn_bn {h : Nat} {a b : Bool} {r : Rd} {f : Nat → Rd} (hr : KN h a r) (hf : ∀ q, KL h a b (f q)) : KN h b (bnR r f) := by
  unfold bnR
  by_cases e : r.1 = true
  · rw [if_pos e]
    intro e2
    obtain ⟨h1, h2⟩ := hr e
    obtain ⟨h3, h4⟩ := hf r.2.1 e2
    refine ⟨noM_app h1 h3, fun ks hk => ?_⟩
    show okR (r.2.2 ++ (f r.2.1).2.2) ks = _
    rw [okR_app, h2 ks hk]
    exact h4 ks hk
  · rw [if_neg e]
    exact fun e2 => absurd e2 e
theorem kl_bn {h : Nat} {a b c : Bool} {r : Rd} {f : Nat → Rd} (hr : KL h a b r) (hf : ∀ q, KL h b c (f q)) : KL h a c (bnR r f) := by
  unfold bnR
  by_cases e : r.1 = true
  · rw [if_pos e]
    intro e2
    obtain ⟨h1, h2⟩ := hr e
    obtain ⟨h3, h4⟩ := hf r.2.1 e2
    refine ⟨noM_app h1 h3, fun ks hk => ?_⟩
    show okR (r.2.2 ++ (f r.2.1).2.2) (a :: ks) = _
    rw [okR_app, h2 ks hk]
    exact h4 ks hk
  · rw [if_neg e]
    exact fun e2 => absurd e2 e
theorem kl_nil {h : Nat} {b : Bool} {p : Nat} : KL h b b (okR1 p []) := fun _ => ⟨noM_nil, fun ks _ => rfl⟩
theorem kl_sg {h : Nat} {b : Bool} (T : List Int) (d : Int) (p : Nat) : KL h b b (sgR T d p) := by
  unfold sgR
  split
  · exact kl_nil
  · exact fun e => by cases e
/-- an operator behind its right operand -/
def OpK (c : Int) (a b d : Bool) : Prop := noM [10000 + c] ∧ ∀ ks : List Bool, ks.length + 3 ≤ 40 → okW (10000 + c) (b :: a :: ks) = some (d :: ks)
theorem kl_op {h : Nat} {a b d : Bool} {A : Rd} {c : Int} (h2 : 2 ≤ h) (hA : KN h b A) (ho : OpK c a b d) : KL (h + 1) a d (bnR A (fun q => okR1 q [10000 + c])) := by
  unfold bnR
  by_cases e : A.1 = true
  · rw [if_pos e]
    intro e2
    obtain ⟨h1, h2⟩ := hA e
    refine ⟨noM_app h1 ho.1, fun ks hk => ?_⟩
    show okR (A.2.2 ++ [10000 + c]) (a :: ks) = _
    rw [okR_app, h2 (a :: ks) (by simp only [List.length_cons]; omega)]
    show (okW (10000 + c) (b :: a :: ks)).bind (okR []) = _
    rw [ho.2 ks (by omega)]
    rfl
  · rw [if_neg e]
    exact fun e2 => absurd e2 e
theorem kl_lp {T : List Int} {is : Int → Bool} {A : Nat → Rd} {h : Nat} {b : Bool} (h2 : 2 ≤ h) (hA : ∀ q, KN h b (A q)) (ho : ∀ c, is c = true → OpK c b b b) : ∀ f p, KL (h + 1) b b (lpR T is A f p)
  | 0, p => kl_nil
  | f + 1, p => by
    unfold lpR
    by_cases e : is (sgT T p) = true
    · rw [if_pos e]
      exact kl_bn (kl_op h2 (hA _) (ho _ e)) (kl_lp h2 hA ho f)
    · rw [if_neg e]
      exact kl_nil
theorem op_num (c : Int) (hc : c = 42 ∨ c = 43 ∨ c = 45 ∨ c = 47) : OpK c false false false := by
  refine ⟨noM_one (by omega) (by omega) (by omega) (by omega), fun ks hk => ?_⟩
  unfold okW
  rw [if_neg (by simp only [List.length_cons]; omega), if_neg (by omega), if_neg (by omega), if_neg (by omega)]
  simp only
  rw [if_pos (by omega)]
theorem op_rel (c : Int) (hc : c = 61 ∨ c = 60 ∨ c = 62) : OpK c false false true := by
  refine ⟨noM_one (by omega) (by omega) (by omega) (by omega), fun ks hk => ?_⟩
  unfold okW
  rw [if_neg (by simp only [List.length_cons]; omega), if_neg (by omega), if_neg (by omega), if_neg (by omega)]
  simp only
  rw [if_neg (by omega), if_pos (by omega)]
theorem op_tr (c : Int) (hc : c = 38 ∨ c = 124) : OpK c true true true := by
  refine ⟨noM_one (by omega) (by omega) (by omega) (by omega), fun ks hk => ?_⟩
  unfold okW
  rw [if_neg (by simp only [List.length_cons]; omega), if_neg (by omega), if_neg (by omega), if_neg (by omega)]
  simp only
  rw [if_neg (by omega), if_neg (by omega), if_pos ⟨by omega, trivial, trivial⟩]
theorem nuS_dig {T : List Int} {p : Nat} : 0 ≤ (nuS T 4 0 p).2.2 ∧ (nuS T 4 0 p).2.2 < 10000 := nuS_rng 4 0 p (by decide) (by decide) (by decide)
theorem kn_at {T : List Int} {inn : Option (Nat → Rd)} {h : Nat} (h1 : 2 ≤ h) (hi : ∀ g, inn = some g → ∀ q, KN h false (g q)) (p : Nat) : KN h false (atR T inn p) := by
  unfold atR
  by_cases e : dgB (sgT T p) = true
  · rw [if_pos e]
    have hr := nuS_dig (T := T) (p := skS T p)
    by_cases e2 : (nuS T 4 0 (skS T p)).1 = true
    · rw [if_pos e2]
      refine fun _ => ⟨noM_one hr.1 (by omega) (by omega) (by omega), fun ks hk => ?_⟩
      show (okW _ ks).bind (okR []) = _
      unfold okW
      rw [if_neg (by omega), if_pos hr.2, if_pos hr.1]
      rfl
    · rw [if_neg e2]
      exact fun q => by cases q
  · rw [if_neg e]
    by_cases e2 : plS 3 (sgT T p) = -1
    · rw [if_neg (fun z => z e2)]
      by_cases e3 : sgT T p = 91
      · rw [if_pos e3]
        cases inn with
        | none => exact fun q => by cases q
        | some g => exact kn_bn (hi g rfl _) (fun q => kl_sg T 93 q)
      · rw [if_neg e3]
        exact fun q => by cases q
    · rw [if_pos e2]
      have hr := plS_rng (s := 3) (by decide) (sgT T p)
      have hl : lenS.getD 3 0 = 6 := rfl
      rw [hl] at hr
      refine fun _ => ⟨noM_one (by omega) (by omega) (by omega) (by omega), fun ks hk => ?_⟩
      show (okW _ ks).bind (okR []) = _
      unfold okW
      rw [if_neg (by omega), if_neg (by omega), if_pos (by omega), if_pos (by omega)]
      rfl
theorem kn_te {T : List Int} {inn : Option (Nat → Rd)} {h : Nat} (h1 : 2 ≤ h) (hi : ∀ g, inn = some g → ∀ q, KN h false (g q)) (p : Nat) : KN (h + 1) false (teR T inn p) :=
  kn_bn (kn_up (kn_at h1 hi p) (by omega)) (fun q => kl_lp h1 (fun z => kn_at h1 hi z) (fun c hc => op_num c (by have := of_decide_eq_true hc; omega)) 240 q)
theorem kn_suW {T : List Int} {inn : Option (Nat → Rd)} {h : Nat} (h1 : 2 ≤ h) (hi : ∀ g, inn = some g → ∀ q, KN h false (g q)) (p : Nat) : KN (h + 2) false (suW T inn p) :=
  kn_bn (kn_up (kn_te h1 hi p) (by omega)) (fun q => kl_lp (by omega) (fun z => kn_te h1 hi z) (fun c hc => op_num c (by have := of_decide_eq_true hc; omega)) 240 q)
theorem kn_su (T : List Int) : ∀ (k p : Nat), KN (4 + 2 * k) false (suR T k p)
  | 0, p => kn_suW (h := 2) (by decide) (fun g e => by cases e) p
  | k + 1, p => by
    have := kn_suW (T := T) (inn := some (suR T k)) (h := 4 + 2 * k) (by omega) (fun g e => by cases e; exact kn_su T k) p
    exact kn_up this (by omega)
theorem kl_cm (T : List Int) (k p : Nat) : KL (5 + 2 * k) false true (cmR T k p) := by
  unfold cmR
  by_cases e : isRel (sgT T p) = true
  · rw [if_pos e]
    exact kl_up (kl_op (by omega) (kn_su T k _) (op_rel _ (by have := of_decide_eq_true e; omega))) (by omega)
  · rw [if_neg e]
    exact fun q => by cases q
theorem kn_tr {T : List Int} {U : Nat → Rd} {h : Nat} (h2 : 2 ≤ h) (hU : ∀ q, KN h true (U q)) (p : Nat) : KN (h + 1) true (trW T U p) :=
  kn_bn (kn_up (hU p) (by omega)) (fun q => kl_lp h2 hU (fun c hc => op_tr c (by have := of_decide_eq_true hc; omega)) 240 q)
theorem kn_co {T : List Int} {U : Nat → Rd} {h : Nat} (h2 : 2 ≤ h) (hU : ∀ q, KN h true (U q)) (p : Nat) : KN (h + 2) true (coW T U p) :=
  kn_bn (kn_up (kn_tr h2 hU p) (by omega)) (fun q => kl_lp (by omega) (fun z => kn_tr h2 hU z) (fun c hc => op_tr c (by have := of_decide_eq_true hc; omega)) 240 q)
theorem kl_not {h : Nat} {p : Nat} : KL (h + 2) true true (okR1 p [10033]) := fun _ => ⟨noM_one (by decide) (by decide) (by decide) (by decide), fun ks hk => by
  show (okW 10033 (true :: ks)).bind (okR []) = _
  unfold okW
  rw [if_neg (by simp only [List.length_cons]; omega), if_neg (by decide), if_neg (by decide), if_pos rfl]
  rfl⟩
theorem kn_un1 {T : List Int} {inn : Option (Nat → Rd)} {k h : Nat} (hh : 5 + 2 * k ≤ h) (hi : ∀ g, inn = some g → (4 ≤ h ∧ ∀ q, KN (h - 2) true (g q))) (p : Nat) : KN h true (unW1 T inn k p) := by
  unfold unW1
  by_cases e : sgT T p = 33
  · rw [if_pos e]
    cases inn with
    | none => exact fun q => by cases q
    | some u => exact kn_bn (kn_up ((hi u rfl).2 _) (by omega)) (fun q => kl_up (kl_not (h := 2)) (by omega))
  · rw [if_neg e]
    by_cases e2 : sgT T p = 40
    · rw [if_pos e2]
      cases inn with
      | none => exact fun q => by cases q
      | some u => exact kn_bn (kn_up (kn_co (by have := (hi u rfl).1; omega) (hi u rfl).2 _) (by have := (hi u rfl).1; omega)) (fun q => kl_sg T 41 q)
    · rw [if_neg e2]
      exact kn_bn (kn_up (kn_su T k p) (by omega)) (fun q => kl_up (kl_cm T k q) (by omega))
theorem kn_un (T : List Int) : ∀ (k p : Nat), KN (5 + 2 * k) true (unR T k p)
  | 0, p => kn_un1 (by omega) (fun g e => by cases e) p
  | k + 1, p => kn_un1 (by omega) (fun g e => by cases e; exact ⟨by omega, fun q => kn_up (kn_un T k q) (by omega)⟩) p
theorem kn_coR (T : List Int) (p : Nat) : KN 19 true (coR T 6 p) := kn_co (by omega) (kn_un T 6) p
theorem kl_coB (T : List Int) (p : Nat) : KL 20 false true (coB T p) := by
  have a : KL 20 false true (trB T p) := kl_bn (kl_up (kl_cm T 6 p) (by omega)) (fun q => kl_up (kl_lp (h := 17) (by omega) (kn_un T 6) (fun c hc => op_tr c (by have := of_decide_eq_true hc; omega)) 240 q) (by omega))
  exact kl_bn a (fun q => kl_up (kl_lp (h := 18) (by omega) (fun z => kn_tr (by omega) (kn_un T 6) z) (fun c hc => op_tr c (by have := of_decide_eq_true hc; omega)) 240 q) (by omega))
theorem kn_lt {h : Nat} {b : Bool} {r : Rd} (k : KN h b r) (e : r.1 = true) (hh : h ≤ 40) : noM r.2.2 ∧ okR r.2.2 [] = some [b] := ⟨(k e).1, (k e).2 [] (by simpa using hh)⟩
/-- how far a clause goes -/
def FwdC (T : List Int) (p : Nat) (r : RdC) : Prop := (r.1 = true → okCl r.2.2 ∧ p + (flC r.2.2).length ≤ r.2.1) ∧ r.2.1 ≤ T.length
theorem teSu_ok {T : List Int} {p : Nat} {r : Rd} (hf : Fwd T (p + 1) r) (hk : KN 20 true r) : FwdC T p (teSu T r) := by
  have hs : Fwd T (p + 1) (bnR r (sgR T 63)) := fw_bn hf (fun q hq => fw_sg (by decide) hq)
  have hk2 : KN 20 true (bnR r (sgR T 63)) := kn_bn hk (fun q => kl_sg T 63 q)
  have hlen : (bnR r (sgR T 63)).1 = true → p + 1 + (bnR r (sgR T 63)).2.2.length + 1 ≤ (bnR r (sgR T 63)).2.1 := by
    unfold bnR
    by_cases e : r.1 = true
    · rw [if_pos e]
      unfold sgR
      by_cases e2 : sgT T r.2.1 = 63
      · rw [if_pos e2]
        intro _
        have h1 := hf.1 e
        have h2 := skS_le (T := T) (p := r.2.1) hf.2
        show p + 1 + (r.2.2 ++ []).length + 1 ≤ skS T r.2.1 + 1
        rw [List.append_nil]
        omega
      · rw [if_neg e2]
        exact fun q => by cases q
    · rw [if_neg e]
      exact fun q => absurd q e
  unfold teSu
  generalize bnR r (sgR T 63) = s at *
  by_cases e : s.1 = true
  · simp only [if_pos e]
    have hu := fw_su (T := T) 6 s.2.1 hs.2
    have hku := kn_su T 6 s.2.1
    generalize suR T 6 s.2.1 = u at *
    refine ⟨fun e2 => ?_, hu.2⟩
    obtain ⟨a1, a2⟩ := kn_lt hk2 e (by decide)
    obtain ⟨b1, b2⟩ := kn_lt hku e2 (by decide)
    have h1 := hlen e
    have h2 := hu.1 e2
    refine ⟨⟨a1, b1, Or.inr a2, false, b2⟩, ?_⟩
    unfold flC
    dsimp only
    split <;> simp only [List.length_append, List.length_cons, List.length_nil] <;> omega
  · simp only [if_neg e]
    exact ⟨fun q => (by cases q), hs.2⟩
theorem clR_ok {T : List Int} {p : Nat} (hp : p ≤ T.length) : FwdC T p (clR T p) := by
  have hh : Fwd T p (bnR (sgR T 121 p) (sgR T 58)) := fw_bn (fw_sg (by decide) hp) (fun q hq => fw_sg (by decide) hq)
  have hlen : (bnR (sgR T 121 p) (sgR T 58)).1 = true → p + 2 ≤ (bnR (sgR T 121 p) (sgR T 58)).2.1 := by
    unfold bnR
    by_cases e : (sgR T 121 p).1 = true
    · rw [if_pos e]
      have h1 : p + 1 ≤ (sgR T 121 p).2.1 ∧ (sgR T 121 p).2.1 ≤ T.length := by
        have := fw_sg (T := T) (d := 121) (by decide) hp
        refine ⟨?_, this.2⟩
        unfold sgR at e ⊢
        by_cases e2 : sgT T p = 121
        · rw [if_pos e2]
          have := skS_le hp
          show p + 1 ≤ skS T p + 1
          omega
        · rw [if_neg e2] at e; cases e
      intro e3
      generalize (sgR T 121 p).2.1 = q at *
      unfold sgR at e3 ⊢
      by_cases e2 : sgT T q = 58
      · rw [if_pos e2]
        have := skS_le h1.2
        show p + 2 ≤ skS T q + 1
        omega
      · rw [if_neg e2] at e3; cases e3
    · rw [if_neg e]
      exact fun q => absurd q e
  unfold clR
  generalize bnR (sgR T 121 p) (sgR T 58) = h at *
  by_cases e : h.1 = true
  · simp only [if_pos e]
    have h2 := hlen e
    by_cases e2 : sgT T h.2.1 = 33 ∨ sgT T h.2.1 = 40
    · simp only [if_pos e2]
      refine teSu_ok ?_ (kn_up (kn_coR T _) (by decide))
      have := fw_co (T := T) (U := unR T 6) (fw_un 6) (p := h.2.1) hh.2
      exact ⟨fun q => (by have := this.1 q; unfold coR; omega), this.2⟩
    · simp only [if_neg e2]
      have hu := fw_su (T := T) 6 h.2.1 hh.2
      have hku := kn_su T 6 h.2.1
      generalize suR T 6 h.2.1 = s at *
      by_cases e3 : s.1 = true
      · simp only [if_pos e3]
        by_cases e4 : isRel (sgT T s.2.1) = true
        · simp only [if_pos e4]
          have hB : ∀ q, q ≤ T.length → Fwd T q (coB T q) := fun q hq => fw_bn (fw_bn (fw_cm 6 hq) (fun z hz => fw_lp rfl (fw_un 6) 240 z hz)) (fun z hz => fw_lp rfl (fun z hz => fw_tr (fw_un 6) hz) 240 z hz)
          have hb := fw_bn hu hB
          refine teSu_ok ⟨fun q => (by have := hb.1 q; omega), hb.2⟩ (kn_bn (kn_up hku (by decide)) (kl_coB T))
        · simp only [if_neg e4]
          refine ⟨fun _ => ?_, hu.2⟩
          obtain ⟨b1, b2⟩ := kn_lt hku e3 (by decide)
          have h3 := hu.1 e3
          refine ⟨⟨noM_nil, b1, Or.inl rfl, false, b2⟩, ?_⟩
          unfold flC
          rw [if_pos rfl]
          simp only [List.length_append, List.length_cons, List.length_nil]
          omega
      · simp only [if_neg e3]
        exact ⟨fun q => (by cases q), hu.2⟩
  · simp only [if_neg e]
    exact ⟨fun q => (by cases q), hh.2⟩
theorem clsR_ok {T : List Int} : ∀ (f p : Nat), p ≤ T.length → ((clsR T f p).1 = true → (∀ q ∈ (clsR T f p).2.2, okCl q) ∧ p + (flS (clsR T f p).2.2).length ≤ (clsR T f p).2.1) ∧ (clsR T f p).2.1 ≤ T.length
  | 0, p, hp => ⟨fun _ => ⟨fun q hq => (by cases hq), (skS_le hp).1⟩, (skS_le hp).2⟩
  | f + 1, p, hp => by
    have hs := skS_le hp
    unfold clsR
    by_cases e : sgT T p = 59
    · rw [if_pos e]
      have hl := sg_lt (T := T) (p := p) (by rw [e]; decide)
      have hc := clR_ok (T := T) (p := skS T p + 1) hl
      generalize clR T (skS T p + 1) = c at *
      by_cases e2 : c.1 = true
      · rw [if_pos e2]
        obtain ⟨g1, g2⟩ := clsR_ok (T := T) f c.2.1 hc.2
        generalize clsR T f c.2.1 = s at *
        refine ⟨fun e3 => ?_, g2⟩
        obtain ⟨h1, h2⟩ := g1 e3
        obtain ⟨h3, h4⟩ := hc.1 e2
        refine ⟨fun q hq => ?_, ?_⟩
        · rcases List.mem_cons.mp hq with rfl | hq
          · exact h3
          · exact h1 q hq
        · show p + (flC c.2.2 ++ flS s.2.2).length ≤ s.2.1
          rw [List.length_append]
          omega
      · rw [if_neg e2]
        exact ⟨fun q => (by cases q), hc.2⟩
    · rw [if_neg e]
      exact ⟨fun _ => ⟨fun q hq => (by cases hq), hs.1⟩, hs.2⟩
/-- what a law that is well gives -/
theorem lawR_ok {T : List Int} (h : (lawR T).1 = true) (hT : T.length ≤ 240) : (∀ q ∈ (lawR T).2.2, okCl q) ∧ (flS (lawR T).2.2).length ≤ 240 := by
  have hc := clR_ok (T := T) (p := 0) (Nat.zero_le _)
  unfold lawR at h ⊢
  generalize clR T 0 = c at *
  by_cases e : c.1 = true
  · simp only [if_pos e] at h ⊢
    obtain ⟨g1, g2⟩ := clsR_ok (T := T) 240 c.2.1 hc.2
    generalize clsR T 240 c.2.1 = s at *
    by_cases e2 : s.1 = true
    · simp only [if_pos e2] at h ⊢
      by_cases e3 : sgT T s.2.1 = -1
      · simp only [if_pos e3] at h ⊢
        obtain ⟨h1, h2⟩ := g1 e2
        obtain ⟨h3, h4⟩ := hc.1 e
        refine ⟨fun q hq => ?_, ?_⟩
        · rcases List.mem_cons.mp hq with rfl | hq
          · exact h3
          · exact h1 q hq
        · show (flC c.2.2 ++ flS s.2.2).length ≤ 240
          rw [List.length_append]
          omega
      · simp only [if_neg e3] at h
        cases h
    · simp only [if_neg e2] at h
      cases h
  · simp only [if_neg e] at h
    cases h
