/-! PART 08: conditions. -/
def negC (q : Jvm.ClassFile.Cond) : Jvm.ClassFile.Cond := match q with
  | .eq => .ne
  | .ne => .eq
  | .lt => .ge
  | .ge => .lt
  | .gt => .le
  | .le => .gt
theorem cmpI_neg (q : Jvm.ClassFile.Cond) (a b : Int) : cmpI (negC q) a b = !cmpI q a b := by
  cases q
  · exact decide_not
  · show decide _ = !decide (¬ _)
    simp
  all_goals
    simp only [cmpI, negC]
    rw [← decide_not]
    exact decide_eq_decide.mpr (by omega)
theorem cmpL_lcm (q : Jvm.ClassFile.Cond) (a b : Int) : cmpI q (lcm a b) 0 = cmpL q a b := by
  have h1 : wr 1 = 1 := by decide
  have h2 : wr (-1) = -1 := by decide
  unfold lcm
  by_cases g1 : wrL b < wrL a
  · rw [if_pos g1]
    cases q <;> simp [cmpI, cmpL, wr_0, h1] <;> omega
  · rw [if_neg g1]
    by_cases g2 : wrL a = wrL b
    · rw [if_pos g2]
      cases q <;> simp [cmpI, cmpL, wr_0] <;> omega
    · rw [if_neg g2]
      cases q <;> simp [cmpI, cmpL, wr_0, h2] <;> omega
theorem goals_thru {md b : Bool} {p : Nat} {fs ts : List Nat} (h : b = md) : p ∈ goals md b p fs ts := by
  subst h
  cases b <;> simp [goals]
theorem goals_jump {md b : Bool} {p t : Nat} (h : b = !md) : t ∈ goals md b p (if md = true then [t] else []) (if md = true then [] else [t]) := by
  subst h
  cases md <;> simp [goals]
theorem goals_mono {md b : Bool} {p q : Nat} {fs ts fs' ts' : List Nat} (h1 : ∀ q ∈ fs, q ∈ fs') (h2 : ∀ q ∈ ts, q ∈ ts') (h : q ∈ goals md b p fs ts) : q ∈ goals md b p fs' ts' := by
  have hc : ∀ (l l' : List Nat), (∀ q ∈ l, q ∈ l') → q ∈ p :: l → q ∈ p :: l' := by
    intro l l' hl hq
    rcases List.mem_cons.mp hq with rfl | hq
    · exact List.mem_cons_self
    · exact List.mem_cons_of_mem _ (hl _ hq)
  cases md <;> cases b
  · exact hc _ _ h1 h
  · exact h2 _ h
  · exact h1 _ h
  · exact hc _ _ h2 h
section CO
variable {wd : Wd} {mi : MI}
def brT (md : Bool) (p t : Nat) : Nat × List Nat × List Nat := (p + 3, if md = true then [t] else [], if md = true then [] else [t])
def cCmp (mi : MI) (q : Jvm.ClassFile.Cond) (a b : ExC) : CoC := fun md te sz pc => (c2 a b 0 0 te sz pc).bind fun p => (icmpO (miC mi) p).bind fun r => grd (decide (r.1 = if md = true then negC q else q)) (some (brT md p r.2))
theorem br_sound {X : Cx} {te : List Nat} {ρ : List Int} {M : Mem} {st : STs} {md b : Bool} {p t : Nat} (k : ∀ q, q ∈ goals md b (p + 3) (if md = true then [t] else []) (if md = true then [] else [t]) → GW wd (miL mi) X q (lvOf te ρ) st M) : (b = (!md) → GW wd (miL mi) X t (lvOf te ρ) st M) ∧ (b = md → GW wd (miL mi) X (p + 3) (lvOf te ρ) st M) :=
  ⟨fun h => k _ (goals_jump h), fun h => k _ (goals_thru h)⟩
theorem jc (md b : Bool) (q : Jvm.ClassFile.Cond) (x y : Int) (h : cmpI q x y = b) : (cmpI (if md = true then negC q else q) x y = true → b = (!md)) ∧ (cmpI (if md = true then negC q else q) x y = false → b = md) := by
  subst h
  cases md
  · simp
  · simp only [if_true, cmpI_neg]
    cases cmpI q x y <;> simp
theorem sCmp (q : Jvm.ClassFile.Cond) (a b : Ex wd mi) : SoundC wd mi (dCmp q a.1.1 b.1.1) (cCmp mi q a.1.2 b.1.2) := by
  intro X hX md te sz pc pc' fs ts hc ρ M bb M' st hst hd k
  obtain ⟨p, h1, h2⟩ := obind hc
  obtain ⟨⟨r1, r2⟩, h3, h4⟩ := obind h2
  obtain ⟨hg, h5⟩ := ogrd h4
  cases h5
  obtain ⟨⟨x, M1⟩, g1, g2⟩ := obind hd
  obtain ⟨⟨y, M2⟩, e2, g3⟩ := obind g2
  cases g3
  have hg := of_decide_eq_true hg
  dsimp only at hg
  subst hg
  obtain ⟨off, f1, f2⟩ := icmpO_ok h3
  obtain ⟨k1, k2⟩ := br_sound k
  obtain ⟨j1, j2⟩ := jc md (cmpI q x y) q x y rfl
  exact s2 a.2 b.2 hX h1 hst g1 e2 (gw_icmp hX f1 f2 (fun z => k1 (j1 z)) (fun z => k2 (j2 z)))
def oCmp (q : Jvm.ClassFile.Cond) (a b : Ex wd mi) : Co wd mi := ⟨(dCmp q a.1.1 b.1.1, cCmp mi q a.1.2 b.1.2), sCmp q a b⟩
def cCm0 (mi : MI) (q : Jvm.ClassFile.Cond) (a : ExC) : CoC := fun md te sz pc => (c1 a 0 te sz pc).bind fun p => (ifO (miC mi) p).bind fun r => grd (decide (r.1 = if md = true then negC q else q)) (some (brT md p r.2))
theorem sCm0 (q : Jvm.ClassFile.Cond) (a : Ex wd mi) : SoundC wd mi (dCm0 q a.1.1) (cCm0 mi q a.1.2) := by
  intro X hX md te sz pc pc' fs ts hc ρ M bb M' st hst hd k
  obtain ⟨p, h1, h2⟩ := obind hc
  obtain ⟨⟨r1, r2⟩, h3, h4⟩ := obind h2
  obtain ⟨hg, h5⟩ := ogrd h4
  cases h5
  obtain ⟨⟨x, M1⟩, g1, g2⟩ := obind hd
  cases g2
  have hg := of_decide_eq_true hg
  dsimp only at hg
  subst hg
  obtain ⟨off, f1, f2⟩ := ifO_ok h3
  obtain ⟨k1, k2⟩ := br_sound k
  obtain ⟨j1, j2⟩ := jc md (cmpI q x 0) q x 0 rfl
  exact s1 a.2 hX h1 hst g1 (gw_if hX f1 f2 (fun z => k1 (j1 z)) (fun z => k2 (j2 z)))
def oCm0 (q : Jvm.ClassFile.Cond) (a : Ex wd mi) : Co wd mi := ⟨(dCm0 q a.1.1, cCm0 mi q a.1.2), sCm0 q a⟩
def cCmpL (mi : MI) (q : Jvm.ClassFile.Cond) (a b : ExC) : CoC := fun md te sz pc => (c2 a b 1 1 te sz pc).bind fun p => (ifO (miC mi) (p + 1)).bind fun r => grd (isI (miC mi) p .lcmp 1 && decide (r.1 = if md = true then negC q else q)) (some (brT md (p + 1) r.2))
theorem sCmpL (q : Jvm.ClassFile.Cond) (a b : Ex wd mi) : SoundC wd mi (dCmpL q a.1.1 b.1.1) (cCmpL mi q a.1.2 b.1.2) := by
  intro X hX md te sz pc pc' fs ts hc ρ M bb M' st hst hd k
  obtain ⟨p, h1, h2⟩ := obind hc
  obtain ⟨⟨r1, r2⟩, h3, h4⟩ := obind h2
  obtain ⟨hg, h5⟩ := ogrd h4
  cases h5
  simp only [Bool.and_eq_true, decide_eq_true_eq] at hg
  obtain ⟨⟨x, M1⟩, g1, g2⟩ := obind hd
  obtain ⟨⟨y, M2⟩, e2, g3⟩ := obind g2
  cases g3
  obtain ⟨hl, hg⟩ := hg
  subst hg
  obtain ⟨off, f1, f2⟩ := ifO_ok h3
  obtain ⟨k1, k2⟩ := br_sound k
  obtain ⟨j1, j2⟩ := jc md (cmpL q x y) q (lcm x y) 0 (cmpL_lcm q x y)
  exact s2 a.2 b.2 hX h1 hst g1 e2 (gw_lcmp hX (isI_ok hl) (gw_if hX f1 f2 (fun z => k1 (j1 z)) (fun z => k2 (j2 z))))
def oCmpL (q : Jvm.ClassFile.Cond) (a b : Ex wd mi) : Co wd mi := ⟨(dCmpL q a.1.1 b.1.1, cCmpL mi q a.1.2 b.1.2), sCmpL q a b⟩
def cNul (mi : MI) (a : ExC) : CoC := fun md te sz pc => (c1 a 2 te sz pc).bind fun p => (nullO (miC mi) p).bind fun r => grd (decide (r.1 = !md)) (some (brT md p r.2))
theorem sNul (a : Ex wd mi) : SoundC wd mi (dNul a.1.1) (cNul mi a.1.2) := by
  intro X hX md te sz pc pc' fs ts hc ρ M bb M' st hst hd k
  obtain ⟨p, h1, h2⟩ := obind hc
  obtain ⟨⟨r1, r2⟩, h3, h4⟩ := obind h2
  obtain ⟨hg, h5⟩ := ogrd h4
  cases h5
  obtain ⟨⟨x, M1⟩, g1, g2⟩ := obind hd
  cases g2
  have hg := of_decide_eq_true hg
  dsimp only at hg
  subst hg
  obtain ⟨off, f1, f2⟩ := nullO_ok h3
  obtain ⟨k1, k2⟩ := br_sound k
  refine s1 a.2 hX h1 hst g1 ?_
  cases md
  · exact gw_ifnull hX f1 f2 (fun z => k1 (by simp [z])) (fun z => k2 (by simp; omega))
  · exact gw_ifnonnull hX f1 f2 (fun z => k1 (by simp; omega)) (fun z => k2 (by simp [z]))
def oNul (a : Ex wd mi) : Co wd mi := ⟨(dNul a.1.1, cNul mi a.1.2), sNul a⟩
def cAnd (a b : CoC) : CoC := fun md te sz pc => (a true te sz pc).bind fun q => (b md te sz q.1).bind fun r => grd (rsv q.1 q.2.2) (some (r.1, q.2.1 ++ r.2.1, r.2.2))
theorem sAnd (a b : Co wd mi) : SoundC wd mi (dAnd a.1.1 b.1.1) (cAnd a.1.2 b.1.2) := by
  intro X hX md te sz pc pc' fs ts hc ρ M bb M' st hst hd k
  obtain ⟨⟨q1, q2, q3⟩, h1, h2⟩ := obind hc
  obtain ⟨⟨r1, r2, r3⟩, h3, h4⟩ := obind h2
  obtain ⟨hg, h5⟩ := ogrd h4
  cases h5
  obtain ⟨⟨x, M1⟩, g1, g2⟩ := obind hd
  refine a.2 X hX true te sz pc q1 q2 q3 h1 ρ M x M1 st hst g1 ?_
  cases x
  · cases g2
    intro q hq
    refine k q ?_
    have hq : q ∈ q2 := hq
    cases md <;> simp [goals, hq]
  · refine rsv_all hg ?_
    refine b.2 X hX md te sz q1 r1 r2 r3 h3 ρ M1 bb M' st hst g2 (fun q hq => k q (goals_mono (fun z hz => by simp [hz]) (fun z hz => by simp [hz]) hq))
def oAnd (a b : Co wd mi) : Co wd mi := ⟨(dAnd a.1.1 b.1.1, cAnd a.1.2 b.1.2), sAnd a b⟩
def cOr (a b : CoC) : CoC := fun md te sz pc => (a false te sz pc).bind fun q => (b md te sz q.1).bind fun r => grd (rsv q.1 q.2.1) (some (r.1, r.2.1, q.2.2 ++ r.2.2))
theorem sOr (a b : Co wd mi) : SoundC wd mi (dOr a.1.1 b.1.1) (cOr a.1.2 b.1.2) := by
  intro X hX md te sz pc pc' fs ts hc ρ M bb M' st hst hd k
  obtain ⟨⟨q1, q2, q3⟩, h1, h2⟩ := obind hc
  obtain ⟨⟨r1, r2, r3⟩, h3, h4⟩ := obind h2
  obtain ⟨hg, h5⟩ := ogrd h4
  cases h5
  obtain ⟨⟨x, M1⟩, g1, g2⟩ := obind hd
  refine a.2 X hX false te sz pc q1 q2 q3 h1 ρ M x M1 st hst g1 ?_
  cases x
  · refine rsv_all hg ?_
    refine b.2 X hX md te sz q1 r1 r2 r3 h3 ρ M1 bb M' st hst g2 (fun q hq => k q (goals_mono (fun z hz => by simp [hz]) (fun z hz => by simp [hz]) hq))
  · cases g2
    intro q hq
    refine k q ?_
    have hq : q ∈ q3 := hq
    cases md <;> simp [goals, hq]
def oOr (a b : Co wd mi) : Co wd mi := ⟨(dOr a.1.1 b.1.1, cOr a.1.2 b.1.2), sOr a b⟩
def cNot (a : CoC) : CoC := fun md te sz pc => (a (!md) te sz pc).bind fun q => some (q.1, q.2.2, q.2.1)
theorem sNot (a : Co wd mi) : SoundC wd mi (dNot a.1.1) (cNot a.1.2) := by
  intro X hX md te sz pc pc' fs ts hc ρ M bb M' st hst hd k
  obtain ⟨⟨q1, q2, q3⟩, h1, h2⟩ := obind hc
  cases h2
  obtain ⟨⟨x, M1⟩, g1, g2⟩ := obind hd
  cases g2
  refine a.2 X hX (!md) te sz pc q1 q2 q3 h1 ρ M x M1 st hst g1 (fun q hq => k q ?_)
  cases md <;> cases x <;> simpa [goals] using hq
def oNot (a : Co wd mi) : Co wd mi := ⟨(dNot a.1.1, cNot a.1.2), sNot a⟩
/-! a condition as a value; a choice between values -/
def cBo (mi : MI) (c : CoC) : ExC := fun te sz pc => (c true te sz pc).bind fun q => (gotoO (miC mi) (q.1 + 1)).bind fun t => grd (rsv q.1 q.2.2 && rsv (q.1 + 4) q.2.1 && isI (miC mi) q.1 (.iconst 1) 1 && isI (miC mi) (q.1 + 4) (.iconst 0) 1) (some (q.1 + 5, 0, [t]))
theorem sBo (c : Co wd mi) : SoundE wd mi (dBo c.1.1) (cBo mi c.1.2) := by
  intro X hX te sz pc pc' t ex hc ρ M v M' st hst hd k
  obtain ⟨⟨q1, q2, q3⟩, h1, h2⟩ := obind hc
  obtain ⟨tg, h3, h4⟩ := obind h2
  obtain ⟨hg, h5⟩ := ogrd h4
  cases h5
  simp only [Bool.and_eq_true] at hg
  obtain ⟨⟨⟨b1, b2⟩, b3⟩, b4⟩ := hg
  obtain ⟨⟨x, M1⟩, g1, g2⟩ := obind hd
  cases g2
  obtain ⟨off, f1, f2⟩ := gotoO_ok h3
  refine c.2 X hX true te sz pc q1 q2 q3 h1 ρ M x M1 st hst g1 ?_
  cases x
  · exact rsv_mem b2 (gw_iconst hX (isI_ok b4) (k _ List.mem_cons_self))
  · exact rsv_all b1 (gw_iconst hX (isI_ok b3) (gw_goto hX f1 f2 (k _ (by simp))))
def eBo (c : Co wd mi) : Ex wd mi := ⟨(dBo c.1.1, cBo mi c.1.2), sBo c⟩
/-- jumps that aren't yet here go on to the end -/
def thr (p : Nat) (ex : List Nat) : List Nat := ex.filter (fun q => !(q == p))
theorem thr_mem {p q : Nat} {ex : List Nat} (h : q ∈ ex) : q = p ∨ q ∈ thr p ex := by
  by_cases hq : q = p
  · exact Or.inl hq
  · exact Or.inr (List.mem_filter.mpr ⟨h, by simp [hq]⟩)
def cCon (mi : MI) (c : CoC) (a b : ExC) : ExC := fun te sz pc => (c true te sz pc).bind fun q => (a te sz q.1).bind fun r => (gotoO (miC mi) r.1).bind fun t => (b te sz (r.1 + 3)).bind fun u => grd (rsv q.1 q.2.2 && rsv (r.1 + 3) q.2.1 && decide (r.2.1 = u.2.1)) (some (u.1, u.2.1, t :: (thr r.1 r.2.2 ++ u.2.2)))
theorem sCon (c : Co wd mi) (a b : Ex wd mi) : SoundE wd mi (dCon c.1.1 a.1.1 b.1.1) (cCon mi c.1.2 a.1.2 b.1.2) := by
  intro X hX te sz pc pc' t ex hc ρ M v M' st hst hd k
  obtain ⟨⟨q1, q2, q3⟩, h1, h2⟩ := obind hc
  obtain ⟨⟨r1, r2, r3⟩, h3, h4⟩ := obind h2
  obtain ⟨tg, h5, h6⟩ := obind h4
  obtain ⟨⟨u1, u2, u3⟩, h7, h8⟩ := obind h6
  obtain ⟨hg, h9⟩ := ogrd h8
  cases h9
  simp only [Bool.and_eq_true, decide_eq_true_eq] at hg
  obtain ⟨⟨b1, b2⟩, b3⟩ := hg
  subst b3
  obtain ⟨⟨x, M1⟩, g1, g2⟩ := obind hd
  obtain ⟨off, f1, f2⟩ := gotoO_ok h5
  refine c.2 X hX true te sz pc q1 q2 q3 h1 ρ M x M1 st hst g1 ?_
  cases x
  · exact rsv_mem b2 (b.2 X hX te sz _ u1 r2 u3 h7 ρ M1 v M' st hst g2 (fun q hq => k q (by rcases List.mem_cons.mp hq with rfl | hq <;> simp [*])))
  · refine rsv_all b1 (a.2 X hX te sz _ r1 r2 r3 h3 ρ M1 v M' st hst g2 (fun q hq => ?_))
    rcases List.mem_cons.mp hq with rfl | hq
    · exact gw_goto hX f1 f2 (k _ (by simp))
    · rcases thr_mem (p := r1) hq with rfl | hq
      · exact gw_goto hX f1 f2 (k _ (by simp))
      · exact k _ (by simp [hq])
def eCon (c : Co wd mi) (a b : Ex wd mi) : Ex wd mi := ⟨(dCon c.1.1 a.1.1 b.1.1, cCon mi c.1.2 a.1.2 b.1.2), sCon c a b⟩
end CO
