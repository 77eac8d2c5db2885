/-! PART 10: switches; a method out of its statement. -/
section SW
variable {wd : Wd} {mi : MI} {rt : Nat}
theorem gw_tabIn {X : Cx} {pc : Nat} {lv : LVs} {st : STs} {M : Mem} (h : GOk wd mi X) {dflt lo hi off x : Int} {offs : Array Int} {len tgt : Nat} (hd : decode (miC mi) pc = .ok (.tableswitch dflt lo hi offs, len)) (h1 : lo ≤ wr x) (h2 : wr x ≤ hi) (ho : offs[(wr x - lo).toNat]? = some off) (ht : (pc : Int) + off = (tgt : Int)) (k : GW wd (miL mi) X tgt lv st M) : GW wd (miL mi) X pc lv ((0, x) :: st) M := by
  obtain ⟨p, l, e, R, s, m, args, below, meth, cc0, Q, M0, G⟩ := X
  intro hm H locs ls hP hS hl
  exact lv_tableIn h.1 h.2.1 hd (show ¬ wr x < lo by omega) (show ¬ hi < wr x by omega) ho ht (k hm H locs ls hP hS hl)
theorem gw_tabOut {X : Cx} {pc : Nat} {lv : LVs} {st : STs} {M : Mem} (h : GOk wd mi X) {dflt lo hi x : Int} {offs : Array Int} {len tgt : Nat} (hd : decode (miC mi) pc = .ok (.tableswitch dflt lo hi offs, len)) (h1 : wr x < lo ∨ hi < wr x) (ht : (pc : Int) + dflt = (tgt : Int)) (k : GW wd (miL mi) X tgt lv st M) : GW wd (miL mi) X pc lv ((0, x) :: st) M := by
  obtain ⟨p, l, e, R, s, m, args, below, meth, cc0, Q, M0, G⟩ := X
  intro hm H locs ls hP hS hl
  exact lv_tableOut h.1 h.2.1 hd h1 ht (k hm H locs ls hP hS hl)
theorem gw_look {X : Cx} {pc : Nat} {lv : LVs} {st : STs} {M : Mem} (h : GOk wd mi X) {dflt off x : Int} {ps : Array (Int × Int)} {len tgt : Nat} (hd : decode (miC mi) pc = .ok (.lookupswitch dflt ps, len)) (hp : (ps.toList.zip (ps.toList.drop 1)).all (fun (a, next) => a.1 < next.1) = true) (ho : Op.lookupswitch.offset ps.toList dflt (wr x) = off) (ht : (pc : Int) + off = (tgt : Int)) (k : GW wd (miL mi) X tgt lv st M) : GW wd (miL mi) X pc lv ((0, x) :: st) M := by
  obtain ⟨p, l, e, R, s, m, args, below, meth, cc0, Q, M0, G⟩ := X
  intro hm H locs ls hP hS hl
  exact lv_lookup h.1 h.2.1 hd hp ho ht (k hm H locs ls hP hS hl)
abbrev SwD : Type := Int → StD
abbrev SwC : Type := List Nat → Nat → Option (Nat × List (Int × Nat) × Nat)
def lkD (v : Int) (dp : Nat) : List (Int × Nat) → Nat
  | [] => dp
  | (k, p) :: l => if v = k then p else lkD v dp l
def SoundW (wd : Wd) (mi : MI) (rt : Nat) (d : SwD) (c : SwC) : Prop := ∀ X : Cx, GOk wd mi X → ∀ post : Int → Mem → Prop, RetOk wd mi X rt post → ∀ (te : List Nat) (pc pc' : Nat) (ks : List (Int × Nat)) (dp : Nat), c te pc = some (pc', ks, dp) → ∀ (v : Int) (ρ : List Int) (M : Mem) (r : Option Int) (ρ' : List Int) (M' : Mem), d v ρ M = some (r, ρ', M') → (∀ w, r = some w → post w M') → GW wd (miL mi) X (lkD v dp ks) (lvOf te ρ) [] M
abbrev Sw (wd : Wd) (mi : MI) (rt : Nat) : Type := { q : SwD × SwC // SoundW wd mi rt q.1 q.2 }
def wDf (s : St wd mi rt) : Sw wd mi rt := ⟨(fun _ => s.1.1, fun te pc => (s.1.2 te pc).bind fun q => grd (!q.1 && decide (q.2.2.2 = [])) (some (q.2.1, [], pc))), by
  intro X hX post hR te pc pc' ks dp hc v ρ M r ρ' M' hd hp
  obtain ⟨⟨q1, q2, q3, q4⟩, h1, h2⟩ := obind hc
  obtain ⟨hg, h3⟩ := ogrd h2
  cases h3
  simp only [Bool.and_eq_true, decide_eq_true_eq, Bool.not_eq_true'] at hg
  obtain ⟨rfl, rfl⟩ := hg
  exact s.2 X hX post hR te pc false q2 q3 [] h1 ρ M r ρ' M' hd hp (fun _ q hq => by simp at hq)⟩
def dCs (k : Int) (s : StD) (w : SwD) : SwD := fun v => if v = k then s else w v
def wCs (k : Int) (s : St wd mi rt) (w : Sw wd mi rt) : Sw wd mi rt := ⟨(dCs k s.1.1 w.1.1, fun te pc => (s.1.2 te pc).bind fun q => (w.1.2 te q.2.1).bind fun u => grd (!q.1 && decide (q.2.2.2 = [])) (some (u.1, (k, pc) :: u.2.1, u.2.2))), by
  intro X hX post hR te pc pc' ks dp hc v ρ M r ρ' M' hd hp
  obtain ⟨⟨q1, q2, q3, q4⟩, h1, h2⟩ := obind hc
  obtain ⟨⟨u1, u2, u3⟩, h4, h5⟩ := obind h2
  obtain ⟨hg, h3⟩ := ogrd h5
  cases h3
  simp only [Bool.and_eq_true, decide_eq_true_eq, Bool.not_eq_true'] at hg
  obtain ⟨rfl, rfl⟩ := hg
  have hd : (if v = k then s.1.1 else w.1.1 v) ρ M = some (r, ρ', M') := hd
  unfold lkD
  by_cases hv : v = k
  · rw [if_pos hv] at hd ⊢
    exact s.2 X hX post hR te pc false q2 q3 [] h1 ρ M r ρ' M' hd hp (fun _ q hq => by simp at hq)
  · rw [if_neg hv] at hd ⊢
    exact w.2 X hX post hR te q2 u1 u2 u3 h4 v ρ M r ρ' M' hd hp⟩
def dSw (e : ExD) (w : SwD) : StD := fun ρ M => (e ρ M).bind fun x => w (wr x.1) ρ x.2
/-- the table's places are the cases' -/
def tabOk (p : Nat) (d lo hi : Int) (offs : Array Int) (ks : List (Int × Nat)) (dp : Nat) : Bool := decide (jmp p d = some dp) && ks.all (fun k => decide (lo ≤ k.1 ∧ k.1 ≤ hi)) && (List.range (hi - lo + 1).toNat).all (fun (j : Nat) => decide ((offs[j]?).bind (jmp p) = some (lkD (lo + (j : Int)) dp ks)))
def lokOk (p : Nat) (d : Int) (ps : List (Int × Int)) (ks : List (Int × Nat)) (dp : Nat) : Bool := decide (jmp p d = some dp) && (ps.zip (ps.drop 1)).all (fun (a, next) => a.1 < next.1) && ps.all (fun q => decide (jmp p q.2 = some (lkD q.1 dp ks))) && ks.all (fun k => ps.any (fun q => decide (q.1 = k.1)))
theorem lkD_out {v : Int} {dp : Nat} : ∀ {ks : List (Int × Nat)}, (∀ k ∈ ks, ¬ v = k.1) → lkD v dp ks = dp
  | [], _ => rfl
  | (k, p) :: l, h => by
    unfold lkD
    rw [if_neg (h (k, p) List.mem_cons_self)]
    exact lkD_out (fun q hq => h q (List.mem_cons_of_mem _ hq))
theorem off_in {d v : Int} : ∀ {ps : List (Int × Int)}, (∃ o, (v, o) ∈ ps ∧ Op.lookupswitch.offset ps d v = o) ∨ ((∀ q ∈ ps, ¬ q.1 = v) ∧ Op.lookupswitch.offset ps d v = d)
  | [] => Or.inr ⟨fun q hq => by simp at hq, rfl⟩
  | (a, o) :: l => by
    by_cases h : a = v
    · subst h
      exact Or.inl ⟨o, List.mem_cons_self, by rw [Op.lookupswitch.offset_cons, if_pos rfl]⟩
    · rcases off_in (d := d) (v := v) (ps := l) with ⟨o2, h1, h2⟩ | ⟨h1, h2⟩
      · exact Or.inl ⟨o2, List.mem_cons_of_mem _ h1, by rw [Op.lookupswitch.offset_cons, if_neg h]; exact h2⟩
      · refine Or.inr ⟨fun q hq => ?_, by rw [Op.lookupswitch.offset_cons, if_neg h]; exact h2⟩
        rcases List.mem_cons.mp hq with rfl | hq
        · exact h
        · exact h1 q hq
def cSw (mi : MI) (e : ExC) (w : SwC) : StC := fun te pc => (c1 e 0 te 0 pc).bind fun p => match decO (miC mi) p with
  | some (.tableswitch d lo hi offs, len) => (w te (p + len)).bind fun u => grd (tabOk p d lo hi offs u.2.1 u.2.2) (some (false, u.1, te, []))
  | some (.lookupswitch d ps, len) => (w te (p + len)).bind fun u => grd (lokOk p d ps.toList u.2.1 u.2.2) (some (false, u.1, te, []))
  | _ => none
theorem sSw_ok (e : Ex wd mi) (w : Sw wd mi rt) : SoundS wd mi rt (dSw e.1.1 w.1.1) (cSw mi e.1.2 w.1.2) := by
  intro X hX post hR te pc al pc' te' ex hc ρ M r ρ' M' hd hp kk
  obtain ⟨p, h1, h2⟩ := obind hc
  obtain ⟨⟨x, M1⟩, g1, g2⟩ := obind hd
  refine s1 e.2 hX h1 rfl g1 ?_
  split at h2
  · next d lo hi offs len e9 =>
    obtain ⟨⟨u1, u2, u3⟩, h3, h4⟩ := obind h2
    obtain ⟨hg, h5⟩ := ogrd h4
    cases h5
    have kw := w.2 X hX post hR te _ u1 u2 u3 h3 (wr x) ρ M1 r ρ' M' g2 hp
    unfold tabOk at hg
    simp only [Bool.and_eq_true, decide_eq_true_eq] at hg
    obtain ⟨⟨a1, a2⟩, a3⟩ := hg
    by_cases hin : lo ≤ wr x ∧ wr x ≤ hi
    · have a4 := of_decide_eq_true (List.all_eq_true.mp a3 (wr x - lo).toNat (List.mem_range.mpr (by omega)))
      obtain ⟨off, b1, b2⟩ := obind a4
      have e8 : lo + ((wr x - lo).toNat : Int) = wr x := by omega
      rw [e8] at b2
      exact gw_tabIn hX (decO_ok e9) hin.1 hin.2 b1 (jmp_ok b2) kw
    · rw [lkD_out (fun k hk => by have := of_decide_eq_true (List.all_eq_true.mp a2 k hk); omega)] at kw
      exact gw_tabOut hX (decO_ok e9) (by omega) (jmp_ok a1) kw
  · next d ps len e9 =>
    obtain ⟨⟨u1, u2, u3⟩, h3, h4⟩ := obind h2
    obtain ⟨hg, h5⟩ := ogrd h4
    cases h5
    have kw := w.2 X hX post hR te _ u1 u2 u3 h3 (wr x) ρ M1 r ρ' M' g2 hp
    unfold lokOk at hg
    simp only [Bool.and_eq_true, decide_eq_true_eq] at hg
    obtain ⟨⟨⟨a1, a2⟩, a3⟩, a4⟩ := hg
    rcases off_in (d := d) (v := wr x) (ps := ps.toList) with ⟨o, b1, b2⟩ | ⟨b1, b2⟩
    · have b3 := of_decide_eq_true (List.all_eq_true.mp a3 _ b1)
      exact gw_look hX (decO_ok e9) a2 b2 (jmp_ok b3) kw
    · rw [lkD_out (fun k hk => by
        obtain ⟨q, c1, c2⟩ := List.any_eq_true.mp (List.all_eq_true.mp a4 k hk)
        have c2 := of_decide_eq_true c2
        have c3 := b1 q c1
        omega)] at kw
      exact gw_look hX (decO_ok e9) a2 b2 (jmp_ok a1) kw
  · cases h2
def sSw (e : Ex wd mi) (w : Sw wd mi rt) : St wd mi rt := ⟨(dSw e.1.1 w.1.1, cSw mi e.1.2 w.1.2), sSw_ok e w⟩
end SW
/-! the locals at a method's begin -/
def envL : List Nat → List Int → List Int
  | t :: ts, v :: vs => if t = 1 then v :: 0 :: envL ts vs else v :: envL ts vs
  | [], _ => []
  | _ :: _, [] => []
def tyL : List Nat → List Nat
  | t :: ts => if t = 1 then 1 :: 9 :: tyL ts else t :: tyL ts
  | [] => []
def layE (n : Nat) (tys : List Nat) (vs : List Int) : List Int := envL tys vs ++ List.replicate (n - (envL tys vs).length) 0
def layT (n : Nat) (tys : List Nat) : List Nat := tyL tys ++ List.replicate (n - (tyL tys).length) 9
theorem lay_mem (a b : Nat) : ∀ (tys : List Nat) (vs : List Int) (k i t : Nat), vs.length = tys.length → (tyL tys ++ List.replicate a 9).getD i 9 = t → ¬ t = 9 → (k + i, t, (envL tys vs ++ List.replicate b 0).getD i 0) ∈ layA k tys vs
  | [], vs, k, i, t, _, h2, h3 => by
    exfalso
    apply h3
    rw [← h2]
    simp only [tyL, List.nil_append, List.getD, List.getElem?_replicate]
    split <;> rfl
  | t0 :: ts, [], k, i, t, h1, _, _ => by cases h1
  | t0 :: ts, v :: vs, k, i, t, h1, h2, h3 => by
    have ih := lay_mem a b ts vs
    have h1 : vs.length = ts.length := by simpa using h1
    unfold tyL at h2
    unfold envL layA
    by_cases ht : t0 = 1
    · rw [if_pos ht] at h2 ⊢
      rw [if_pos ht]
      match i, h2 with
      | 0, h2 =>
        have h2 : 1 = t := h2
        subst h2; subst ht
        exact List.mem_cons_self
      | 1, h2 => exact absurd (show t = 9 from h2.symm) h3
      | j + 2, h2 =>
        have := ih (k + 2) j t h1 h2 h3
        refine List.mem_cons_of_mem _ ?_
        have e : k + (j + 2) = k + 2 + j := by omega
        rw [e]
        exact this
    · rw [if_neg ht] at h2 ⊢
      rw [if_neg ht]
      match i, h2 with
      | 0, h2 =>
        have h2 : t0 = t := h2
        subst h2
        exact List.mem_cons_self
      | j + 1, h2 =>
        have := ih (k + 1) j t h1 h2 h3
        refine List.mem_cons_of_mem _ ?_
        have e : k + (j + 1) = k + 1 + j := by omega
        rw [e]
        exact this
/-- what a method does: locals, types, a boolean's answer -/
def denM (n : Nat) (tys : List Nat) (rb : Bool) (d : StD) : Den := fun vs M => (d (layE n tys vs) M).bind fun x => x.1.bind fun v => if rb = true ∧ ¬ (v = 0 ∨ v = 1) then none else some (v, x.2.2)
def chkM (c : StC) (te : List Nat) : Bool := match c te 0 with
  | some (false, _, _, []) => true
  | _ => false
theorem chkM_ok {c : StC} {te : List Nat} (h : chkM c te = true) : ∃ pc' te', c te 0 = some (false, pc', te', []) := by
  unfold chkM at h
  split at h
  · next a b e => exact ⟨a, b, e⟩
  · cases h
theorem g_meth {wd : Wd} {y : MN} {mode cl rt : Nat} {tys : List Nat} {mi : MI} (rb : Bool) (body : St wd mi rt) (hrx : RxOk wd.2.2.2) (hy : plainName y.1.cls = true) (e1 : miC mi = y.2.1) (e2 : miL mi = y.2.2.1) (e3 : miO mi = y.1.cls) (h1 : 1 ≤ y.2.2.2.2) (hsl : (tys.map (fun t => if t = 1 then 2 else 1)).sum ≤ y.2.2.1) (hret : RetTy y.2.2.2.1 rt) (hrb : y.2.2.2.1 = some .boolean → rb = true) (hW : WordsOk wd mi) (hC : ∀ q ∈ miK mi, CallLk wd (miO mi) y.2.2.2.2 q)
    (hchk : chkM body.1.2 (layT y.2.2.1 tys) = true) : MetD wd y (mode, cl, tys, rt, denM y.2.2.1 tys rb body.1.1) := by
  obtain ⟨pc', te', hchk⟩ := chkM_ok hchk
  refine g_method (mi := mi) hrx hy e1 e2 e3 h1 hsl hret hW hC (fun hb vs M r M' hd => ?_) (fun X hX vs M r M' hlen hd hR => ?_)
  · obtain ⟨⟨x, ρ, M1⟩, g1, g2⟩ := obind hd
    obtain ⟨v, g3, g4⟩ := obind g2
    split at g4
    · cases g4
    · next hn =>
      cases g4
      rcases Classical.em (r = 0 ∨ r = 1) with h | h
      · exact h
      · exact absurd ⟨hrb hb, h⟩ hn
  · obtain ⟨⟨x, ρ, M1⟩, g1, g2⟩ := obind hd
    obtain ⟨v, g3, g4⟩ := obind g2
    split at g4
    · cases g4
    · cases g4
      dsimp only at g3
      subst g3
      have k := body.2 X hX _ hR _ 0 false pc' te' [] hchk _ M _ ρ _ g1 (fun w hw => ⟨(Option.some.inj hw).symm, rfl⟩) (fun h => by cases h)
      refine gw_sub (fun q hq => ?_) k
      obtain ⟨i, t, z⟩ := q
      obtain ⟨m1, m2, m3⟩ := mem_lv.mp hq
      have := lay_mem (y.2.2.1 - (tyL tys).length) (y.2.2.1 - (envL tys vs).length) tys vs 0 i t hlen m1 m2
      rw [Nat.zero_add] at this
      rw [m3]
      exact this
