/-! PART 06: a whole method. -/
theorem cS_call {G : Geo} {tys : List Nat} {vs : List Int} {st : STs} : cS G ((tys.zip vs).reverse ++ st) = (cvs G tys vs).reverse ++ cS G st := by
  simp [cS, cvs]
section GWM
variable {wd : Wd} {mi : MI} {X : Cx} {pc : Nat} {lv : LVs} {st : STs} {M : Mem}
theorem gw_call (h : GOk wd mi X) {idx : Nat} {ci : CI} {vs : List Int} {r : Int} {M' : Mem} (hq : lk idx (miK mi) = some ci) (hd : decode (miC mi) pc = .ok (invI ci.1 idx, 3)) (hlen : vs.length = ci.2.2.1.length) (hst : (st.map (fun q => if q.1 = 1 then 2 else 1)).sum ≤ 8) (hden : ci.2.2.2.2 vs M = some (r, M')) (hrecv : recvOk wd ci vs = true) (kk : GW wd (miL mi) X (pc + 3) lv ((if ci.2.2.2.1 = 3 then [] else [(ci.2.2.2.1, r)]) ++ st) M') : GW wd (miL mi) X pc lv ((ci.2.2.1.zip vs).reverse ++ st) M := by
  obtain ⟨p, l, e, R, s, m, args, below, meth, cc0, Q, M0, G⟩ := X
  intro hm H locs ls hP hS hl
  rw [cS_call]
  refine h.2.2.2.2.2.2.2.2.2.2.2.2.2.2.2 _ (lk_mem hq) pc vs r M M' H locs ls (cS G st) hd hlen (cS_cat hst) hden hrecv hP hS hl.1 hm (fun H1 locs1 hP1 hS1 hm1 => ?_)
  have k1 := kk hm1 H1 locs1 ls hP1 hS1 hl
  have e9 : cS G ((if ci.2.2.2.1 = 3 then [] else [(ci.2.2.2.1, r)]) ++ st) = (rvO G ci.2.2.2.1 r).toList ++ cS G st := by
    unfold rvO
    by_cases h3 : ci.2.2.2.1 = 3
    · rw [if_pos h3, if_pos h3]; rfl
    · rw [if_neg h3, if_neg h3]; rfl
  rw [e9] at k1
  exact k1
def retI (rt : Nat) : Instr := match rt with
  | 1 => .lreturn
  | 2 => .areturn
  | 3 => .return_
  | _ => .ireturn
def RetOk (wd : Wd) (mi : MI) (X : Cx) (rt : Nat) (post : Int → Mem → Prop) : Prop := ∀ (pc : Nat) (lv : LVs) (v : Int) (M : Mem), decode (miC mi) pc = .ok (retI rt, 1) → post v M → GW wd (miL mi) X pc lv (if rt = 3 then [] else [(rt, v)]) M
end GWM
def layA : Nat → List Nat → List Int → LVs
  | k, t :: ts, v :: vs => (k, t, v) :: layA (if t = 1 then k + 2 else k + 1) ts vs
  | _, [], _ => []
  | _, _ :: _, [] => []
theorem layA_args (G : Geo) : ∀ (tys : List Nat) (vs : List Int) (k : Nat), lv_args k (cvs G tys vs) = cL G (layA k tys vs)
  | [], vs, k => by simp [cvs, layA, lv_args, cL]
  | t :: ts, [], k => by simp [cvs, layA, lv_args, cL]
  | t :: ts, v :: vs, k => by
    have ih := layA_args G ts vs (if t = 1 then k + 2 else k + 1)
    show lv_args k (cv (gad G) t v :: cvs G ts vs) = (k, cv (gad G) t v) :: cL G (layA (if t = 1 then k + 2 else k + 1) ts vs)
    rw [← ih]
    show (k, cv (gad G) t v) :: lv_args (if (cv (gad G) t v).category = 2 then k + 2 else k + 1) (cvs G ts vs) = _
    rw [cv_cat]
    by_cases h : t = 1 <;> simp [h]
theorem sl_len (G : Geo) : ∀ (tys : List Nat) (vs : List Int), (lg_sl (cvs G tys vs)).length ≤ (tys.map (fun t => if t = 1 then 2 else 1)).sum
  | [], vs => by simp [cvs, lg_sl]
  | t :: ts, [] => by simp [cvs, lg_sl]
  | t :: ts, v :: vs => by
    have ih := sl_len G ts vs
    show (lg_sl (cv (gad G) t v :: cvs G ts vs)).length ≤ _
    unfold lg_sl at ih ⊢
    rw [List.flatMap_cons, List.length_append, cv_cat, List.map_cons, List.sum_cons]
    generalize (List.flatMap _ (cvs G ts vs)).length = z at ih ⊢
    by_cases h : t = 1
    · subst h
      exact Nat.add_le_add_left ih 2
    · rw [if_neg h]
      exact Nat.add_le_add_left ih 1
def CallLk (wd : Wd) (own : String) (hh : Nat) (q : Nat × CI) : Prop := ∃ y : MN, MetD wd y q.2 ∧ y.2.2.2.2 + 1 ≤ hh ∧ (LinkS own q.1 y ∨ LinkN own q.1 y) ∧
  ((q.2.1 = 0 ∧ KnownS y ∧ (parseMethodDescriptor y.1.desc).map (fun d => d.parameters.length) = some q.2.2.2.1.length) ∨ (q.2.1 = 1 ∧ KnownV y ∧ (vwCl[q.2.2.1]?).map (fun q => q.1) = some y.1.cls ∧ ∃ tys, q.2.2.2.1 = 2 :: tys ∧ (parseMethodDescriptor y.1.desc).map (fun d => d.parameters.length) = some tys.length) ∨ (q.2.1 = 2 ∧ KnownV y ∧ RecS wd y.1.cls ∧ LinkS own q.1 y ∧ ∃ tys, q.2.2.2.1 = 2 :: tys ∧ (parseMethodDescriptor y.1.desc).map (fun d => d.parameters.length) = some tys.length))
def WordsOk (wd : Wd) (mi : MI) : Prop :=
  (∀ q ∈ miI mi, Cond.constant (miO mi) q.1 (Int32.ofInt q.2) ∈ TBL) ∧ (∀ q ∈ miJ mi, Cond.constantLong (miO mi) q.1 (Int64.ofInt q.2) ∈ TBL) ∧ (∀ q ∈ miS mi, ∃ tx : String, ∀ A ad s H, wd.2.2.2 A ad s H → vk_R (miO mi) q.1 tx (ad q.2) s) ∧
  (∀ q ∈ miF mi, ∃ (C : String) (T : u_T) (N : Nat), vwCl[q.2.1]? = some (C, T, N) ∧ q.2.2 < N ∧ (Cond.fieldLink (miO mi) q.1 (T q.2.2).1 (T q.2.2).2.1 (T q.2.2).2.2.1 ∈ TBL ∨ ∃ host : String, Cond.fieldLinkNest (miO mi) q.1 (T q.2.2).1 (T q.2.2).2.1 (T q.2.2).2.2.1 host ∈ NW)) ∧
  (∀ q ∈ miT mi, ∃ t ∈ wd.2.2.1, t.1 = q.2 ∧ Cond.fieldLink (miO mi) q.1 t.2.1 t.2.2.1 "[I" ∈ TBL) ∧ (∀ q ∈ miM mi, ∀ w ∈ mathWs (miO mi) q.1 q.2, w ∈ TBL)
/-- the answer's type and its code; a boolean's answer is 0 or 1 -/
def RetTy (ty : Option FieldType) (rt : Nat) : Prop := (ty = some .int ∧ rt = 0) ∨ (ty = some .boolean ∧ rt = 0) ∨ (ty = some .long ∧ rt = 1) ∨ (rt = 2 ∧ ∃ n, ty = some (.object n)) ∨ (ty = none ∧ rt = 3)
theorem g_method {wd : Wd} {y : MN} {ci : CI} {mi : MI} (hrx : RxOk wd.2.2.2) (hy : plainName y.1.cls = true) (e1 : miC mi = y.2.1) (e2 : miL mi = y.2.2.1) (e3 : miO mi = y.1.cls) (h1 : 1 ≤ y.2.2.2.2) (hsl : (ci.2.2.1.map (fun t => if t = 1 then 2 else 1)).sum ≤ y.2.2.1) (hret : RetTy y.2.2.2.1 ci.2.2.2.1) (hW : WordsOk wd mi) (hC : ∀ q ∈ miK mi, CallLk wd (miO mi) y.2.2.2.2 q)
    (hbool : y.2.2.2.1 = some .boolean → ∀ vs M r M', ci.2.2.2.2 vs M = some (r, M') → r = 0 ∨ r = 1)
    (body : ∀ X : Cx, GOk wd mi X → ∀ (vs : List Int) (M : Mem) (r : Int) (M' : Mem), vs.length = ci.2.2.1.length → ci.2.2.2.2 vs M = some (r, M') → RetOk wd mi X ci.2.2.2.1 (fun v M2 => v = r ∧ M2 = M') → GW wd (miL mi) X 0 (layA 0 ci.2.2.1 vs) [] M) : MetD wd y ci := by
  intro l G hinj vs M r M' hlen hden
  refine Met.ofW (cc := y.2.1) (maxL := y.2.2.1) (ret := y.2.2.2.1) hy rfl ?_
  intro p e s m args below meth c s₁ B hml hv
  obtain ⟨rfl, hP, hK, hRO⟩ := hv
  have hx := B.exec
  have hb := B.bytes
  have hr := B.returns
  have hts0 := atoms_spec (ws := Cond.code y.1 y.2.1 y.2.2.1 y.2.2.2.1 :: TBL) B.pre
  have hts : ∀ w ∈ TBL, w.before _ s = true := fun w hw => hts0 w (List.mem_cons_of_mem _ hw)
  have hown : s.vm.findClass y.1.cls = some m.cls := findClass_of_methodNamed B.named
  have hlocks := B.notSynchronized
  have hG : GOk wd mi (p, l, e, rmH y.2.2.2.2, s, m, (cvs G ci.2.2.1 vs).toArray, below, meth, c, MQ below (gQc wd G ci.2.2.2.1 r M M') (cvs G ci.2.2.1 vs).toArray s 0 0 (gA wd G), M, G) := by
    refine ⟨hx, by rw [hb, e1], by rw [hml, e2], by rw [e3]; exact hown, hts, hK, hinj, hRO, ⟨h1, by show 64 ≤ 64 * _; omega⟩, fun q hq => hts _ (hW.1 q hq), fun q hq => hts _ (hW.2.1 q hq), fun q hq => ?_, fun q hq => ?_, fun q hq => ?_, fun q hq w hw => hts _ (hW.2.2.2.2.2 q hq w hw), fun q hq => ?_⟩
    · obtain ⟨tx, h9⟩ := hW.2.2.1 q hq
      exact ⟨tx, h9 _ _ _ _ hRO.2.2⟩
    · obtain ⟨C, T, N, g1, g2, g3⟩ := hW.2.2.2.1 q hq
      refine ⟨C, T, N, g1, g2, ?_⟩
      rcases g3 with g3 | ⟨host, g3⟩
      · exact Or.inl (hts _ g3)
      · exact Or.inr ⟨host, va_Nw.use (nw_on _ g3) (hRO.1 _ g3)⟩
    · obtain ⟨t, g1, g2, g3⟩ := hW.2.2.2.2.1 q hq
      exact ⟨t, g1, g2, hts _ g3⟩
    · obtain ⟨y', g1, g2, g3, g4⟩ := hC q hq
      rcases g4 with ⟨g4, g5, g6⟩ | ⟨g4, g5, g6, tys, g7, g8⟩ | ⟨g4, g5, g6, g9, tys, g7, g8⟩
      · exact callOk_S rfl hx (by rw [hb, e1]) (by rw [hml, e2]) (by rw [e3]; exact hown) hts hK hinj hrx hRO g1 g4 g5 g3 g6 g2
      · exact callOk_V rfl hx (by rw [hb, e1]) (by rw [hml, e2]) (by rw [e3]; exact hown) hts hK hinj hrx hRO g1 g4 g7 g6 g5 g3 g8 g2
      · exact callOk_T rfl hx (by rw [hb, e1]) (by rw [hml, e2]) (by rw [e3]; exact hown) hts hK hinj hrx hRO g1 g4 g7 g6 g5 g9 g8 g2
  have hRt : RetOk wd mi (p, l, e, rmH y.2.2.2.2, s, m, (cvs G ci.2.2.1 vs).toArray, below, meth, c, MQ below (gQc wd G ci.2.2.2.1 r M M') (cvs G ci.2.2.1 vs).toArray s 0 0 (gA wd G), M, G) ci.2.2.2.1 (fun v M2 => v = r ∧ M2 = M') := by
    intro pc lv v M2 hdec hpost hm H locs ls hP2 hS hl
    obtain ⟨rfl, rfl⟩ := hpost
    have hb2 : c.code = miC mi := by rw [hb, e1]
    have hq : ∀ t : State, t.heap = H → gQc wd G ci.2.2.2.1 v M M2 (cvs G ci.2.2.1 vs).toArray s (.returned (rvO G ci.2.2.2.1 v)) t := fun t ht => ⟨rfl, by rw [ht]; exact hP2, hm, hS.F ht⟩
    rcases hret with ⟨g1, g2⟩ | ⟨g1, g2⟩ | ⟨g1, g2⟩ | ⟨g2, n, g1⟩ | ⟨g1, g2⟩
    · rw [g2] at hdec hq ⊢
      exact W.iret hx hb2 (by rw [hr, g1]) (fun t ht _ => hq t ht) hS.2.2 hdec
    · rw [g2] at hdec hq ⊢
      refine W.zret hx hb2 (by rw [hr, g1]) ?_ (fun t ht _ => hq t ht) hS.2.2 hdec
      rcases hbool g1 vs M v M2 hden with rfl | rfl <;> rfl
    · rw [g2] at hdec hq ⊢
      exact W.lret hx hb2 (by rw [hr, g1]) (fun t ht _ => hq t ht) hS.2.2 hdec
    · rw [g2] at hdec hq ⊢
      refine W.aret hx hb2 (by rw [hr, g1]) (Or.inl ⟨n, rfl⟩) ?_ (fun t ht _ => hq t ht) hS.2.2 hdec
      unfold cv
      by_cases h9 : v < 0
      · left; simp [h9]
      · right; exact ⟨gad G v.toNat, by simp [h9]⟩
    · rw [g2] at hdec hq ⊢
      exact W.vret hx hb2 (by rw [hr, g1]) (fun t ht _ => hq t ht) hS.2.2 hdec
  have hl := lv_entry (cvs G ci.2.2.1 vs) (n := y.2.2.1) (Nat.le_trans (sl_len G _ _) hsl)
  rw [layA_args, ← e2] at hl
  have k := body _ hG vs M r M' hlen hden hRt (fun _ _ => rfl) s.heap [] _ hP va_S.rf hl
  rw [lg_entry_eq, ← e2]
  exact k
