/-! PART 95.o1: the class against the reference: the state that both hold. -/
abbrev LwL : Type := List (List (List Int × List Int))
/-- the state as the class holds it -/
def SvC (T : List Int) (n : Nat) (s : HS) (laws : LwL) (sec : List Sec) (grv : List Grv) (W : List Wy) (im : Img) (mr : Nat → Int) (bold hold : Int) (st : Nat → Int) (M : Mem) : Prop := TpC M T ∧ RowB M ∧ StaC M ∧ HouS M n s ∧ LawsC M laws ∧ SecC M sec ∧ GrvC M grv ∧ WayC M W ∧ (0 < n → HrC M (itr W 5)) ∧ ImgC M n im ∧ M 44 0 = 0 ∧ ((∀ k, k < 4 → M 14 k = mr k) ∧ M 15 3 = mr 1 ∧ M 15 4 = mr 3) ∧ M 0 15 = bold ∧ M 9 6 = hold ∧ ∀ k, k < 5 → M 51 k = st k
def LawsM (M : Mem) (laws : LwL) : Prop := M 0 13 = (laws.length : Int) ∧ ∀ w cl, laws[w]? = some cl → LawM M w cl
/-- the state as the reference holds it -/
def SvR (T : List Int) (n : Nat) (s : HS) (laws : LwL) (sec : List Sec) (grv : List Grv) (W : List Wy) (im : Img) (mr : Nat → Int) (bold hold : Int) (st : Nat → Int) (M : Mem) : Prop := TpM M T ∧ HouM M n s ∧ LawsM M laws ∧ SecM M sec ∧ GrvM M grv ∧ WayM M W ∧ ImgM M n im ∧ (∀ k, k < 4 → M 14 k = mr k) ∧ M 0 29 = bold ∧ M 0 28 = hold ∧ ∀ k, k < 5 → M 17 k = st k
/-- what holds of the state itself -/
def SvW (n : Nat) (mr : Nat → Int) (bold : Int) : Prop := (∀ k, k < 4 → 0 ≤ mr k ∧ mr k ≤ 99) ∧ (mr 1 ≤ 9 ∧ mr 3 ≤ 9) ∧ (0 < n → 1 ≤ mr 0) ∧ 0 ≤ bold ∧ bold ≤ 9
def Rel (Mc Mr : Mem) : Prop := ∃ T n s laws sec grv W im mr bold hold st, SvC T n s laws sec grv W im mr bold hold st Mc ∧ SvR T n s laws sec grv W im mr bold hold st Mr ∧ SvW n mr bold
/-- the same answer, and the same state behind it -/
def Ans (ci cj : CI) (vs : List Int) (Mc Mr : Mem) : Prop := ∃ r Mc' Mr', ci.2.2.2.2 vs Mc = some (r, Mc') ∧ cj.2.2.2.2 vs Mr = some (r, Mr') ∧ Rel Mc' Mr'
section
variable {T : List Int} {n : Nat} {s : HS} {laws : LwL} {sec : List Sec} {grv : List Grv} {W : List Wy} {im : Img} {mr : Nat → Int} {bold hold : Int} {st : Nat → Int} {M M' : Mem}
theorem HouS_fr {S : List Nat} (h : HouS M n s) (f : FrC S M M') (s1 : ¬ 15 ∈ S) (s2 : ¬ 16 ∈ S) (s3 : ¬ 22 ∈ S) (s4 : ¬ 25 ∈ S) (s5 : ¬ 26 ∈ S) (s6 : ¬ 27 ∈ S) : HouS M' n s := ⟨HouC_fr h.1 f s1 s2 s3 s4 s5 s6, by rw [hv_fr f s2]; exact h.2⟩
theorem TpC_fr {S : List Nat} (h : TpC M T) (f : FrC S M M') (s1 : ¬ 1 ∈ S) (s2 : ¬ 2 ∈ S) : TpC M' T := by
  unfold TpC at h ⊢
  rw [f.1 1 s1 (by decide), f.1 2 s2 (by decide)]
  exact h
/-- a question's rows for trying -/
theorem SvC_scr {S : List Nat} (h : SvC T n s laws sec grv W im mr bold hold st M) (f : FrC S M M') (hS : ∀ j, j ∈ S → j ∈ SCR) : SvC T n s laws sec grv W im mr bold hold st M' := by
  obtain ⟨h1, h2, h3, h4, h5, h6, h7, h8, h9, h10, h11, h12, h13, h14, h15⟩ := h
  have no : ∀ j, ¬ j ∈ SCR → ¬ j ∈ S := fun j hj hs => hj (hS j hs)
  have e15 := f.1 15 (no 15 (by decide)) (by decide)
  refine ⟨TpC_fr h1 f (no _ (by decide)) (no _ (by decide)), RowB_fr h2 f (no _ (by decide)) (no _ (by decide)) (no _ (by decide)) (no _ (by decide)), StaC_fr h3 f (fun j hj => ?_), HouS_fr h4 f (no _ (by decide)) (no _ (by decide)) (no _ (by decide)) (no _ (by decide)) (no _ (by decide)) (no _ (by decide)), LawsC_fr h5 f (no _ (by decide)) (no _ (by decide)), SecC_fr h6 f (no _ (by decide)) (no _ (by decide)) (no _ (by decide)), GrvC_fr h7 f (no _ (by decide)) (no _ (by decide)) (no _ (by decide)) (no _ (by decide)), WayC_fr h8 f (no _ (by decide)) (no _ (by decide)), fun z => HrC_fr (h9 z) f (no _ (by decide)), ImgC_fr h10 f (no _ (by decide)) (no _ (by decide)) (no _ (by decide)) (no _ (by decide)) (by rw [e15]) (by rw [e15]), by rw [f.1 44 (no _ (by decide)) (by decide)]; exact h11, ⟨fun k hk => by rw [f.1 14 (no _ (by decide)) (by decide)]; exact h12.1 k hk, by rw [e15]; exact h12.2.1, by rw [e15]; exact h12.2.2⟩, by rw [f.1 0 (no _ (by decide)) (by decide)]; exact h13, by rw [f.2 6 (by decide)]; exact h14, fun k hk => by rw [f.1 51 (no _ (by decide)) (by decide)]; exact h15 k hk⟩
  have := hS j hj
  simp only [SCR, List.mem_cons, List.not_mem_nil, or_false] at this
  omega
/-- an act: the house alone is another -/
theorem SvC_act {S : List Nat} {s' : HS} (h : SvC T n s laws sec grv W im mr bold hold st M) (f : FrC S M M') (hS : ∀ j, j ∈ S → j ∈ [12, 13, 15, 16, 22, 25, 26, 27]) (hh : HouS M' n s') (e3 : M' 15 3 = M 15 3) (e4 : M' 15 4 = M 15 4) : SvC T n s' laws sec grv W im mr bold hold st M' := by
  obtain ⟨h1, h2, h3, h4, h5, h6, h7, h8, h9, h10, h11, h12, h13, h14, h15⟩ := h
  have no : ∀ j, ¬ j ∈ [12, 13, 15, 16, 22, 25, 26, 27] → ¬ j ∈ S := fun j hj hs => hj (hS j hs)
  refine ⟨TpC_fr h1 f (no _ (by decide)) (no _ (by decide)), RowB_fr h2 f (no _ (by decide)) (no _ (by decide)) (no _ (by decide)) (no _ (by decide)), StaC_fr h3 f (fun j hj => ?_), hh, LawsC_fr h5 f (no _ (by decide)) (no _ (by decide)), SecC_fr h6 f (no _ (by decide)) (no _ (by decide)) (no _ (by decide)), GrvC_fr h7 f (no _ (by decide)) (no _ (by decide)) (no _ (by decide)) (no _ (by decide)), WayC_fr h8 f (no _ (by decide)) (no _ (by decide)), fun z => HrC_fr (h9 z) f (no _ (by decide)), ImgC_fr h10 f (no _ (by decide)) (no _ (by decide)) (no _ (by decide)) (no _ (by decide)) e3 e4, by rw [f.1 44 (no _ (by decide)) (by decide)]; exact h11, ⟨fun k hk => by rw [f.1 14 (no _ (by decide)) (by decide)]; exact h12.1 k hk, by rw [e3]; exact h12.2.1, by rw [e4]; exact h12.2.2⟩, by rw [f.1 0 (no _ (by decide)) (by decide)]; exact h13, by rw [f.2 6 (by decide)]; exact h14, fun k hk => by rw [f.1 51 (no _ (by decide)) (by decide)]; exact h15 k hk⟩
  have := hS j hj
  simp only [List.mem_cons, List.not_mem_nil, or_false] at this
  omega
def upS (st : Nat → Int) (w : Nat) : Nat → Int := fun k => if k = w then st w + 1 else st k
theorem SvC_rf {w : Nat} (h : SvC T n s laws sec grv W im mr bold hold st M) (hw : w < 5) : SvC T n s laws sec grv W im mr bold hold (upS st w) (rfM M w) := by
  obtain ⟨h1, h2, h3, h4, h5, h6, h7, h8, h9, h10, h11, h12, h13, h14, h15⟩ := h
  have f : FrC [51] M (rfM M w) := FrC_ms (by simp) (by decide)
  have e15 := f.1 15 (by decide) (by decide)
  refine ⟨TpC_fr h1 f (by decide) (by decide), RowB_fr h2 f (by decide) (by decide) (by decide) (by decide), StaC_fr h3 f (by simp), HouS_fr h4 f (by decide) (by decide) (by decide) (by decide) (by decide) (by decide), LawsC_fr h5 f (by decide) (by decide), SecC_fr h6 f (by decide) (by decide) (by decide), GrvC_fr h7 f (by decide) (by decide) (by decide) (by decide), WayC_fr h8 f (by decide) (by decide), fun z => HrC_fr (h9 z) f (by decide), ImgC_fr h10 f (by decide) (by decide) (by decide) (by decide) (by rw [e15]) (by rw [e15]), by rw [f.1 44 (by decide) (by decide)]; exact h11, ⟨fun k hk => by rw [f.1 14 (by decide) (by decide)]; exact h12.1 k hk, by rw [e15]; exact h12.2.1, by rw [e15]; exact h12.2.2⟩, by rw [f.1 0 (by decide) (by decide)]; exact h13, by rw [f.2 6 (by decide)]; exact h14, fun k hk => ?_⟩
  unfold rfM upS
  rw [ms_at, h15 w hw]
  by_cases e : k = w
  · rw [if_pos ⟨rfl, e⟩, if_pos e]
  · rw [if_neg (fun z => e z.2), if_neg e]
    exact h15 k hk
/-! the reference's -/
theorem HouM_eq (h : HouM M n s) (e1 : M' 0 24 = M 0 24) (e2 : M' 16 = M 16) (e3 : M' 0 31 = M 0 31) (e4 : M' 18 = M 18) : HouM M' n s := by
  unfold HouM ActM at h ⊢
  rw [e1, e2, e3, e4]
  exact h
theorem SecM_eq (h : SecM M sec) (e1 : M' 0 38 = M 0 38) (e2 : M' 20 = M 20) (e3 : M' 21 = M 21) : SecM M' sec := by
  unfold SecM at h ⊢
  rw [e1, e2, e3]
  exact h
theorem GrvM_eq (h : GrvM M grv) (e1 : M' 0 43 = M 0 43) (e2 : M' 23 = M 23) (e3 : M' 24 = M 24) (e4 : M' 25 = M 25) : GrvM M' grv := by
  unfold GrvM at h ⊢
  rw [e1, e2, e3, e4]
  exact h
theorem WayM_eq (h : WayM M W) (e1 : M' 0 25 = M 0 25) (e2 : M' 15 = M 15) : WayM M' W := by
  unfold WayM at h ⊢
  rw [e1, e2]
  exact h
theorem ImgM_eq (h : ImgM M n im) (e1 : M' 0 45 = M 0 45) (e2 : M' 26 = M 26) : ImgM M' n im := by
  unfold ImgM at h ⊢
  rw [e1, e2]
  exact h
theorem LawM_eq {w : Nat} {cl : List (List Int × List Int)} (h : LawM M w cl) (e : ∀ j, j ∈ [2, 3, 5, 6, 7, 8] → M' j = M j) : LawM M' w cl :=
  LawM_fr (S := (List.range 0)) (M := fun j => if j ∈ [2, 3, 5, 6, 7, 8] then M j else M' j) (by
    unfold LawM at h ⊢
    refine ⟨h.1, h.2.1, h.2.2.1, ?_⟩
    have key : ∀ (cl : List (List Int × List Int)) (j o : Nat), ClsM M w j o cl → ClsM (fun j => if j ∈ [2, 3, 5, 6, 7, 8] then M j else M' j) w j o cl := by
      intro cl
      induction cl with
      | nil => intro j o _; trivial
      | cons q cl ih => intro j o h; exact ⟨h.1, h.2.1, h.2.2.1, h.2.2.2.1, h.2.2.2.2.1, h.2.2.2.2.2.1, ih _ _ h.2.2.2.2.2.2⟩
    exact key cl 0 0 h.2.2.2) (fun j _ => by
    show M' j = if j ∈ [2, 3, 5, 6, 7, 8] then M j else M' j
    split
    · next z => exact e j z
    · rfl) (by simp)
theorem SvR_gen (h : SvR T n s laws sec grv W im mr bold hold st M) (hT : TpM M' T) (e0 : ∀ k, k ∈ [13, 24, 25, 28, 29, 31, 38, 43, 45] → M' 0 k = M 0 k) (ej : ∀ j, j ∈ [14, 15, 16, 17, 18, 20, 21, 23, 24, 25, 26] → M' j = M j) (hl : ∀ w cl, laws[w]? = some cl → LawM M' w cl) : SvR T n s laws sec grv W im mr bold hold st M' := by
  obtain ⟨h1, h2, h3, h4, h5, h6, h7, h8, h9, h10, h11⟩ := h
  exact ⟨hT, HouM_eq h2 (e0 24 (by decide)) (ej 16 (by decide)) (e0 31 (by decide)) (ej 18 (by decide)), ⟨by rw [e0 13 (by decide)]; exact h3.1, hl⟩, SecM_eq h4 (e0 38 (by decide)) (ej 20 (by decide)) (ej 21 (by decide)), GrvM_eq h5 (e0 43 (by decide)) (ej 23 (by decide)) (ej 24 (by decide)) (ej 25 (by decide)), WayM_eq h6 (e0 25 (by decide)) (ej 15 (by decide)), ImgM_eq h7 (e0 45 (by decide)) (ej 26 (by decide)), fun k hk => by rw [ej 14 (by decide)]; exact h8 k hk, by rw [e0 29 (by decide)]; exact h9, by rw [e0 28 (by decide)]; exact h10, fun k hk => by rw [ej 17 (by decide)]; exact h11 k hk⟩
/-- a question's rows for trying -/
theorem SvR_scr {S : List Nat} (h : SvR T n s laws sec grv W im mr bold hold st M) (f : FrM S M M') (hS : ∀ j, j ∈ S → j ∈ [9, 10, 19, 22]) : SvR T n s laws sec grv W im mr bold hold st M' := by
  have no : ∀ j, ¬ j ∈ [9, 10, 19, 22] → M' j = M j := fun j hj => f j (fun z => hj (hS j z))
  have e0 := no 0 (by decide)
  refine SvR_gen h ?_ (fun k _ => by rw [e0]) (fun j hj => no j (by simp only [List.mem_cons, List.not_mem_nil, or_false] at hj ⊢; omega)) (fun w cl hw => LawM_eq (h.2.2.1.2 w cl hw) (fun j hj => no j (by simp only [List.mem_cons, List.not_mem_nil, or_false] at hj ⊢; omega)))
  obtain ⟨t1, t2, t3⟩ := h.1
  exact ⟨by rw [e0]; exact t1, t2, fun i hi => by rw [no 1 (by decide)]; exact t3 i hi⟩
theorem SvR_0 (h : SvR T n s laws sec grv W im mr bold hold st M) (hM : M' 16 = M 16) (f : Fr0 M M') : SvR T n s laws sec grv W im mr bold hold st M' := by
  have no : ∀ j, ¬ j ∈ [0, 9, 10, 16, 19] → M' j = M j := fun j hj => f.2 j hj
  refine SvR_gen h ?_ (fun k hk => f.1 k (by simp only [List.mem_cons, List.not_mem_nil, or_false] at hk; omega) (by simp only [List.mem_cons, List.not_mem_nil, or_false] at hk; omega)) (fun j hj => ?_) (fun w cl hw => LawM_eq (h.2.2.1.2 w cl hw) (fun j hj => no j (by simp only [List.mem_cons, List.not_mem_nil, or_false] at hj ⊢; omega)))
  · obtain ⟨t1, t2, t3⟩ := h.1
    exact ⟨by rw [f.1 2 (by decide) (by decide)]; exact t1, t2, fun i hi => by rw [no 1 (by decide)]; exact t3 i hi⟩
  · by_cases e : j = 16
    · rw [e]; exact hM
    · exact no j (by simp only [List.mem_cons, List.not_mem_nil, or_false] at hj ⊢; omega)
/-- an act -/
theorem SvR_act {s' : HS} (h : SvR T n s laws sec grv W im mr bold hold st M) (hh : HouM M' n s') (e0 : ∀ k, ¬ k = 31 → ¬ k = 32 → M' 0 k = M 0 k) (f : FrM [0, 9, 10, 16, 18] M M') : SvR T n s' laws sec grv W im mr bold hold st M' := by
  obtain ⟨h1, h2, h3, h4, h5, h6, h7, h8, h9, h10, h11⟩ := h
  have ej := fun j (hj : ¬ j ∈ [0, 9, 10, 16, 18]) => f j hj
  have t1 := h1
  obtain ⟨a1, a2, a3⟩ := t1
  exact ⟨⟨by rw [e0 2 (by decide) (by decide)]; exact a1, a2, fun i hi => by rw [ej 1 (by decide)]; exact a3 i hi⟩, hh, ⟨by rw [e0 13 (by decide) (by decide)]; exact h3.1, fun w cl hw => LawM_eq (h3.2 w cl hw) (fun j hj => ej j (by simp only [List.mem_cons, List.not_mem_nil, or_false] at hj ⊢; omega))⟩, SecM_eq h4 (e0 38 (by decide) (by decide)) (ej 20 (by decide)) (ej 21 (by decide)), GrvM_eq h5 (e0 43 (by decide) (by decide)) (ej 23 (by decide)) (ej 24 (by decide)) (ej 25 (by decide)), WayM_eq h6 (e0 25 (by decide) (by decide)) (ej 15 (by decide)), ImgM_eq h7 (e0 45 (by decide) (by decide)) (ej 26 (by decide)), fun k hk => by rw [ej 14 (by decide)]; exact h8 k hk, by rw [e0 29 (by decide) (by decide)]; exact h9, by rw [e0 28 (by decide) (by decide)]; exact h10, fun k hk => by rw [ej 17 (by decide)]; exact h11 k hk⟩
theorem SvR_rf {w : Nat} (h : SvR T n s laws sec grv W im mr bold hold st M) (hw : w < 5) : SvR T n s laws sec grv W im mr bold hold (upS st w) (ms M 17 w (M 17 w + 1)) := by
  obtain ⟨h1, h2, h3, h4, h5, h6, h7, h8, h9, h10, h11⟩ := h
  have e : ∀ j, ¬ j = 17 → ms M 17 w (M 17 w + 1) j = M j := fun j hj => ms_ne hj
  have t1 := h1
  obtain ⟨a1, a2, a3⟩ := t1
  refine ⟨⟨by rw [e 0 (by decide)]; exact a1, a2, fun i hi => by rw [e 1 (by decide)]; exact a3 i hi⟩, HouM_eq h2 (by rw [e 0 (by decide)]) (e 16 (by decide)) (by rw [e 0 (by decide)]) (e 18 (by decide)), ⟨by rw [e 0 (by decide)]; exact h3.1, fun w cl hw => LawM_eq (h3.2 w cl hw) (fun j hj => e j (by simp only [List.mem_cons, List.not_mem_nil, or_false] at hj; omega))⟩, SecM_eq h4 (by rw [e 0 (by decide)]) (e 20 (by decide)) (e 21 (by decide)), GrvM_eq h5 (by rw [e 0 (by decide)]) (e 23 (by decide)) (e 24 (by decide)) (e 25 (by decide)), WayM_eq h6 (by rw [e 0 (by decide)]) (e 15 (by decide)), ImgM_eq h7 (by rw [e 0 (by decide)]) (e 26 (by decide)), fun k hk => by rw [e 14 (by decide)]; exact h8 k hk, by rw [e 0 (by decide)]; exact h9, by rw [e 0 (by decide)]; exact h10, fun k hk => ?_⟩
  unfold upS
  rw [ms_at, h11 w hw]
  by_cases z : k = w
  · rw [if_pos ⟨rfl, z⟩, if_pos z]
  · rw [if_neg (fun y => z y.2), if_neg z]
    exact h11 k hk
end
theorem Rel_rf {T : List Int} {n : Nat} {s : HS} {laws : LwL} {sec : List Sec} {grv : List Grv} {W : List Wy} {im : Img} {mr : Nat → Int} {bold hold : Int} {st : Nat → Int} {Mc Mr : Mem} {w : Nat} (h : SvC T n s laws sec grv W im mr bold hold st Mc) (g : SvR T n s laws sec grv W im mr bold hold st Mr) (e : SvW n mr bold) (hw : w < 5) : Rel (rfM Mc w) (ms Mr 17 w (Mr 17 w + 1)) := ⟨T, n, s, laws, sec, grv, W, im, mr, bold, hold, upS st w, SvC_rf h hw, SvR_rf g hw, e⟩
/-- the law that holds, on both sides -/
theorem hold_M {laws : LwL} {hold : Int} {M Mc : Mem} (h : LawsM M laws) (hc : LawsC Mc laws) (e : Mc 9 6 = hold) (e2 : M 0 28 = hold) : HoldM M (hoLaw laws hold) := by
  obtain ⟨c1, c2, c3, c4, c5⟩ := hc
  rw [e] at c4 c5
  unfold hoLaw
  by_cases k : hold = -1
  · rw [if_pos k]
    show M 0 28 = -1
    rw [e2, k]
  · rw [if_neg k]
    have e3 : laws[hold.toNat]? = some laws[hold.toNat] := List.getElem?_eq_getElem (by omega)
    rw [e3]
    exact ⟨hold.toNat, by omega, by omega, h.2 _ _ e3⟩
