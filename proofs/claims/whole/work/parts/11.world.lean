/-! PART 11: the worlds of the class and of the reference; words of the tables. -/
def skC : Sk := [(13, 17, [1, 3, 7, 9, 14, 15, 17, 19, 21, 23, 25, 28, 42, 45, 51, 0, 0]), (11, 4, [2, 0, 0, 0]), (0, 240, []), (9, 6, [4, 5, 6, 0, 0, 0]), (0, 4, []), (0, 40, []), (0, 27, []), (6, 2, [8, 0]), (0, 240, []), (7, 7, [10, 11, 12, 13, 0, 0, 0]), (0, 960, []), (0, 4, []), (0, 6, []), (0, 64, []), (0, 4, []), (5, 5, [16, 0, 0, 0, 0]), (0, 56, []), (5, 5, [18, 0, 0, 0, 0]), (0, 56, []), (5, 5, [20, 0, 0, 0, 0]), (0, 56, []), (8, 1, [22]), (0, 300, []), (8, 1, [24]), (0, 300, []), (3, 4, [26, 27, 0, 0]), (0, 2240, []), (0, 40, []), (12, 3, [29, 0, 0]), (2, 6, [30, 32, 34, 36, 38, 40]), (5, 5, [31, 0, 0, 0, 0]), (0, 56, []), (5, 5, [33, 0, 0, 0, 0]), (0, 56, []), (5, 5, [35, 0, 0, 0, 0]), (0, 56, []), (5, 5, [37, 0, 0, 0, 0]), (0, 56, []), (5, 5, [39, 0, 0, 0, 0]), (0, 56, []), (5, 5, [41, 0, 0, 0, 0]), (0, 56, []), (10, 3, [43, 44, 0]), (0, 27, []), (0, 6, []), (4, 7, [46, 47, 48, 49, 50, 0, 0]), (0, 10, []), (1, 10, []), (0, 10, []), (0, 10, []), (1, 10, []), (0, 5, []), (0, 4, []), (0, 4, []), (0, 4, []), (0, 5, []), (0, 5, []), (0, 5, []), (0, 3, []), (0, 3, []), (0, 3, []), (0, 5, [])]
def skM : Sk := [(14, 46, [0, 1, 0, 0, 0, 0, 2, 3, 4, 5, 6, 7, 8, 0, 0, 9, 10, 11, 12, 13, 0, 0, 14, 15, 0, 0, 16, 17, 0, 0, 18, 0, 0, 19, 0, 0, 20, 21, 0, 22, 23, 24, 25, 0, 26, 0]), (0, 240, []), (0, 2600, []), (0, 2600, []), (0, 5, []), (0, 5, []), (0, 700, []), (0, 700, []), (0, 700, []), (0, 6, []), (0, 80, []), (0, 4, []), (0, 40, []), (0, 27, []), (0, 4, []), (0, 27, []), (0, 231, []), (0, 5, []), (0, 9240, []), (0, 350, []), (0, 10, []), (1, 10, []), (0, 6, []), (0, 10, []), (0, 10, []), (1, 10, []), (0, 231, [])]
def stC : List (Nat × String × String × Nat) := [(52, "BlackMill$MillText", "MASTER_LEAST", 4), (53, "BlackMill$MillText", "MASTER_MOST", 4), (54, "BlackMill$MillText", "MASTER_USUAL", 4), (55, "BlackMill$MillText", "LAD_LEAST", 5), (56, "BlackMill$MillText", "LAD_MOST", 5), (57, "BlackMill$MillText", "LAD_USUAL", 5), (58, "BlackMill$MillText", "WAY_LEAST", 3), (59, "BlackMill$MillText", "WAY_MOST", 3), (60, "BlackMill$MillText", "WAY_USUAL", 3), (61, "BlackMill$House", "FACTORIALS", 5)]
/-- what the constant rows hold -/
def staV : List (Nat × List Int) := [(52, [1, 1, 1, 1]), (53, [99, 9, 20, 9]), (54, [40, 2, 6, 3]), (55, [0, 0, 0, 0, 10]), (56, [60, 60, 3, 8, 60]), (57, [10, 5, 0, 8, 14]), (58, [0, 0, 1]), (59, [5, 5, 9]), (60, [0, 1, 2]), (61, [1, 1, 2, 6, 24])]
def lenS : List Nat := [4, 5, 3, 6]
def bytS : List (List Int32) := [[112, 108, 104, 121], [97, 115, 107, 102, 111], [97, 98, 104], [97, 115, 107, 111, 121, 110]]
def rxC : (Nat → Prop) → (Nat → Nat) → State → Heap → Prop := fun A ad U H => vk_S 4 lenS bytS (fun i => ad (62 + i)) (fun i => ad (66 + i)) A U H ∧ vk_R "BlackMill$MillText" 72 "plhy" (ad 62) U ∧ vk_R "BlackMill$MillText" 87 "askfo" (ad 63) U ∧ vk_R "BlackMill$MillText" 98 "abh" (ad 64) U ∧ vk_R "BlackMill$LawText" 89 "askoyn" (ad 65) U ∧ va_Z "java/lang/String" "COMPACT_STRINGS" "Z" (.int 1) A U H ∧ va_Zq "jdk/internal/util/Preconditions" "SIOOBE_FORMATTER" "Ljava/util/function/BiFunction;" A U H
theorem rxC_ok : RxOk rxC := by
  refine ⟨fun A ad s U H hW h => ?_, fun A ad s U H hv h => ?_, fun A ad s H H1 hq h => ?_⟩
  · obtain ⟨h1, h2, h3, h4, h5, h6, h7⟩ := h
    exact ⟨vk_S.moved hW.alike h1, vk_R.warm hW h2, vk_R.warm hW h3, vk_R.warm hW h4, vk_R.warm hW h5, va_Z.moved hW.alike h6, va_Zq.moved hW.alike h7⟩
  · obtain ⟨h1, h2, h3, h4, h5, h6, h7⟩ := h
    have hal : s.vm.Alike U.vm := by rw [hv]; exact Vm.Alike.refl _
    exact ⟨vk_S.moved hal h1, vk_R.same hv.symm h2, vk_R.same hv.symm h3, vk_R.same hv.symm h4, vk_R.same hv.symm h5, va_Z.moved hal h6, va_Zq.moved hal h7⟩
  · obtain ⟨h1, h2, h3, h4, h5, h6, h7⟩ := h
    exact ⟨vk_S.kept h1 hq, h2, h3, h4, h5, va_Z.kept h6 hq, va_Zq.kept h7 hq⟩
def rxM : (Nat → Prop) → (Nat → Nat) → State → Heap → Prop := fun _ _ _ _ => True
theorem rxM_ok : RxOk rxM := ⟨fun _ _ _ _ _ _ _ => trivial, fun _ _ _ _ _ _ _ => trivial, fun _ _ _ _ _ _ _ => trivial⟩
def wC : Wd := (skC, 52, stC, rxC)
def wM : Wd := (skM, 27, [], rxM)
theorem met_none {wd : Wd} {y : MN} {ci : CI} (h : ∀ vs M, ci.2.2.2.2 vs M = none) : MetD wd y ci := by
  intro l G _ vs M r M' _ h2
  rw [h] at h2
  cases h2
theorem clS {wd : Wd} {own : String} {hh idx : Nat} {y : MN} {ci : CI} (hM : MetD wd y ci) (h0 : ci.1 = 0) (hr : y.2.2.2.2 + 1 ≤ hh) (hl : LinkS own idx y ∨ LinkN own idx y) (hk : KnownS y) (hp : (parseMethodDescriptor y.1.desc).map (fun d => d.parameters.length) = some ci.2.2.1.length) : CallLk wd own hh (idx, ci) := ⟨y, hM, hr, hl, Or.inl ⟨h0, hk, hp⟩⟩
theorem clV {wd : Wd} {own : String} {hh idx : Nat} {y : MN} {ci : CI} {tys : List Nat} (hM : MetD wd y ci) (h0 : ci.1 = 1) (hc : (vwCl[ci.2.1]?).map (fun q => q.1) = some y.1.cls) (ht : ci.2.2.1 = 2 :: tys) (hr : y.2.2.2.2 + 1 ≤ hh) (hl : LinkS own idx y ∨ LinkN own idx y) (hk : KnownV y) (hp : (parseMethodDescriptor y.1.desc).map (fun d => d.parameters.length) = some tys.length) : CallLk wd own hh (idx, ci) := ⟨y, hM, hr, hl, Or.inr (Or.inl ⟨h0, hk, hc, tys, ht, hp⟩)⟩
theorem clT {wd : Wd} {own : String} {hh idx : Nat} {y : MN} {ci : CI} {tys : List Nat} (hM : MetD wd y ci) (h0 : ci.1 = 2) (ht : ci.2.2.1 = 2 :: tys) (hr : y.2.2.2.2 + 1 ≤ hh) (hl : LinkS own idx y) (hk : KnownV y) (hrec : RecS wd y.1.cls) (hp : (parseMethodDescriptor y.1.desc).map (fun d => d.parameters.length) = some tys.length) : CallLk wd own hh (idx, ci) := ⟨y, hM, hr, Or.inl hl, Or.inr (Or.inr ⟨h0, hk, hrec, hl, tys, ht, hp⟩)⟩
theorem recS : RecS wC RJ0 := by
  intro A ad s H o ho h
  have ho := of_decide_eq_true ho
  obtain ⟨h1, -⟩ := h
  obtain ⟨cell, g1, g2, g3, -⟩ := (h1.1 (o.toNat - 62) (by omega)).1
  have e : 62 + (o.toNat - 62) = o.toNat := by omega
  have g1 : H[ad (62 + (o.toNat - 62))]? = some cell := g1
  rw [e] at g1
  exact ⟨cell, g1, g2, g3⟩
/-- the texts' methods: contracts of the JDK's own -/
def n_Slen : MN := (yJ0_length_8abf5, cJ0_length_8abf5, 1, (some .int), 6)
def ci_Slen : CI := (2, 0, [2], 0, fun vs M => if isTx (vs.headD (-1)) = true then some (((lenS.getD ((vs.headD (-1)).toNat - 62) 0 : Nat) : Int), M) else none)
def n_Schr : MN := (yJ0_charAt_5068e, cJ0_charAt_5068e, 2, (some .char), 6)
def chS (i k : Nat) : Int := ((bytS.getD i []).getD k 0).toInt
def ci_Schr : CI := (2, 0, [2, 0], 0, fun vs M => if isTx (vs.headD (-1)) = true ∧ 0 ≤ wr (vs.getD 1 0) ∧ wr (vs.getD 1 0) < (lenS.getD ((vs.headD (-1)).toNat - 62) 0 : Nat) then some (chS ((vs.headD (-1)).toNat - 62) (wr (vs.getD 1 0)).toNat, M) else none)
theorem mkWords {wd : Wd} {mi : MI} (h1 : ∀ q ∈ miI mi, Cond.constant (miO mi) q.1 (Int32.ofInt q.2) ∈ TBL) (h2 : ∀ q ∈ miJ mi, Cond.constantLong (miO mi) q.1 (Int64.ofInt q.2) ∈ TBL) (h3 : ∀ q ∈ miS mi, ∃ tx : String, ∀ A ad s H, wd.2.2.2 A ad s H → vk_R (miO mi) q.1 tx (ad q.2) s)
  (h4 : ∀ q ∈ miF mi, ∃ (C : String) (T : u_T) (N : Nat), vwCl[q.2.1]? = some (C, T, N) ∧ q.2.2 < N ∧ (Cond.fieldLink (miO mi) q.1 (T q.2.2).1 (T q.2.2).2.1 (T q.2.2).2.2.1 ∈ TBL ∨ ∃ host : String, Cond.fieldLinkNest (miO mi) q.1 (T q.2.2).1 (T q.2.2).2.1 (T q.2.2).2.2.1 host ∈ NW))
  (h5 : ∀ q ∈ miT mi, ∃ t ∈ wd.2.2.1, t.1 = q.2 ∧ Cond.fieldLink (miO mi) q.1 t.2.1 t.2.2.1 "[I" ∈ TBL) (h6 : ∀ q ∈ miM mi, ∀ w ∈ mathWs (miO mi) q.1 q.2, w ∈ TBL) : WordsOk wd mi := ⟨h1, h2, h3, h4, h5, h6⟩
