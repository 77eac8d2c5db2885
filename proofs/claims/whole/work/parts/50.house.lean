/-! PART 50: tools; the class's House, read. -/
theorem ite_bind {α β : Type} (c : Prop) [Decidable c] (a b : Option α) (f : α → Option β) : (if c then a else b).bind f = if c then a.bind f else b.bind f := by split <;> rfl
theorem mrg {α : Type} (c : Prop) [Decidable c] (x y : α) (M : Mem) : (if c then some (x, M) else some (y, M)) = some (if c then x else y, M) := by split <;> rfl
def hsL : List Nat := [15, 17, 19, 30, 32, 34, 36, 38, 40]
theorem hs_ob : ∀ h ∈ hsL, obR wC (h : Int) 2 = some (5, [((h + 1 : Nat) : Int), 0, 0, 0, 0]) := by decide +kernel
theorem hs_ar : ∀ h ∈ hsL, arR wC 0 ((h + 1 : Nat) : Int) = some 56 := by decide +kernel
theorem hs_ap : ∀ h ∈ hsL, arP wC 0 ((h + 1 : Nat) : Int) = some 56 := by decide +kernel
theorem hs_is : ∀ h ∈ hsL, isOb wC (h : Int) 2 = true := by decide +kernel
theorem fv20 (M : Mem) (rs : List Int) (i : Nat) : fv M rs 2 i 0 = rs.getD 0 (-1) := rfl
theorem fv21 (M : Mem) (rs : List Int) (i : Nat) : fv M rs 2 i 1 = M i 1 := rfl
theorem rc_get (vs : List Int) : recvOk wC ci_X2_get vs = isOb wC (vs.headD (-1)) 2 := rfl
theorem rc_has (vs : List Int) : recvOk wC ci_X2_has vs = isOb wC (vs.headD (-1)) 2 := rfl
theorem f_at (a i : Int) (n : Nat) (M : Mem) (ha : arR wC 0 a = some n) (hn : n < 2147483648) : ci_X10_at.2.2.2.2 [a, i] M = some (if 0 ≤ wr i ∧ wr i < n then M a.toNat (wr i).toNat else 0, M) := by
  rw [u_X10_at]
  simp only [fin, dSeq, dSet, dInc, dIf, dIfE, dRet, dReV, dInt, dLoc, dBin, dDiv, dUn, dFld, dAr, dLen, dCal, dCon, dBo, dCmp, dCm0, dCmpL, dNul, dAnd, dOr, dNot, dA0, dA1, dDo, dPutF, dUpdF, dPutA, dUpdA, Option.bind_some, opF, dvF, dvW, mtF, List.getD_cons_zero, List.getD_cons_succ, List.set_cons_zero, List.set_cons_succ, List.length_cons, List.length_nil, List.headD_cons, List.nil_append, List.cons_append, ha, cmpI, ite_bind, wr_0]
  sorry
theorem f_get {h : Nat} (hh : h ∈ hsL) (l w : Int) (M : Mem) (h1 : 0 ≤ l) (h2 : l < 8) (h3 : 0 ≤ w) (h4 : w < 7) : ci_X2_get.2.2.2.2 [h, l, w] M = some (M (h + 1) (l * 7 + w).toNat, M) := by
  rw [u_X2_get]
  simp only [fin, dSeq, dSet, dInc, dIf, dIfE, dRet, dReV, dInt, dLoc, dBin, dDiv, dUn, dFld, dAr, dLen, dCal, dCon, dBo, dCmp, dCm0, dCmpL, dNul, dAnd, dOr, dNot, dA0, dA1, dDo, dPutF, dUpdF, dPutA, dUpdA, Option.bind_some, opF, dvF, dvW, mtF, List.getD_cons_zero, List.getD_cons_succ, List.set_cons_zero, List.set_cons_succ, List.length_cons, List.length_nil, List.headD_cons, List.nil_append, List.cons_append, hs_ob h hh, hs_ar h hh, cmpI, ite_bind, wr_0, fv20]
  sorry
