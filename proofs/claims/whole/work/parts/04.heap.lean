/-! PART 04: cells, calls, ends. -/
section GWH
variable {wd : Wd} {mi : MI} {X : Cx} {pc : Nat} {lv : LVs} {st : STs} {M : Mem}
theorem isOb_get {o : Int} {c : Nat} (h : isOb wd o c = true) : 0 ≤ o ∧ o.toNat < wd.2.1 ∧ ∃ n rs, wd.1[o.toNat]? = some (c + 3, n, rs) := by
  unfold isOb at h
  simp only [Bool.and_eq_true, decide_eq_true_eq] at h
  obtain ⟨⟨h1, h2⟩, h3⟩ := h
  refine ⟨h1, h2, ?_⟩
  split at h3
  · next t n rs e =>
    have := of_decide_eq_true h3
    subst this
    exact ⟨n, rs, e⟩
  · cases h3
theorem cv_ref {ad : Nat → Nat} {a : Int} (h : 0 ≤ a) : cv ad 2 a = .ref (ad a.toNat) := by
  have : ¬ a < 0 := by omega
  simp [cv, this]
/-- the type code of a field's value on the stack -/
def tc (t : Nat) : Nat := if t = 3 then 0 else t
theorem cv_tc {ad : Nat → Nat} {t : Nat} {z : Int} : cv ad (tc t) z = cv ad t z := by
  unfold tc
  by_cases h : t = 3
  · subst h; rfl
  · rw [if_neg h]
theorem gw_getf (h : GOk wd mi X) {i c k n : Nat} {o : Int} {rs : List Int} (hq : lk i (miF mi) = some (c, k)) (ho : 0 ≤ o) (hl2 : o.toNat < wd.2.1) (hsk : wd.1[o.toNat]? = some (c + 3, n, rs)) (hk : k < n) (hd : decode (miC mi) pc = .ok (.getfield i, 3)) (kk : GW wd (miL mi) X (pc + 3) lv ((tc (codeOf (tyC c k)), fv M rs c o.toNat k) :: st) M) : GW wd (miL mi) X pc lv ((2, o) :: st) M := by
  obtain ⟨p, l, e, R, s, m, args, below, meth, cc0, Q, M0, G⟩ := X
  intro hm H locs ls hP hS hl
  obtain ⟨C, T, N, h1, h2, h3⟩ := h.2.2.2.2.2.2.2.2.2.2.2.2.1 _ (lk_mem hq)
  have k1 := kk hm H locs ls hP hS hl
  have hg := render_get (wd := wd) (G := G) (M := M) hl2
  rw [cell_3 hsk] at hg
  have hv : ((List.range n).map (fun k => cv (gad G) (codeOf (tyC c k)) (fv M rs c o.toNat k)))[k]? = some (cv (gad G) (codeOf (tyC c k)) (fv M rs c o.toNat k)) := by simp [hk]
  show W p l e R s m args below meth cc0 H locs 0 0 Q (F0 m pc ls (cv (gad G) 2 o :: cS G st))
  rw [cv_ref ho]
  simp only [cS, List.map_cons, cv_tc] at k1
  rcases h3 with h3 | ⟨host, h3⟩
  · exact va_get (T := T) h.1 h.2.1 h.2.2.2.2.1 (lays_in c C T N h1) h.2.2.2.1 h.2.2.2.2.2.1 hP o.toNat hg h1 k h2 h3 (fun _ h9 => h9) hv hd k1
  · exact va_getN (T := T) h.1 h.2.1 h.2.2.2.2.1 (lays_in c C T N h1) h.2.2.2.1 h.2.2.2.2.2.1 hP o.toNat hg h1 k h2 h3 (fun _ h9 => h9) hv hd k1
def finC (c k : Nat) : Bool := match vwCl[c]? with
  | some (_, T, _) => (T k).2.2.2
  | none => true
/-- a number that a cell of this type can hold as it is -/
def fitC (t : Nat) (v : Int) : Bool := if t = 3 then decide (v = 0 ∨ v = 1) else decide (t < 2)
theorem fit_ok {ad : Nat → Nat} {ty : FieldType} {v : Int} (h : fitC (codeOf ty) v = true) : narrow ty (cv ad (codeOf ty) v) = cv ad (codeOf ty) v ∧ fits ty (cv ad (codeOf ty) v) = true := by
  cases ty with
  | int => exact ⟨rfl, rfl⟩
  | long => exact ⟨rfl, rfl⟩
  | boolean =>
    have h1 : v = 0 ∨ v = 1 := by simpa [fitC, codeOf] using h
    rcases h1 with rfl | rfl
    · exact ⟨rfl, rfl⟩
    · exact ⟨rfl, rfl⟩
  | object _ => simp [fitC, codeOf] at h
  | array _ => simp [fitC, codeOf] at h
  | _ => simp [fitC, codeOf] at h
theorem fv_ms {rs : List Int} {c o k j : Nat} {v : Int} (hc : fitC (codeOf (tyC c k)) v = true) : fv (ms M o k v) rs c o j = if j = k then v else fv M rs c o j := by
  unfold fv
  by_cases hj : j = k
  · subst hj
    rw [if_pos rfl, if_neg (by intro z; rw [z] at hc; simp [fitC] at hc)]
    simp [ms]
  · rw [if_neg hj]
    split
    · rfl
    · simp [ms, hj]
theorem gw_putf (h : GOk wd mi X) {i c k n : Nat} {o v : Int} {rs : List Int} (hq : lk i (miF mi) = some (c, k)) (ho : 0 ≤ o) (hl2 : o.toNat < wd.2.1) (hsk : wd.1[o.toNat]? = some (c + 3, n, rs)) (hk : k < n) (hfin : finC c k = false) (hfit : fitC (codeOf (tyC c k)) v = true) (hd : decode (miC mi) pc = .ok (.putfield i, 3)) (kk : GW wd (miL mi) X (pc + 3) lv st (ms M o.toNat k v)) : GW wd (miL mi) X pc lv ((tc (codeOf (tyC c k)), v) :: (2, o) :: st) M := by
  obtain ⟨p, l, e, R, s, m, args, below, meth, cc0, Q, M0, G⟩ := X
  intro hm H locs ls hP hS hl
  obtain ⟨C, T, N, h1, h2, h3⟩ := h.2.2.2.2.2.2.2.2.2.2.2.2.1 _ (lk_mem hq)
  have hg := render_get (wd := wd) (G := G) (M := M) hl2
  rw [cell_3 hsk] at hg
  have hD := render_D (M := M) h.2.2.2.2.2.2.1
  have hf2 : (T k).2.2.2 = false := by simpa [finC, h1] using hfin
  have hty := tyC_ok c C T N h1
  obtain ⟨f1, f2⟩ := fit_ok (ad := gad G) hfit
  have hlen : k < ((List.range n).map (fun k => cv (gad G) (codeOf (tyC c k)) (fv M rs c o.toNat k))).length := by simpa using hk
  have hset : (render wd G M).set o.toNat (gad G o.toNat, .inr (c, ((List.range n).map (fun k => cv (gad G) (codeOf (tyC c k)) (fv M rs c o.toNat k))).set k (cv (gad G) (codeOf (tyC c k)) v))) = render wd G (ms M o.toNat k v) := by
    refine render_set ?_ (fun j hj => ms_ne hj)
    rw [cell_3 hsk]
    congr 2
    apply List.ext_getElem?
    intro j
    by_cases hj : j = k
    · subst hj
      rw [List.getElem?_set_self hlen]
      simp [hk, fv_ms hfit]
    · rw [List.getElem?_set_ne (Ne.symm hj)]
      simp only [List.getElem?_map]
      by_cases hjn : j < n
      · simp [hjn, fv_ms hfit, hj]
      · simp [hjn]
  show W p l e R s m args below meth cc0 H locs 0 0 Q (F0 m pc ls (cv (gad G) (tc (codeOf (tyC c k))) v :: cv (gad G) 2 o :: cS G st))
  rw [cv_ref ho, cv_tc]
  have kk1 : ∀ (H1 : Heap) (locs1 : List Loc), va_P (gD G) vwCl ((render wd G M).set o.toNat (gad G o.toNat, .inr (c, ((List.range n).map (fun k => cv (gad G) (codeOf (tyC c k)) (fv M rs c o.toNat k))).set k (cv (gad G) (codeOf (tyC c k)) v)))) H1 → va_D (gA wd G) ((render wd G M).set o.toNat (gad G o.toNat, .inr (c, ((List.range n).map (fun k => cv (gad G) (codeOf (tyC c k)) (fv M rs c o.toNat k))).set k (cv (gad G) (codeOf (tyC c k)) v)))) → va_S (gA wd G) s.heap H1 locs1 → W p l e R s m args below meth cc0 H1 locs1 0 0 Q (F0 m (pc + 3) ls (cS G st)) := by
    intro H1 locs1 hP1 _ hS1
    rw [hset] at hP1
    exact kk (fun i hi => by rw [ms_ne (by omega)]; exact hm i hi) H1 locs1 ls hP1 hS1 hl
  rcases h3 with h3 | ⟨host, h3⟩
  · exact va_put (T := T) h.1 h.2.1 h.2.2.2.2.1 (lays_in c C T N h1) (tyC c) hty (nmC_ok c C T N h1) h.2.2.2.1 h.2.2.2.2.2.1 hP hD hS o.toNat hg h1 k h2 h3 (fun _ h9 => h9) hf2 (hty k h2) f1 f2 hlen hd kk1
  · exact va_putN (T := T) h.1 h.2.1 h.2.2.2.2.1 (lays_in c C T N h1) (tyC c) hty (nmC_ok c C T N h1) h.2.2.2.1 h.2.2.2.2.2.1 hP hD hS o.toNat hg h1 k h2 h3 (fun _ h9 => h9) hf2 (hty k h2) f1 f2 hlen hd kk1
/-- a row of ints that can be read: of the world, or constant -/
def arN (wd : Wd) (t : Nat) (a : Int) (n : Nat) : Bool := decide (0 ≤ a) && (match wd.1[a.toNat]? with | some (u, k, _) => decide (u = t ∧ k = n) | none => false)
def arW (wd : Wd) (a : Int) : Bool := decide (a.toNat < wd.2.1)
def arC (wd : Wd) (a : Int) (n : Nat) : Bool := wd.2.2.1.any (fun q => decide (q.1 = a.toNat ∧ q.2.2.2 = n))
theorem arN_get {t n : Nat} {a : Int} (h : arN wd t a n = true) : 0 ≤ a ∧ ∃ rs, wd.1[a.toNat]? = some (t, n, rs) := by
  unfold arN at h
  simp only [Bool.and_eq_true, decide_eq_true_eq] at h
  obtain ⟨h1, h3⟩ := h
  refine ⟨h1, ?_⟩
  split at h3
  · next u k rs e =>
    obtain ⟨rfl, rfl⟩ := of_decide_eq_true h3
    exact ⟨rs, e⟩
  · cases h3
theorem arC_get {n : Nat} {a : Int} (h : arC wd a n = true) : ∃ q ∈ wd.2.2.1, q.1 = a.toNat ∧ q.2.2.2 = n := by
  unfold arC at h
  obtain ⟨q, h1, h2⟩ := List.any_eq_true.mp h
  exact ⟨q, h1, of_decide_eq_true h2⟩
theorem in_vp {i : Int} {n : Nat} (h1 : 0 ≤ wr i) (h2 : wr i < n) : vp_in (Int32.ofInt i) n := vp_in_iff.mpr ⟨h1, h2⟩
theorem gw_iald (h : GOk wd mi X) {n : Nat} {a i : Int} (ha : arN wd 0 a n = true) (hw : (arW wd a || arC wd a n) = true) (h1 : 0 ≤ wr i) (h2 : wr i < n) (hd : decode (miC mi) pc = .ok (.iaload, 1)) (kk : GW wd (miL mi) X (pc + 1) lv ((0, M a.toNat (wr i).toNat) :: st) M) : GW wd (miL mi) X pc lv ((0, i) :: (2, a) :: st) M := by
  obtain ⟨p, l, e, R, s, m, args, below, meth, cc0, Q, M0, G⟩ := X
  intro hm H locs ls hP hS hl
  obtain ⟨a0, rs, hsk⟩ := arN_get ha
  have k1 := kk hm H locs ls hP hS hl
  simp only [cS, List.map_cons, cv_0] at k1
  show W p l e R s m args below meth cc0 H locs 0 0 Q (F0 m pc ls (.int (Int32.ofInt i) :: cv (gad G) 2 a :: cS G st))
  rw [cv_ref a0]
  by_cases hl2 : a.toNat < wd.2.1
  · have hg := render_get (wd := wd) (G := G) (M := M) hl2
    rw [cell_0 hsk] at hg
    exact va_iald h.1 h.2.1 h.2.2.2.2.2.1 hP a.toNat 0 hg rfl (in_vp h1 h2) hd k1
  · have hc : arC wd a n = true := by simpa [arW, hl2] using hw
    obtain ⟨q, g1, g2, g3⟩ := arC_get hc
    have hT := (h.2.2.2.2.2.2.2.1.2.1 q g1).2.2
    have hge := (h.2.2.2.2.2.2.2.1.2.1 q g1).1
    rw [g2, g3] at hT
    rw [hm a.toNat (by omega)] at k1
    exact va_ti h.1 h.2.1 hT hS (in_vp h1 h2) rfl hd k1
theorem gw_alen (h : GOk wd mi X) {n t : Nat} {a : Int} (ht : t < 3) (ha : arN wd t a n = true) (hw : (arW wd a || decide (t = 0) && arC wd a n) = true) (hd : decode (miC mi) pc = .ok (.arraylength, 1)) (kk : GW wd (miL mi) X (pc + 1) lv ((0, (n : Int)) :: st) M) : GW wd (miL mi) X pc lv ((2, a) :: st) M := by
  obtain ⟨p, l, e, R, s, m, args, below, meth, cc0, Q, M0, G⟩ := X
  intro hm H locs ls hP hS hl
  obtain ⟨a0, rs, hsk⟩ := arN_get ha
  have k1 := kk hm H locs ls hP hS hl
  simp only [cS, List.map_cons, cv_0] at k1
  show W p l e R s m args below meth cc0 H locs 0 0 Q (F0 m pc ls (cv (gad G) 2 a :: cS G st))
  rw [cv_ref a0]
  by_cases hl2 : a.toNat < wd.2.1
  · have hg := render_get (wd := wd) (G := G) (M := M) hl2
    rcases (show t = 0 ∨ t = 1 ∨ t = 2 by omega) with rfl | rfl | rfl
    · rw [cell_0 hsk] at hg
      exact va_alen h.1 h.2.1 h.2.2.2.2.2.1 hP a.toNat 0 hg rfl rfl hd k1
    · rw [cell_1 hsk] at hg
      exact va_alen h.1 h.2.1 h.2.2.2.2.2.1 hP a.toNat 1 hg rfl rfl hd k1
    · rw [cell_2 hsk] at hg
      exact va_alen h.1 h.2.1 h.2.2.2.2.2.1 hP a.toNat 2 hg rfl rfl hd k1
  · have hc : arC wd a n = true := by
      simp only [arW, hl2, decide_false, Bool.false_or, Bool.and_eq_true] at hw
      exact hw.2
    obtain ⟨q, g1, g2, g3⟩ := arC_get hc
    have hT := (h.2.2.2.2.2.2.2.1.2.1 q g1).2.2
    rw [g2, g3] at hT
    exact va_tlen h.1 h.2.1 hT hS rfl hd k1
theorem gw_iast (h : GOk wd mi X) {n : Nat} {a i v : Int} (ha : arN wd 0 a n = true) (hw : arW wd a = true) (h1 : 0 ≤ wr i) (h2 : wr i < n) (hd : decode (miC mi) pc = .ok (.iastore, 1)) (kk : GW wd (miL mi) X (pc + 1) lv st (ms M a.toNat (wr i).toNat v)) : GW wd (miL mi) X pc lv ((0, v) :: (0, i) :: (2, a) :: st) M := by
  obtain ⟨p, l, e, R, s, m, args, below, meth, cc0, Q, M0, G⟩ := X
  intro hm H locs ls hP hS hl
  obtain ⟨a0, rs, hsk⟩ := arN_get ha
  have hl2 : a.toNat < wd.2.1 := of_decide_eq_true hw
  show W p l e R s m args below meth cc0 H locs 0 0 Q (F0 m pc ls (.int (Int32.ofInt v) :: .int (Int32.ofInt i) :: cv (gad G) 2 a :: cS G st))
  rw [cv_ref a0]
  have hg := render_get (wd := wd) (G := G) (M := M) hl2
  rw [cell_0 hsk] at hg
  have hD := render_D (M := M) h.2.2.2.2.2.2.1
  refine va_iast h.1 h.2.1 h.2.2.2.2.2.1 hP hD hS a.toNat 0 hg rfl (in_vp h1 h2) hd (fun H1 locs1 hP1 _ hS1 => ?_)
  have e := render_set (wd := wd) (G := G) (M := M) (M' := ms M a.toNat (wr i).toNat v) (i := a.toNat) (e := .inl (G.2.2.1, n, .inl (upd (fun j => Int32.ofInt (M a.toNat j)) (Int32.ofInt i).toNatClampNeg (Int32.ofInt v)))) (by
    rw [cell_0 hsk]
    congr 4
    funext j
    show upd _ (wr i).toNat _ j = _
    unfold upd ms
    by_cases hj : j = (wr i).toNat <;> simp [hj]) (fun j hj => ms_ne hj)
  rw [e] at hP1
  exact kk (fun i hi => by rw [ms_ne (by omega)]; exact hm i hi) H1 locs1 ls hP1 hS1 hl
theorem gw_zald (h : GOk wd mi X) {n : Nat} {a i : Int} (ha : arN wd 1 a n = true) (hw : arW wd a = true) (h1 : 0 ≤ wr i) (h2 : wr i < n) (hd : decode (miC mi) pc = .ok (.baload, 1)) (kk : GW wd (miL mi) X (pc + 1) lv ((0, M a.toNat (wr i).toNat) :: st) M) : GW wd (miL mi) X pc lv ((0, i) :: (2, a) :: st) M := by
  obtain ⟨p, l, e, R, s, m, args, below, meth, cc0, Q, M0, G⟩ := X
  intro hm H locs ls hP hS hl
  obtain ⟨a0, rs, hsk⟩ := arN_get ha
  have k1 := kk hm H locs ls hP hS hl
  simp only [cS, List.map_cons, cv_0] at k1
  show W p l e R s m args below meth cc0 H locs 0 0 Q (F0 m pc ls (.int (Int32.ofInt i) :: cv (gad G) 2 a :: cS G st))
  rw [cv_ref a0]
  have hl2 : a.toNat < wd.2.1 := of_decide_eq_true hw
  have hg := render_get (wd := wd) (G := G) (M := M) hl2
  rw [cell_1 hsk] at hg
  exact va_zald h.1 h.2.1 h.2.2.2.2.2.1 hP a.toNat 1 hg rfl (in_vp h1 h2) hd k1
theorem nar_b {v : Int} (h : v = 0 ∨ v = 1) : vp_nar .boolean (Int32.ofInt v) = Int32.ofInt v := by
  rcases h with rfl | rfl <;> rfl
theorem gw_zast (h : GOk wd mi X) {n : Nat} {a i v : Int} (ha : arN wd 1 a n = true) (hw : arW wd a = true) (h1 : 0 ≤ wr i) (h2 : wr i < n) (hv : v = 0 ∨ v = 1) (hd : decode (miC mi) pc = .ok (.bastore, 1)) (kk : GW wd (miL mi) X (pc + 1) lv st (ms M a.toNat (wr i).toNat v)) : GW wd (miL mi) X pc lv ((0, v) :: (0, i) :: (2, a) :: st) M := by
  obtain ⟨p, l, e, R, s, m, args, below, meth, cc0, Q, M0, G⟩ := X
  intro hm H locs ls hP hS hl
  obtain ⟨a0, rs, hsk⟩ := arN_get ha
  have hl2 : a.toNat < wd.2.1 := of_decide_eq_true hw
  show W p l e R s m args below meth cc0 H locs 0 0 Q (F0 m pc ls (.int (Int32.ofInt v) :: .int (Int32.ofInt i) :: cv (gad G) 2 a :: cS G st))
  rw [cv_ref a0]
  have hg := render_get (wd := wd) (G := G) (M := M) hl2
  rw [cell_1 hsk] at hg
  have hD := render_D (M := M) h.2.2.2.2.2.2.1
  refine va_zast h.1 h.2.1 h.2.2.2.2.2.1 hP hD hS a.toNat 1 hg rfl (in_vp h1 h2) hd (fun H1 locs1 hP1 _ hS1 => ?_)
  rw [nar_b hv] at hP1
  have e := render_set (wd := wd) (G := G) (M := M) (M' := ms M a.toNat (wr i).toNat v) (i := a.toNat) (e := .inl (G.2.2.2.1, n, .inl (upd (fun j => Int32.ofInt (M a.toNat j)) (Int32.ofInt i).toNatClampNeg (Int32.ofInt v)))) (by
    rw [cell_1 hsk]
    congr 4
    funext j
    show upd _ (wr i).toNat _ j = _
    unfold upd ms
    by_cases hj : j = (wr i).toNat <;> simp [hj]) (fun j hj => ms_ne hj)
  rw [e] at hP1
  exact kk (fun i hi => by rw [ms_ne (by omega)]; exact hm i hi) H1 locs1 ls hP1 hS1 hl
theorem gw_aald (h : GOk wd mi X) {n : Nat} {a i : Int} {rs : List Int} (a0 : 0 ≤ a) (hsk : wd.1[a.toNat]? = some (2, n, rs)) (hw : arW wd a = true) (h1 : 0 ≤ wr i) (h2 : wr i < n) (hd : decode (miC mi) pc = .ok (.aaload, 1)) (kk : GW wd (miL mi) X (pc + 1) lv ((2, rs.getD (wr i).toNat (-1)) :: st) M) : GW wd (miL mi) X pc lv ((0, i) :: (2, a) :: st) M := by
  obtain ⟨p, l, e, R, s, m, args, below, meth, cc0, Q, M0, G⟩ := X
  intro hm H locs ls hP hS hl
  have k1 := kk hm H locs ls hP hS hl
  simp only [cS, List.map_cons] at k1
  show W p l e R s m args below meth cc0 H locs 0 0 Q (F0 m pc ls (.int (Int32.ofInt i) :: cv (gad G) 2 a :: cS G st))
  rw [cv_ref a0]
  have hl2 : a.toNat < wd.2.1 := of_decide_eq_true hw
  have hg := render_get (wd := wd) (G := G) (M := M) hl2
  rw [cell_2 hsk] at hg
  refine va_aldq h.1 h.2.1 h.2.2.2.2.2.1 hP a.toNat 2 hg rfl (in_vp h1 h2) hd ?_
  have e9 : va_rf (if rs.getD (wr i).toNat (-1) < 0 then none else some (gad G (rs.getD (wr i).toNat (-1)).toNat)) = cv (gad G) 2 (rs.getD (wr i).toNat (-1)) := by
    by_cases hx : rs.getD (wr i).toNat (-1) < 0
    · simp only [if_pos hx, va_rf, cv]
      simp [hx]
    · simp only [if_neg hx, va_rf, cv]
      simp [hx]
  show W p l e R s m args below meth cc0 H locs 0 0 Q (F0 m (pc + 1) ls (va_rf (if rs.getD (wr i).toNat (-1) < 0 then none else some (gad G (rs.getD (wr i).toNat (-1)).toNat)) :: cS G st))
  rw [e9]
  exact k1
theorem gw_gets (h : GOk wd mi X) {i n : Nat} (hq : lk i (miT mi) = some n) (hd : decode (miC mi) pc = .ok (.getstatic i, 3)) (kk : GW wd (miL mi) X (pc + 3) lv ((2, (n : Int)) :: st) M) : GW wd (miL mi) X pc lv st M := by
  obtain ⟨p, l, e, R, s, m, args, below, meth, cc0, Q, M0, G⟩ := X
  intro hm H locs ls hP hS hl
  obtain ⟨t, h1, h2, h3⟩ := h.2.2.2.2.2.2.2.2.2.2.2.2.2.1 _ (lk_mem hq)
  have k1 := kk hm H locs ls hP hS hl
  have e : cv (gad G) 2 (n : Int) = .ref (gad G n) := by simp [cv]
  simp only [cS, List.map_cons, e] at k1
  have hZ := (h.2.2.2.2.2.2.2.1.2.1 t h1).2.1
  have h2' : t.1 = n := h2
  rw [h2'] at hZ
  exact va_gets h.1 h.2.1 hZ hS h.2.2.2.1 h3 (fun _ h9 => h9) hd k1
theorem cS_cat {G : Geo} (h : (st.map (fun q => if q.1 = 1 then 2 else 1)).sum ≤ 8) : ((cS G st).map fun v => v.category).sum ≤ 8 := by
  simp only [cS, List.map_map]
  have e : (Value.category ∘ fun q : Nat × Int => cv (gad G) q.1 q.2) = (fun q : Nat × Int => if q.1 = 1 then 2 else 1) := by
    funext q
    exact cv_cat
  rw [show ((fun v : Value => v.category) ∘ fun q : Nat × Int => cv (gad G) q.1 q.2) = (fun q : Nat × Int => if q.1 = 1 then 2 else 1) from e]
  exact h
theorem gw_max (h : GOk wd mi X) {i : Nat} {a b : Int} (hq : lk i (miM mi) = some 0) (hst : (st.map (fun q => if q.1 = 1 then 2 else 1)).sum ≤ 8) (hd : decode (miC mi) pc = .ok (.invokestatic i, 3)) (kk : GW wd (miL mi) X (pc + 3) lv ((0, mxI a b) :: st) M) : GW wd (miL mi) X pc lv ((0, b) :: (0, a) :: st) M := by
  obtain ⟨p, l, e, R, s, m, args, below, meth, cc0, Q, M0, G⟩ := X
  intro hm H locs ls hP hS hl
  have hw := h.2.2.2.2.2.2.2.2.2.2.2.2.2.2.1 _ (lk_mem hq)
  have e9 : (if Int32.ofInt a < Int32.ofInt b then Int32.ofInt b else Int32.ofInt a) = Int32.ofInt (mxI a b) := by
    unfold mxI
    by_cases hx : wr a < wr b
    · rw [if_pos (wr_lt.mpr hx), if_pos hx, oW]
    · rw [if_neg (fun z => hx (wr_lt.mp z)), if_neg hx, oW]
  have hc := cS_cat (G := G) hst
  refine va_mmax h.1 h.2.1 (by rw [h.2.2.1, hl.1]) h.2.2.2.1 (hw _ (by simp [mathWs])) (hw _ (by simp [mathWs])) (hw _ (by simp [mathWs])) (hw _ (by simp [mathWs])) h.2.2.2.2.2.2.2.2.1.1 (by have := h.2.2.2.2.2.2.2.2.1.2; simp only [cS] at hc; omega) (Nat.zero_le _) (Nat.zero_le _) hd ?_
  rw [e9]
  exact kk hm H locs ls hP hS hl
theorem gw_min (h : GOk wd mi X) {i : Nat} {a b : Int} (hq : lk i (miM mi) = some 1) (hst : (st.map (fun q => if q.1 = 1 then 2 else 1)).sum ≤ 8) (hd : decode (miC mi) pc = .ok (.invokestatic i, 3)) (kk : GW wd (miL mi) X (pc + 3) lv ((0, mnI a b) :: st) M) : GW wd (miL mi) X pc lv ((0, b) :: (0, a) :: st) M := by
  obtain ⟨p, l, e, R, s, m, args, below, meth, cc0, Q, M0, G⟩ := X
  intro hm H locs ls hP hS hl
  have hw := h.2.2.2.2.2.2.2.2.2.2.2.2.2.2.1 _ (lk_mem hq)
  have e9 : (if Int32.ofInt b < Int32.ofInt a then Int32.ofInt b else Int32.ofInt a) = Int32.ofInt (mnI a b) := by
    unfold mnI
    by_cases hx : wr b < wr a
    · rw [if_pos (wr_lt.mpr hx), if_pos hx, oW]
    · rw [if_neg (fun z => hx (wr_lt.mp z)), if_neg hx, oW]
  have hc := cS_cat (G := G) hst
  refine va_mmin h.1 h.2.1 (by rw [h.2.2.1, hl.1]) h.2.2.2.1 (hw _ (by simp [mathWs])) (hw _ (by simp [mathWs])) (hw _ (by simp [mathWs])) (hw _ (by simp [mathWs])) h.2.2.2.2.2.2.2.2.1.1 (by have := h.2.2.2.2.2.2.2.2.1.2; simp only [cS] at hc; omega) (Nat.zero_le _) (Nat.zero_le _) hd ?_
  rw [e9]
  exact kk hm H locs ls hP hS hl
theorem gw_abs (h : GOk wd mi X) {i : Nat} {a : Int} (hq : lk i (miM mi) = some 2) (hst : (st.map (fun q => if q.1 = 1 then 2 else 1)).sum ≤ 8) (hd : decode (miC mi) pc = .ok (.invokestatic i, 3)) (kk : GW wd (miL mi) X (pc + 3) lv ((0, abI a) :: st) M) : GW wd (miL mi) X pc lv ((0, a) :: st) M := by
  obtain ⟨p, l, e, R, s, m, args, below, meth, cc0, Q, M0, G⟩ := X
  intro hm H locs ls hP hS hl
  have hw := h.2.2.2.2.2.2.2.2.2.2.2.2.2.2.1 _ (lk_mem hq)
  have e9 : (if 0 ≤ Int32.ofInt a then Int32.ofInt a else 0 - Int32.ofInt a) = Int32.ofInt (abI a) := by
    unfold abI
    have z0 : (0 : Int32) = Int32.ofInt 0 := rfl
    rw [z0]
    by_cases hx : 0 ≤ wr a
    · rw [if_pos (wr_le.mpr (by rw [wr_0]; exact hx)), if_pos hx, oW]
    · rw [if_neg (fun z => hx (by have := wr_le.mp z; rw [wr_0] at this; exact this)), if_neg hx, Int32.ofInt_sub, oW]
  have hc := cS_cat (G := G) hst
  refine va_mabs h.1 h.2.1 (by rw [h.2.2.1, hl.1]) h.2.2.2.1 (hw _ (by simp [mathWs])) (hw _ (by simp [mathWs])) (hw _ (by simp [mathWs])) (hw _ (by simp [mathWs])) h.2.2.2.2.2.2.2.2.1.1 (by have := h.2.2.2.2.2.2.2.2.1.2; simp only [cS] at hc; omega) (Nat.zero_le _) (Nat.zero_le _) hd ?_
  rw [e9]
  exact kk hm H locs ls hP hS hl
theorem gw_maxL (h : GOk wd mi X) {i : Nat} {a b : Int} (hq : lk i (miM mi) = some 3) (hst : (st.map (fun q => if q.1 = 1 then 2 else 1)).sum ≤ 8) (hd : decode (miC mi) pc = .ok (.invokestatic i, 3)) (kk : GW wd (miL mi) X (pc + 3) lv ((1, mxL a b) :: st) M) : GW wd (miL mi) X pc lv ((1, b) :: (1, a) :: st) M := by
  obtain ⟨p, l, e, R, s, m, args, below, meth, cc0, Q, M0, G⟩ := X
  intro hm H locs ls hP hS hl
  have hw := h.2.2.2.2.2.2.2.2.2.2.2.2.2.2.1 _ (lk_mem hq)
  have e9 : (if Int64.ofInt b < Int64.ofInt a then Int64.ofInt a else Int64.ofInt b) = Int64.ofInt (mxL a b) := by
    unfold mxL
    by_cases hx : wrL b < wrL a
    · rw [if_pos (wrL_lt.mpr hx), if_pos hx, oWL]
    · rw [if_neg (fun z => hx (wrL_lt.mp z)), if_neg hx, oWL]
  have hc := cS_cat (G := G) hst
  refine va_mmax_long h.1 h.2.1 (by rw [h.2.2.1, hl.1]) h.2.2.2.1 (hw _ (by simp [mathWs])) (hw _ (by simp [mathWs])) (hw _ (by simp [mathWs])) (hw _ (by simp [mathWs])) h.2.2.2.2.2.2.2.2.1.1 (by have := h.2.2.2.2.2.2.2.2.1.2; simp only [cS] at hc; omega) (Nat.zero_le _) (Nat.zero_le _) hd ?_
  rw [e9]
  exact kk hm H locs ls hP hS hl
theorem gw_minL (h : GOk wd mi X) {i : Nat} {a b : Int} (hq : lk i (miM mi) = some 4) (hst : (st.map (fun q => if q.1 = 1 then 2 else 1)).sum ≤ 8) (hd : decode (miC mi) pc = .ok (.invokestatic i, 3)) (kk : GW wd (miL mi) X (pc + 3) lv ((1, mnL a b) :: st) M) : GW wd (miL mi) X pc lv ((1, b) :: (1, a) :: st) M := by
  obtain ⟨p, l, e, R, s, m, args, below, meth, cc0, Q, M0, G⟩ := X
  intro hm H locs ls hP hS hl
  have hw := h.2.2.2.2.2.2.2.2.2.2.2.2.2.2.1 _ (lk_mem hq)
  have e9 : (if Int64.ofInt b < Int64.ofInt a then Int64.ofInt b else Int64.ofInt a) = Int64.ofInt (mnL a b) := by
    unfold mnL
    by_cases hx : wrL b < wrL a
    · rw [if_pos (wrL_lt.mpr hx), if_pos hx, oWL]
    · rw [if_neg (fun z => hx (wrL_lt.mp z)), if_neg hx, oWL]
  have hc := cS_cat (G := G) hst
  refine va_mmin_long h.1 h.2.1 (by rw [h.2.2.1, hl.1]) h.2.2.2.1 (hw _ (by simp [mathWs])) (hw _ (by simp [mathWs])) (hw _ (by simp [mathWs])) (hw _ (by simp [mathWs])) h.2.2.2.2.2.2.2.2.1.1 (by have := h.2.2.2.2.2.2.2.2.1.2; simp only [cS] at hc; omega) (Nat.zero_le _) (Nat.zero_le _) hd ?_
  rw [e9]
  exact kk hm H locs ls hP hS hl
end GWH
