/-! PART 98.l8: pieces of the law's entry. -/
theorem ct_B : CtD yX10_init cX10_init 1 3 10 17 skB [(0, 15, 5), (1, 3, -1), (9, 6, -1)] 51 5150 := ct_X10_init
theorem ct_D : CtD yX11_init cX11_init 1 1 11 46 skD [(0, 29, 5), (0, 28, -1)] 26 17851 := ct_X11_init
theorem len_B : skB.length = 52 := by decide +kernel
theorem len_D : skD.length = 27 := by decide +kernel
theorem ok_B : skOk skB = true := by decide +kernel
theorem ok_D : skOk skD = true := by decide +kernel
theorem le_B : skB.length ≤ wC.1.length := by decide +kernel
theorem le_D : skD.length ≤ wM.1.length := by decide +kernel
theorem e1_B {G : Geo} {ad adC : Nat → Nat} (c1 : ∀ i, i < 52 → adC i = ad i) : render wC (gW G adC) M0C = render (wk skB) (gW G ad) (mz [(0, 15, 5), (1, 3, -1), (9, 6, -1)]) := rend_fin (show 52 = skB.length from len_B.symm) le_B e_B ok_B (fun i hi => c1 i (by rw [len_B] at hi; exact hi)) M0_B
theorem e1_D {G : Geo} {ad : Nat → Nat} : render wM (gW G ad) M0R = render (wk skD) (gW G ad) (mz [(0, 29, 5), (0, 28, -1)]) := rend_fin (show 27 = skD.length from len_D.symm) le_D e_D ok_D (fun _ _ => rfl) (fun _ _ => rfl)
theorem lenr_B {G : Geo} {Z : Zs} : (render (wk skB) G (mz Z)).length = 52 := (rend_len (wd := wk skB)).trans len_B
theorem lenr_D {G : Geo} {Z : Zs} : (render (wk skD) G (mz Z)).length = 27 := (rend_len (wd := wk skD)).trans len_D
theorem getr_B {G : Geo} {Z : Zs} {i : Nat} (hi : i < 52) : ∃ x, (render (wk skB) G (mz Z))[i]? = some (gad G i, x) := ⟨_, render_get (wd := wk skB) (show i < skB.length by rw [len_B]; exact hi)⟩
theorem getr_D {G : Geo} {Z : Zs} {i : Nat} (hi : i < 27) : ∃ x, (render (wk skD) G (mz Z))[i]? = some (gad G i, x) := ⟨_, render_get (wd := wk skD) (show i < skD.length by rw [len_D]; exact hi)⟩
