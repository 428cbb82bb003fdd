/-! PURE: toss and element answer as the reference -/
theorem g9 {μ : MMem} {x : Int32} : ((uI μ 0 9 x) 0).1 9 = x := by
  first | rfl | simp [uI, upR, upd]
theorem Rel.t9 {σ : Mem} {μ : MMem} {x : Int32} (h : Rel σ μ) : Rel σ (uI μ 0 9 x) := by
  refine ⟨h.1.trans ds9.symm, by rw [ds9]; exact h.2.1, ?_, fun i hi => (h.2.2.2 i hi).fr rfl rfl (fun j hj => uI_ne (by omega))⟩
  rw [uI_f (by omega), uI_ne (by omega)]
  exact h.2.2.1
theorem cost4 (f : Int32) : f_X4_cost f = some (costX 4 f) := rfl
theorem eq_toss {σ : Mem} {μ : MMem} (hR : Rel σ μ) (p1 : Int32) : ∃ r μ', f_X11_toss p1 σ = some r ∧ f_X12_toss p1 μ = some (r, μ') ∧ Rel σ μ' := by
  have hR1 := hR.t
  rcases pinref hR1 p1 with ⟨v, hv, e1, e2⟩ | ⟨d, k, f, hd, rfl, e1, e2, hk, hf, a3, a4, a5, a6⟩
  · refine ⟨v, uI μ 0 9 0, ?_, ?_, hR1⟩
    · rw [f_X11_toss, e1, b1s, if_neg (neg0 hv)]
    · rw [f_X12_toss, bnds, e2, b1s, if_neg (Int32.not_le.mpr hv), b1s]
  · have hbn : ¬ (nI d < 0 ∨ 8 ≤ d) := fun z => z.elim (nI_pos (by omega)) (by omega)
    have hcd := nI_clamp (show d < 2 ^ 31 by omega)
    have hX : f_X11_toss (nI d) σ = if k = 5 ∨ nI f ≤ 0 then some (-15) else if k = 3 then some (100 + nI f) else if k = 4 then b1 (f_X4_cost (nI f)) fun k => some (200 + k) else some (nI f) := by
      rw [f_X11_toss, e1, b1s, if_pos rfl, atS hd, b1s, if_pos (show d < 9 by omega), a3, atK hk, b1s, if_pos hk, a5]
    have hM : f_X12_toss (nI d) μ = if nI k = 5 then some (-15, uI μ 0 9 0) else if nI f = 0 then some (-15, uI μ 0 9 0) else if nI k = 3 then some (100 + nI f, uI μ 0 9 0) else if nI k = 4 then b1 (f_X12_minutesOf (nI k) (nI f)) fun r => some (200 + r, uI μ 0 9 0) else some (nI f, uI μ 0 9 0) := by
      rw [f_X12_toss, bnds, e2, b1s, if_pos (Int32.le_refl 0), hcd, if_neg hbn, bnds, if_neg hbn, bnds, a4, a6]
    have ne : ∀ c, c < 2 ^ 31 → ¬ k = c → ¬ nI k = nI c := fun c hc h z => h ((nI_eq (by omega) hc).mp z)
    by_cases k5 : k = 5
    · subst k5
      exact ⟨-15, uI μ 0 9 0, by rw [hX, if_pos (Or.inl rfl)], by rw [hM, if_pos (show nI 5 = 5 from rfl)], hR1⟩
    have m5 : ¬ nI k = 5 := ne 5 (by decide) k5
    by_cases f0 : f = 0
    · subst f0
      exact ⟨-15, uI μ 0 9 0, by rw [hX, if_pos (Or.inr (by decide))], by rw [hM, if_neg m5, if_pos (show nI 0 = 0 from rfl)], hR1⟩
    have hf9 : ¬ nI f ≤ 0 := nI_ge (a := 0) (b := f) (by omega) (by omega)
    have hf8 : ¬ nI f = 0 := fun z => f0 ((nI_eq (a := f) (b := 0) (by omega) (by decide)).mp z)
    have hor : ¬ (k = 5 ∨ nI f ≤ 0) := fun z => z.elim k5 hf9
    by_cases k3 : k = 3
    · subst k3
      exact ⟨100 + nI f, uI μ 0 9 0, by rw [hX, if_neg hor, if_pos rfl], by rw [hM, if_neg m5, if_neg hf8, if_pos (show nI 3 = 3 from rfl)], hR1⟩
    have m3 : ¬ nI k = 3 := ne 3 (by decide) k3
    by_cases k4 : k = 4
    · subst k4
      exact ⟨200 + costX 4 (nI f), uI μ 0 9 0, by rw [hX, if_neg hor, if_neg k3, if_pos rfl, cost4, b1s], by rw [hM, if_neg m5, if_neg hf8, if_neg m3, if_pos (show nI 4 = 4 from rfl), minutesOf_s (by decide) hf, b1s], hR1⟩
    have m4 : ¬ nI k = 4 := ne 4 (by decide) k4
    exact ⟨nI f, uI μ 0 9 0, by rw [hX, if_neg hor, if_neg k3, if_neg k4], by rw [hM, if_neg m5, if_neg hf8, if_neg m3, if_neg m4], hR1⟩
theorem eq_element {σ : Mem} {μ : MMem} (hR : Rel σ μ) (p1 p2 : Int32) : ∃ k v w μ', f_X11_element p1 p2 σ = some (k, v) ∧ f_X12_element p1 p2 μ = some (w, μ') ∧ Rel σ μ' ∧ f_X12_thrown μ' = some k ∧ (k = 0 → w = v) := by
  rcases rowany hR p1 with ⟨e1, e2⟩ | ⟨d, v, hd, rfl, hv, e1, e2, e3⟩ | ⟨d, s, N, rfl, hs, hr, e1, e2, e3, t1, t2, t3, t4, t5⟩
  · refine ⟨1, 0, 0, uI μ 0 9 1, ?_, ?_, hR.t9, by rw [f_X12_thrown, g9], fun _ => rfl⟩
    · rw [f_X11_element, e1, b1s, if_pos rfl]
    · rw [f_X12_element, e2, b1s, jns]
      try dsimp only
      rw [if_pos rfl, bnds, g9, if_neg (by decide)]
  · have hv1 : ¬ v = -1 := by
      intro z
      subst z
      rw [f_X5_rowRefusal] at e2
      split at e2
      · exact absurd (Option.some.inj e2) (by decide)
      · split at e2
        · exact absurd (Option.some.inj e2) (by decide)
        · exact absurd (Option.some.inj e2) (by decide)
    refine ⟨2, 0, 0, uI μ 0 9 2, ?_, ?_, hR.t9, by rw [f_X12_thrown, g9], fun _ => rfl⟩
    · rw [f_X11_element, e1, b1s, if_neg ne10, atS hd, b1s, if_pos (show d < 9 by omega), e2, b1s, if_neg (neg0 hv)]
    · rw [f_X12_element, e3, b1s, jns]
      try dsimp only
      rw [if_neg hv1, jns]
      try dsimp only
      rw [if_pos hv, bnds, g9, if_neg (by decide)]
  · have hd := hr.1
    have hN := hr.2.1
    have h5 := hr.2.2.1
    have hcd := nI_clamp (show d < 2 ^ 31 by omega)
    have hbn : ¬ (nI d < 0 ∨ 8 ≤ d) := fun z => z.elim (nI_pos (by omega)) (by omega)
    rcases plc (p := p2) (n := N) (by omega) with ⟨i, hi, rfl, e4⟩ | ⟨ho, e4⟩
    · refine ⟨0, (σ (8 + 2 * d) i).toInt64, (σ (8 + 2 * d) i).toInt64, uI μ 0 9 0, ?_, ?_, hR.t9, by rw [f_X12_thrown, g9], fun _ => rfl⟩
      · rw [f_X11_element, e1, b1s, if_neg ne10, atS hd, b1s, if_pos (show d < 9 by omega), e2, b1s, if_pos rfl, place1 hN h5 hi, b1s, if_neg ne10, at_s hr hi, b1s]
      · rw [f_X12_element, e3, b1s, jns]
        try dsimp only
        rw [if_neg (by decide), jns]
        try dsimp only
        rw [if_neg (by decide), hcd, if_neg hbn, hr.2.2.2.1, bnds, e4, b1s, if_neg ne10, bnds, g9, if_pos (Int32.le_refl 0), bnds, ix_s, if_neg (nI_in (by omega) (by decide)), nI_clamp (by omega), uI_ne (show 19 ≠ 0 by decide), hr.2.2.2.2 i (by omega)]
    · refine ⟨2, 0, 0, uI μ 0 9 2, ?_, ?_, hR.t9, by rw [f_X12_thrown, g9], fun _ => rfl⟩
      · rw [f_X11_element, e1, b1s, if_neg ne10, atS hd, b1s, if_pos (show d < 9 by omega), e2, b1s, if_pos rfl, place0 hN h5 ho, b1s, if_pos rfl]
      · rw [f_X12_element, e3, b1s, jns]
        try dsimp only
        rw [if_neg (by decide), jns]
        try dsimp only
        rw [if_neg (by decide), hcd, if_neg hbn, hr.2.2.2.1, bnds, e4, b1s, if_pos rfl, bnds, g9, if_neg (by decide)]
