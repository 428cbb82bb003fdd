/-! PURE, 16: row -/
theorem z64 : (0 : Int64) = (0 : Int32).toInt64 := by decide
theorem z8 : (0 : Int32).toInt8.toInt32 = 0 := by decide
theorem z16 : (0 : Int32).toInt16.toInt32 = 0 := by decide
theorem row_rel {σ σ' : Mem} {μ μ' : MMem} {d s n : Nat} (hR1 : Rel σ μ) (hd : d < 8) (hs : s < 3) (hn : n ≤ 100)
    (g2 : ∀ c, c ≠ 20 + 2 * d → σ' c = uX (uX (uX σ (19 + 2 * d) 1 2) (19 + 2 * d) 4 (nI s)) (19 + 2 * d) 5 (nI n) c) (g3 : ∀ j, j < 100 → σ' (20 + 2 * d) j = 0)
    (k2 : ∀ c, c ≠ 19 → μ' c = uI (uI (uI μ 14 d 2) 17 d (nI s)) 18 d (nI n) c) (k3 : ∀ q, q < 100 * d ∨ 100 * d + 100 ≤ q → (μ' 19).2 q = (uI (uI (uI μ 14 d 2) 17 d (nI s)) 18 d (nI n) 19).2 q) (k4 : ∀ j, j < 100 → (μ' 19).2 (100 * d + j) = 0) : Rel σ' μ' := by
  refine hR1.shelf (d := d) (fun c a b => by rw [g2 c b, uX_ne a, uX_ne a, uX_ne a]) (fun i hi => by rw [k2 i (by omega), uI_ne (by omega), uI_ne (by omega), uI_ne (by omega)]) (fun i h1 h2 d' hd' e => by
    rw [k2 i (by omega)]; simp only [rdI]; rw [if_neg (by omega), if_neg (by omega), if_neg (by omega)]) (fun d' i hd' e hi => by rw [k3 _ (by omega)]; simp only [rdI2]) ?_
  unfold RelS
  have m14 : (μ' 14).1 d = 2 := by rw [k2 14 (by omega)]; simp [rdI]
  have m17 : (μ' 17).1 d = nI s := by rw [k2 17 (by omega)]; simp [rdI]
  have m18 : (μ' 18).1 d = nI n := by rw [k2 18 (by omega)]; simp [rdI]
  have x1 : σ' (19 + 2 * d) 1 = 2 := by rw [g2 _ (by omega)]; simp [rdX]
  have x4 : σ' (19 + 2 * d) 4 = nI s := by rw [g2 _ (by omega)]; simp [rdX]
  have x5 : σ' (19 + 2 * d) 5 = nI n := by rw [g2 _ (by omega)]; simp [rdX]
  rw [x1, m14]
  refine ⟨rfl, Or.inr (Or.inr rfl), fun w => absurd w (by decide), fun _ => ⟨s, n, hs, hn, x4, m17, x5, m18, fun i hi => ?_⟩⟩
  rw [k4 i hi, g3 i hi]
  exact ⟨z64, fun _ => z8, fun _ => z16⟩
theorem holdRow_s {σ : Mem} {d s n : Nat} (hn : n ≤ 100) : ∃ σ', f_X5_holdRow d (nI s) (nI n) σ = some σ' ∧ (∀ c, c ≠ 20 + 2 * d → σ' c = uX (uX (uX σ (19 + 2 * d) 1 2) (19 + 2 * d) 4 (nI s)) (19 + 2 * d) 5 (nI n) c) ∧ ∀ j, j < 100 → σ' (20 + 2 * d) j = 0 := by
  have v1 : (if (100 : Int32) < nI n then 100 else nI n) = nI n := if_neg (nI_nlt (a := 100) (b := n) hn (by decide))
  have v2 : (if (0 : Int32) < nI n then nI n else 0) = nI n := by
    by_cases z : n = 0
    · subst z; exact if_neg (by decide)
    · exact if_pos (nI_lt (a := 0) (by omega) (by omega))
  obtain ⟨σ', g1, g2⟩ := zeroX (d := d) 5000 0 (uX (uX (uX σ (19 + 2 * d) 1 2) (19 + 2 * d) 4 (nI s)) (19 + 2 * d) 5 (nI n)) (by omega) (by omega) (fun j hj => by omega)
  refine ⟨σ', ?_, g2⟩
  rw [f_X5_holdRow, bnds, bnds, v1, bnds, v2, bnds, bnds]
  exact g1
theorem eq_row {σ : Mem} {μ : MMem} (hR : Rel σ μ) (p1 p2 p3 : Int32) : ∃ r σ' μ', f_X11_row p1 p2 p3 σ = some (r, σ') ∧ f_X12_row p1 p2 p3 μ = some (r, μ') ∧ Rel σ' μ' := by
  have hR1 := hR.t
  unfold f_X11_row f_X12_row
  generalize hL2 : @f_X12_row_L68 = L2
  generalize hH : @f_X5_holdRow = H
  simp only [f_X11_isShelf, bnds]
  rcases rng (p := p1) (n := 7) (by decide) 7 7 rfl rfl with ⟨d, hd, rfl, e1, e2⟩ | ⟨_, e1, e2⟩
  · have hb := bad_i (show d < 8 by omega) (show 8 < 2 ^ 31 by decide)
    have hc := nI_clamp (show d < 2 ^ 31 by omega)
    have h9 : d < 9 := by omega
    simp only [e1, e2, b1s, if_neg ne10, or_true, if_true, atS (show d < 8 by omega), hb, hc, if_false, h9]
    rcases rng (p := p2) (n := 2) (by decide) 2 2 rfl rfl with ⟨s, hs, rfl, e3, e4⟩ | ⟨_, e3, e4⟩
    · simp only [e3, e4, b1s, if_neg ne10]
      by_cases h100 : p3 ≤ 100
      · by_cases h0 : 0 ≤ p3
        · obtain ⟨n, hn, rfl⟩ := nI_of2 (M := 100) (n := 100) (by decide) (Int32.not_lt.mpr h0) h100
          obtain ⟨σ', g1, g2, g3⟩ := holdRow_s (σ := σ) (d := d) (s := s) hn
          obtain ⟨μ', k1, k2, k3, k4⟩ := zeroM (d := d) (by omega) (K := fun _ σ => some (0, σ)) 5000 0 (uI (uI (uI (uI μ 0 9 0) 14 d 2) 17 d (nI s)) 18 d (nI n)) (by omega) (by omega) (fun j hj => by omega)
          have g1' : H d (nI s) (nI n) σ = some σ' := by rw [← hH]; exact g1
          have k1' : L2 (nI d) 5000 0 (uI (uI (uI (uI μ 0 9 0) 14 d 2) 17 d (nI s)) 18 d (nI n)) (fun _ σ => some (0, σ)) = some (0, μ') := by rw [← hL2]; exact k1
          simp only [if_pos h100, if_pos h0, g1', b1s]
          exact ⟨0, σ', μ', rfl, k1', row_rel hR1 (by omega) (by omega) hn g2 g3 k2 k3 k4⟩
        · simp only [if_pos h100, if_neg h0]
          exact ⟨_, _, _, rfl, rfl, hR1⟩
      · simp only [if_neg h100]
        exact ⟨_, _, _, rfl, rfl, hR1⟩
    · simp only [e3, e4, b1s, if_true]
      exact ⟨_, _, _, rfl, rfl, hR1⟩
  · simp only [e1, e2, b1s, true_or, if_true]
    exact ⟨_, _, _, rfl, rfl, hR1⟩
