/-! PURE, 16: row -/
theorem z64 : (0 : Int64) = (0 : Int32).toInt64 := by decide
theorem z8 : (0 : Int32).toInt8.toInt32 = 0 := by decide
theorem z16 : (0 : Int32).toInt16.toInt32 = 0 := by decide
theorem row_rel {σ σ' : Mem} {μ μ' : MMem} {d s n : Nat} (hR1 : Rel σ μ) (hd : d < 8) (hs : s < 3) (hn : n ≤ 100)
    (g2 : ∀ c, c ≠ 8 + 2 * d → σ' c = uX (uX (uX σ (7 + 2 * d) 1 2) (7 + 2 * d) 4 (nI s)) (7 + 2 * d) 5 (nI n) c) (g3 : ∀ j, j < 100 → σ' (8 + 2 * d) j = 0)
    (k2 : ∀ c, c ≠ 19 → μ' c = uI (uI (uI μ 14 d 2) 17 d (nI s)) 18 d (nI n) c) (k3 : ∀ q, q < 100 * d ∨ 100 * d + 100 ≤ q → (μ' 19).2 q = (uI (uI (uI μ 14 d 2) 17 d (nI s)) 18 d (nI n) 19).2 q) (k4 : ∀ j, j < 100 → (μ' 19).2 (100 * d + j) = 0) : Rel σ' μ' := by
  refine hR1.shelf (d := d) (fun c a b => by rw [g2 c b, uX_ne a, uX_ne a, uX_ne a]) (fun i hi => by rw [k2 i (by omega), uI_ne (by omega), uI_ne (by omega), uI_ne (by omega)]) (fun i h1 h2 d' hd' e => by
    rw [k2 i (by omega)]; simp only [rdI]; rw [if_neg (by omega), if_neg (by omega), if_neg (by omega)]) (fun d' i hd' e hi => by rw [k3 _ (by omega)]; simp only [rdI2]) ?_
  unfold RelS
  have m14 : (μ' 14).1 d = 2 := by rw [k2 14 (by omega)]; simp [rdI]
  have m17 : (μ' 17).1 d = nI s := by rw [k2 17 (by omega)]; simp [rdI]
  have m18 : (μ' 18).1 d = nI n := by rw [k2 18 (by omega)]; simp [rdI]
  have x1 : σ' (7 + 2 * d) 1 = 2 := by rw [g2 _ (by omega)]; simp [rdX]
  have x4 : σ' (7 + 2 * d) 4 = nI s := by rw [g2 _ (by omega)]; simp [rdX]
  have x5 : σ' (7 + 2 * d) 5 = nI n := by rw [g2 _ (by omega)]; simp [rdX]
  rw [x1, m14]
  refine ⟨rfl, Or.inr (Or.inr rfl), fun w => absurd w (by decide), fun _ => ⟨s, n, hs, hn, x4, m17, x5, m18, fun i hi => ?_⟩⟩
  rw [k4 i hi, g3 i hi]
  exact ⟨z64, fun _ => z8, fun _ => z16⟩
theorem holdRow_s {σ : Mem} {d s n : Nat} (hn : n ≤ 100) : ∃ σ', f_X5_holdRow d (nI s) (nI n) σ = some σ' ∧ (∀ c, c ≠ 8 + 2 * d → σ' c = uX (uX (uX σ (7 + 2 * d) 1 2) (7 + 2 * d) 4 (nI s)) (7 + 2 * d) 5 (nI n) c) ∧ ∀ j, j < 100 → σ' (8 + 2 * d) j = 0 := by
  have v1 : (if (100 : Int32) < nI n then 100 else nI n) = nI n := if_neg (nI_nlt (a := 100) (b := n) hn (by decide))
  have v2 : (if (0 : Int32) < nI n then nI n else 0) = nI n := by
    by_cases z : n = 0
    · subst z; exact if_neg (by decide)
    · exact if_pos (nI_lt (a := 0) (by omega) (by omega))
  obtain ⟨σ', g1, g2⟩ := zeroX (d := d) 5000 0 (uX (uX (uX σ (7 + 2 * d) 1 2) (7 + 2 * d) 4 (nI s)) (7 + 2 * d) 5 (nI n)) (by omega) (by omega) (fun j hj => by omega)
  refine ⟨σ', ?_, g2⟩
  rw [f_X5_holdRow, bnds, bnds, v1, bnds, v2, bnds, bnds]
  exact g1
theorem zeroM0 {d : Nat} (hd : d < 8) (μ : MMem) {L} (hL : @f_X12_row_L68 = L) : ∃ μ', L (nI d) 5000 0 μ (fun _ σ => some (0, σ)) = some (0, μ') ∧ (∀ c, c ≠ 19 → μ' c = μ c) ∧ (∀ q, q < 100 * d ∨ 100 * d + 100 ≤ q → (μ' 19).2 q = (μ 19).2 q) ∧ ∀ j, j < 100 → (μ' 19).2 (100 * d + j) = 0 := by
  subst hL
  have h := zeroM hd (K := fun _ σ => some (0, σ)) 5000 0 μ (by omega) (by omega) (fun j hj => by omega)
  rw [nI_0] at h
  exact h
