/-! PURE, 15: keep, row, put -/
theorem rdX {σ : Mem} {i j i' j' : Nat} {v : Int32} : (uX σ i j v) i' j' = if i' = i ∧ j' = j then v else σ i' j' := by
  by_cases h : i' = i
  · subst h
    rw [uX_same]
    by_cases h2 : j' = j
    · subst h2
      rw [if_pos ⟨rfl, rfl⟩]
      exact if_pos rfl
    · rw [if_neg (fun z => h2 z.2)]
      exact if_neg h2
  · rw [uX_ne h, if_neg (fun z => h z.1)]
theorem uL_ne {μ : MMem} {i j i' : Nat} {v : Int64} (h : i' ≠ i) : uL μ i j v i' = μ i' := if_neg h
theorem uL_same {μ : MMem} {i j : Nat} {v : Int64} : uL μ i j v i = ((μ i).1, vp_updL (μ i).2 j v) := if_pos rfl
theorem rdL {μ : MMem} {i j j' : Nat} {v : Int64} : (uL μ i j v i).2 j' = if j' = j then v else (μ i).2 j' := by
  rw [uL_same]
  rfl
theorem rdL1 {μ : MMem} {i j i' : Nat} {v : Int64} : (uL μ i j v i').1 = (μ i').1 := by
  by_cases h : i' = i
  · subst h; rw [uL_same]
  · rw [uL_ne h]
theorem rdI2 {μ : MMem} {i j i' : Nat} {v : Int32} : (uI μ i j v i').2 = (μ i').2 := by
  by_cases h : i' = i
  · subst h; rw [uI_same]
  · rw [uI_ne h]
theorem Rel.shelf {σ σ' : Mem} {μ μ' : MMem} {d : Nat} (h : Rel σ μ) (hX : ∀ c, c ≠ 7 + 2 * d → c ≠ 8 + 2 * d → σ' c = σ c) (h0 : ∀ i, i < 14 → μ' i = μ i)
    (h1 : ∀ i, 14 ≤ i → i ≤ 18 → ∀ d', d' < 8 → d' ≠ d → (μ' i).1 d' = (μ i).1 d') (h19 : ∀ d' i, d' < 8 → d' ≠ d → i < 100 → (μ' 19).2 (100 * d' + i) = (μ 19).2 (100 * d' + i)) (hd : RelS σ' μ' d) : Rel σ' μ' := by
  have e0 : dsX σ' 0 = dsX σ 0 := by unfold dsX; rw [hX _ (by omega) (by omega), hX _ (by omega) (by omega)]
  have e1 : dsX σ' 1 = dsX σ 1 := by unfold dsX; rw [hX _ (by omega) (by omega), hX _ (by omega) (by omega)]
  have eM : dsM μ' = dsM μ := by
    unfold dsM
    rw [h0 0 (by omega)]
    exact ds_ext (fun _ _ => rfl) (fun r w _ _ => by rw [h0 (1 + w) (by omega)])
  refine ⟨e0.trans (h.1.trans eM.symm), by rw [eM]; exact h.2.1, ?_, fun d' hd' => ?_⟩
  · rw [hX 0 (by omega) (by omega), h0 0 (by omega), e1, h0 5 (by omega)]
    exact h.2.2.1
  · by_cases e : d' = d
    · subst e; exact hd
    · have o := h.2.2.2 d' hd'
      unfold RelS at o ⊢
      rw [hX (7 + 2 * d') (by omega) (by omega), hX (8 + 2 * d') (by omega) (by omega), h1 14 (by omega) (by omega) d' hd' e, h1 15 (by omega) (by omega) d' hd' e, h1 16 (by omega) (by omega) d' hd' e, h1 17 (by omega) (by omega) d' hd' e, h1 18 (by omega) (by omega) d' hd' e]
      refine ⟨o.1, o.2.1, o.2.2.1, fun z => ?_⟩
      obtain ⟨s, n, a1, a2, a3, a4, a5, a6, a7⟩ := o.2.2.2 z
      exact ⟨s, n, a1, a2, a3, a4, a5, a6, fun i hi => ⟨by rw [h19 d' i hd' e hi]; exact (a7 i hi).1, (a7 i hi).2⟩⟩
theorem eq_keep {σ : Mem} {μ : MMem} (hR : Rel σ μ) (p1 p2 p3 p4 : Int32) : ∃ r σ' μ', f_X11_keep p1 p2 p3 p4 σ = some (r, σ') ∧ f_X12_keep p1 p2 p3 p4 μ = some (r, μ') ∧ Rel σ' μ' := by
  have hR1 := hR.t
  simp only [f_X11_keep, f_X12_keep, f_X11_isShelf, bnd, jn]
  rcases rng (p := p1) (n := 7) (by decide) 7 7 rfl rfl with ⟨d, hd, rfl, e1, e2⟩ | ⟨_, e1, e2⟩
  · have hb := bad_i (show d < 8 by omega) (show 8 < 2 ^ 31 by decide)
    have hc := nI_clamp (show d < 2 ^ 31 by omega)
    have h9 : d < 9 := by omega
    simp only [e1, e2, b1, if_neg ne10, or_true, if_true, atS (show d < 8 by omega), hb, hc, if_false, h9, f_X5_holdNothing, f_X5_holdPin, bnd]
    rcases rng (p := p2) (n := 1) (by decide) 1 1 rfl rfl with ⟨j, hj, rfl, _, e3⟩ | ⟨ho, _, e3⟩
    · simp only [e3, if_neg ne10]
      have h2 : j = 0 ∨ j = 1 := by omega
      rcases h2 with rfl | rfl
      · simp (decide := true) only [if_true, if_false]
        refine ⟨_, _, _, rfl, rfl, hR1.shelf (d := d) (fun c a b => uX_ne a) (fun i hi => by rw [uI_ne (by omega), uI_ne (by omega), uI_ne (by omega)]) (fun i h1 h2 d' hd' e => by
          simp only [rdI]; rw [if_neg (by omega), if_neg (by omega), if_neg (by omega)]) (fun d' i hd' e hi => by simp only [rdI2]) ?_⟩
        unfold RelS
        have z : (uI (uI (uI (uI μ 0 9 0) 14 d (nI 0)) 15 d 0) 16 d 0 14).1 d = 0 := by simp only [rdI]; rw [if_neg (by omega), if_neg (by omega), if_pos ⟨trivial, trivial⟩]; rfl
        rw [z, rdX, if_pos ⟨rfl, rfl⟩]
        exact ⟨rfl, Or.inl rfl, fun w => absurd w (by decide), fun w => absurd w (by decide)⟩
      · simp (decide := true) only [if_true, if_false]
        rcases rng (p := p3) (n := 7) (by decide) 7 7 rfl rfl with ⟨k, hk, rfl, e4, e5⟩ | ⟨_, e4, e5⟩
        · rcases rng (p := p4) (n := 9) (by decide) 9 9 rfl rfl with ⟨f, hf, rfl, e6, e7⟩ | ⟨_, e6, e7⟩
          · simp only [e4, e5, e6, e7, if_neg ne10]
            refine ⟨_, _, _, rfl, rfl, hR1.shelf (d := d) (fun c a b => by rw [uX_ne a, uX_ne a, uX_ne a]) (fun i hi => by rw [uI_ne (by omega), uI_ne (by omega), uI_ne (by omega)]) (fun i h1 h2 d' hd' e => by
              simp only [rdI]; rw [if_neg (by omega), if_neg (by omega), if_neg (by omega)]) (fun d' i hd' e hi => by simp only [rdI2]) ?_⟩
            unfold RelS
            have z : (uI (uI (uI (uI μ 0 9 0) 14 d (nI 1)) 15 d (nI k)) 16 d (nI f) 14).1 d = 1 := by simp only [rdI]; rw [if_neg (by omega), if_neg (by omega), if_pos ⟨trivial, trivial⟩]; rfl
            rw [z]
            refine ⟨by simp [rdX], Or.inr (Or.inl rfl), fun _ => ⟨k, f, by omega, by omega, by simp [rdX], by simp [rdI], by simp [rdX], by simp [rdI]⟩, fun w => absurd w (by decide)⟩
          · simp only [e4, e5, e6, e7, if_neg ne10, if_true]
            exact ⟨_, _, _, rfl, rfl, hR1⟩
        · simp only [e4, e5, if_true]
          exact ⟨_, _, _, rfl, rfl, hR1⟩
    · have n0 : ¬ p2 = 0 := fun z => by subst z; revert ho; decide
      have n1 : ¬ p2 = 1 := fun z => by subst z; revert ho; decide
      simp only [e3, if_neg n0, if_neg n1, if_true]
      exact ⟨_, _, _, rfl, rfl, hR1⟩
  · simp only [e1, e2, b1, true_or, if_true]
    exact ⟨_, _, _, rfl, rfl, hR1⟩
theorem zeroX {d : Nat} : ∀ (m i : Nat) (σ : Mem), i ≤ 100 → 100 < i + m → (∀ j, j < i → σ (8 + 2 * d) j = 0) → ∃ σ', f_X5_holdRow_L29 d m (nI i) σ (fun _ σ => some σ) = some σ' ∧ (∀ c, c ≠ 8 + 2 * d → σ' c = σ c) ∧ ∀ j, j < 100 → σ' (8 + 2 * d) j = 0 := by
  intro m
  induction m with
  | zero => intro i σ h1 h2; omega
  | succ m ih =>
    intro i σ h1 h2 h3
    rw [f_X5_holdRow_L29]
    by_cases e : i = 100
    · subst e
      rw [if_pos (by decide)]
      exact ⟨σ, rfl, fun _ _ => rfl, h3⟩
    · have hi : i < 100 := by omega
      rw [if_neg (show ¬ (100 : Int32) ≤ nI i from nI_ge (a := i) (b := 100) hi (by decide)), if_neg (nI_in hi (by decide)), nI_clamp (by omega), bnds, bnds, nI_1]
      obtain ⟨σ', g1, g2, g3⟩ := ih (i + 1) (uX σ (8 + 2 * d) i 0) (by omega) (by omega) (fun j hj => by
        rw [rdX]
        by_cases e2 : j = i
        · rw [if_pos ⟨rfl, e2⟩]
        · rw [if_neg (fun z => e2 z.2)]; exact h3 j (by omega))
      exact ⟨σ', g1, fun c hc => (g2 c hc).trans (uX_ne hc), g3⟩
theorem zeroM {d : Nat} (hd : d < 8) {K : Int32 → MMem → Option (Int32 × MMem)} : ∀ (m i : Nat) (μ : MMem), i ≤ 100 → 100 < i + m → (∀ j, j < i → (μ 19).2 (100 * d + j) = 0) → ∃ μ', f_X12_row_L68 (nI d) m (nI i) μ K = K (nI 100) μ' ∧ (∀ c, c ≠ 19 → μ' c = μ c) ∧ (∀ q, q < 100 * d ∨ 100 * d + 100 ≤ q → (μ' 19).2 q = (μ 19).2 q) ∧ ∀ j, j < 100 → (μ' 19).2 (100 * d + j) = 0 := by
  intro m
  induction m with
  | zero => intro i μ h1 h2; omega
  | succ m ih =>
    intro i μ h1 h2 h3
    rw [f_X12_row_L68]
    by_cases e : i = 100
    · subst e
      rw [if_pos (by decide)]
      exact ⟨μ, rfl, fun _ _ => rfl, fun _ _ => rfl, h3⟩
    · have hi : i < 100 := by omega
      rw [if_neg (show ¬ (100 : Int32) ≤ nI i from nI_ge (a := i) (b := 100) hi (by decide)), bnds, ix_s, if_neg (nI_in (by omega) (by decide)), nI_clamp (by omega), bnds, bnds, nI_1]
      obtain ⟨μ', g1, g2, g3, g4⟩ := ih (i + 1) (uL μ 19 (100 * d + i) 0) (by omega) (by omega) (fun j hj => by
        rw [rdL]
        by_cases e2 : j = i
        · rw [if_pos (by omega)]
        · rw [if_neg (by omega)]; exact h3 j (by omega))
      exact ⟨μ', g1, fun c hc => (g2 c hc).trans (uL_ne hc), fun q hq => (g3 q hq).trans (by rw [rdL, if_neg (by omega)]), g4⟩
