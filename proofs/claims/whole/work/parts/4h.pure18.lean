/-! PURE, 18: copy, judge, seeded -/
theorem cpA {d i k : Nat} (hd : d < 8) (hik : i + k ≤ 100) {K : Int32 → MMem → Option (Int32 × MMem)} : ∀ (m t : Nat) (μ : MMem), t ≤ k → k < t + m → ∃ μ', f_X12_copy_L137 (nI d) (nI i) (nI k) m (nI t) μ K = K (nI k) μ' ∧ (∀ c, c ≠ 20 → μ' c = μ c) ∧ (∀ j, j < t → (μ' 20).2 j = (μ 20).2 j) ∧ ∀ j, t ≤ j → j < k → (μ' 20).2 j = (μ 19).2 (100 * d + i + j) := by
  intro m
  induction m with
  | zero => intro t μ h1 h2; omega
  | succ m ih =>
    intro t μ h1 h2
    rw [f_X12_copy_L137]
    by_cases e : t = k
    · subst e
      rw [if_pos (nI_le (Nat.le_refl _) (by omega))]
      exact ⟨μ, rfl, fun _ _ => rfl, fun _ _ => rfl, fun j a b => by omega⟩
    · rw [if_neg (nI_ge (show t < k by omega) (by omega)), bnds, ix_s, nI_add, if_neg (nI_in (show 100 * d + i + t < 800 by omega) (by decide)), nI_clamp (show 100 * d + i + t < 2 ^ 31 by omega), bnds, if_neg (nI_in (show t < 100 by omega) (by decide)), nI_clamp (show t < 2 ^ 31 by omega), bnds, bnds, nI_1]
      obtain ⟨μ', g1, g2, g3, g4⟩ := ih (t + 1) (uL μ 20 t ((μ 19).2 (100 * d + i + t))) (by omega) (by omega)
      refine ⟨μ', g1, fun c hc => (g2 c hc).trans (uL_ne hc), fun j hj => (g3 j (by omega)).trans (by rw [rdL, if_neg (by omega)]), fun j a b => ?_⟩
      by_cases e2 : j = t
      · subst e2; rw [g3 j (by omega), rdL, if_pos rfl]
      · rw [g4 j (by omega) b, uL_ne (by decide)]
theorem cpB {d i k : Nat} (hd : d < 8) (hik : i + k ≤ 100) {K : Int32 → MMem → Option (Int32 × MMem)} : ∀ (m t : Nat) (μ : MMem), t ≤ k → k < t + m → ∃ μ', f_X12_copy_L174 (nI d) (nI i) (nI k) m (nI t) μ K = K (nI k) μ' ∧ (∀ c, c ≠ 19 → μ' c = μ c) ∧ (∀ q, q < 100 * d + i + t ∨ 100 * d + i + k ≤ q → (μ' 19).2 q = (μ 19).2 q) ∧ ∀ j, t ≤ j → j < k → (μ' 19).2 (100 * d + i + j) = (μ 20).2 j := by
  intro m
  induction m with
  | zero => intro t μ h1 h2; omega
  | succ m ih =>
    intro t μ h1 h2
    rw [f_X12_copy_L174]
    by_cases e : t = k
    · subst e
      rw [if_pos (nI_le (Nat.le_refl _) (by omega))]
      exact ⟨μ, rfl, fun _ _ => rfl, fun _ _ => rfl, fun j a b => by omega⟩
    · rw [if_neg (nI_ge (show t < k by omega) (by omega)), if_neg (nI_in (show t < 100 by omega) (by decide)), nI_clamp (show t < 2 ^ 31 by omega), bnds, bnds, ix_s, nI_add, if_neg (nI_in (show 100 * d + i + t < 800 by omega) (by decide)), nI_clamp (show 100 * d + i + t < 2 ^ 31 by omega), bnds, bnds, nI_1]
      obtain ⟨μ', g1, g2, g3, g4⟩ := ih (t + 1) (uL μ 19 (100 * d + i + t) ((μ 20).2 t)) (by omega) (by omega)
      refine ⟨μ', g1, fun c hc => (g2 c hc).trans (uL_ne hc), fun q hq => (g3 q (by omega)).trans (by rw [rdL, if_neg (by omega)]), fun j a b => ?_⟩
      by_cases e2 : j = t
      · subst e2; rw [g3 _ (by omega), rdL, if_pos rfl]
      · rw [g4 j (by omega) b, uL_ne (by decide)]
theorem sub_t {N k : Nat} (hN : N ≤ 100) (hk : k < 2 ^ 31) : (nI N - nI k).toInt = (N : Int) - k := by
  rw [Int32.toInt_sub, nI_toInt (by omega), nI_toInt hk]
  exact Int.bmod_eq_of_le (by omega) (by omega)
/-- what the class refuses of places the reference refuses -/
theorem far {N : Nat} {p q : Int32} (hN : N ≤ 100) (hp : ¬ p < 0) (hq : ¬ q < 0) (h : nI N < q ∨ nI N - q < p) : nI N - q < p := by
  rcases h with h | h
  · obtain ⟨i, hi, rfl⟩ := nI_of hp
    obtain ⟨k, hk, rfl⟩ := nI_of hq
    rw [nI_ltI (by omega) hk] at h
    rw [Int32.lt_iff_toInt_lt, sub_t hN hk, nI_toInt hi]
    omega
  · exact h
/-- how the reference sees a shelf -/
theorem holds {σ : Mem} {μ : MMem} (hR : Rel σ μ) {d : Nat} (hd : d < 8) : (σ (7 + 2 * d) 1 = 0 ∧ (μ 14).1 d = 0) ∨ (σ (7 + 2 * d) 1 = 1 ∧ (μ 14).1 d = 1 ∧ f_X5_rowRefusal d σ = some (-12)) ∨
    ∃ s N, s < 3 ∧ RowAt σ μ d N ∧ f_X5_rowRefusal d σ = some 0 ∧ σ (7 + 2 * d) 1 = 2 ∧ (μ 14).1 d = 2 ∧ σ (7 + 2 * d) 4 = nI s ∧ (μ 17).1 d = nI s ∧ ∀ i, i < 100 → InSort (nI s) (σ (8 + 2 * d) i) := by
  obtain ⟨s1, s2, s3, s4⟩ := hR.2.2.2 d hd
  rcases s2 with e | e | e
  · exact Or.inl ⟨s1.trans e, e⟩
  · refine Or.inr (Or.inl ⟨s1.trans e, e, ?_⟩)
    rw [f_X5_rowRefusal, s1, e, if_neg ne10, if_neg (show ¬ (1 : Int32) = 2 by decide)]
  · obtain ⟨s', N, a1, a2, a3, a4, a5, a6, a7⟩ := s4 e
    refine Or.inr (Or.inr ⟨s', N, a1, ⟨hd, a2, a5, a6, fun i hi => (a7 i hi).1⟩, ?_, s1.trans e, e, a3, a4, fun i hi => (a7 i hi).2⟩)
    rw [f_X5_rowRefusal, s1, e, if_neg (show ¬ (2 : Int32) = 0 by decide), if_pos rfl]
theorem n20 : ¬ (2 : Int32) = 0 := by decide
theorem n12 : ¬ (1 : Int32) = 2 := by decide
theorem eq_copy {σ : Mem} {μ : MMem} (hR : Rel σ μ) (p1 p2 p3 p4 p5 : Int32) : ∃ r σ' μ', f_X11_copy p1 p2 p3 p4 p5 σ = some (r, σ') ∧ f_X12_copy p1 p2 p3 p4 p5 μ = some (r, μ') ∧ Rel σ' μ' := by
  have hR1 := hR.t
  rcases rng (p := p1) (n := 7) (by decide) 7 7 rfl rfl with ⟨d, hd, rfl, e1, e2⟩ | ⟨_, e1, e2⟩
  · have hd8 : d < 8 := by omega
    have hcd := nI_clamp (show d < 2 ^ 31 by omega)
    have hbd : ¬ (nI d < 0 ∨ 8 ≤ d) := fun z => z.elim (nI_pos (by omega)) (by omega)
    rcases rng (p := p3) (n := 7) (by decide) 7 7 rfl rfl with ⟨e, he, rfl, e3, e4⟩ | ⟨_, e3, e4⟩
    · have he8 : e < 8 := by omega
      have hce := nI_clamp (show e < 2 ^ 31 by omega)
      have hbe : ¬ (nI e < 0 ∨ 8 ≤ e) := fun z => z.elim (nI_pos (by omega)) (by omega)
      rcases holds hR1 hd8 with ⟨a1, a2⟩ | hdr
      · refine ⟨-11, σ, uI μ 0 9 0, ?_, ?_, hR1⟩
        · rw [f_X11_copy, shelfyes e1, b1s, if_neg ne10, shelfyes e3, b1s, if_neg ne10, atS hd8, b1s, if_pos (show d < 9 by omega), atS he8, b1s, if_pos (show e < 9 by omega), a1, if_pos rfl]
        · rw [f_X12_copy, bnds, e2, b1s, if_neg ne10, e4, b1s, if_neg ne10, hcd, if_neg hbd, a2, if_pos rfl]
      have a0 : ¬ σ (7 + 2 * d) 1 = 0 := by rcases hdr with ⟨a1, _⟩ | ⟨s, N, _, _, _, a1, _⟩ <;> rw [a1] <;> decide
      have b0 : ¬ ((uI μ 0 9 0) 14).1 d = 0 := by rcases hdr with ⟨_, a1, _⟩ | ⟨s, N, _, _, _, _, a1, _⟩ <;> rw [a1] <;> decide
      rcases holds hR1 he8 with ⟨a1, a2⟩ | her
      · refine ⟨-11, σ, uI μ 0 9 0, ?_, ?_, hR1⟩
        · rw [f_X11_copy, shelfyes e1, b1s, if_neg ne10, shelfyes e3, b1s, if_neg ne10, atS hd8, b1s, if_pos (show d < 9 by omega), atS he8, b1s, if_pos (show e < 9 by omega), if_neg a0, if_pos a1]
        · rw [f_X12_copy, bnds, e2, b1s, if_neg ne10, e4, b1s, if_neg ne10, hcd, if_neg hbd, if_neg b0, hce, if_neg hbe, if_pos a2]
      have a3 : ¬ σ (7 + 2 * e) 1 = 0 := by rcases her with ⟨a1, _⟩ | ⟨s, N, _, _, _, a1, _⟩ <;> rw [a1] <;> decide
      have b3 : ¬ ((uI μ 0 9 0) 14).1 e = 0 := by rcases her with ⟨_, a1, _⟩ | ⟨s, N, _, _, _, _, a1, _⟩ <;> rw [a1] <;> decide
      rcases hdr with ⟨_, a2, a4⟩ | ⟨s, N, hs, hr, a4, _, a2, t3, t4, t5⟩
      · refine ⟨-12, σ, uI μ 0 9 0, ?_, ?_, hR1⟩
        · rw [f_X11_copy, shelfyes e1, b1s, if_neg ne10, shelfyes e3, b1s, if_neg ne10, atS hd8, b1s, if_pos (show d < 9 by omega), atS he8, b1s, if_pos (show e < 9 by omega), if_neg a0, if_neg a3, a4, b1s, if_neg (by decide)]
        · rw [f_X12_copy, bnds, e2, b1s, if_neg ne10, e4, b1s, if_neg ne10, hcd, if_neg hbd, if_neg b0, hce, if_neg hbe, if_neg b3, if_neg hbd, a2, if_neg n12]
      rcases her with ⟨_, a5, a6⟩ | ⟨s', N', hs', hr', a6, u1, a5, u3, u4, u5⟩
      · refine ⟨-12, σ, uI μ 0 9 0, ?_, ?_, hR1⟩
        · rw [f_X11_copy, shelfyes e1, b1s, if_neg ne10, shelfyes e3, b1s, if_neg ne10, atS hd8, b1s, if_pos (show d < 9 by omega), atS he8, b1s, if_pos (show e < 9 by omega), if_neg a0, if_neg a3, a4, b1s, if_pos rfl, a6, b1s, if_neg (by decide)]
        · rw [f_X12_copy, bnds, e2, b1s, if_neg ne10, e4, b1s, if_neg ne10, hcd, if_neg hbd, if_neg b0, hce, if_neg hbe, if_neg b3, if_neg hbd, if_pos a2, if_neg hbe, a5, if_neg n12]
      by_cases hss : nI s = nI s'
      · have hN := hr.2.1
        have hN' := hr'.2.1
        have hX1 : ∀ z, (b1 (f_X5_hasPlaces d p2 p5 σ) fun r_23 => if r_23 = 0 then some ((-13 : Int32), σ) else b1 (f_X5_hasPlaces e p4 p5 σ) fun r_26 => if r_26 = 0 then some ((-13), σ) else b1 (f_X5_takeFrom e d p2 p4 p5 σ) fun σ_29 => some (p5, σ_29)) = z → f_X11_copy (nI d) p2 (nI e) p4 p5 σ = z := by
          intro z hz
          rw [f_X11_copy, shelfyes e1, b1s, if_neg ne10, shelfyes e3, b1s, if_neg ne10, atS hd8, b1s, if_pos (show d < 9 by omega), atS he8, b1s, if_pos (show e < 9 by omega), if_neg a0, if_neg a3, a4, b1s, if_pos rfl, a6, b1s, if_pos rfl, t3, u3, if_pos hss]
          exact hz
        have bad : (p5 < 0 ∨ p2 < 0 ∨ p4 < 0 ∨ nI N - p5 < p2 ∨ ¬ p4 ≤ nI N' - p5) → f_X12_copy (nI d) p2 (nI e) p4 p5 μ = some (-13, uI μ 0 9 0) := by
          intro h
          rw [f_X12_copy, bnds, e2, b1s, if_neg ne10, e4, b1s, if_neg ne10, hcd, if_neg hbd, if_neg b0, hce, if_neg hbe, if_neg b3, if_neg hbd, if_pos a2, if_neg hbe, if_pos a5, if_neg hbd, if_neg hbe, t4, u4, if_pos hss]
          by_cases h1 : p5 < 0
          · rw [if_pos h1]
          by_cases h2 : p2 < 0
          · rw [if_neg h1, if_pos h2]
          by_cases h3 : p4 < 0
          · rw [if_neg h1, if_neg h2, if_pos h3]
          by_cases h4 : nI N - p5 < p2
          · rw [if_neg h1, if_neg h2, if_neg h3, if_neg hbd, hr.2.2.2.1, if_pos h4]
          · rw [if_neg h1, if_neg h2, if_neg h3, if_neg hbd, hr.2.2.2.1, if_neg h4, if_neg hbe, hr'.2.2.2.1, if_neg (by rcases h with h | h | h | h | h <;> first | exact absurd h h1 | exact absurd h h2 | exact absurd h h3 | exact absurd h h4 | exact h)]
        rcases places hN hr.2.2.1 p2 p5 with ⟨i, k, rfl, rfl, hik, q1⟩ | ⟨q0, q1⟩
        · rcases places hN' hr'.2.2.1 p4 (nI k) with ⟨j, k', rfl, ek, hjk, q2⟩ | ⟨q0, q2⟩
          · have hkk : k = k' := (nI_eq (by omega) (by omega)).mp ek
            subst hkk
            obtain ⟨μ1, g1, g2, _, g4⟩ := cpA (d := d) (i := i) (k := k) hd8 (by omega) (K := fun _ (σ_36 : MMem) => f_X12_copy_L174 (nI e) (nI j) (nI k) 5000 (nI 0) σ_36 fun _ (σ_47 : MMem) => some (nI k, σ_47)) 5000 0 (uI μ 0 9 0) (by omega) (by omega)
            obtain ⟨μ2, k1, k2, k3, k4⟩ := cpB (d := e) (i := j) (k := k) he8 (by omega) (K := fun _ (σ_47 : MMem) => some (nI k, σ_47)) 5000 0 μ1 (by omega) (by omega)
            rw [nI_0] at g1 k1
            refine ⟨nI k, upR σ (8 + 2 * e) (va_cpy (σ (8 + 2 * d)) (σ (8 + 2 * e)) i j k), μ2, ?_, ?_, ?_⟩
            · refine hX1 _ ?_
              rw [q1, b1s, if_neg ne10, q2, b1s, if_neg ne10, f_X5_takeFrom, q1, b1s, if_neg ne10, q2, b1s, if_neg ne10, nI_clamp (show i < 2 ^ 31 by omega), nI_clamp (show j < 2 ^ 31 by omega), nI_clamp (show k < 2 ^ 31 by omega), if_neg (by
                rintro (z | z | z | z | z)
                · exact nI_pos (by omega) z
                · exact nI_pos (by omega) z
                · exact nI_pos (by omega) z
                · omega
                · omega), bnds, b1s]
            · rw [f_X12_copy, bnds, e2, b1s, if_neg ne10, e4, b1s, if_neg ne10, hcd, if_neg hbd, if_neg b0, hce, if_neg hbe, if_neg b3, if_neg hbd, if_pos a2, if_neg hbe, if_pos a5, if_neg hbd, if_neg hbe, t4, u4, if_pos hss, if_neg (nI_pos (show k < 2 ^ 31 by omega)), if_neg (nI_pos (show i < 2 ^ 31 by omega)), if_neg (nI_pos (show j < 2 ^ 31 by omega)), if_neg hbd, hr.2.2.2.1, pk_sub (show k ≤ N by omega), if_neg (nI_nlt (show i ≤ N - k by omega) (by omega)), if_neg hbe, hr'.2.2.2.1, pk_sub (show k ≤ N' by omega), if_pos (nI_le (show j ≤ N' - k by omega) (by omega)), g1, k1]
            · have m0 : ∀ c, c ≠ 19 → c ≠ 20 → μ2 c = (uI μ 0 9 0) c := fun c h1 h2 => (k2 c h1).trans (g2 c h2)
              refine hR1.shelf (d := e) (fun c _ b => if_neg b) (fun c hc => m0 c (by omega) (by omega)) (fun c _ h2 d' _ _ => by rw [m0 c (by omega) (by omega)]) (fun d' i' _ h2 h3 => by rw [k3 _ (by omega), g2 19 (by decide)]) ?_
              unfold RelS
              rw [show upR σ (8 + 2 * e) (va_cpy (σ (8 + 2 * d)) (σ (8 + 2 * e)) i j k) (7 + 2 * e) = σ (7 + 2 * e) from if_neg (by omega), show upR σ (8 + 2 * e) (va_cpy (σ (8 + 2 * d)) (σ (8 + 2 * e)) i j k) (8 + 2 * e) = va_cpy (σ (8 + 2 * d)) (σ (8 + 2 * e)) i j k from if_pos rfl, m0 14 (by decide) (by decide), m0 15 (by decide) (by decide), m0 16 (by decide) (by decide), m0 17 (by decide) (by decide), m0 18 (by decide) (by decide), u1, a5]
              refine ⟨rfl, Or.inr (Or.inr rfl), fun w => absurd w (by decide), fun _ => ⟨s', N', hs', hN', u3, u4, hr'.2.2.1, hr'.2.2.2.1, fun t ht => ?_⟩⟩
              by_cases hin : j ≤ t ∧ t < j + k
              · have h1 := k4 (t - j) (by omega) (by omega)
                have h2 := g4 (t - j) (by omega) (by omega)
                have h3 := hr.2.2.2.2 (i + (t - j)) (by omega)
                rw [show 100 * e + j + (t - j) = 100 * e + t by omega] at h1
                rw [show 100 * d + i + (t - j) = 100 * d + (i + (t - j)) by omega] at h2
                rw [h1, h2, h3, pk_cpy_in hin.1 hin.2]
                exact ⟨rfl, by rw [← hss]; exact t5 _ (by omega)⟩
              · rw [k3 _ (by omega), g2 19 (by decide), pk_cpy_out (by omega)]
                exact ⟨hr'.2.2.2.2 t ht, u5 t ht⟩
          · refine ⟨-13, σ, uI μ 0 9 0, hX1 _ (by rw [q1, b1s, if_neg ne10, q2, b1s, if_pos rfl]), bad ?_, hR1⟩
            by_cases h1 : p4 < 0
            · exact Or.inr (Or.inr (Or.inl h1))
            · have h2 : ¬ nI k < 0 := nI_pos (by omega)
              have h3 : nI N' < nI k ∨ nI N' - nI k < p4 := by
                rcases q0 with q | q | q
                · exact absurd q h1
                · exact absurd q h2
                · exact q
              exact Or.inr (Or.inr (Or.inr (Or.inr (Int32.not_le.mpr (far hN' h1 h2 h3)))))
        · refine ⟨-13, σ, uI μ 0 9 0, hX1 _ (by rw [q1, b1s, if_pos rfl]), bad ?_, hR1⟩
          by_cases h1 : p2 < 0
          · exact Or.inr (Or.inl h1)
          by_cases h2 : p5 < 0
          · exact Or.inl h2
          have h3 : nI N < p5 ∨ nI N - p5 < p2 := by
            rcases q0 with q | q | q
            · exact absurd q h1
            · exact absurd q h2
            · exact q
          exact Or.inr (Or.inr (Or.inr (Or.inl (far hN h1 h2 h3))))
      · refine ⟨-12, σ, uI μ 0 9 0, ?_, ?_, hR1⟩
        · rw [f_X11_copy, shelfyes e1, b1s, if_neg ne10, shelfyes e3, b1s, if_neg ne10, atS hd8, b1s, if_pos (show d < 9 by omega), atS he8, b1s, if_pos (show e < 9 by omega), if_neg a0, if_neg a3, a4, b1s, if_pos rfl, a6, b1s, if_pos rfl, t3, u3, if_neg hss]
        · rw [f_X12_copy, bnds, e2, b1s, if_neg ne10, e4, b1s, if_neg ne10, hcd, if_neg hbd, if_neg b0, hce, if_neg hbe, if_neg b3, if_neg hbd, if_pos a2, if_neg hbe, if_pos a5, if_neg hbd, if_neg hbe, t4, u4, if_neg hss]
    · refine ⟨-1, σ, uI μ 0 9 0, ?_, ?_, hR1⟩
      · rw [f_X11_copy, shelfyes e1, b1s, if_neg ne10, shelfno e3, b1s, if_pos rfl]
      · rw [f_X12_copy, bnds, e2, b1s, if_neg ne10, e4, b1s, if_pos rfl]
  · refine ⟨-1, σ, uI μ 0 9 0, ?_, ?_, hR1⟩
    · rw [f_X11_copy, shelfno e1, b1s, if_pos rfl]
    · rw [f_X12_copy, bnds, e2, b1s, if_pos rfl]
