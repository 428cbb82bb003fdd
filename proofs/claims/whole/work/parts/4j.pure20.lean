/-! PURE, 20: measures -/
theorem add3 (t : Nat) : nI t + 3 = nI (t + 3) := nI_add t 3
theorem RowAt.fm {σ : Mem} {μ μ' : MMem} {d N : Nat} (h : RowAt σ μ d N) (h1 : μ' 18 = μ 18) (h2 : μ' 19 = μ 19) : RowAt σ μ' d N := by
  unfold RowAt
  rw [h1, h2]
  exact h
theorem dsM_c {μ μ' : MMem} (h : ∀ i, i ≤ 4 → μ' i = μ i) : dsM μ' = dsM μ := by
  unfold dsM
  rw [h 0 (by decide)]
  exact ds_ext (fun _ _ => rfl) (fun r w _ _ => by rw [h (1 + w) (by omega)])
def wrb (D : DS) (ρ : Nat → Int32) (t : Nat) : Bool := !decide (D.2 (ρ (3 * t)).toNatClampNeg 0 - D.2 (ρ (3 * t + 1)).toNatClampNeg 0 = ρ (3 * t + 2))
/-- the first that is wrong, so far -/
def fw (D : DS) (ρ : Nat → Int32) : Nat → Int32
  | 0 => -4
  | t + 1 => if wrb D ρ t = true then (if 0 ≤ fw D ρ t then fw D ρ t else nI (3 * t)) else fw D ρ t
/-- in how many wrong ones ring r is, so far -/
def cn (D : DS) (ρ : Nat → Int32) (r : Nat) : Nat → Nat
  | 0 => 0
  | t + 1 => if wrb D ρ t = true ∧ ((ρ (3 * t)).toNatClampNeg = r ∨ (ρ (3 * t + 1)).toNatClampNeg = r) then cn D ρ r t + 1 else cn D ρ r t
theorem cn_s {D : DS} {ρ : Nat → Int32} {r t : Nat} : cn D ρ r (t + 1) = if wrb D ρ t = true ∧ ((ρ (3 * t)).toNatClampNeg = r ∨ (ρ (3 * t + 1)).toNatClampNeg = r) then cn D ρ r t + 1 else cn D ρ r t := rfl
theorem fw_s {D : DS} {ρ : Nat → Int32} {t : Nat} : fw D ρ (t + 1) = if wrb D ρ t = true then (if 0 ≤ fw D ρ t then fw D ρ t else nI (3 * t)) else fw D ρ t := rfl
theorem cn_le {D : DS} {ρ : Nat → Int32} {r : Nat} : ∀ t, cn D ρ r t ≤ t := by
  intro t
  induction t with
  | zero => exact Nat.le_refl _
  | succ t ih =>
    rw [cn_s]
    split <;> omega
theorem fw_stay {D : DS} {ρ : Nat → Int32} {t : Nat} (h : 0 ≤ fw D ρ t) : ∀ j, fw D ρ (t + j) = fw D ρ t := by
  intro j
  induction j with
  | zero => rfl
  | succ j ih =>
    rw [show t + (j + 1) = (t + j) + 1 from rfl, fw_s, ih]
    by_cases hw : wrb D ρ (t + j) = true
    · rw [if_pos hw, if_pos h]
    · rw [if_neg hw]
def MeaT (σ : Mem) (d n t : Nat) : Prop := ∃ a b, a < n ∧ b < n ∧ a ≠ b ∧ σ (8 + 2 * d) (3 * t) = nI a ∧ σ (8 + 2 * d) (3 * t + 1) = nI b
theorem isW_s {σ : Mem} {μ : MMem} {d m t a b : Nat} (hr : RowAt σ μ d (3 * m)) (ht : t < m) (ha : a < 6) (hb : b < 6) (ea : σ (8 + 2 * d) (3 * t) = nI a) (eb : σ (8 + 2 * d) (3 * t + 1) = nI b) :
    f_X11_isWrongMeasure d (nI (3 * t)) σ = some (if wrb (dsX σ 0) (σ (8 + 2 * d)) t = true then 1 else 0) := by
  rw [f_X11_isWrongMeasure, at_s hr (show 3 * t < 3 * m by omega), b1s, ea, get0 ha, b1s, add1, at_s hr (show 3 * t + 1 < 3 * m by omega), b1s, eb, get0 hb, b1s, add2, at_s hr (show 3 * t + 2 < 3 * m by omega), b1s]
  unfold wrb
  rw [ea, eb, nI_clamp (show a < 2 ^ 31 by omega), nI_clamp (show b < 2 ^ 31 by omega)]
  by_cases h : (dsX σ 0).2 a 0 - (dsX σ 0).2 b 0 = σ (8 + 2 * d) (3 * t + 2)
  · rw [if_pos h, decide_eq_true h]; rfl
  · rw [if_neg h, decide_eq_false h]; rfl
theorem firstL {σ : Mem} {μ : MMem} {d m n : Nat} (h6 : n ≤ 6) (hr : RowAt σ μ d (3 * m)) (hg : ∀ t, t < m → MeaT σ d n t) : ∀ (j t f : Nat), t + j = m → j < f → fw (dsX σ 0) (σ (8 + 2 * d)) t = -4 →
    f_X11_firstWrongMeasure_L2 d σ f (nI (3 * t)) (fun _ => some (-4)) = some (fw (dsX σ 0) (σ (8 + 2 * d)) m) := by
  have hN := hr.2.1
  intro j
  induction j with
  | zero =>
    intro t f h1 h2 h3
    obtain ⟨f, rfl⟩ : ∃ k, f = k + 1 := ⟨f - 1, by omega⟩
    have e : t = m := by omega
    subst e
    rw [f_X11_firstWrongMeasure_L2, hr.2.2.1, if_pos (nI_le (Nat.le_refl _) (by omega)), h3]
  | succ j ih =>
    intro t f h1 h2 h3
    obtain ⟨f, rfl⟩ : ∃ k, f = k + 1 := ⟨f - 1, by omega⟩
    obtain ⟨a, b, ha, hb, hab, ea, eb⟩ := hg t (by omega)
    rw [f_X11_firstWrongMeasure_L2, hr.2.2.1, if_neg (nI_ge (show 3 * t < 3 * m by omega) (by omega)), isW_s hr (by omega) (by omega) (by omega) ea eb, b1s]
    have hs := fw_s (D := dsX σ 0) (ρ := σ (8 + 2 * d)) (t := t)
    by_cases hw : wrb (dsX σ 0) (σ (8 + 2 * d)) t = true
    · rw [if_pos hw, h3, if_neg (by decide)] at hs
      rw [if_pos hw, if_neg ne10]
      have h4 := fw_stay (D := dsX σ 0) (ρ := σ (8 + 2 * d)) (t := t + 1) (by rw [hs]; exact nI_pos' (by omega)) j
      rw [show t + 1 + j = m by omega, hs] at h4
      rw [h4]
    · rw [if_neg hw, h3] at hs
      rw [if_neg hw, if_pos rfl, bnds, add3]
      exact ih (t + 1) f (by omega) (by omega) hs
theorem timesL {σ : Mem} {μ : MMem} {d m n r : Nat} (h6 : n ≤ 6) (hr : RowAt σ μ d (3 * m)) (hg : ∀ t, t < m → MeaT σ d n t) (hr6 : r < 6) : ∀ (j t f : Nat), t + j = m → j < f →
    f_X11_timesWrong_L5 d (nI r) σ f (nI (cn (dsX σ 0) (σ (8 + 2 * d)) r t)) (nI (3 * t)) (fun x _ => some x) = some (nI (cn (dsX σ 0) (σ (8 + 2 * d)) r m)) := by
  have hN := hr.2.1
  intro j
  induction j with
  | zero =>
    intro t f h1 h2
    obtain ⟨f, rfl⟩ : ∃ k, f = k + 1 := ⟨f - 1, by omega⟩
    have e : t = m := by omega
    subst e
    rw [f_X11_timesWrong_L5, hr.2.2.1, if_pos (nI_le (Nat.le_refl _) (by omega))]
  | succ j ih =>
    intro t f h1 h2
    obtain ⟨f, rfl⟩ : ∃ k, f = k + 1 := ⟨f - 1, by omega⟩
    obtain ⟨a, b, ha, hb, hab, ea, eb⟩ := hg t (by omega)
    have hc := cn_s (D := dsX σ 0) (ρ := σ (8 + 2 * d)) (r := r) (t := t)
    rw [ea, eb, nI_clamp (show a < 2 ^ 31 by omega), nI_clamp (show b < 2 ^ 31 by omega)] at hc
    have go := ih (t + 1) f (by omega) (by omega)
    rw [f_X11_timesWrong_L5, hr.2.2.1, if_neg (nI_ge (show 3 * t < 3 * m by omega) (by omega)), at_s hr (show 3 * t < 3 * m by omega), b1s, ea]
    have hW := isW_s hr (show t < m by omega) (show a < 6 by omega) (show b < 6 by omega) ea eb
    by_cases h1 : a = r
    · rw [if_pos (show nI a = nI r by rw [h1]), hW, b1s]
      by_cases hw : wrb (dsX σ 0) (σ (8 + 2 * d)) t = true
      · rw [if_pos ⟨hw, Or.inl h1⟩] at hc
        rw [hc] at go
        rw [if_pos hw, if_neg ne10, bnds, bnds, add1, add3]
        exact go
      · rw [if_neg (fun z => hw z.1)] at hc
        rw [hc] at go
        rw [if_neg hw, if_pos rfl, bnds, add3]
        exact go
    · rw [if_neg (show ¬ nI a = nI r from fun z => h1 ((nI_eq (by omega) (by omega)).mp z)), add1, at_s hr (show 3 * t + 1 < 3 * m by omega), b1s, eb]
      by_cases h2 : b = r
      · rw [if_pos (show nI b = nI r by rw [h2]), hW, b1s]
        by_cases hw : wrb (dsX σ 0) (σ (8 + 2 * d)) t = true
        · rw [if_pos ⟨hw, Or.inr h2⟩] at hc
          rw [hc] at go
          rw [if_pos hw, if_neg ne10, bnds, bnds, add1, add3]
          exact go
        · rw [if_neg (fun z => hw z.1)] at hc
          rw [hc] at go
          rw [if_neg hw, if_pos rfl, bnds, add3]
          exact go
      · rw [if_neg (fun z => z.2.elim h1 h2)] at hc
        rw [hc] at go
        rw [if_neg (show ¬ nI b = nI r from fun z => h2 ((nI_eq (by omega) (by omega)).mp z)), bnds, add3]
        exact go
theorem zero13 {K : Int32 → MMem → Option (Int32 × MMem)} : ∀ (m i : Nat) (μ : MMem), i ≤ 6 → 6 < i + m → (∀ r, r < i → (μ 13).1 r = 0) → ∃ μ', f_X12_measures_L53 m (nI i) μ K = K (nI 6) μ' ∧ (∀ c, c ≠ 13 → μ' c = μ c) ∧ ∀ r, r < 6 → (μ' 13).1 r = 0 := by
  intro m
  induction m with
  | zero => intro i μ h1 h2; omega
  | succ m ih =>
    intro i μ h1 h2 h3
    by_cases e : i = 6
    · subst e
      exact ⟨μ, by rw [f_X12_measures_L53, if_pos (show (6 : Int32) ≤ nI 6 by decide)], fun _ _ => rfl, h3⟩
    · obtain ⟨μ', g1, g2, g3⟩ := ih (i + 1) (uI μ 13 i 0) (by omega) (by omega) (fun r hr => by
        rw [rdI]
        by_cases e2 : r = i
        · rw [if_pos ⟨rfl, e2⟩]
        · rw [if_neg (fun z => e2 z.2)]; exact h3 r (by omega))
      refine ⟨μ', ?_, fun c hc => (g2 c hc).trans (uI_ne hc), g3⟩
      rw [f_X12_measures_L53, if_neg (show ¬ (6 : Int32) ≤ nI i from nI_ge (a := i) (b := 6) (by omega) (by decide)), if_neg (nI_in (show i < 6 by omega) (by decide)), nI_clamp (by omega), bnds, bnds, nI_1]
      exact g1
def MInv (σ : Mem) (d t : Nat) (x : Int32) (μ : MMem) : Prop := x = fw (dsX σ 0) (σ (8 + 2 * d)) t ∧ ∀ r, r < 6 → (μ 13).1 r = nI (cn (dsX σ 0) (σ (8 + 2 * d)) r t)
theorem meaL {σ : Mem} {μ0 : MMem} {d m n : Nat} (hXM : dsX σ 0 = dsM μ0) (hn : (dsM μ0).1 0 = nI n) (h6 : n ≤ 6) (hr0 : RowAt σ μ0 d (3 * m)) : ∀ (j t f1 f2 : Nat) (x : Int32) (μi : MMem), t + j = m → j < f1 → j < f2 → (∀ c, c ≠ 13 → μi c = μ0 c) → MInv σ d t x μi →
    (f_X11_tellsMeasures_L13 d σ f1 (nI (3 * t)) (fun _ => some 1) = some 1 ∧ (∀ t', t ≤ t' → t' < m → MeaT σ d n t') ∧ ∃ x' μ', (∀ K, f_X12_measures_L77 (nI d) f2 x (nI (3 * t)) μi K = K x' (nI (3 * m)) μ') ∧ (∀ c, c ≠ 13 → μ' c = μ0 c) ∧ MInv σ d m x' μ') ∨
    (f_X11_tellsMeasures_L13 d σ f1 (nI (3 * t)) (fun _ => some 1) = some 0 ∧ ∃ μ', (∀ K, f_X12_measures_L77 (nI d) f2 x (nI (3 * t)) μi K = some (-13, μ')) ∧ ∀ c, c ≠ 13 → μ' c = μ0 c) := by
  have hd := hr0.1
  have hN := hr0.2.1
  have hX : (dsX σ 0).1 0 = nI n := by rw [hXM]; exact hn
  have hbd : ¬ (nI d < 0 ∨ 8 ≤ (nI d).toNatClampNeg) := nI_in hd (by decide)
  have hcd := nI_clamp (show d < 2 ^ 31 by omega)
  intro j
  induction j with
  | zero =>
    intro t f1 f2 x μi h1 h2 h3 hf hi
    obtain ⟨f1, rfl⟩ : ∃ k, f1 = k + 1 := ⟨f1 - 1, by omega⟩
    obtain ⟨f2, rfl⟩ : ∃ k, f2 = k + 1 := ⟨f2 - 1, by omega⟩
    have e : t = m := by omega
    subst e
    have hri := hr0.fm (hf 18 (by decide)) (hf 19 (by decide))
    refine Or.inl ⟨?_, fun t' a b => by omega, x, μi, fun K => ?_, hf, hi⟩
    · rw [f_X11_tellsMeasures_L13, hr0.2.2.1, if_pos (nI_le (Nat.le_refl _) (by omega))]
    · rw [f_X12_measures_L77, if_neg hbd, hcd, hri.2.2.2.1, if_pos (nI_le (Nat.le_refl _) (by omega))]
  | succ j ih =>
    intro t f1 f2 x μi h1 h2 h3 hf hi
    obtain ⟨f1, rfl⟩ : ∃ k, f1 = k + 1 := ⟨f1 - 1, by omega⟩
    obtain ⟨f2, rfl⟩ : ∃ k, f2 = k + 1 := ⟨f2 - 1, by omega⟩
    have hri := hr0.fm (hf 18 (by decide)) (hf 19 (by decide))
    have hDi : dsM μi = dsM μ0 := dsM_c (fun i hi => hf i (by omega))
    have hMi : (dsM μi).1 0 = nI n := by rw [hDi]; exact hn
    have hge : ¬ nI (3 * m) ≤ nI (3 * t) := nI_ge (by omega) (by omega)
    have hx0 : f_X11_tellsMeasures_L13 d σ (f1 + 1) (nI (3 * t)) (fun _ => some 1) = b1 (f_X0_has 0 (σ (8 + 2 * d) (3 * t)) σ) fun r_10 => if r_10 = 0 then some 0 else b1 (f_X0_has 0 (σ (8 + 2 * d) (3 * t + 1)) σ) fun r_13 => if r_13 = 0 then some 0 else if σ (8 + 2 * d) (3 * t) = σ (8 + 2 * d) (3 * t + 1) then some 0 else f_X11_tellsMeasures_L13 d σ f1 (nI (3 * (t + 1))) (fun _ => some 1) := by
      rw [f_X11_tellsMeasures_L13, hr0.2.2.1, if_neg hge, at_s hr0 (show 3 * t < 3 * m by omega), b1s, add1, at_s hr0 (show 3 * t + 1 < 3 * m by omega), b1s, add3]
      rfl
    have told0 := told_s hri (show 3 * t < 100 by omega)
    have told1 := told_s hri (show 3 * t + 1 < 100 by omega)
    have told2 := told_s hri (show 3 * t + 2 < 100 by omega)
    rcases rg (p := σ (8 + 2 * d) (3 * t)) h6 with ⟨a, ha, ea⟩ | ho
    · rcases rg (p := σ (8 + 2 * d) (3 * t + 1)) h6 with ⟨b, hb, eb⟩ | ho
      · by_cases hab : a = b
        · refine Or.inr ⟨?_, μi, fun K => ?_, hf⟩
          · rw [hx0, ea, eb, has_yes hX ha h6, b1s, if_neg ne10, has_yes hX hb h6, b1s, if_neg ne10, if_pos (show nI a = nI b by rw [hab])]
          · rw [f_X12_measures_L77, if_neg hbd, hcd, hri.2.2.2.1, if_neg hge, told0, b1s, add1, told1, b1s, ea, eb, isRing_y hMi ha h6, b1s, if_neg ne10, isRing_y hMi hb h6, b1s, if_neg ne10, if_pos (show nI a = nI b by rw [hab])]
        · have hne : ¬ nI a = nI b := fun z => hab ((nI_eq (by omega) (by omega)).mp z)
          have hba : ¬ (nI a < 0 ∨ 6 ≤ a) := fun z => z.elim (nI_pos (by omega)) (by omega)
          have hbb : ¬ (nI b < 0 ∨ 6 ≤ b) := fun z => z.elim (nI_pos (by omega)) (by omega)
          have hca := nI_clamp (show a < 2 ^ 31 by omega)
          have hcb := nI_clamp (show b < 2 ^ 31 by omega)
          have hx1 : f_X11_tellsMeasures_L13 d σ (f1 + 1) (nI (3 * t)) (fun _ => some 1) = f_X11_tellsMeasures_L13 d σ f1 (nI (3 * (t + 1))) (fun _ => some 1) := by
            rw [hx0, ea, eb, has_yes hX ha h6, b1s, if_neg ne10, has_yes hX hb h6, b1s, if_neg ne10, if_neg hne]
          have v0 : (μi 1).1 a = (dsX σ 0).2 a 0 := by rw [hXM, ← hDi, M_v0 (by omega)]
          have v1 : (μi 1).1 b = (dsX σ 0).2 b 0 := by rw [hXM, ← hDi, M_v0 (by omega)]
          have hwr : wrb (dsX σ 0) (σ (8 + 2 * d)) t = !decide ((dsX σ 0).2 a 0 - (dsX σ 0).2 b 0 = σ (8 + 2 * d) (3 * t + 2)) := by
            unfold wrb
            rw [ea, eb, hca, hcb]
          have hcn : ∀ r, cn (dsX σ 0) (σ (8 + 2 * d)) r (t + 1) = if wrb (dsX σ 0) (σ (8 + 2 * d)) t = true ∧ (a = r ∨ b = r) then cn (dsX σ 0) (σ (8 + 2 * d)) r t + 1 else cn (dsX σ 0) (σ (8 + 2 * d)) r t := fun r => by rw [cn_s, ea, eb, hca, hcb]
          have hm1 : ∀ K, f_X12_measures_L77 (nI d) (f2 + 1) x (nI (3 * t)) μi K = if (dsX σ 0).2 a 0 - (dsX σ 0).2 b 0 = σ (8 + 2 * d) (3 * t + 2) then f_X12_measures_L77 (nI d) f2 x (nI (3 * (t + 1))) μi K
              else f_X12_measures_L77 (nI d) f2 (if 0 ≤ x then x else nI (3 * t)) (nI (3 * (t + 1))) (uI (uI μi 13 a ((μi 13).1 a + 1)) 13 b ((uI μi 13 a ((μi 13).1 a + 1) 13).1 b + 1)) K := fun K => by
            rw [f_X12_measures_L77, if_neg hbd, hcd, hri.2.2.2.1, if_neg hge, told0, b1s, add1, told1, b1s, ea, eb, isRing_y hMi ha h6, b1s, if_neg ne10, isRing_y hMi hb h6, b1s, if_neg ne10, if_neg hne, hca, hcb, if_neg hba, if_neg hbb, add2, told2, b1s, v0, v1]
            simp only [jns, bnds, add3, if_neg hba, if_neg hbb]
            by_cases h0 : 0 ≤ x
            · rw [if_pos h0, if_pos h0]; rfl
            · rw [if_neg h0, if_neg h0]; rfl
          by_cases hw : (dsX σ 0).2 a 0 - (dsX σ 0).2 b 0 = σ (8 + 2 * d) (3 * t + 2)
          · have hwf : wrb (dsX σ 0) (σ (8 + 2 * d)) t = false := by rw [hwr, decide_eq_true hw]; rfl
            have hi' : MInv σ d (t + 1) x μi := ⟨by rw [fw_s, hwf, if_neg (by decide)]; exact hi.1, fun r hr => by rw [hcn, hwf, if_neg (fun z => absurd z.1 (by decide))]; exact hi.2 r hr⟩
            rcases ih (t + 1) f1 f2 x μi (by omega) (by omega) (by omega) hf hi' with ⟨g1, g2, x', μ', g3, g4, g5⟩ | ⟨g1, μ', g3, g4⟩
            · refine Or.inl ⟨hx1.trans g1, fun t' q1 q2 => ?_, x', μ', fun K => by rw [hm1, if_pos hw]; exact g3 K, g4, g5⟩
              by_cases e : t' = t
              · rw [e]; exact ⟨a, b, ha, hb, hab, ea, eb⟩
              · exact g2 t' (by omega) q2
            · exact Or.inr ⟨hx1.trans g1, μ', fun K => by rw [hm1, if_pos hw]; exact g3 K, g4⟩
          · have hwt : wrb (dsX σ 0) (σ (8 + 2 * d)) t = true := by rw [hwr, decide_eq_false hw]; rfl
            have hi' : MInv σ d (t + 1) (if 0 ≤ x then x else nI (3 * t)) (uI (uI μi 13 a ((μi 13).1 a + 1)) 13 b ((uI μi 13 a ((μi 13).1 a + 1) 13).1 b + 1)) := by
              refine ⟨by rw [fw_s, hwt, if_pos rfl, ← hi.1], fun r hr => ?_⟩
              rw [hcn, hwt, rdI, rdI, rdI]
              by_cases e1 : r = b
              · rw [if_pos ⟨rfl, e1⟩, if_neg (fun z => hab z.2.symm), if_pos ⟨rfl, Or.inr e1.symm⟩, ← e1, hi.2 r hr, add1]
              · rw [if_neg (fun z => e1 z.2)]
                by_cases e2 : r = a
                · rw [if_pos ⟨rfl, e2⟩, if_pos ⟨rfl, Or.inl e2.symm⟩, ← e2, hi.2 r hr, add1]
                · rw [if_neg (fun z => e2 z.2), if_neg (fun z => z.2.elim (fun q => e2 q.symm) (fun q => e1 q.symm))]
                  exact hi.2 r hr
            have hf' : ∀ c, c ≠ 13 → (uI (uI μi 13 a ((μi 13).1 a + 1)) 13 b ((uI μi 13 a ((μi 13).1 a + 1) 13).1 b + 1)) c = μ0 c := fun c hc => by rw [uI_ne hc, uI_ne hc]; exact hf c hc
            rcases ih (t + 1) f1 f2 _ _ (by omega) (by omega) (by omega) hf' hi' with ⟨g1, g2, x', μ', g3, g4, g5⟩ | ⟨g1, μ', g3, g4⟩
            · refine Or.inl ⟨hx1.trans g1, fun t' q1 q2 => ?_, x', μ', fun K => by rw [hm1, if_neg hw]; exact g3 K, g4, g5⟩
              by_cases e : t' = t
              · rw [e]; exact ⟨a, b, ha, hb, hab, ea, eb⟩
              · exact g2 t' (by omega) q2
            · exact Or.inr ⟨hx1.trans g1, μ', fun K => by rw [hm1, if_neg hw]; exact g3 K, g4⟩
      · refine Or.inr ⟨?_, μi, fun K => ?_, hf⟩
        · rw [hx0, ea, has_yes hX ha h6, b1s, if_neg ne10, has_no hX ho, b1s, if_pos rfl]
        · rw [f_X12_measures_L77, if_neg hbd, hcd, hri.2.2.2.1, if_neg hge, told0, b1s, add1, told1, b1s, ea, isRing_y hMi ha h6, b1s, if_neg ne10, isRing_n hMi ho h6, b1s, if_pos rfl]
    · refine Or.inr ⟨?_, μi, fun K => ?_, hf⟩
      · rw [hx0, has_no hX ho, b1s, if_pos rfl]
      · rw [f_X12_measures_L77, if_neg hbd, hcd, hri.2.2.2.1, if_neg hge, told0, b1s, add1, told1, b1s, isRing_n hMi ho h6, b1s, if_pos rfl]
theorem worstL {σ : Mem} {μ μr : MMem} {d m n : Nat} (hX : (dsX σ 0).1 0 = nI n) (h6 : n ≤ 6) (hr : RowAt σ μr d (3 * m)) (hg : ∀ t, t < m → MeaT σ d n t) (hM : (μ 0).1 0 = nI n) (hc : ∀ r, r < 6 → (μ 13).1 r = nI (cn (dsX σ 0) (σ (8 + 2 * d)) r m)) : ∀ (f i : Nat) (x y : Int32), i ≤ n → n < i + f →
    ((x = -4 ∧ y = 0) ∨ ∃ w, w < n ∧ x = nI w ∧ y = nI (cn (dsX σ 0) (σ (8 + 2 * d)) w m)) →
    ∃ z, f_X11_ringMostWrong_L8 d σ f x y (nI i) (fun x _ _ => some x) = some z ∧ ∀ K, f_X12_measures_L212 f x (nI i) μ K = K z (nI n) μ := by
  have hN := hr.2.1
  have hq : σ (1 + 2 * 0) 1 = nI n := hX
  have cb : ∀ r, cn (dsX σ 0) (σ (8 + 2 * d)) r m < 2 ^ 31 := fun r => by have := cn_le (D := dsX σ 0) (ρ := σ (8 + 2 * d)) (r := r) m; omega
  intro f
  induction f with
  | zero => intro i x y h1 h2; omega
  | succ f ih =>
    intro i x y h1 h2 h3
    by_cases e : i = n
    · refine ⟨x, ?_, fun K => ?_⟩
      · rw [f_X11_ringMostWrong_L8, hq, e, if_pos (nI_le (Nat.le_refl _) (by omega))]
      · rw [f_X12_measures_L212, hM, e, if_pos (nI_le (Nat.le_refl _) (by omega))]
    · have hi : i < n := by omega
      have hge : ¬ nI n ≤ nI i := nI_ge hi (by omega)
      have hci := nI_clamp (show i < 2 ^ 31 by omega)
      have hbi : ¬ (nI i < 0 ∨ 6 ≤ i) := fun z => z.elim (nI_pos (by omega)) (by omega)
      have ht : f_X11_timesWrong d (nI i) σ = some (nI (cn (dsX σ 0) (σ (8 + 2 * d)) i m)) := by
        rw [f_X11_timesWrong]
        exact timesL h6 hr hg (by omega) m 0 5000 (by omega) (by omega)
      have hx : f_X11_ringMostWrong_L8 d σ (f + 1) x y (nI i) (fun x _ _ => some x) = if nI (cn (dsX σ 0) (σ (8 + 2 * d)) i m) ≤ y then f_X11_ringMostWrong_L8 d σ f x y (nI (i + 1)) (fun x _ _ => some x) else f_X11_ringMostWrong_L8 d σ f (nI i) (nI (cn (dsX σ 0) (σ (8 + 2 * d)) i m)) (nI (i + 1)) (fun x _ _ => some x) := by
        rw [f_X11_ringMostWrong_L8, hq, if_neg hge, ht, b1s, bnds, bnds, nI_1]
      rw [hx]
      have hm1 : ∀ K, f_X12_measures_L212 (f + 1) x (nI i) μ K = if nI (cn (dsX σ 0) (σ (8 + 2 * d)) i m) ≤ 0 then f_X12_measures_L212 f x (nI (i + 1)) μ K else if x < 0 then f_X12_measures_L212 f (nI i) (nI (i + 1)) μ K else
          if x < 0 ∨ 6 ≤ x.toNatClampNeg then none else if nI (cn (dsX σ 0) (σ (8 + 2 * d)) i m) ≤ (μ 13).1 x.toNatClampNeg then f_X12_measures_L212 f x (nI (i + 1)) μ K else f_X12_measures_L212 f (nI i) (nI (i + 1)) μ K := fun K => by
        rw [f_X12_measures_L212, hM, if_neg hge, hci, if_neg hbi, hc i (by omega), if_neg hbi]
        simp only [bnds, nI_1]
      simp only [hm1]
      have take : _ := ih (i + 1) (nI i) (nI (cn (dsX σ 0) (σ (8 + 2 * d)) i m)) (by omega) (by omega) (Or.inr ⟨i, hi, rfl, rfl⟩)
      have skip : _ := ih (i + 1) x y (by omega) (by omega) h3
      rcases h3 with ⟨rfl, rfl⟩ | ⟨w, hw, rfl, rfl⟩
      · by_cases h4 : nI (cn (dsX σ 0) (σ (8 + 2 * d)) i m) ≤ 0
        · simp only [if_pos h4]; exact skip
        · simp only [if_neg h4, if_pos (show (-4 : Int32) < 0 by decide)]; exact take
      · have hcw := nI_clamp (show w < 2 ^ 31 by omega)
        have hbw : ¬ (nI w < 0 ∨ 6 ≤ w) := fun z => z.elim (nI_pos (by omega)) (by omega)
        simp only [hcw, hc w (show w < 6 by omega), if_neg hbw, if_neg (nI_pos (show w < 2 ^ 31 by omega))]
        by_cases h4 : nI (cn (dsX σ 0) (σ (8 + 2 * d)) i m) ≤ 0
        · have h5 : nI (cn (dsX σ 0) (σ (8 + 2 * d)) i m) ≤ nI (cn (dsX σ 0) (σ (8 + 2 * d)) w m) := Int32.le_trans h4 (nI_pos' (cb w))
          simp only [if_pos h4, if_pos h5]; exact skip
        · by_cases h5 : nI (cn (dsX σ 0) (σ (8 + 2 * d)) i m) ≤ nI (cn (dsX σ 0) (σ (8 + 2 * d)) w m)
          · simp only [if_neg h4, if_pos h5]; exact skip
          · simp only [if_neg h4, if_neg h5]; exact take
theorem eq_measures {σ : Mem} {μ : MMem} (hR : Rel σ μ) (p1 p2 : Int32) : ∃ r μ', f_X11_measures p1 p2 σ = some r ∧ f_X12_measures p1 p2 μ = some (r, μ') ∧ Rel σ μ' := by
  have hR1 := hR.t
  obtain ⟨n, hn⟩ := hR1.2.1.n
  have hM := hn.2.1
  have h6 := hn.1
  have hX : (dsX σ 0).1 0 = nI n := by rw [hR1.1]; exact hM
  rcases rng (p := p2) (n := 1) (by decide) 1 1 rfl rfl with ⟨w, hw, rfl, e1, e2⟩ | ⟨_, e1, e2⟩
  · rcases rowref hR1 p1 (s := 1) (by decide) with ⟨v, hv, e3, e4⟩ | ⟨d, N, rfl, hr, e3, e4⟩
    · refine ⟨v, uI μ 0 9 0, ?_, ?_, hR1⟩
      · rw [f_X11_measures, e1, b1s]
        simp only [jns]
        rw [if_neg ne10, show (1 : Int32) = nI 1 from rfl, e3, b1s, if_neg (neg0 hv)]
      · rw [f_X12_measures, bnds, e2, b1s]
        simp only [jns]
        rw [if_neg ne10, show (1 : Int32) = nI 1 from rfl, e4, b1s, if_neg (Int32.not_le.mpr hv)]
    · have e3 : f_X11_rowRefusal (nI d) 1 σ = some 0 := e3
      have e4 : f_X12_wrongSort (nI d) 1 (uI μ 0 9 0) = some 0 := e4
      have hd := hr.1
      have hN := hr.2.1
      have hbd : ¬ (nI d < 0 ∨ 8 ≤ (nI d).toNatClampNeg) := nI_in hd (by decide)
      have hcd := nI_clamp (show d < 2 ^ 31 by omega)
      have hX0 : f_X11_measures (nI d) (nI w) σ = b1 (f_X11_tellsMeasures d σ) fun r_9 => if r_9 = 0 then some (-13) else if nI w = 0 then b1 (f_X11_firstWrongMeasure d σ) fun r_15 => some r_15 else b1 (f_X11_ringMostWrong d σ) fun r_13 => some r_13 := by
        rw [f_X11_measures, e1, b1s]
        simp only [jns]
        rw [if_neg ne10, e3, b1s, if_pos rfl, atS hd, b1s, if_pos (show d < 9 by omega)]
      have hM0 : ∀ K53 K77 K212, f_X12_measures_L53 = K53 → f_X12_measures_L77 = K77 → f_X12_measures_L212 = K212 → f_X12_measures (nI d) (nI w) μ = if nI (N % 3) = 0 then K53 5000 0 (uI μ 0 9 0) fun _ σ_17 => K77 (nI d) 5000 (-4) 0 σ_17 fun x4_52 _ σ_54 => K212 5000 (-4) 0 σ_54 fun x5_69 _ σ_71 => if nI w = 0 then some (x4_52, σ_71) else some (x5_69, σ_71) else some (-13, uI μ 0 9 0) := by
        intro K53 K77 K212 q1 q2 q3
        rw [f_X12_measures, q1, q2, q3, bnds, e2, b1s]
        simp only [jns]
        rw [if_neg ne10, e4, b1s, if_pos (Int32.le_refl 0), if_neg hbd, hcd, hr.2.2.2.1, bnds, rm3 (by omega)]
      by_cases h3 : N % 3 = 0
      · obtain ⟨m, rfl⟩ : ∃ m, N = 3 * m := ⟨N / 3, by omega⟩
        obtain ⟨μ1, g1, g2, g3⟩ := zero13 (K := fun _ σ_17 => f_X12_measures_L77 (nI d) 5000 (-4) 0 σ_17 fun x4_52 _ σ_54 => f_X12_measures_L212 5000 (-4) 0 σ_54 fun x5_69 _ σ_71 => if nI w = 0 then some (x4_52, σ_71) else some (x5_69, σ_71)) 5000 0 (uI μ 0 9 0) (by omega) (by omega) (fun r hr => by omega)
        rw [nI_0] at g1
        have hM1 : f_X12_measures (nI d) (nI w) μ = f_X12_measures_L77 (nI d) 5000 (-4) 0 μ1 fun x4_52 _ σ_54 => f_X12_measures_L212 5000 (-4) 0 σ_54 fun x5_69 _ σ_71 => if nI w = 0 then some (x4_52, σ_71) else some (x5_69, σ_71) := by
          rw [hM0 _ _ _ rfl rfl rfl, h3, if_pos nI_0, g1]
        have hT0 : f_X11_tellsMeasures d σ = f_X11_tellsMeasures_L13 d σ 5000 0 fun _ => some 1 := by
          rw [f_X11_tellsMeasures, hr.2.2.1, bnds, rm3 (by omega), h3, if_pos nI_0]
        have m1 : ∀ c, c ≠ 13 → μ1 c = (uI μ 0 9 0) c := g2
        have ret : ∀ μ', (∀ c, c ≠ 13 → μ' c = (uI μ 0 9 0) c) → Rel σ μ' := fun μ' h => hR1.g ⟨dsM_c (fun i hi => h i (by omega)), h 5 (by decide), fun i hi => h i (by omega), by rw [h 0 (by decide)]⟩
        rcases meaL hR1.1 hM h6 hr m 0 5000 5000 (-4) μ1 (by omega) (by omega) (by omega) m1 ⟨rfl, fun r hr => by rw [g3 r hr]; rfl⟩ with ⟨k1, k2, x', μ', k3, k4, k5⟩ | ⟨k1, μ', k3, k4⟩
        · have hg : ∀ t, t < m → MeaT σ d n t := fun t ht => k2 t (by omega) ht
          have k3' : ∀ K, f_X12_measures_L77 (nI d) 5000 (-4) 0 μ1 K = K x' (nI (3 * m)) μ' := k3
          have k1' : f_X11_tellsMeasures d σ = some 1 := hT0.trans k1
          obtain ⟨z, j1, j2⟩ := worstL (μ := μ') hX h6 hr hg (by rw [k4 0 (by decide), ← M_q0]; exact hM) k5.2 5000 0 (-4) 0 (by omega) (by omega) (Or.inl ⟨rfl, rfl⟩)
          have j1' : f_X11_ringMostWrong d σ = some z := by rw [f_X11_ringMostWrong]; exact j1
          have j2' : ∀ K, f_X12_measures_L212 5000 (-4) 0 μ' K = K z (nI n) μ' := j2
          have j3 : f_X11_firstWrongMeasure d σ = some x' := by
            rw [f_X11_firstWrongMeasure, k5.1]
            exact firstL h6 hr hg m 0 5000 (by omega) (by omega) rfl
          by_cases hw0 : nI w = 0
          · refine ⟨x', μ', ?_, ?_, ret μ' k4⟩
            · rw [hX0, k1', b1s, if_neg ne10, if_pos hw0, j3, b1s]
            · rw [hM1, k3', j2', if_pos hw0]
          · refine ⟨z, μ', ?_, ?_, ret μ' k4⟩
            · rw [hX0, k1', b1s, if_neg ne10, if_neg hw0, j1', b1s]
            · rw [hM1, k3', j2', if_neg hw0]
        · have k3' : ∀ K, f_X12_measures_L77 (nI d) 5000 (-4) 0 μ1 K = some (-13, μ') := k3
          have k1' : f_X11_tellsMeasures d σ = some 0 := hT0.trans k1
          refine ⟨-13, μ', ?_, ?_, ret μ' k4⟩
          · rw [hX0, k1', b1s, if_pos rfl]
          · rw [hM1, k3']
      · refine ⟨-13, uI μ 0 9 0, ?_, ?_, hR1⟩
        · rw [hX0, f_X11_tellsMeasures, hr.2.2.1, bnds, rm3 (by omega), if_neg (nI_ne0 (by omega) (by omega)), b1s, if_pos rfl]
        · rw [hM0 _ _ _ rfl rfl rfl, if_neg (nI_ne0 (by omega) (by omega))]
  · refine ⟨-1, uI μ 0 9 0, ?_, ?_, hR1⟩
    · rw [f_X11_measures, e1, b1s]
      simp (decide := true) only [jns, if_true, if_false]
    · rw [f_X12_measures, bnds, e2, b1s]
      simp (decide := true) only [jns, if_true, if_false]
