/-! PURE, 11: rows of the shelves, and what they tell -/
/-- shelf d holds a row of N numbers, the same in both -/
def RowAt (σ : Mem) (μ : MMem) (d N : Nat) : Prop := d < 8 ∧ N ≤ 100 ∧ σ (7 + 2 * d) 5 = nI N ∧ (μ 18).1 d = nI N ∧ ∀ i, i < 100 → (μ 19).2 (100 * d + i) = (σ (8 + 2 * d) i).toInt64
theorem at_s {σ : Mem} {μ : MMem} {d N i : Nat} (h : RowAt σ μ d N) (hi : i < N) : f_X5_at d (nI i) σ = some (σ (8 + 2 * d) i) := by
  have hN := h.2.1
  rw [f_X5_at, h.2.2.1, if_neg (nI_pos (by omega)), if_neg (nI_ge hi (by omega)), if_neg (show ¬ (100 : Int32) ≤ nI i from nI_ge (a := i) (b := 100) (by omega) (by decide)), if_neg (nI_in (by omega) (by decide)), nI_clamp (by omega)]
theorem ix_s {d i : Nat} : (100 : Int32) * nI d + nI i = nI (100 * d + i) := by
  rw [show (100 : Int32) = nI 100 from rfl, pk_mul, nI_add]
theorem told_s {σ : Mem} {μ : MMem} {d N i : Nat} (h : RowAt σ μ d N) (hi : i < 100) : f_X12_told (nI d) (nI i) μ = some (σ (8 + 2 * d) i) := by
  have hd := h.1
  have hb := bad_i (n := 100 * d + i) (N := 800) (by omega) (by decide)
  simp only [f_X12_told, bnd, ix_s, nI_clamp (show 100 * d + i < 2 ^ 31 by omega), hb, if_false, h.2.2.2.2 i hi]
  congr 1
  exact Int32.toInt32_toInt64 _
theorem rowref {σ : Mem} {μ : MMem} (hR : Rel σ μ) (p : Int32) {s : Nat} (hs : s < 3) : (∃ v, v < 0 ∧ f_X11_rowRefusal p (nI s) σ = some v ∧ f_X12_wrongSort p (nI s) μ = some v) ∨
    ∃ d N, p = nI d ∧ RowAt σ μ d N ∧ f_X11_rowRefusal p (nI s) σ = some 0 ∧ f_X12_wrongSort p (nI s) μ = some 0 := by
  rcases rng (p := p) (n := 7) (by decide) 7 7 rfl rfl with ⟨d, hd, rfl, e1, e2⟩ | ⟨_, e1, e2⟩
  · have hc := nI_clamp (show d < 2 ^ 31 by omega)
    have h9 : d < 9 := by omega
    have hb := bad_i (show d < 8 by omega) (show 8 < 2 ^ 31 by decide)
    obtain ⟨s1, s2, s3, s4⟩ := hR.2.2.2 d (by omega)
    simp only [f_X11_rowRefusal, f_X12_wrongSort, f_X12_wrongRow, f_X11_isShelf, e1, e2, b1, if_neg ne10, atS (show d < 8 by omega), hb, hc, if_false, h9, f_X5_rowRefusal, or_true, if_true, s1]
    rcases s2 with e | e | e
    · rw [e]
      exact Or.inl ⟨-11, by decide, rfl, rfl⟩
    · rw [e]
      exact Or.inl ⟨-12, by decide, rfl, rfl⟩
    · obtain ⟨s', N, a1, a2, a3, a4, a5, a6, a7⟩ := s4 e
      rw [e, a3, a4]
      by_cases h : s' = s
      · subst h
        refine Or.inr ⟨d, N, rfl, ⟨by omega, a2, a5, a6, fun i hi => (a7 i hi).1⟩, ?_, ?_⟩
        · simp (decide := true) only [if_true, if_false]
        · simp (decide := true) only [if_true, if_false]
      · have h' : ¬ nI s' = nI s := fun z => h ((nI_eq (by omega) (by omega)).mp z)
        refine Or.inl ⟨-12, by decide, ?_, ?_⟩
        · simp (decide := true) only [if_true, if_false, if_neg h']
        · simp (decide := true) only [if_true, if_false, if_neg h']
  · simp only [f_X11_rowRefusal, f_X12_wrongSort, f_X12_wrongRow, f_X11_isShelf, e1, e2, b1, true_or, if_true]
    exact Or.inl ⟨-1, by decide, rfl, rfl⟩
/-- a row of pins: the t-th -/
def PinT (σ : Mem) (d n t : Nat) : Prop := ∃ j f r, j < 8 ∧ f < 10 ∧ r < n ∧ σ (8 + 2 * d) (3 * t) = nI j ∧ σ (8 + 2 * d) (3 * t + 1) = nI f ∧ σ (8 + 2 * d) (3 * t + 2) = nI r
theorem ring_in {σ : Mem} {k n : Nat} {p : Int32} (hn : (dsX σ k).1 0 = nI n) (h6 : n ≤ 6) : (∃ r, r < n ∧ p = nI r ∧ f_X0_has k p σ = some 1 ∧ f_X12_in p.toInt64 0 ((nI n - 1).toInt64) = some 1) ∨ (f_X0_has k p σ = some 0 ∧ f_X12_in p.toInt64 0 ((nI n - 1).toInt64) = some 0) := by
  rw [in_i, Int32.toInt_toInt64, pred_i n (by omega), Int64.toInt_zero]
  rcases rg (p := p) h6 with ⟨r, hr, rfl⟩ | h
  · refine Or.inl ⟨r, hr, rfl, has_yes hn hr h6, ?_⟩
    rw [nI_toInt (by omega), if_pos (by omega)]
  · refine Or.inr ⟨has_no hn h, ?_⟩
    rw [Int32.lt_iff_toInt_lt, Int32.le_iff_toInt_le, nI_toInt (by omega), Int32.toInt_zero] at h
    rw [if_neg (by omega)]
theorem rm3 {c : Nat} (hc : c < 2 ^ 31) : nI c - nI c / 3 * 3 = nI (c % 3) := pk_rem (d := 3) hc (by decide) (by decide)
theorem dead_p {p : Int32} {μ : MMem} {n : Nat} {x : Int32} (hp : ¬ (p < 0 ∨ 8 ≤ p.toNatClampNeg)) : f_X12_wrongPins_L44 p μ (n + 1) 0 x (fun a _ => if a = 0 then some (-13) else some 0) = some (-13) := by
  rw [f_X12_wrongPins_L44, if_neg hp]
  by_cases h : (μ 18).1 p.toNatClampNeg ≤ x
  · rw [if_pos h]; rfl
  · rw [if_neg h]; rfl
theorem pinsL {σ : Mem} {μ : MMem} {d N n : Nat} (hX : (dsX σ 0).1 0 = nI n) (hM : (dsM μ).1 0 = nI n) (h6 : n ≤ 6) (hr : RowAt σ μ d N) : ∀ (m t f1 f2 : Nat), 3 * t + 3 * m = N → m < f1 → 3 * m < f2 →
    (f_X11_tellsPins_L22 d σ f1 (nI (3 * t)) (fun _ => some 1) = some 1 ∧ f_X12_wrongPins_L44 (nI d) μ f2 1 (nI (3 * t)) (fun a _ => if a = 0 then some (-13) else some 0) = some 0 ∧ ∀ t', t ≤ t' → t' < t + m → PinT σ d n t') ∨
    (f_X11_tellsPins_L22 d σ f1 (nI (3 * t)) (fun _ => some 1) = some 0 ∧ f_X12_wrongPins_L44 (nI d) μ f2 1 (nI (3 * t)) (fun a _ => if a = 0 then some (-13) else some 0) = some (-13)) := by
  have hd := hr.1
  have hN := hr.2.1
  have hcd := nI_clamp (show d < 2 ^ 31 by omega)
  have hbd := bad_i hd (show 8 < 2 ^ 31 by decide)
  have hp : ¬ (nI d < 0 ∨ 8 ≤ (nI d).toNatClampNeg) := nI_in hd (by decide)
  rw [M_q0] at hM
  intro m
  induction m with
  | zero =>
    intro t f1 f2 h1 h2 h3
    obtain ⟨f1, rfl⟩ : ∃ k, f1 = k + 1 := ⟨f1 - 1, by omega⟩
    obtain ⟨f2, rfl⟩ : ∃ k, f2 = k + 1 := ⟨f2 - 1, by omega⟩
    refine Or.inl ⟨?_, ?_, fun t' a b => by omega⟩
    · rw [f_X11_tellsPins_L22, hr.2.2.1, if_pos (nI_le (by omega) (by omega))]
    · rw [f_X12_wrongPins_L44, if_neg hp, hcd, hr.2.2.2.1, if_pos (nI_le (by omega) (by omega)), if_neg ne10]
  | succ m ih =>
    intro t f1 f2 h1 h2 h3
    obtain ⟨f1, rfl⟩ : ∃ k, f1 = k + 1 := ⟨f1 - 1, by omega⟩
    obtain ⟨f2, rfl⟩ : ∃ k, f2 = k + 3 := ⟨f2 - 3, by omega⟩
    have ge : ∀ i, i < N → ¬ nI N ≤ nI i := fun i hi => nI_ge hi (by omega)
    have st : ∀ (i k : Nat), i < N → f_X12_wrongPins_L44 (nI d) μ (k + 1) 1 (nI i) (fun a _ => if a = 0 then some (-13) else some 0) =
        if nI (i % 3) = 0 then b1 (f_X12_in (σ (8 + 2 * d) i).toInt64 0 7) fun r => f_X12_wrongPins_L44 (nI d) μ k r (nI (i + 1)) (fun a _ => if a = 0 then some (-13) else some 0)
        else if nI (i % 3) = 1 then b1 (f_X12_in (σ (8 + 2 * d) i).toInt64 0 9) fun r => f_X12_wrongPins_L44 (nI d) μ k r (nI (i + 1)) (fun a _ => if a = 0 then some (-13) else some 0)
        else b1 (f_X12_in (σ (8 + 2 * d) i).toInt64 0 ((nI n - 1).toInt64)) fun r => f_X12_wrongPins_L44 (nI d) μ k r (nI (i + 1)) (fun a _ => if a = 0 then some (-13) else some 0) := by
      intro i k hi
      rw [f_X12_wrongPins_L44, if_neg hp, hcd, hr.2.2.2.1, if_neg (ge i hi), if_neg ne10]
      simp only [bnd, ix_s, nI_clamp (show 100 * d + i < 2 ^ 31 by omega), bad_i (show 100 * d + i < 800 by omega) (show 800 < 2 ^ 31 by decide), if_false, hr.2.2.2.2 i (by omega), rm3 (show i < 2 ^ 31 by omega), nI_1, hM]
    rw [f_X11_tellsPins_L22, hr.2.2.1, if_neg (ge (3 * t) (by omega)), at_s hr (show 3 * t < N by omega), st (3 * t) (f2 + 2) (by omega), show 3 * t % 3 = 0 by omega, if_pos (show nI 0 = 0 from rfl)]
    simp only [b1, jn]
    rcases rng (p := σ (8 + 2 * d) (3 * t)) (n := 7) (by decide) 7 7 rfl rfl with ⟨j, hj, ej, e1, e2⟩ | ⟨_, e1, e2⟩
    · simp only [e1, e2, if_neg ne10, nI_add, show (1 : Int32) = nI 1 from rfl, show (2 : Int32) = nI 2 from rfl, show (3 : Int32) = nI 3 from rfl]
      rw [at_s hr (show 3 * t + 1 < N by omega), show nI 1 = 1 from rfl, st (3 * t + 1) (f2 + 1) (by omega), show (3 * t + 1) % 3 = 1 by omega, if_neg (show ¬ nI 1 = 0 by decide), if_pos (show nI 1 = 1 from rfl)]
      rcases rng (p := σ (8 + 2 * d) (3 * t + 1)) (n := 9) (by decide) 9 9 rfl rfl with ⟨f, hf, ef, e3, e4⟩ | ⟨_, e3, e4⟩
      · simp only [e3, e4, b1, if_neg ne10]
        rw [at_s hr (show 3 * t + 2 < N by omega), show 3 * t + 1 + 1 = 3 * t + 2 from rfl, st (3 * t + 2) f2 (by omega), show (3 * t + 2) % 3 = 2 by omega, if_neg (show ¬ nI 2 = 0 by decide), if_neg (show ¬ nI 2 = 1 by decide)]
        rcases ring_in (p := σ (8 + 2 * d) (3 * t + 2)) hX h6 with ⟨r, hrr, er, e5, e6⟩ | ⟨e5, e6⟩
        · simp only [e5, e6, b1, if_neg ne10]
          rw [show 3 * t + 2 + 1 = 3 * (t + 1) by omega]
          rcases ih (t + 1) f1 f2 (by omega) (by omega) (by omega) with ⟨g1, g2, g3⟩ | ⟨g1, g2⟩
          · refine Or.inl ⟨g1, g2, fun t' a b => ?_⟩
            by_cases e : t' = t
            · subst e
              exact ⟨j, f, r, by omega, by omega, hrr, ej, ef, er⟩
            · exact g3 t' (by omega) (by omega)
          · exact Or.inr ⟨g1, g2⟩
        · simp only [e5, e6, b1, if_true]
          obtain ⟨f2, rfl⟩ : ∃ k, f2 = k + 1 := ⟨f2 - 1, by omega⟩
          exact Or.inr ⟨by first | rfl | trivial, dead_p hp⟩
      · simp only [e3, e4, b1, if_true]
        exact Or.inr ⟨by first | rfl | trivial, dead_p hp⟩
    · simp only [e1, e2, if_true]
      exact Or.inr ⟨by first | rfl | trivial, dead_p hp⟩
theorem pinsrow {σ : Mem} {μ : MMem} {n : Nat} (hR : Rel σ μ) (hn : OkN (dsM μ) n) (p : Int32) : (∃ v, v < 0 ∧ f_X11_pinsRefusal p σ = some v ∧ f_X12_wrongPins p μ = some v) ∨
    ∃ d m, p = nI d ∧ RowAt σ μ d (3 * m) ∧ m ≤ 6 ∧ f_X11_pinsRefusal p σ = some 0 ∧ f_X12_wrongPins p μ = some 0 ∧ ∀ t, t < m → PinT σ d n t := by
  have hX : (dsX σ 0).1 0 = nI n := by rw [hR.1]; exact hn.2.1
  unfold f_X11_pinsRefusal f_X12_wrongPins
  rcases rowref hR p (s := 0) (by decide) with ⟨v, hv, e1, e2⟩ | ⟨d, N, rfl, hr, e1, e2⟩
  · have e1 : f_X11_rowRefusal p 0 σ = some v := e1
    have e2 : f_X12_wrongSort p 0 μ = some v := e2
    simp only [e1, e2, b1, if_neg (show ¬ v = 0 from fun z => absurd hv (by rw [z]; decide)), if_neg (Int32.not_le.mpr hv)]
    exact Or.inl ⟨v, hv, rfl, rfl⟩
  · have e1 : f_X11_rowRefusal (nI d) 0 σ = some 0 := e1
    have e2 : f_X12_wrongSort (nI d) 0 μ = some 0 := e2
    have hd := hr.1
    have hN := hr.2.1
    have hp : ¬ (nI d < 0 ∨ 8 ≤ (nI d).toNatClampNeg) := nI_in hd (by decide)
    have hcd := nI_clamp (show d < 2 ^ 31 by omega)
    simp only [e1, e2, b1, if_true, Int32.le_refl, atS hd, if_pos (show d < 9 by omega), f_X11_tellsPins, bnd, jn, hcd, hr.2.2.1, hr.2.2.2.1, rm3 (show N < 2 ^ 31 by omega)]
    rw [hcd] at hp
    simp only [if_neg hp]
    by_cases h3 : N % 3 = 0
    · obtain ⟨m, rfl⟩ : ∃ m, N = 3 * m := ⟨N / 3, by omega⟩
      rw [h3]
      simp only [if_pos (show nI 0 = 0 from rfl)]
      by_cases h18 : 3 * m ≤ 18
      · simp only [if_pos (show nI (3 * m) ≤ 18 from nI_le (b := 18) h18 (by decide)), if_neg (show ¬ (19 : Int32) ≤ nI (3 * m) from nI_ge (b := 19) (by omega) (by decide))]
        rcases pinsL hX hn.2.1 hn.1 hr m 0 5000 5000 (by omega) (by omega) (by omega) with ⟨g1, g2, g3⟩ | ⟨g1, g2⟩
        · have g1 : f_X11_tellsPins_L22 d σ 5000 0 (fun _ => some 1) = some 1 := g1
          have g2 : f_X12_wrongPins_L44 (nI d) μ 5000 1 0 (fun a _ => if a = 0 then some (-13) else some 0) = some 0 := g2
          simp only [g1, g2, if_neg ne10]
          exact Or.inr ⟨d, m, rfl, hr, by omega, by first | rfl | trivial, by first | rfl | trivial, fun t ht => g3 t (by omega) (by omega)⟩
        · have g1 : f_X11_tellsPins_L22 d σ 5000 0 (fun _ => some 1) = some 0 := g1
          have g2 : f_X12_wrongPins_L44 (nI d) μ 5000 1 0 (fun a _ => if a = 0 then some (-13) else some 0) = some (-13) := g2
          simp only [g1, g2, if_true]
          exact Or.inl ⟨-13, by decide, rfl, rfl⟩
      · have g2 := dead_p (p := nI d) (μ := μ) (n := 4999) (x := 0) (nI_in hd (by decide))
        simp only [if_neg (show ¬ nI (3 * m) ≤ 18 from nI_ge (a := 18) (by omega) (by omega)), if_pos (show (19 : Int32) ≤ nI (3 * m) from nI_le (a := 19) (by omega) (by omega)), if_true, g2]
        exact Or.inl ⟨-13, by decide, rfl, rfl⟩
    · have g2 := dead_p (p := nI d) (μ := μ) (n := 4999) (x := 0) (nI_in hd (by decide))
      simp only [if_neg (show ¬ nI (N % 3) = 0 from nI_ne0 (by omega) (by omega)), if_true, g2]
      exact Or.inl ⟨-13, by decide, rfl, rfl⟩
