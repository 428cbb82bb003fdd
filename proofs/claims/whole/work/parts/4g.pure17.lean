/-! PURE, 17: put, row, copy, shape -/
theorem pred_g {n : Nat} (h : n < 2 ^ 31) : (nI n - 1).toInt = (n : Int) - 1 := by
  by_cases z : n = 0
  · subst z; decide
  · rw [nI_p n (by omega), nI_toInt (by omega)]; omega
/-- a place of a row -/
theorem plc {p : Int32} {n : Nat} (hn : n < 2 ^ 31) : (∃ i, i < n ∧ p = nI i ∧ f_X12_in p.toInt64 0 ((nI n - 1).toInt64) = some 1) ∨ ((p < 0 ∨ nI n ≤ p) ∧ f_X12_in p.toInt64 0 ((nI n - 1).toInt64) = some 0) := by
  rw [in_i, Int32.toInt_toInt64, pred_g hn, Int64.toInt_zero]
  by_cases h1 : p < 0
  · refine Or.inr ⟨Or.inl h1, ?_⟩
    rw [Int32.lt_iff_toInt_lt, Int32.toInt_zero] at h1
    rw [if_neg (by omega)]
  · obtain ⟨j, hj, rfl⟩ := nI_of h1
    rw [nI_toInt hj]
    by_cases h2 : j < n
    · exact Or.inl ⟨j, h2, rfl, by rw [if_pos (by omega)]⟩
    · exact Or.inr ⟨Or.inr (nI_le (by omega) hj), by rw [if_neg (by omega)]⟩
theorem places {σ : Mem} {d N : Nat} (hN : N ≤ 100) (h5 : σ (7 + 2 * d) 5 = nI N) (p q : Int32) :
    (∃ i k, p = nI i ∧ q = nI k ∧ i + k ≤ N ∧ f_X5_hasPlaces d p q σ = some 1) ∨ ((p < 0 ∨ q < 0 ∨ nI N < q ∨ nI N - q < p) ∧ f_X5_hasPlaces d p q σ = some 0) := by
  by_cases h1 : p < 0
  · exact Or.inr ⟨Or.inl h1, by rw [f_X5_hasPlaces, if_pos h1]⟩
  by_cases h2 : q < 0
  · exact Or.inr ⟨Or.inr (Or.inl h2), by rw [f_X5_hasPlaces, if_neg h1, if_pos h2]⟩
  by_cases h3 : nI N < q
  · exact Or.inr ⟨Or.inr (Or.inr (Or.inl h3)), by rw [f_X5_hasPlaces, if_neg h1, if_neg h2, h5, if_pos h3]⟩
  by_cases h4 : nI N - q < p
  · exact Or.inr ⟨Or.inr (Or.inr (Or.inr h4)), by rw [f_X5_hasPlaces, if_neg h1, if_neg h2, h5, if_neg h3, if_pos h4]⟩
  have h5' : f_X5_hasPlaces d p q σ = some 1 := by rw [f_X5_hasPlaces, if_neg h1, if_neg h2, h5, if_neg h3, if_neg h4]
  obtain ⟨i, hi, rfl⟩ := nI_of h1
  obtain ⟨k, hk, rfl⟩ := nI_of h2
  rw [nI_ltI (by omega) hk] at h3
  rw [pk_sub (by omega), nI_ltI (by omega) hi] at h4
  exact Or.inl ⟨i, k, rfl, rfl, by omega, h5'⟩
theorem place1 {σ : Mem} {d N i : Nat} (hN : N ≤ 100) (h5 : σ (7 + 2 * d) 5 = nI N) (hi : i < N) : f_X5_hasPlaces d (nI i) 1 σ = some 1 := by
  rw [f_X5_hasPlaces, if_neg (nI_pos (by omega)), if_neg (show ¬ (1 : Int32) < 0 by decide), h5, if_neg (show ¬ nI N < 1 from nI_nlt (a := N) (b := 1) (by omega) (by omega)), nI_p N (by omega), if_neg (nI_nlt (by omega) (by omega))]
theorem place0 {σ : Mem} {d N : Nat} {p : Int32} (hN : N ≤ 100) (h5 : σ (7 + 2 * d) 5 = nI N) (h : p < 0 ∨ nI N ≤ p) : f_X5_hasPlaces d p 1 σ = some 0 := by
  rcases places hN h5 p 1 with ⟨i, k, rfl, e, h2, _⟩ | ⟨_, h2⟩
  · exfalso
    have hk : 1 = k := (nI_eq (a := 1) (b := k) (by decide) (by omega)).mp e
    rcases h with h | h
    · exact nI_pos (by omega) h
    · rw [nI_leI (by omega) (by omega)] at h; omega
  · exact h2
theorem rowany {σ : Mem} {μ : MMem} (hR : Rel σ μ) (p : Int32) : (f_X11_isShelf p = some 0 ∧ f_X12_wrongRow p μ = some (-1)) ∨
    (∃ d v, d < 8 ∧ p = nI d ∧ v < 0 ∧ f_X11_isShelf p = some 1 ∧ f_X5_rowRefusal d σ = some v ∧ f_X12_wrongRow p μ = some v) ∨
    ∃ d s N, p = nI d ∧ s < 3 ∧ RowAt σ μ d N ∧ f_X11_isShelf p = some 1 ∧ f_X5_rowRefusal d σ = some 0 ∧ f_X12_wrongRow p μ = some 0 ∧ σ (7 + 2 * d) 1 = 2 ∧ (μ 14).1 d = 2 ∧ σ (7 + 2 * d) 4 = nI s ∧ (μ 17).1 d = nI s ∧ ∀ i, i < 100 → InSort (nI s) (σ (8 + 2 * d) i) := by
  rcases rng (p := p) (n := 7) (by decide) 7 7 rfl rfl with ⟨d, hd, rfl, e1, e2⟩ | ⟨_, e1, e2⟩
  · have hc := nI_clamp (show d < 2 ^ 31 by omega)
    have hbn : ¬ (nI d < 0 ∨ 8 ≤ d) := fun z => z.elim (nI_pos (by omega)) (by omega)
    obtain ⟨s1, s2, s3, s4⟩ := hR.2.2.2 d (by omega)
    have i1 : f_X11_isShelf (nI d) = some 1 := by rw [f_X11_isShelf, e1, b1s, if_pos (Or.inr rfl)]
    rcases s2 with e | e | e
    · refine Or.inr (Or.inl ⟨d, -11, by omega, rfl, by decide, i1, ?_, ?_⟩)
      · rw [f_X5_rowRefusal, s1, e, if_pos rfl]
      · rw [f_X12_wrongRow, e2, b1s, if_neg ne10, hc, if_neg hbn, e, if_pos rfl]
    · refine Or.inr (Or.inl ⟨d, -12, by omega, rfl, by decide, i1, ?_, ?_⟩)
      · rw [f_X5_rowRefusal, s1, e, if_neg ne10, if_neg (show ¬ (1 : Int32) = 2 by decide)]
      · rw [f_X12_wrongRow, e2, b1s, if_neg ne10, hc, if_neg hbn, e, if_neg ne10, if_neg hbn, if_neg (show ¬ (1 : Int32) = 2 by decide)]
    · obtain ⟨s', N, a1, a2, a3, a4, a5, a6, a7⟩ := s4 e
      refine Or.inr (Or.inr ⟨d, s', N, rfl, a1, ⟨by omega, a2, a5, a6, fun i hi => (a7 i hi).1⟩, i1, ?_, ?_, s1.trans e, e, a3, a4, fun i hi => (a7 i hi).2⟩)
      · rw [f_X5_rowRefusal, s1, e, if_neg (show ¬ (2 : Int32) = 0 by decide), if_pos rfl]
      · rw [f_X12_wrongRow, e2, b1s, if_neg ne10, hc, if_neg hbn, e, if_neg (show ¬ (2 : Int32) = 0 by decide), if_neg hbn, if_pos rfl]
  · refine Or.inl ⟨?_, ?_⟩
    · rw [f_X11_isShelf, e1, b1s, if_pos (Or.inl rfl)]
    · rw [f_X12_wrongRow, e2, b1s, if_pos rfl]
/-- what stays of a number in a sort -/
def nr (s v : Int32) : Int32 := if s = 0 then v.toInt8.toInt32 else if s = 1 then v.toInt16.toInt32 else v
theorem nr_in {s v : Int32} : InSort s (nr s v) := by
  refine ⟨fun h => ?_, fun h => ?_⟩
  · unfold nr; rw [if_pos h]; simp
  · unfold nr; rw [if_neg (by rw [h]; decide), if_pos h]; simp
theorem putAt_s {σ : Mem} {d N s i : Nat} {v : Int32} (hN : N ≤ 100) (h5 : σ (7 + 2 * d) 5 = nI N) (h4 : σ (7 + 2 * d) 4 = nI s) (hi : i < N) : f_X5_putAt d (nI i) v σ = some (uX σ (8 + 2 * d) i (nr (nI s) v)) := by
  rw [f_X5_putAt, if_neg (nI_pos (by omega)), h5, if_neg (nI_ge hi (by omega)), if_neg (show ¬ (100 : Int32) ≤ nI i from nI_ge (a := i) (b := 100) (by omega) (by decide)), h4]
  have hn := nI_in (show i < 100 by omega) (by decide)
  have hc := nI_clamp (show i < 2 ^ 31 by omega)
  unfold nr
  by_cases h0 : nI s = 0
  · rw [if_pos h0, if_pos h0, bnds, if_neg hn, hc, bnds]
  · rw [if_neg h0, if_neg h0]
    by_cases h1 : nI s = 1
    · rw [if_pos h1, if_pos h1, bnds, if_neg hn, hc, bnds]
    · rw [if_neg h1, if_neg h1, if_neg hn, hc, bnds]
theorem narrowed_s {s v : Int32} : f_X12_narrowed v s = some (nr s v).toInt64 := by
  unfold f_X12_narrowed nr
  by_cases h0 : s = 0
  · rw [if_pos h0, if_pos h0]
  · rw [if_neg h0, if_neg h0]
    by_cases h1 : s = 1
    · rw [if_pos h1, if_pos h1]
    · rw [if_neg h1, if_neg h1]
theorem neg0 {v : Int32} (h : v < 0) : ¬ v = 0 := fun z => absurd h (by rw [z]; decide)
theorem eq_put {σ : Mem} {μ : MMem} (hR : Rel σ μ) (p1 p2 p3 : Int32) : ∃ r σ' μ', f_X11_put p1 p2 p3 σ = some (r, σ') ∧ f_X12_put p1 p2 p3 μ = some (r, μ') ∧ Rel σ' μ' := by
  have hR1 := hR.t
  rcases rowany hR1 p1 with ⟨e1, e2⟩ | ⟨d, v, hd, rfl, hv, e1, e2, e3⟩ | ⟨d, s, N, rfl, hs, hr, e1, e2, e3, t1, t2, t3, t4, t5⟩
  · refine ⟨-1, σ, uI μ 0 9 0, ?_, ?_, hR1⟩
    · rw [f_X11_put, e1, b1s, if_pos rfl]
    · rw [f_X12_put, bnds, e2, b1s, if_neg (by decide)]
  · refine ⟨v, σ, uI μ 0 9 0, ?_, ?_, hR1⟩
    · rw [f_X11_put, e1, b1s, if_neg ne10, atS hd, b1s, if_pos (show d < 9 by omega), e2, b1s, if_neg (neg0 hv)]
    · rw [f_X12_put, bnds, e3, b1s, if_neg (Int32.not_le.mpr hv)]
  · have hd := hr.1
    have hN := hr.2.1
    have h5 := hr.2.2.1
    have hcd := nI_clamp (show d < 2 ^ 31 by omega)
    have hbn : ¬ (nI d < 0 ∨ 8 ≤ d) := fun z => z.elim (nI_pos (by omega)) (by omega)
    rcases plc (p := p2) (n := N) (by omega) with ⟨i, hi, rfl, e4⟩ | ⟨ho, e4⟩
    · refine ⟨0, uX σ (8 + 2 * d) i (nr (nI s) p3), uL (uI μ 0 9 0) 19 (100 * d + i) (nr (nI s) p3).toInt64, ?_, ?_, ?_⟩
      · rw [f_X11_put, e1, b1s, if_neg ne10, atS hd, b1s, if_pos (show d < 9 by omega), e2, b1s, if_pos rfl, place1 hN h5 hi, b1s, if_neg ne10, putAt_s hN h5 t3 hi, b1s]
      · rw [f_X12_put, bnds, e3, b1s, if_pos (Int32.le_refl 0), hcd, if_neg hbn, hr.2.2.2.1, bnds, e4, b1s, if_neg ne10, if_neg hbn, bnds, t4, narrowed_s, b1s, bnds, ix_s, if_neg (nI_in (by omega) (by decide)), nI_clamp (by omega), bnds]
      · refine hR1.shelf (d := d) (fun c _ b => uX_ne b) (fun j hj => uL_ne (by omega)) (fun j _ h2 d' _ _ => by rw [uL_ne (by omega)]) (fun d' i' _ h2 h3 => by rw [rdL, if_neg (by omega)]) ?_
        unfold RelS
        rw [uX_ne (show 7 + 2 * d ≠ 8 + 2 * d by omega), uL_ne (show 14 ≠ 19 by decide), uL_ne (show 15 ≠ 19 by decide), uL_ne (show 16 ≠ 19 by decide), uL_ne (show 17 ≠ 19 by decide), uL_ne (show 18 ≠ 19 by decide), t1, t2]
        refine ⟨rfl, Or.inr (Or.inr rfl), fun w => absurd w (by decide), fun _ => ⟨s, N, hs, hN, t3, t4, h5, hr.2.2.2.1, fun j hj => ?_⟩⟩
        rw [rdX, rdL]
        by_cases e : j = i
        · subst e
          rw [if_pos (show 100 * d + j = 100 * d + j from rfl), if_pos (show 8 + 2 * d = 8 + 2 * d ∧ j = j from ⟨rfl, rfl⟩)]
          exact ⟨rfl, nr_in⟩
        · rw [if_neg (show ¬ 100 * d + j = 100 * d + i by omega), if_neg (fun z => e z.2)]
          exact ⟨hr.2.2.2.2 j hj, t5 j hj⟩
    · refine ⟨-13, σ, uI μ 0 9 0, ?_, ?_, hR1⟩
      · rw [f_X11_put, e1, b1s, if_neg ne10, atS hd, b1s, if_pos (show d < 9 by omega), e2, b1s, if_pos rfl, place0 hN h5 ho, b1s, if_pos rfl]
      · rw [f_X12_put, bnds, e3, b1s, if_pos (Int32.le_refl 0), hcd, if_neg hbn, hr.2.2.2.1, bnds, e4, b1s, if_pos rfl]
theorem shelfno {p : Int32} (h : f_X11_within p 0 7 = some 0) : f_X11_isShelf p = some 0 := by rw [f_X11_isShelf, h, b1s, if_pos (Or.inl rfl)]
theorem shelfyes {p : Int32} (h : f_X11_within p 0 7 = some 1) : f_X11_isShelf p = some 1 := by rw [f_X11_isShelf, h, b1s, if_pos (Or.inr rfl)]
theorem eq_row {σ : Mem} {μ : MMem} (hR : Rel σ μ) (p1 p2 p3 : Int32) : ∃ r σ' μ', f_X11_row p1 p2 p3 σ = some (r, σ') ∧ f_X12_row p1 p2 p3 μ = some (r, μ') ∧ Rel σ' μ' := by
  have hR1 := hR.t
  rcases rng (p := p1) (n := 7) (by decide) 7 7 rfl rfl with ⟨d, hd, rfl, e1, e2⟩ | ⟨_, e1, e2⟩
  · have hcd := nI_clamp (show d < 2 ^ 31 by omega)
    have hbn : ¬ (nI d < 0 ∨ 8 ≤ d) := fun z => z.elim (nI_pos (by omega)) (by omega)
    rcases rng (p := p2) (n := 2) (by decide) 2 2 rfl rfl with ⟨s, hs, rfl, e3, e4⟩ | ⟨_, e3, e4⟩
    · by_cases h100 : p3 ≤ 100
      · by_cases h0 : 0 ≤ p3
        · obtain ⟨n, hn, rfl⟩ := nI_of2 (M := 100) (n := 100) (by decide) (Int32.not_lt.mpr h0) h100
          obtain ⟨σ', g1, g2, g3⟩ := holdRow_s (σ := σ) (d := d) (s := s) hn
          obtain ⟨L, hL⟩ : ∃ L, L = @f_X12_row_L68 := ⟨_, rfl⟩
          obtain ⟨μ', k1, k2, k3, k4⟩ := zeroM0 (d := d) (by omega) (uI (uI (uI (uI μ 0 9 0) 14 d 2) 17 d (nI s)) 18 d (nI n)) hL.symm
          refine ⟨0, σ', μ', ?_, ?_, row_rel hR1 (by omega) (by omega) hn g2 g3 k2 k3 k4⟩
          · rw [f_X11_row, shelfyes e1, b1s, if_neg ne10, e3, b1s, if_neg ne10, if_pos h100, if_pos h0, atS (by omega), b1s, if_pos (show d < 9 by omega), g1, b1s]
          · rw [f_X12_row, ← hL, bnds, e2, b1s, if_neg ne10, e4, b1s, if_neg ne10, if_pos h100, if_pos h0, hcd, if_neg hbn, bnds, if_neg hbn, bnds, if_neg hbn, bnds]
            exact k1
        · refine ⟨-14, σ, uI μ 0 9 0, ?_, ?_, hR1⟩
          · rw [f_X11_row, shelfyes e1, b1s, if_neg ne10, e3, b1s, if_neg ne10, if_pos h100, if_neg h0]
          · rw [f_X12_row, bnds, e2, b1s, if_neg ne10, e4, b1s, if_neg ne10, if_pos h100, if_neg h0]
      · refine ⟨-1, σ, uI μ 0 9 0, ?_, ?_, hR1⟩
        · rw [f_X11_row, shelfyes e1, b1s, if_neg ne10, e3, b1s, if_neg ne10, if_neg h100]
        · rw [f_X12_row, bnds, e2, b1s, if_neg ne10, e4, b1s, if_neg ne10, if_neg h100]
    · refine ⟨-1, σ, uI μ 0 9 0, ?_, ?_, hR1⟩
      · rw [f_X11_row, shelfyes e1, b1s, if_neg ne10, e3, b1s, if_pos rfl]
      · rw [f_X12_row, bnds, e2, b1s, if_neg ne10, e4, b1s, if_pos rfl]
  · refine ⟨-1, σ, uI μ 0 9 0, ?_, ?_, hR1⟩
    · rw [f_X11_row, shelfno e1, b1s, if_pos rfl]
    · rw [f_X12_row, bnds, e2, b1s, if_pos rfl]
theorem eq_shape {σ : Mem} {μ : MMem} (hR : Rel σ μ) (p1 p2 : Int32) : ∃ r μ', f_X11_shape p1 p2 σ = some r ∧ f_X12_shape p1 p2 μ = some (r, μ') ∧ Rel σ μ' := by
  have hR1 := hR.t
  obtain ⟨n, hn⟩ := hR1.2.1.n
  have hM := hn.2.1
  have hX : (dsX σ 0).1 0 = nI n := by rw [hR1.1]; exact hM
  rcases rg (p := p1) hn.1 with ⟨r, hr, rfl⟩ | ho
  · have h6 := hn.1
    have hr6 : r < 6 := by omega
    have hbn : ¬ (nI r < 0 ∨ 6 ≤ (nI r).toNatClampNeg) := nI_in hr6 (by decide)
    rcases rng (p := p2) (n := 9) (by decide) 9 9 rfl rfl with ⟨j, hj, rfl, e1, e2⟩ | ⟨_, e1, e2⟩
    · refine ⟨(dsM (uI μ 0 9 0)).2 r 1 + nI j - (dsM (uI μ 0 9 0)).1 1 - (dsM (uI μ 0 9 0)).2 r 0, uI μ 0 9 0, ?_, ?_, hR1⟩
      · rw [f_X11_shape, has_yes hX hr hn.1, b1s, if_neg ne10, e1, b1s, if_neg ne10, get1 hr6, b1s, get0 hr6, b1s, ← hR1.1]
        rfl
      · rw [f_X12_shape, bnds, isRing_y hM hr hn.1, b1s, if_neg ne10, e2, b1s, if_neg ne10, if_neg hbn, if_neg hbn, nI_clamp (by omega), M_v1 hr6, M_v0 hr6, M_q1]
    · refine ⟨-1000000001, uI μ 0 9 0, ?_, ?_, hR1⟩
      · rw [f_X11_shape, has_yes hX hr hn.1, b1s, if_neg ne10, e1, b1s, if_pos rfl]
      · rw [f_X12_shape, bnds, isRing_y hM hr hn.1, b1s, if_neg ne10, e2, b1s, if_pos rfl]
  · refine ⟨-1000000001, uI μ 0 9 0, ?_, ?_, hR1⟩
    · rw [f_X11_shape, has_no hX ho, b1s, if_pos rfl]
    · rw [f_X12_shape, bnds, isRing_n hM ho hn.1, b1s, if_pos rfl]
