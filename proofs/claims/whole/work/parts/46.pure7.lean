/-! PURE, 7: the frames of Rel; ring, line, may, pin, ease, lacks, image, restore, minutes -/
theorem rng {p : Int32} {n : Nat} (hn : n < 2 ^ 31) (a : Int32) (b : Int64) (ha : a = nI n) (hb : b.toInt = n) :
    (∃ j, j ≤ n ∧ p = nI j ∧ f_X11_within p 0 a = some 1 ∧ f_X12_in p.toInt64 0 b = some 1) ∨ ((p < 0 ∨ nI n < p) ∧ f_X11_within p 0 a = some 0 ∧ f_X12_in p.toInt64 0 b = some 0) := by
  subst ha
  rw [within_i, in_i, hb, nI_toInt hn, Int64.toInt_zero, Int32.toInt_zero]
  by_cases h1 : p < 0
  · refine Or.inr ⟨Or.inl h1, ?_⟩
    rw [Int32.lt_iff_toInt_lt, Int32.toInt_zero] at h1
    rw [if_neg (by omega)]
    exact ⟨rfl, rfl⟩
  · by_cases h2 : nI n < p
    · refine Or.inr ⟨Or.inr h2, ?_⟩
      rw [Int32.lt_iff_toInt_lt, nI_toInt hn] at h2
      rw [if_neg (by omega)]
      exact ⟨rfl, rfl⟩
    · obtain ⟨j, hj, rfl⟩ := nI_of2 (M := nI n) (n := n) (nI_toInt hn) h1 (Int32.not_lt.mp h2)
      refine Or.inl ⟨j, hj, rfl, ?_⟩
      rw [nI_toInt (by omega), if_pos (by omega)]
      exact ⟨rfl, rfl⟩
theorem rg {p : Int32} {n : Nat} (h6 : n ≤ 6) : (∃ r, r < n ∧ p = nI r) ∨ (p < 0 ∨ nI n ≤ p) := by
  by_cases h1 : p < 0
  · exact Or.inr (Or.inl h1)
  · by_cases h2 : nI n ≤ p
    · exact Or.inr (Or.inr h2)
    · obtain ⟨j, hj, rfl⟩ := nI_of h1
      rw [nI_leI (by omega) hj] at h2
      exact Or.inl ⟨j, by omega, rfl⟩
theorem RelS.fr {σ σ' : Mem} {μ μ' : MMem} {d : Nat} (h : RelS σ μ d) (h1 : σ' (7 + 2 * d) = σ (7 + 2 * d)) (h2 : σ' (8 + 2 * d) = σ (8 + 2 * d)) (hm : ∀ i, 13 < i → μ' i = μ i) : RelS σ' μ' d := by
  unfold RelS
  rw [h1, h2, hm 14 (by omega), hm 15 (by omega), hm 16 (by omega), hm 17 (by omega), hm 18 (by omega), hm 19 (by omega)]
  exact h
theorem Rel.dm {σ σ' : Mem} {μ μ' : MMem} {d : DS} (h : Rel σ μ) (hX : DX σ σ' 0 d) (hM : MF 6 μ μ' d) (hO : Ok d) : Rel σ' μ' := by
  refine ⟨hX.1.trans hM.1.symm, by rw [hM.1]; exact hO, ?_, fun i hi => (h.2.2.2 i hi).fr (hX.2 _ (by omega) (by omega)) (hX.2 _ (by omega) (by omega)) (fun j hj => hM.2.1 j (by omega) (by omega))⟩
  rw [hX.2 0 (by omega) (by omega), hM.2.2 12 (by omega) (by omega) (by omega) (by omega), hX.other (k' := 1) (by omega), hM.2.1 5 (by omega) (by omega)]
  exact h.2.2.1
theorem Rel.m {σ : Mem} {μ μ' : MMem} (h : Rel σ μ) (hM : MF 6 μ μ' (dsM μ)) : Rel σ μ' := h.dm (d := dsM μ) ⟨h.1, fun _ _ _ => rfl⟩ hM h.2.1
/-- a field of the reference that tells nothing is set -/
theorem MF.f {μ : MMem} {t j : Nat} {x : Int32} (h4 : 4 < j) (hj : j = 9 ∨ 13 ≤ j ∧ j ≤ 15) : dsM (uI μ 0 j x) = dsM μ := by
  unfold dsM
  rw [uI_f (by omega), uI_f (by omega), uI_f (by omega), uI_f (by omega), uI_f (by omega)]
  exact ds_ext (fun _ _ => rfl) (fun r w _ _ => by rw [uI_ne (by omega)])
theorem ds9 {μ : MMem} {x : Int32} : dsM (uI μ 0 9 x) = dsM μ := MF.f (t := 6) (by omega) (Or.inl rfl)
theorem Rel.t {σ : Mem} {μ : MMem} (h : Rel σ μ) : Rel σ (uI μ 0 9 0) := by
  refine ⟨h.1.trans ds9.symm, by rw [ds9]; exact h.2.1, ?_, fun i hi => (h.2.2.2 i hi).fr rfl rfl (fun j hj => uI_ne (by omega))⟩
  rw [uI_f (by omega), uI_ne (by omega)]
  exact h.2.2.1
theorem OkN.t {d : DS} {n x : Nat} (h : OkN d n) (h2 : x ≤ 9) : OkN (setQ d 1 (nI x)) n :=
  ⟨h.1, by rw [setQ_ne (by decide)]; exact h.2.1, ⟨x, h2, setQ_same⟩, by rw [setQ_ne (by decide)]; exact h.2.2.2.1, by rw [setQ_ne (by decide)]; exact h.2.2.2.2.1, by rw [setQ_ne (by decide)]; exact h.2.2.2.2.2.1, h.2.2.2.2.2.2⟩
theorem OkN.l {d : DS} {n x : Nat} (h : OkN d n) (h2 : x ≤ 30) : OkN (setQ d 2 (nI x)) n :=
  ⟨h.1, by rw [setQ_ne (by decide)]; exact h.2.1, by rw [setQ_ne (by decide)]; exact h.2.2.1, ⟨x, h2, setQ_same⟩, by rw [setQ_ne (by decide)]; exact h.2.2.2.2.1, by rw [setQ_ne (by decide)]; exact h.2.2.2.2.2.1, h.2.2.2.2.2.2⟩
theorem ne10 : ¬ (1 : Int32) = 0 := by decide
theorem eq_ring {σ : Mem} {μ : MMem} (hR : Rel σ μ) (p1 p2 : Int32) : ∃ r μ', f_X11_ring p1 p2 σ = some r ∧ f_X12_ring p1 p2 μ = some (r, μ') ∧ Rel σ μ' := by
  have hR1 := hR.t
  obtain ⟨n, hn⟩ := hR1.2.1.n
  have hM := hn.2.1
  have hX : (dsX σ 0).1 0 = nI n := by rw [hR1.1]; exact hM
  simp only [f_X11_ring, f_X12_ring, bnd]
  rcases rg (p := p1) hn.1 with ⟨r, hr, rfl⟩ | ho
  · have h6 := hn.1
    have hr6 : r < 6 := by omega
    simp only [has_yes hX hr hn.1, isRing_y hM hr hn.1, b1, if_neg ne10]
    rcases rng (p := p2) (n := 3) (by decide) 3 3 rfl rfl with ⟨j, hj, rfl, e1, e2⟩ | ⟨_, e1, e2⟩
    · simp only [e1, e2, if_neg ne10, get_s hr6 (show j < 4 by omega), nI_clamp (show r < 2 ^ 31 by omega), bad_i hr6 (show 6 < 2 ^ 31 by decide), if_false]
      refine ⟨_, uI μ 0 9 0, rfl, ?_, hR1⟩
      rw [hR1.1]
      have h4 : j = 0 ∨ j = 1 ∨ j = 2 ∨ j = 3 := by omega
      rcases h4 with rfl | rfl | rfl | rfl
      · rw [M_v0 hr6]; exact if_pos rfl
      · rw [M_v1 hr6]; exact (if_neg (by decide)).trans (if_pos rfl)
      · rw [M_v2 hr6]; exact (if_neg (by decide)).trans ((if_neg (by decide)).trans (if_pos rfl))
      · rw [M_v3 hr6]; exact (if_neg (by decide)).trans ((if_neg (by decide)).trans (if_neg (by decide)))
    · simp only [e1, e2, if_true]
      exact ⟨_, _, rfl, rfl, hR1⟩
  · simp only [has_no hX ho, isRing_n hM ho hn.1, b1, if_true]
    exact ⟨_, _, rfl, rfl, hR1⟩
theorem eq_ease {σ : Mem} {μ : MMem} (hR : Rel σ μ) (p1 p2 : Int32) : ∃ r μ', f_X11_ease p1 p2 σ = some r ∧ f_X12_ease p1 p2 μ = some (r, μ') ∧ Rel σ μ' := by
  have hR1 := hR.t
  obtain ⟨n, hn⟩ := hR1.2.1.n
  have hM := hn.2.1
  have hX : (dsX σ 0).1 0 = nI n := by rw [hR1.1]; exact hM
  simp only [f_X11_ease, f_X12_ease, bnd, if_neg ne10, if_true]
  rcases rg (p := p1) hn.1 with ⟨r, hr, rfl⟩ | ho
  · have h6 := hn.1
    have hr6 : r < 6 := by omega
    simp only [has_yes hX hr hn.1, isRing_y hM hr hn.1, b1, if_neg ne10]
    rcases rng (p := p2) (n := 3) (by decide) 3 3 rfl rfl with ⟨j, hj, rfl, e1, e2⟩ | ⟨_, e1, e2⟩
    · have h4 : j = 0 ∨ j = 1 ∨ j = 2 ∨ j = 3 := by omega
      have h4' : nI j = 0 ∨ nI j = 1 ∨ nI j = 2 ∨ nI j = 3 := by
        rcases h4 with rfl | rfl | rfl | rfl
        · exact Or.inl rfl
        · exact Or.inr (Or.inl rfl)
        · exact Or.inr (Or.inr (Or.inl rfl))
        · exact Or.inr (Or.inr (Or.inr rfl))
      simp only [e1, e2, if_neg ne10, easeAt_s hr6, easeOf_s hr6 h4', hR1.1]
      exact ⟨_, _, rfl, rfl, hR1⟩
    · simp only [e1, e2, if_true]
      exact ⟨_, _, rfl, rfl, hR1⟩
  · simp only [has_no hX ho, isRing_n hM ho hn.1, b1, if_true]
    exact ⟨_, _, rfl, rfl, hR1⟩
theorem eq_lacks {σ : Mem} {μ : MMem} (hR : Rel σ μ) : ∃ r μ', f_X11_lacks σ = some r ∧ f_X12_lacks μ = some (r, μ') ∧ Rel σ μ' := by
  have hR1 := hR.t
  obtain ⟨n, hn⟩ := hR1.2.1.n
  have hM := hn.2.1
  have hX : (dsX σ 0).1 0 = nI n := by rw [hR1.1]; exact hM
  simp only [f_X11_lacks, f_X12_lacks, bnd, lacking_s hX hn.1, lacksNow_s hM hn.1, b1, hR1.1]
  exact ⟨_, _, rfl, rfl, hR1⟩
theorem pinref {σ : Mem} {μ : MMem} (hR : Rel σ μ) (p : Int32) : (∃ v, v < 0 ∧ f_X11_pinRefusal p σ = some v ∧ f_X12_wrongPin p μ = some v) ∨
    ∃ d k f, d < 8 ∧ p = nI d ∧ f_X11_pinRefusal p σ = some 0 ∧ f_X12_wrongPin p μ = some 0 ∧ k < 8 ∧ f < 10 ∧ σ (7 + 2 * d) 2 = nI k ∧ (μ 15).1 d = nI k ∧ σ (7 + 2 * d) 3 = nI f ∧ (μ 16).1 d = nI f := by
  rcases rng (p := p) (n := 7) (by decide) 7 7 rfl rfl with ⟨d, hd, rfl, e1, e2⟩ | ⟨_, e1, e2⟩
  · have hb := bad_i (show d < 8 by omega) (show 8 < 2 ^ 31 by decide)
    have hc := nI_clamp (show d < 2 ^ 31 by omega)
    have h9 : d < 9 := by omega
    have h8 : ((8 : Int32) ≤ nI d) = False := eq_false (nI_ge (a := d) (b := 8) (by omega) (by omega))
    have h0 : (nI d < 0) = False := eq_false (nI_pos (by omega))
    have h7 : (8 ≤ d) = False := eq_false (by omega)
    simp only [f_X11_pinRefusal, f_X12_wrongPin, f_X11_isShelf, e1, e2, b1, if_neg ne10, f_X11_shelfAt, h0, h8, h7, false_or, hc, if_false, h9, f_X5_pinRefusal, or_true, if_true]
    obtain ⟨s1, s2, s3, s4⟩ := hR.2.2.2 d (by omega)
    rw [s1]
    rcases s2 with e | e | e
    · rw [e]
      exact Or.inl ⟨-11, by decide, rfl, rfl⟩
    · obtain ⟨k, f, a1, a2, a3, a4, a5, a6⟩ := s3 e
      rw [e]
      exact Or.inr ⟨d, k, f, by omega, rfl, rfl, rfl, a1, a2, a3, a4, a5, a6⟩
    · rw [e]
      exact Or.inl ⟨-12, by decide, rfl, rfl⟩
  · simp only [f_X11_pinRefusal, f_X12_wrongPin, f_X11_isShelf, e1, e2, b1, true_or, if_true]
    exact Or.inl ⟨-1, by decide, rfl, rfl⟩
theorem atS {d : Nat} (h : d < 8) : f_X11_shelfAt (nI d) = some d := by
  have : ∀ d, d < 8 → f_X11_shelfAt (nI d) = some d := by decide +kernel
  exact this d h
theorem atK {d : Nat} (h : d < 8) : f_X11_kindAt (nI d) = some d := by
  have : ∀ d, d < 8 → f_X11_kindAt (nI d) = some d := by decide +kernel
  exact this d h
theorem eq_minutes {σ : Mem} {μ : MMem} (hR : Rel σ μ) (p1 : Int32) : ∃ r μ', f_X11_minutes p1 σ = some r ∧ f_X12_minutes p1 μ = some (r, μ') ∧ Rel σ μ' := by
  have hR1 := hR.t
  simp only [f_X11_minutes, f_X12_minutes, bnd]
  rcases pinref hR1 p1 with ⟨v, hv, e1, e2⟩ | ⟨d, k, f, hd, rfl, e1, e2, hk, hf, a3, a4, a5, a6⟩
  · rw [e1, e2]
    simp only [b1, if_neg (show ¬ v = 0 from fun z => absurd hv (by rw [z]; decide)), if_neg (Int32.not_le.mpr hv)]
    exact ⟨_, _, rfl, rfl, hR1⟩
  · simp only [e1, e2, b1, if_true, Int32.le_refl, atS hd, show d < 9 by omega, atK hk, hk, a3, a4, a5, a6, cost_s hk, nI_clamp (show d < 2 ^ 31 by omega), bad_i hd (show 8 < 2 ^ 31 by decide), if_false, minutesOf_s hk hf]
    exact ⟨_, _, rfl, rfl, hR1⟩
theorem eq_may {σ : Mem} {μ : MMem} (hR : Rel σ μ) (p1 p2 : Int32) : ∃ r μ', f_X11_may p1 p2 σ = some r ∧ f_X12_may p1 p2 μ = some (r, μ') ∧ Rel σ μ' := by
  have hR1 := hR.t
  obtain ⟨n, hn⟩ := hR1.2.1.n
  have hM := hn.2.1
  have hX : (dsX σ 0).1 0 = nI n := by rw [hR1.1]; exact hM
  simp only [f_X11_may, f_X12_may, bnd, jn]
  rcases rg (p := p2) hn.1 with ⟨r, hr, rfl⟩ | ho
  · simp only [has_yes hX hr hn.1, isRing_y hM hr hn.1, b1, if_neg ne10]
    rcases pinref hR1 p1 with ⟨v, hv, e1, e2⟩ | ⟨d, k, f, hd, rfl, e1, e2, hk, hf, a3, a4, a5, a6⟩
    · rw [e1, e2]
      simp only [if_neg (show ¬ v = 0 from fun z => absurd hv (by rw [z]; decide)), if_neg (Int32.not_le.mpr hv)]
      exact ⟨_, _, rfl, rfl, hR1⟩
    · simp only [e1, e2, if_true, Int32.le_refl, atS hd, show d < 9 by omega, atK hk, hk, a3, a4, a5, a6, nI_clamp (show d < 2 ^ 31 by omega), bad_i hd (show 8 < 2 ^ 31 by decide), if_false, allows_s hk hX hr hn.1, mayBe_s hk hM hr hn.1, hR1.1]
      by_cases h : mayI (dsM (uI μ 0 9 0)) n k f r = 0
      · simp only [if_pos h]
        exact ⟨_, _, rfl, rfl, hR1⟩
      · simp only [if_neg h]
        exact ⟨_, _, rfl, rfl, hR1⟩
  · simp (decide := true) only [has_no hX ho, isRing_n hM ho hn.1, b1, if_true, if_false]
    exact ⟨_, _, rfl, rfl, hR1⟩
theorem eq_pin {σ : Mem} {μ : MMem} (hR : Rel σ μ) (p1 p2 : Int32) : ∃ r σ' μ', f_X11_pin p1 p2 σ = some (r, σ') ∧ f_X12_pin p1 p2 μ = some (r, μ') ∧ Rel σ' μ' := by
  have hR1 := hR.t
  obtain ⟨n, hn⟩ := hR1.2.1.n
  have hM := hn.2.1
  have hX : (dsX σ 0).1 0 = nI n := by rw [hR1.1]; exact hM
  simp only [f_X11_pin, f_X12_pin, bnd, jn]
  rcases rg (p := p2) hn.1 with ⟨r, hr, rfl⟩ | ho
  · simp only [has_yes hX hr hn.1, isRing_y hM hr hn.1, b1, if_neg ne10]
    rcases pinref hR1 p1 with ⟨v, hv, e1, e2⟩ | ⟨d, k, f, hd, rfl, e1, e2, hk, hf, a3, a4, a5, a6⟩
    · rw [e1, e2]
      simp only [if_neg (show ¬ v = 0 from fun z => absurd hv (by rw [z]; decide)), if_neg (Int32.not_le.mpr hv)]
      exact ⟨_, _, _, rfl, rfl, hR1⟩
    · simp only [e1, e2, if_true, Int32.le_refl, atS hd, show d < 9 by omega, atK hk, hk, a3, a4, a5, a6, nI_clamp (show d < 2 ^ 31 by omega), bad_i hd (show 8 < 2 ^ 31 by decide), if_false, mayBe_s hk hM hr hn.1]
      rcases mayI_01 (d := dsM (uI μ 0 9 0)) (n := n) (j := k) (f := f) (r := r) with h | h
      · have hx : mayI (dsX σ 0) n k f r = 0 := by rw [hR1.1]; exact h
        simp only [if_pos h, tryPin_n hk hX hr hn.1 hx, b2, if_true]
        exact ⟨_, _, _, rfl, rfl, hR1⟩
      · have hx : mayI (dsX σ 0) n k f r = 1 := by rw [hR1.1]; exact h
        obtain ⟨σ', e3, x3⟩ := tryPin_y hk hX hr hn.1 hx
        obtain ⟨μ', e4, x4⟩ := does_s hk hn hr hf h
        have hO := okDoes hk hn hr hf h
        rw [hR1.1] at x3
        have hX' : (dsX σ' 0).1 0 = nI n := by rw [x3.1]; exact hO.2.1
        have hM' : (dsM μ').1 0 = nI n := by rw [x4.1]; exact hO.2.1
        simp only [h, if_neg ne10, e3, e4, b2, lacking_s hX' hn.1, lacksNow_s hM' hn.1, x3.1, x4.1]
        exact ⟨_, _, _, rfl, rfl, hR1.dm x3 x4.mf hO.ok⟩
  · simp (decide := true) only [has_no hX ho, isRing_n hM ho hn.1, b1, if_true, if_false]
    exact ⟨_, _, _, rfl, rfl, hR1⟩
