/-! PURE, 5: what a pin does in the reference is what it does in the class -/
theorem kq1 {j : Nat} (hj : j < 8) : (nI j = 1) = (j = 1) := by
  have : ∀ j, j < 8 → (nI j = 1 ↔ j = 1) := by decide +kernel
  exact propext (this j hj)
theorem kq2 {j : Nat} (hj : j < 8) : (nI j = 2) = (j = 2) := by
  have : ∀ j, j < 8 → (nI j = 2 ↔ j = 2) := by decide +kernel
  exact propext (this j hj)
theorem kq3 {j : Nat} (hj : j < 8) : (nI j = 3) = (j = 3) := by
  have : ∀ j, j < 8 → (nI j = 3 ↔ j = 3) := by decide +kernel
  exact propext (this j hj)
theorem kq4 {j : Nat} (hj : j < 8) : (nI j = 4) = (j = 4) := by
  have : ∀ j, j < 8 → (nI j = 4 ↔ j = 4) := by decide +kernel
  exact propext (this j hj)
theorem kq5 {j : Nat} (hj : j < 8) : (nI j = 5) = (j = 5) := by
  have : ∀ j, j < 8 → (nI j = 5 ↔ j = 5) := by decide +kernel
  exact propext (this j hj)
theorem kq6 {j : Nat} (hj : j < 8) : (nI j = 6) = (j = 6) := by
  have : ∀ j, j < 8 → (nI j = 6 ↔ j = 6) := by decide +kernel
  exact propext (this j hj)
theorem kq7 {j : Nat} (hj : j < 8) : (nI j = 7) = (j = 7) := by
  have : ∀ j, j < 8 → (nI j = 7 ↔ j = 7) := by decide +kernel
  exact propext (this j hj)
theorem takeM {μ : MMem} {n f r : Nat} (h : OkN (dsM μ) n) (hr : r < n) (hf : f < 10) (hm : ¬ (dsM μ).2 r 1 ≤ nI f) :
    MD μ (uI (uI μ 2 r ((μ 2).1 r - nI f)) 3 r (mostM ((uI μ 2 r ((μ 2).1 r - nI f) 3).1 r + nI f / 2) 9)) (takenX (dsM μ) f r) := by
  have h6 := h.1
  have hr6 : r < 6 := by omega
  obtain ⟨g, w, k, v, a1, a2, a3, a4, a5, a6, b0, b1', b2', b3⟩ := h.2.2.2.2.2.2 r hr
  have hfw : f < w := by rw [b1', nI_leI (by omega) (by omega)] at hm; omega
  have e1 : (μ 2).1 r = nI w := by rw [← M_v1 hr6]; exact b1'
  have e2 : (μ 3).1 r = nI k := by rw [← M_v2 hr6]; exact b2'
  have s1 : MD μ (uI μ 2 r ((μ 2).1 r - nI f)) (opW (dsM μ) r (-(nI f))) := stW hr6 (by rw [b1', e1]; exact (fin_tw w (by omega) f hf hfw).1)
  have s2 : MD (uI μ 2 r ((μ 2).1 r - nI f)) (uI (uI μ 2 r ((μ 2).1 r - nI f)) 3 r (mostM ((uI μ 2 r ((μ 2).1 r - nI f) 3).1 r + nI f / 2) 9)) (opK (dsM (uI μ 2 r ((μ 2).1 r - nI f))) r (nI f / 2)) :=
    stK hr6 (by rw [M_v2 hr6, uI_ne (show 3 ≠ 2 by decide), e2]; exact (fin_tk k (by omega) f hf).1)
  rw [s1.1] at s2
  exact s1.tr s2
theorem letM {μ : MMem} {n f r : Nat} (h : OkN (dsM μ) n) (hr : r < n) (hf : f < 10) (hm : ¬ (dsM μ).2 r 2 < nI f) :
    MD μ (uI (uI μ 2 r (mostM ((dsM μ).2 r 1 + nI f) 99)) 3 r ((uI μ 2 r (mostM ((dsM μ).2 r 1 + nI f) 99) 3).1 r - nI f)) (letX (dsM μ) f r) := by
  have h6 := h.1
  have hr6 : r < 6 := by omega
  obtain ⟨g, w, k, v, a1, a2, a3, a4, a5, a6, b0, b1', b2', b3⟩ := h.2.2.2.2.2.2 r hr
  have hfk : f ≤ k := by rw [b2', nI_ltI (by omega) (by omega)] at hm; omega
  have e2 : (μ 3).1 r = nI k := by rw [← M_v2 hr6]; exact b2'
  have s1 : MD μ (uI μ 2 r (mostM ((dsM μ).2 r 1 + nI f) 99)) (opW (dsM μ) r (nI f)) := stW hr6 (by rw [b1']; exact (fin_lw w (by omega) f hf a3).1)
  have s2 : MD (uI μ 2 r (mostM ((dsM μ).2 r 1 + nI f) 99)) (uI (uI μ 2 r (mostM ((dsM μ).2 r 1 + nI f) 99)) 3 r ((uI μ 2 r (mostM ((dsM μ).2 r 1 + nI f) 99) 3).1 r - nI f)) (opK (dsM (uI μ 2 r (mostM ((dsM μ).2 r 1 + nI f) 99))) r (-(nI f))) :=
    stK hr6 (by rw [M_v2 hr6, uI_ne (show 3 ≠ 2 by decide), e2]; exact (fin_lk k (by omega) f hf hfk).1)
  rw [s1.1] at s2
  exact s1.tr s2
theorem dT {μ0 μ : MMem} {d : DS} {j f : Nat} {r x : Int32} {L} (hL : f_X12_does_L145 (nI j) r 5000 = L) (hj : j < 8) (hf : f < 10) (h7 : j ≠ 7) (hx : MD μ0 (uI μ 0 1 x) d) :
    ∃ μ', L 0 (uI μ 0 1 x) (fun (_ : Int32) (σ : MMem) => b1 (f_X12_minutesOf (nI j) (nI f)) fun r => bnd ((σ 0).1 2 + r) fun (y : Int32) => b1 (f_X12_most y 9999) fun z => bnd (uI σ 0 2 z) fun (w : MMem) => some w) = some μ' ∧ MD μ0 μ' (setQ d 4 (addM (d.1 4) (costX j (nI f)))) := by
  subst hL
  rw [show (5000 : Nat) = 4999 + 1 from rfl, skip7 (by rw [kq7 hj]; exact h7)]
  exact min_s hj hf hx
theorem dP {μ0 μ : MMem} {d : DS} {j f r n : Nat} {L} (hL : f_X12_does_L145 (nI j) (nI r) 5000 = L) (hj : j = 7) (hf : f < 10) (hr : r < n) (h : OkN d n) (hx : MD μ0 μ d) :
    ∃ μ', L 0 μ (fun (_ : Int32) (σ : MMem) => b1 (f_X12_minutesOf (nI j) (nI f)) fun r => bnd ((σ 0).1 2 + r) fun (y : Int32) => b1 (f_X12_most y 9999) fun z => bnd (uI σ 0 2 z) fun (w : MMem) => some w) = some μ' ∧ MD μ0 μ' (setQ (aboveX d r) 4 (addM ((aboveX d r).1 4) (costX j (nI f)))) := by
  subst hL hj
  have h6 := h.1
  have hd := hx.1
  subst hd
  obtain ⟨μ', e1, e2⟩ := aboveM_s (μ0 := μ) (n0 := n) (show r < 6 by omega) hr (fun i hi => okAbove h i (by omega)) (K := fun (_ : Int32) (σ : MMem) => b1 (f_X12_minutesOf (nI 7) (nI f)) fun r => bnd ((σ 0).1 2 + r) fun (y : Int32) => b1 (f_X12_most y 9999) fun z => bnd (uI σ 0 2 z) fun (w : MMem) => some w) 5000 0 μ (by omega) (by omega) MD.rf
  rw [show (0 : Int32) = nI 0 from rfl, e1]
  exact min_s (by decide) hf (hx.tr e2)
theorem b1s {A B : Type} {x : A} {K : A → Option B} : b1 (some x) K = K x := rfl
theorem MD.h0 {μ0 μ : MMem} {d : DS} (h : MD μ0 μ d) : MD μ0 (uI μ 0 1 ((μ 0).1 1)) d := by
  have t := h.tr stH0
  rw [h.1] at t
  exact t
theorem does_s {μ : MMem} {n j f r : Nat} (hj : j < 8) (h : OkN (dsM μ) n) (hr : r < n) (hf : f < 10) (hm : mayI (dsM μ) n j f r = 1) : ∃ μ', f_X12_does (nI j) (nI f) (nI r) μ = some μ' ∧ MD μ μ' (doesX (dsM μ) j f r) := by
  have h6 := h.1
  have hr6 : r < 6 := by omega
  have hc := nI_clamp (show r < 2 ^ 31 by omega)
  have hi : (nI r < 0 ∨ 6 ≤ r) = False := bad_i hr6 (by decide)
  obtain ⟨g, w, k, v, a1, a2, a3, a4, a5, a6, b0, b1', b2', b3⟩ := h.2.2.2.2.2.2 r hr
  obtain ⟨hh, c1, c2⟩ := h.2.2.2.2.1
  unfold f_X12_does
  generalize hL : f_X12_does_L145 (nI j) (nI r) 5000 = L
  simp only [kq1 hj, kq2 hj, kq3 hj, kq4 hj, kq5 hj, kq6 hj, kq7 hj, jn, hc, hi, if_false]
  have h8 : j = 0 ∨ j = 1 ∨ j = 2 ∨ j = 3 ∨ j = 4 ∨ j = 5 ∨ j = 6 ∨ j = 7 := by omega
  rcases h8 with rfl | rfl | rfl | rfl | rfl | rfl | rfl | rfl <;> simp (decide := true) only [if_true, if_false, bnd, most_s, b1s]
  · have t := dT (j := 0) (r := nI r) hL (by decide) hf (by decide) (MD.h0 (MD.rf (μ := μ)))
    simp only [bnd, most_s, b1s] at t
    exact t
  · have t := dT (j := 1) (r := nI r) hL (by decide) hf (by decide) (takeM h hr hf (mayT (by simp) hm)).h0
    simp only [bnd, most_s, b1s] at t
    exact t
  · have t := dT (j := 2) (r := nI r) hL (by decide) hf (by decide) (letM h hr hf (mayL (by simp) hm)).h0
    simp only [bnd, most_s, b1s] at t
    simp only [wid_s hr6, b1s]
    exact t
  · have s := takeM h hr hf (mayT (by simp) hm)
    have hk := okTaken h hr hf (mayT (by simp) hm)
    rw [← s.1] at hk
    have h3 := mayI_3 hm
    have w3 := wid_s (μ := uI (uI μ 2 r ((μ 2).1 r - nI f)) 3 r (mostM ((uI μ 2 r ((μ 2).1 r - nI f) 3).1 r + nI f / 2) 9)) (r := r + 1) (z := nI f) (by omega)
    rw [← nI_1] at w3
    simp only [w3, b1s]
    obtain ⟨g, w, k, v, a1, a2, a3, a4, a5, a6, b0, b1', b2', b3⟩ := hk.2.2.2.2.2.2 (r + 1) h3
    have t := stW (μ := uI (uI μ 2 r ((μ 2).1 r - nI f)) 3 r (mostM ((uI μ 2 r ((μ 2).1 r - nI f) 3).1 r + nI f / 2) 9)) (r := r + 1) (z := nI f) (x := mostM ((dsM (uI (uI μ 2 r ((μ 2).1 r - nI f)) 3 r (mostM ((uI μ 2 r ((μ 2).1 r - nI f) 3).1 r + nI f / 2) 9))).2 (r + 1) 1 + nI f) 99) (by omega) (by rw [b1']; exact (fin_lw w (by omega) f hf a3).1)
    rw [s.1] at t
    have st := s.tr t
    rw [← s.1] at st
    have t := dT (j := 3) (r := nI r) hL (by decide) hf (by decide) st.h0
    simp only [bnd, most_s, b1s] at t
    rw [s.1] at t
    rw [s.1]
    exact t
  · have s : MD μ (uI μ 2 r (mostM ((dsM μ).2 r 1 + 2 * nI f) 99)) (opW (dsM μ) r (2 * nI f)) := stW hr6 (by rw [b1']; exact (fin_sw w (by omega) f hf a3).1)
    have t := dT (j := 4) (r := nI r) hL (by decide) hf (by decide) s.h0
    simp only [bnd, most_s, b1s] at t
    simp only [wid_s hr6, b1s]
    exact t
  · have hp := mayU hm
    rw [c2, show (0 : Int32) = nI 0 from rfl, nI_leI (by omega) (by omega)] at hp
    have s : MD μ (uI μ 0 1 ((μ 0).1 1 - 1)) (opH (dsM μ) (-1)) := stH (by rw [← M_q3, c2]; exact (fin_h1 hh (by omega) (by omega)).1)
    have t := dT (j := 5) (r := nI r) hL (by decide) hf (by decide) s
    simp only [bnd, most_s, b1s] at t
    exact t
  · have s := letM h hr hf (mayL (by simp) hm)
    have hk := okLet h hr hf (mayL (by simp) hm)
    rw [← s.1] at hk
    obtain ⟨h2, c3, c4⟩ := hk.2.2.2.2.1
    simp only [wid_s hr6, b1s]
    have t := stH (μ := uI (uI μ 2 r (mostM ((dsM μ).2 r 1 + nI f) 99)) 3 r ((uI μ 2 r (mostM ((dsM μ).2 r 1 + nI f) 99) 3).1 r - nI f)) (z := nI f) (x := mostM ((uI (uI μ 2 r (mostM ((dsM μ).2 r 1 + nI f) 99)) 3 r ((uI μ 2 r (mostM ((dsM μ).2 r 1 + nI f) 99) 3).1 r - nI f) 0).1 1 + nI f) 99) (by rw [← M_q3, c4]; exact (fin_hf h2 (by omega) f hf).1)
    rw [s.1] at t
    have t := dT (j := 6) (r := nI r) hL (by decide) hf (by decide) (s.tr t)
    simp only [bnd, most_s, b1s] at t
    exact t
  · have s := takeM h hr hf (mayT (by simp) hm)
    have hk := okTaken h hr hf (mayT (by simp) hm)
    have t := dP (j := 7) hL rfl hf hr hk s.h0
    simp only [bnd, most_s, b1s] at t
    exact t
