/-! PURE, 4: what a pin does, in the reference; Ok is kept -/
def mostM (x hi : Int32) : Int32 := if x ≤ hi then x else hi
theorem most_s {x hi : Int32} : f_X12_most x hi = some (mostM x hi) := by
  unfold f_X12_most mostM
  split <;> rfl
theorem addM_m {x c : Int32} : mostM (x + c) 9999 = addM x c := by
  unfold mostM addM
  by_cases h : x + c < 9999
  · rw [if_pos h, if_pos (Int32.le_of_lt h)]
  · rw [if_neg h]
    by_cases h2 : x + c ≤ 9999
    · rw [if_pos h2]
      exact Int32.le_antisymm h2 (Int32.not_lt.mp h)
    · rw [if_neg h2]
-- the finite facts
theorem fin_tw : ∀ w, w < 100 → ∀ f, f < 10 → f < w → nI w - nI f = cl 1 99 (nI w + -(nI f)) ∧ cl 1 99 (nI w + -(nI f)) = nI (w - f) := by decide +kernel
theorem fin_tk : ∀ k, k < 10 → ∀ f, f < 10 → mostM (nI k + nI f / 2) 9 = cl 0 9 (nI k + nI f / 2) ∧ cl 0 9 (nI k + nI f / 2) = nI (min (k + f / 2) 9) := by decide +kernel
theorem fin_lw : ∀ w, w < 100 → ∀ f, f < 10 → 0 < w → mostM (nI w + nI f) 99 = cl 1 99 (nI w + nI f) ∧ cl 1 99 (nI w + nI f) = nI (min (w + f) 99) := by decide +kernel
theorem fin_lk : ∀ k, k < 10 → ∀ f, f < 10 → f ≤ k → nI k - nI f = cl 0 9 (nI k + -(nI f)) ∧ cl 0 9 (nI k + -(nI f)) = nI (k - f) := by decide +kernel
theorem fin_sw : ∀ w, w < 100 → ∀ f, f < 10 → 0 < w → mostM (nI w + 2 * nI f) 99 = cl 1 99 (nI w + 2 * nI f) ∧ cl 1 99 (nI w + 2 * nI f) = nI (min (w + 2 * f) 99) := by decide +kernel
theorem fin_h1 : ∀ h, h < 100 → 0 < h → nI h - 1 = cl 0 99 (nI h + -1) ∧ cl 0 99 (nI h + -1) = nI (h - 1) := by decide +kernel
theorem fin_hf : ∀ h, h < 100 → ∀ f, f < 10 → mostM (nI h + nI f) 99 = cl 0 99 (nI h + nI f) ∧ cl 0 99 (nI h + nI f) = nI (min (h + f) 99) := by decide +kernel
theorem fin_aw : ∀ w, w < 100 → 0 < w → (if nI w ≤ 1 then nI w - 0 else nI w - 1) = cl 1 99 (nI w + -1) ∧ cl 1 99 (nI w + -1) = nI (if w ≤ 1 then 1 else w - 1) := by decide +kernel
theorem fin_c : ∀ j, j < 8 → ∀ f, f < 10 → ∃ c, c < 40 ∧ costX j (nI f) = nI c := by decide +kernel
theorem add_c {m c : Nat} (hm : m ≤ 9999) (hc : c < 40) : addM (nI m) (nI c) = nI (min (m + c) 9999) := by
  unfold addM
  rw [nI_add, show (9999 : Int32) = nI 9999 from rfl]
  by_cases h : m + c < 9999
  · rw [if_pos (nI_lt h (by decide)), Nat.min_eq_left (by omega)]
  · rw [if_neg (nI_nlt (by omega) (by omega)), Nat.min_eq_right (by omega)]
/-- a ring as it must be -/
def OkR (d : DS) (r : Nat) : Prop := ∃ g w k v : Nat, 1 ≤ g ∧ g ≤ 99 ∧ 1 ≤ w ∧ w ≤ 99 ∧ k ≤ 9 ∧ v ≤ 9 ∧ d.2 r 0 = nI g ∧ d.2 r 1 = nI w ∧ d.2 r 2 = nI k ∧ d.2 r 3 = nI v
/-- Ok, with its number of rings told -/
def OkN (d : DS) (n : Nat) : Prop := n ≤ 6 ∧ d.1 0 = nI n ∧ (∃ t, t ≤ 9 ∧ d.1 1 = nI t) ∧ (∃ l, l ≤ 30 ∧ d.1 2 = nI l) ∧ (∃ h, h ≤ 99 ∧ d.1 3 = nI h) ∧ (∃ m, m ≤ 9999 ∧ d.1 4 = nI m) ∧ ∀ r, r < n → OkR d r
theorem Ok.n {d : DS} (h : Ok d) : ∃ n, OkN d n := by
  obtain ⟨n, t, l, a, m, h1, h2, h3, h4, h5, e0, e1, e2, e3, e4, hr⟩ := h
  exact ⟨n, h1, e0, ⟨t, h2, e1⟩, ⟨l, h3, e2⟩, ⟨a, h4, e3⟩, ⟨m, h5, e4⟩, hr⟩
theorem OkN.ok {d : DS} {n : Nat} (h : OkN d n) : Ok d := by
  obtain ⟨h1, e0, ⟨t, h2, e1⟩, ⟨l, h3, e2⟩, ⟨a, h4, e3⟩, ⟨m, h5, e4⟩, hr⟩ := h
  exact ⟨n, t, l, a, m, h1, h2, h3, h4, h5, e0, e1, e2, e3, e4, hr⟩
theorem OkN.w {d : DS} {n r x : Nat} (h : OkN d n) (h1 : 1 ≤ x) (h2 : x ≤ 99) : OkN (setV d r 1 (nI x)) n := by
  refine ⟨h.1, h.2.1, h.2.2.1, h.2.2.2.1, h.2.2.2.2.1, h.2.2.2.2.2.1, fun q hq => ?_⟩
  obtain ⟨g, w, k, v, a1, a2, a3, a4, a5, a6, b0, b1, b2, b3⟩ := h.2.2.2.2.2.2 q hq
  by_cases e : q = r
  · subst e
    exact ⟨g, x, k, v, a1, a2, h1, h2, a5, a6, by rw [setV_ne (by simp)]; exact b0, setV_same, by rw [setV_ne (by simp)]; exact b2, by rw [setV_ne (by simp)]; exact b3⟩
  · exact ⟨g, w, k, v, a1, a2, a3, a4, a5, a6, by rw [setV_ne (by simp [e])]; exact b0, by rw [setV_ne (by simp [e])]; exact b1, by rw [setV_ne (by simp [e])]; exact b2, by rw [setV_ne (by simp [e])]; exact b3⟩
theorem OkN.k {d : DS} {n r x : Nat} (h : OkN d n) (h2 : x ≤ 9) : OkN (setV d r 2 (nI x)) n := by
  refine ⟨h.1, h.2.1, h.2.2.1, h.2.2.2.1, h.2.2.2.2.1, h.2.2.2.2.2.1, fun q hq => ?_⟩
  obtain ⟨g, w, k, v, a1, a2, a3, a4, a5, a6, b0, b1, b2, b3⟩ := h.2.2.2.2.2.2 q hq
  by_cases e : q = r
  · subst e
    exact ⟨g, w, x, v, a1, a2, a3, a4, h2, a6, by rw [setV_ne (by simp)]; exact b0, by rw [setV_ne (by simp)]; exact b1, setV_same, by rw [setV_ne (by simp)]; exact b3⟩
  · exact ⟨g, w, k, v, a1, a2, a3, a4, a5, a6, by rw [setV_ne (by simp [e])]; exact b0, by rw [setV_ne (by simp [e])]; exact b1, by rw [setV_ne (by simp [e])]; exact b2, by rw [setV_ne (by simp [e])]; exact b3⟩
theorem OkN.h {d : DS} {n x : Nat} (h : OkN d n) (h2 : x ≤ 99) : OkN (setQ d 3 (nI x)) n :=
  ⟨h.1, by rw [setQ_ne (by decide)]; exact h.2.1, by rw [setQ_ne (by decide)]; exact h.2.2.1, by rw [setQ_ne (by decide)]; exact h.2.2.2.1, ⟨x, h2, setQ_same⟩, by rw [setQ_ne (by decide)]; exact h.2.2.2.2.2.1, h.2.2.2.2.2.2⟩
theorem OkN.m {d : DS} {n x : Nat} (h : OkN d n) (h2 : x ≤ 9999) : OkN (setQ d 4 (nI x)) n :=
  ⟨h.1, by rw [setQ_ne (by decide)]; exact h.2.1, by rw [setQ_ne (by decide)]; exact h.2.2.1, by rw [setQ_ne (by decide)]; exact h.2.2.2.1, by rw [setQ_ne (by decide)]; exact h.2.2.2.2.1, ⟨x, h2, setQ_same⟩, h.2.2.2.2.2.2⟩
-- the reference's steps, as the class's
theorem stW {μ : MMem} {r : Nat} {x z : Int32} (hr : r < 6) (e : x = cl 1 99 ((dsM μ).2 r 1 + z)) : MD μ (uI μ 2 r x) (opW (dsM μ) r z) := by subst e; exact MD.v (w := 1) hr (by decide)
theorem stK {μ : MMem} {r : Nat} {x z : Int32} (hr : r < 6) (e : x = cl 0 9 ((dsM μ).2 r 2 + z)) : MD μ (uI μ 3 r x) (opK (dsM μ) r z) := by subst e; exact MD.v (w := 2) hr (by decide)
theorem stH {μ : MMem} {x z : Int32} (e : x = cl 0 99 ((dsM μ).1 3 + z)) : MD μ (uI μ 0 1 x) (opH (dsM μ) z) := by subst e; exact MD.q (j := 3) (by simp)
theorem stH0 {μ : MMem} : MD μ (uI μ 0 1 ((μ 0).1 1)) (dsM μ) := by
  have h := MD.q (μ := μ) (j := 3) (c := 1) (x := (μ 0).1 1) (by simp)
  rw [← M_q3, setQ_id] at h
  rw [← M_q3]
  exact h
theorem wid_s {μ : MMem} {r : Nat} {z : Int32} (hr : r < 6) : f_X12_widen (nI r) z μ = some (uI μ 2 r (mostM ((dsM μ).2 r 1 + z) 99)) := by
  have hc := nI_clamp (show r < 2 ^ 31 by omega)
  have hi : (nI r < 0 ∨ 6 ≤ r) = False := bad_i hr (by decide)
  simp only [f_X12_widen, hc, hi, if_false, bnd, most_s, b1, M_v1 hr]
theorem skip7 {p1 p3 x : Int32} {n : Nat} {μ : MMem} {K : Int32 → MMem → Option MMem} (h : ¬ p1 = 7) : f_X12_does_L145 p1 p3 (n + 1) x μ K = K x μ := by
  rw [f_X12_does_L145]
  by_cases h2 : p3 ≤ x
  · rw [if_pos h2]
  · rw [if_neg h2, if_neg h]
/-- behind the pin's own work: the minutes -/
theorem min_s {μ0 μ : MMem} {d : DS} {j f : Nat} (hj : j < 8) (hf : f < 10) (h : MD μ0 μ d) : ∃ μ', (b1 (f_X12_minutesOf (nI j) (nI f)) fun r => bnd ((μ 0).1 2 + r) fun (y : Int32) => b1 (f_X12_most y 9999) fun z => bnd (uI μ 0 2 z) fun (w : MMem) => some w) = some μ' ∧ MD μ0 μ' (setQ d 4 (addM (d.1 4) (costX j (nI f)))) := by
  refine ⟨uI μ 0 2 (addM ((μ 0).1 2) (costX j (nI f))), ?_, ?_⟩
  · simp only [minutesOf_s hj hf, b1, bnd, most_s, addM_m]
  · have h2 := MD.q (μ := μ) (j := 4) (c := 2) (x := addM ((μ 0).1 2) (costX j (nI f))) (by simp)
    rw [← M_q4, h.1] at h2
    rw [← M_q4, h.1]
    exact h.tr h2

theorem aboveM_s {μ0 : MMem} {n0 r : Nat} (hr : r < 6) (hrn : r < n0) (hOk : ∀ i, i ≤ r → OkN (aboveX (dsM μ0) i) n0) {K : Int32 → MMem → Option MMem} : ∀ (n i : Nat) (μ : MMem), i ≤ r → r < i + n → MD μ0 μ (aboveX (dsM μ0) i) → ∃ μ', f_X12_does_L145 (nI 7) (nI r) n (nI i) μ K = K (nI r) μ' ∧ MD μ0 μ' (aboveX (dsM μ0) r) := by
  intro n
  induction n with
  | zero => intro i μ h1 h2; omega
  | succ n ih =>
    intro i μ h1 h2 hd
    rw [f_X12_does_L145]
    by_cases hi : i = r
    · subst hi
      rw [if_pos (nI_le (Nat.le_refl _) (by omega))]
      exact ⟨μ, rfl, hd⟩
    · rw [if_neg (nI_ge (by omega) (by omega)), if_pos (show nI 7 = 7 from rfl)]
      have hc := nI_clamp (show i < 2 ^ 31 by omega)
      have hb : (nI i < 0 ∨ 6 ≤ i) = False := bad_i (by omega) (by decide)
      simp only [hc, hb, if_false, bnd, nI_1]
      obtain ⟨g, w, k, v, a1, a2, a3, a4, a5, a6, b0, b1', b2', b3⟩ := (hOk i h1).2.2.2.2.2.2 i (by omega)
      rw [← hd.1, M_v1 (by omega)] at b1'
      have st : MD μ (uI μ 2 i (if (μ 2).1 i ≤ 1 then (μ 2).1 i - 0 else (μ 2).1 i - 1)) (opW (dsM μ) i (-1)) := stW (by omega) (by rw [M_v1 (by omega), b1']; exact (fin_aw w (by omega) a3).1)
      rw [hd.1] at st
      by_cases h9 : (μ 2).1 i ≤ 1
      · rw [if_pos h9] at st ⊢
        exact ih (i + 1) _ (by omega) (by omega) (hd.tr st)
      · rw [if_neg h9] at st ⊢
        exact ih (i + 1) _ (by omega) (by omega) (hd.tr st)
theorem okTaken {d : DS} {n f r : Nat} (h : OkN d n) (hr : r < n) (hf : f < 10) (hm : ¬ d.2 r 1 ≤ nI f) : OkN (takenX d f r) n := by
  obtain ⟨g, w, k, v, a1, a2, a3, a4, a5, a6, b0, b1', b2', b3⟩ := h.2.2.2.2.2.2 r hr
  have hfw : f < w := by rw [b1', nI_leI (by omega) (by omega)] at hm; omega
  unfold takenX opK opW
  rw [b1', (fin_tw w (by omega) f hf hfw).2, setV_ne (by simp), b2', (fin_tk k (by omega) f hf).2]
  exact (h.w (by omega) (by omega)).k (Nat.min_le_right _ _)
theorem okLet {d : DS} {n f r : Nat} (h : OkN d n) (hr : r < n) (hf : f < 10) (hm : ¬ d.2 r 2 < nI f) : OkN (letX d f r) n := by
  obtain ⟨g, w, k, v, a1, a2, a3, a4, a5, a6, b0, b1', b2', b3⟩ := h.2.2.2.2.2.2 r hr
  have hfk : f ≤ k := by rw [b2', nI_ltI (by omega) (by omega)] at hm; omega
  unfold letX opK opW
  rw [b1', (fin_lw w (by omega) f hf a3).2, setV_ne (by simp), b2', (fin_lk k (by omega) f hf hfk).2]
  exact (h.w (by omega) (Nat.min_le_right _ _)).k (by omega)
theorem okAbove {d : DS} {n : Nat} (h : OkN d n) : ∀ i, i ≤ n → OkN (aboveX d i) n := by
  intro i
  induction i with
  | zero => intro _; exact h
  | succ i ih =>
    intro hi
    have h2 := ih (by omega)
    obtain ⟨g, w, k, v, a1, a2, a3, a4, a5, a6, b0, b1', b2', b3⟩ := h2.2.2.2.2.2.2 i (by omega)
    show OkN (opW (aboveX d i) i (-1)) n
    unfold opW
    rw [b1', (fin_aw w (by omega) a3).2]
    exact h2.w (by split <;> omega) (by split <;> omega)
theorem mayT {d : DS} {n j f r : Nat} (hj : j = 1 ∨ j = 3 ∨ j = 7) (h : mayI d n j f r = 1) : ¬ d.2 r 1 ≤ nI f := fun z => by
  rcases hj with rfl | rfl | rfl <;> simp (decide := true) [mayI, z] at h
theorem mayL {d : DS} {n j f r : Nat} (hj : j = 2 ∨ j = 6) (h : mayI d n j f r = 1) : ¬ d.2 r 2 < nI f := fun z => by
  rcases hj with rfl | rfl <;> simp (decide := true) [mayI, z] at h
theorem mayU {d : DS} {n f r : Nat} (h : mayI d n 5 f r = 1) : ¬ d.1 3 ≤ 0 := fun z => by
  simp (decide := true) [mayI, z] at h
theorem okWork {d : DS} {n j f r : Nat} (hj : j < 8) (h : OkN d n) (hr : r < n) (hf : f < 10) (hm : mayI d n j f r = 1) : OkN (workX d j f r) n := by
  obtain ⟨g, w, k, v, a1, a2, a3, a4, a5, a6, b0, b1', b2', b3⟩ := h.2.2.2.2.2.2 r hr
  obtain ⟨hh, c1, c2⟩ := h.2.2.2.2.1
  refine lt8 (P := fun j => mayI d n j f r = 1 → OkN (workX d j f r) n) hj ?_ ?_ ?_ ?_ ?_ ?_ ?_ ?_ hm
  · intro _; exact h
  · intro hm; exact okTaken h hr hf (mayT (by simp) hm)
  · intro hm; exact okLet h hr hf (mayL (by simp) hm)
  · intro hm
    have h1 := okTaken h hr hf (mayT (by simp) hm)
    obtain ⟨g, w, k, v, a1, a2, a3, a4, a5, a6, b0, b1', b2', b3⟩ := h1.2.2.2.2.2.2 (r + 1) (mayI_3 hm)
    show OkN (opW (takenX d f r) (r + 1) (nI f)) n
    unfold opW
    rw [b1', (fin_lw w (by omega) f hf a3).2]
    exact h1.w (by omega) (Nat.min_le_right _ _)
  · intro _
    show OkN (opW d r (2 * nI f)) n
    unfold opW
    rw [b1', (fin_sw w (by omega) f hf a3).2]
    exact h.w (by omega) (Nat.min_le_right _ _)
  · intro hm
    have hp := mayU hm
    rw [c2, show (0 : Int32) = nI 0 from rfl, nI_leI (by omega) (by omega)] at hp
    show OkN (opH d (-1)) n
    unfold opH
    rw [c2, (fin_h1 hh (by omega) (by omega)).2]
    exact h.h (by omega)
  · intro hm
    have h1 := okLet h hr hf (mayL (by simp) hm)
    obtain ⟨hh, c1, c2⟩ := h1.2.2.2.2.1
    show OkN (opH (letX d f r) (nI f)) n
    unfold opH
    rw [c2, (fin_hf hh (by omega) f hf).2]
    exact h1.h (Nat.min_le_right _ _)
  · intro hm
    exact okAbove (okTaken h hr hf (mayT (by simp) hm)) r (by omega)
theorem okDoes {d : DS} {n j f r : Nat} (hj : j < 8) (h : OkN d n) (hr : r < n) (hf : f < 10) (hm : mayI d n j f r = 1) : OkN (doesX d j f r) n := by
  have h1 := okWork hj h hr hf hm
  obtain ⟨m, c1, c2⟩ := h1.2.2.2.2.2.1
  obtain ⟨c, c3, c4⟩ := fin_c j hj f hf
  unfold doesX
  rw [c2, c4, add_c c1 c3]
  exact h1.m (Nat.min_le_right _ _)
