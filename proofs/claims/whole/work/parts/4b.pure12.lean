/-! PURE, 12: pins of a row, sewn; first, least -/
theorem RowAt.fr {σ σ' : Mem} {μ μ' : MMem} {d N k : Nat} {D D' : DS} (h : RowAt σ μ d N) (hk : k < 3) (hX : DX σ σ' k D) (hM : MF 6 μ μ' D') : RowAt σ' μ' d N := by
  have hd := h.1
  unfold RowAt
  rw [hX.2 (7 + 2 * d) (by omega) (by omega), hX.2 (8 + 2 * d) (by omega) (by omega), hM.2.1 18 (by omega) (by omega), hM.2.1 19 (by omega) (by omega)]
  exact h
theorem PinT.fr {σ σ' : Mem} {d n t k : Nat} {D : DS} (h : PinT σ d n t) (hk : k < 3) (hX : DX σ σ' k D) : PinT σ' d n t := by
  unfold PinT
  rw [hX.2 (8 + 2 * d) (by omega) (by omega)]
  exact h
def pj (ρ : Nat → Int32) (t : Nat) : Nat := (ρ (3 * t)).toNatClampNeg
def pf (ρ : Nat → Int32) (t : Nat) : Nat := (ρ (3 * t + 1)).toNatClampNeg
def pr (ρ : Nat → Int32) (t : Nat) : Nat := (ρ (3 * t + 2)).toNatClampNeg
theorem PinT.g {σ : Mem} {d n t : Nat} (h : PinT σ d n t) (h6 : n ≤ 6) : pj (σ (8 + 2 * d)) t < 8 ∧ pf (σ (8 + 2 * d)) t < 10 ∧ pr (σ (8 + 2 * d)) t < n ∧
    σ (8 + 2 * d) (3 * t) = nI (pj (σ (8 + 2 * d)) t) ∧ σ (8 + 2 * d) (3 * t + 1) = nI (pf (σ (8 + 2 * d)) t) ∧ σ (8 + 2 * d) (3 * t + 2) = nI (pr (σ (8 + 2 * d)) t) := by
  obtain ⟨j, f, r, h1, h2, h3, e1, e2, e3⟩ := h
  unfold pj pf pr
  rw [e1, e2, e3, nI_clamp (by omega), nI_clamp (by omega), nI_clamp (by omega)]
  exact ⟨h1, h2, h3, rfl, rfl, rfl⟩
/-- may the t-th pin of the row be sewn; what it does -/
def mayP (ρ : Nat → Int32) (n : Nat) (D : DS) (t : Nat) : Int32 := mayI D n (pj ρ t) (pf ρ t) (pr ρ t)
def doP (ρ : Nat → Int32) (D : DS) (t : Nat) : DS := doesX D (pj ρ t) (pf ρ t) (pr ρ t)
def costP (ρ : Nat → Int32) (t : Nat) : Int32 := costX (pj ρ t) (nI (pf ρ t))
theorem mul3 (t : Nat) : (3 : Int32) * nI t = nI (3 * t) := pk_mul 3 t
theorem add1 (t : Nat) : nI t + 1 = nI (t + 1) := nI_1 t
theorem add2 (t : Nat) : nI t + 2 = nI (t + 2) := nI_add t 2
theorem OkN.doP {σ : Mem} {d n t : Nat} {D : DS} (hD : OkN D n) (hp : PinT σ d n t) (hm : mayP (σ (8 + 2 * d)) n D t = 1) : OkN (doP (σ (8 + 2 * d)) D t) n := by
  obtain ⟨a1, a2, a3, b1', b2', b3'⟩ := hp.g hD.1
  exact okDoes a1 hD a3 a2 hm
theorem sew_n {σ : Mem} {μ : MMem} {k d N n t : Nat} {D : DS} (hr : RowAt σ μ d N) (hp : PinT σ d n t) (ht : 3 * t + 2 < N) (hX : dsX σ k = D) (hD : OkN D n) (hm : mayP (σ (8 + 2 * d)) n D t = 0) : f_X11_sewPinOfRow k d (nI t) σ = some (0, σ) := by
  obtain ⟨a1, a2, a3, b1', b2', b3'⟩ := hp.g hD.1
  have hX2 : (dsX σ k).1 0 = nI n := by rw [hX]; exact hD.2.1
  simp only [f_X11_sewPinOfRow, mul3, add1, add2, at_s hr (show 3 * t < N by omega), at_s hr (show 3 * t + 1 < N by omega), at_s hr ht, b1, b1', b2', b3', atK a1, if_pos a1, tryPin_n a1 hX2 a3 hD.1 (by rw [hX]; exact hm), b2, true_or, if_true]
theorem sew_y {σ : Mem} {μ : MMem} {k d N n t : Nat} {D : DS} (hr : RowAt σ μ d N) (hp : PinT σ d n t) (ht : 3 * t + 2 < N) (hX : dsX σ k = D) (hD : OkN D n) (hm : mayP (σ (8 + 2 * d)) n D t = 1) : ∃ σ', f_X11_sewPinOfRow k d (nI t) σ = some (1, σ') ∧ DX σ σ' k (doP (σ (8 + 2 * d)) D t) := by
  obtain ⟨a1, a2, a3, b1', b2', b3'⟩ := hp.g hD.1
  have hX2 : (dsX σ k).1 0 = nI n := by rw [hX]; exact hD.2.1
  obtain ⟨σ', e, x⟩ := tryPin_y a1 hX2 a3 hD.1 (f := pf (σ (8 + 2 * d)) t) (by rw [hX]; exact hm)
  rw [hX] at x
  refine ⟨σ', ?_, x⟩
  simp only [f_X11_sewPinOfRow, mul3, add1, add2, at_s hr (show 3 * t < N by omega), at_s hr (show 3 * t + 1 < N by omega), at_s hr ht, b1, b1', b2', b3', atK a1, if_pos a1, e, b2, or_true, if_true]
theorem puts_n {σ : Mem} {μ : MMem} {d N n t : Nat} {D : DS} (hr : RowAt σ μ d N) (hp : PinT σ d n t) (ht : 3 * t + 2 < N) (hX : dsM μ = D) (hD : OkN D n) (hm : mayP (σ (8 + 2 * d)) n D t = 0) : f_X12_puts (nI d) (nI t) μ = some (0, μ) := by
  obtain ⟨a1, a2, a3, b1', b2', b3'⟩ := hp.g hD.1
  have hN := hr.2.1
  have hX2 : (dsM μ).1 0 = nI n := by rw [hX]; exact hD.2.1
  have hm' : mayI (dsM μ) n (pj (σ (8 + 2 * d)) t) (pf (σ (8 + 2 * d)) t) (pr (σ (8 + 2 * d)) t) = 0 := by rw [hX]; exact hm
  simp only [f_X12_puts, mul3, add1, add2, told_s hr (show 3 * t < 100 by omega), told_s hr (show 3 * t + 1 < 100 by omega), told_s hr (show 3 * t + 2 < 100 by omega), b1, b1', b2', b3', mayBe_s a1 hX2 a3 hD.1, hm', true_or, if_true]
theorem puts_y {σ : Mem} {μ : MMem} {d N n t : Nat} {D : DS} (hr : RowAt σ μ d N) (hp : PinT σ d n t) (ht : 3 * t + 2 < N) (hX : dsM μ = D) (hD : OkN D n) (hm : mayP (σ (8 + 2 * d)) n D t = 1) : ∃ μ', f_X12_puts (nI d) (nI t) μ = some (1, μ') ∧ MD μ μ' (doP (σ (8 + 2 * d)) D t) := by
  obtain ⟨a1, a2, a3, b1', b2', b3'⟩ := hp.g hD.1
  have hN := hr.2.1
  subst hX
  have hX2 := hD.2.1
  have hm' : mayI (dsM μ) n (pj (σ (8 + 2 * d)) t) (pf (σ (8 + 2 * d)) t) (pr (σ (8 + 2 * d)) t) = 1 := hm
  obtain ⟨μ', e, x⟩ := does_s a1 hD a3 a2 hm'
  refine ⟨μ', ?_, x⟩
  simp only [f_X12_puts, mul3, add1, add2, told_s hr (show 3 * t < 100 by omega), told_s hr (show 3 * t + 1 < 100 by omega), told_s hr (show 3 * t + 2 < 100 by omega), b1, b1', b2', b3', mayBe_s a1 hX2 a3 hD.1, hm', if_neg ne10, e, or_true, if_true]
theorem mayP01 {ρ : Nat → Int32} {n : Nat} {D : DS} {t : Nat} : mayP ρ n D t = 0 ∨ mayP ρ n D t = 1 := mayI_01
theorem dv3 {m : Nat} (h : m ≤ 100) : nI (3 * m) / 3 = nI m := by
  rw [show (3 : Int32) = nI 3 from rfl, pk_div (by omega) (by decide) (by decide), Nat.mul_div_cancel_left m (by decide)]
theorem first_s {σ0 : Mem} {μ0 : MMem} {d m n : Nat} (hr0 : RowAt σ0 μ0 d (3 * m)) (hp0 : ∀ t, t < m → PinT σ0 d n t) {K : Int32 → Int32 → MMem → Option (Int32 × MMem)} : ∀ (f t : Nat) (σi : Mem) (μi : MMem) (D : DS), t ≤ m → m < t + f → DX σ0 σi 2 D → MF 6 μ0 μi D → OkN D n →
    ∃ r σ' D' D'' z μ', f_X11_first_L38 d (nI m) (f + 1) (nI t) σi (fun _ σ => some (-4, σ)) = some (r, σ') ∧ DX σ0 σ' 2 D' ∧ f_X12_first_L27 (nI d) (f + 1) (-4) (nI t) μi K = K r z μ' ∧ MF 6 μ0 μ' D'' ∧ μ' 6 = μi 6 := by
  intro f
  induction f with
  | zero => intro t σi μi D h1 h2; omega
  | succ f ih =>
    intro t σi μi D h1 h2 hx hm hD
    have hr := hr0.fr (by decide) hx hm
    have hd := hr.1
    have hN := hr.2.1
    have hpd : ¬ (nI d < 0 ∨ 8 ≤ (nI d).toNatClampNeg) := nI_in hd (by decide)
    have hcd := nI_clamp (show d < 2 ^ 31 by omega)
    rw [f_X11_first_L38, f_X12_first_L27, if_neg hpd, hcd, hr.2.2.2.1, dv3 (by omega)]
    by_cases e : t = m
    · subst e
      rw [if_pos (nI_le (Nat.le_refl _) (by omega)), if_pos (nI_le (Nat.le_refl _) (by omega))]
      exact ⟨-4, _, _, _, _, _, rfl, hx, rfl, hm, rfl⟩
    · have ht : t < m := by omega
      have hp := (hp0 t ht).fr (by decide) hx
      rw [if_neg (nI_ge ht (by omega)), if_neg (nI_ge ht (by omega)), if_neg (show ¬ (0 : Int32) ≤ -4 by decide)]
      rcases mayP01 (ρ := σi (8 + 2 * d)) (n := n) (D := D) (t := t) with h | h
      · rw [sew_n hr hp (by omega) hx.1 hD h, puts_n hr hp (by omega) hm.1 hD h]
        simp only [b2, if_true, bnd, nI_1]
        refine ⟨nI t, _, _, _, nI (t + 1), μi, rfl, hx, ?_, hm, rfl⟩
        rw [f_X12_first_L27, if_neg hpd, hcd, hr.2.2.2.1, dv3 (by omega)]
        by_cases e2 : nI m ≤ nI (t + 1)
        · rw [if_pos e2]
        · rw [if_neg e2, if_pos (nI_pos' (by omega))]
      · obtain ⟨σ', e1, x1⟩ := sew_y hr hp (by omega) hx.1 hD h
        obtain ⟨μ', e2, x2⟩ := puts_y hr hp (by omega) hm.1 hD h
        rw [e1, e2]
        simp only [b2, if_neg ne10, bnd, nI_1]
        obtain ⟨r, σ2, D', D'', z, μ2, g1, g2, g3, g4, g5⟩ := ih (t + 1) σ' μ' _ (by omega) (by omega) (hx.tr x1) (hm.tr x2.mf) (hD.doP hp h)
        exact ⟨r, σ2, D', D'', z, μ2, g1, g2, g3, g4, g5.trans (x2.2.1 6 (by omega))⟩
theorem eq_first {σ : Mem} {μ : MMem} (hR : Rel σ μ) (p1 : Int32) : ∃ r σ' μ', f_X11_first p1 σ = some (r, σ') ∧ f_X12_first p1 μ = some (r, μ') ∧ Rel σ' μ' := by
  have hR1 := hR.t
  obtain ⟨n, hn⟩ := hR1.2.1.n
  unfold f_X11_first f_X12_first
  generalize hL1 : f_X11_first_L38 = L1
  generalize hL2 : f_X12_first_L27 = L2
  simp only [bnd]
  rcases pinsrow hR1 hn p1 with ⟨v, hv, e1, e2⟩ | ⟨d, m, rfl, hr, h6, e1, e2, hp⟩
  · simp only [e1, e2, b1s, if_neg (show ¬ v = 0 from fun z => absurd hv (by rw [z]; decide)), if_neg (Int32.not_le.mpr hv)]
    exact ⟨_, _, _, rfl, rfl, hR1⟩
  · have hd := hr.1
    obtain ⟨σ2, e3, x3⟩ := becomeLike_s (σ := σ) (k := 2) (k' := 0) (by decide)
    obtain ⟨μ2, e4, m4, r4⟩ := open_s (μ := uI μ 0 9 0)
    rw [hR1.1] at x3
    simp only [e1, e2, b1s, if_true, Int32.le_refl, atS hd, if_pos (show d < 9 by omega), f_X11_pinsIn, hr.2.2.1, dv3 (show m ≤ 100 by omega), e3, e4]
    subst hL1 hL2
    obtain ⟨r, σ', D', D'', z, μ', g1, g2, g3, g4, g5⟩ := first_s hr hp (K := fun x3 _ σ => b1 (f_X12_close σ) fun σ2 => some (x3, σ2)) 4999 0 σ2 μ2 _ (by omega) (by omega) x3 m4 hn
    obtain ⟨μ3, e5, m5, _⟩ := close_s (μ := μ')
    rw [g5, r4] at m5
    exact ⟨r, σ', μ3, g1, g3.trans (by rw [e5]; rfl), (hR1.m (g4.tr m5)).mind (by decide) g2⟩
