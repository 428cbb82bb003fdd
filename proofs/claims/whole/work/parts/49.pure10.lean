/-! PURE, 10: bestPin -/
theorem Rel.mind {σ σ' : Mem} {μ : MMem} {k : Nat} {d : DS} (hk : 2 ≤ k ∧ k < 3) (h : Rel σ μ) (hX : DX σ σ' k d) : Rel σ' μ := by
  refine ⟨(hX.other (k' := 0) (by omega)).trans h.1, h.2.1, ?_, fun i hi => (h.2.2.2 i hi).fr (hX.2 _ (by omega) (by omega)) (hX.2 _ (by omega) (by omega)) (fun j hj => rfl)⟩
  rw [hX.2 0 (by omega) (by omega), hX.other (k' := 1) (by omega)]
  exact h.2.2.1
/-- the reference tries a pin, and takes it back -/
theorem trial_s {μ : MMem} {n j f r : Nat} (hj : j < 8) (h : OkN (dsM μ) n) (hr : r < n) (hf : f < 10) (hm : mayI (dsM μ) n j f r = 1) :
    ∃ μ1 μ2 μ3, f_X12_open μ = some μ1 ∧ f_X12_does (nI j) (nI f) (nI r) μ1 = some μ2 ∧ f_X12_lacksNow μ2 = some (lackS (doesX (dsM μ) j f r)) ∧ f_X12_close μ2 = some μ3 ∧ MF 6 μ μ3 (dsM μ) := by
  obtain ⟨μ1, e1, m1, r1⟩ := open_s (μ := μ)
  have h1 : OkN (dsM μ1) n := by rw [m1.1]; exact h
  obtain ⟨μ2, e2, m2⟩ := does_s hj h1 hr hf (by rw [m1.1]; exact hm)
  rw [m1.1] at m2
  have hO := okDoes hj h hr hf hm
  have hl := lacksNow_s (μ := μ2) (N := n) (by rw [m2.1]; exact hO.2.1) h.1
  rw [m2.1] at hl
  obtain ⟨μ3, e3, m3, _⟩ := close_s (μ := μ2)
  rw [m2.2.1 6 (by omega), r1] at m3
  exact ⟨μ1, μ2, μ3, e1, e2, hl, e3, (m1.tr m2.mf).tr m3⟩
theorem dv10 {c : Nat} (hc : c < 2 ^ 31) : nI c / 10 = nI (c / 10) := pk_div (d := 10) hc (by decide) (by decide)
theorem dv100 {c : Nat} (hc : c < 2 ^ 31) : nI c / 100 = nI (c / 100) := pk_div (d := 100) hc (by decide) (by decide)
theorem rm10 {c : Nat} (hc : c < 2 ^ 31) : nI c - nI (c / 10) * 10 = nI (c % 10) := by
  rw [← dv10 hc]
  exact pk_rem (d := 10) hc (by decide) (by decide)
theorem ite_sk {A : Type} {c1 c2 : Prop} [Decidable c1] [Decidable c2] {X Y : A} (h : ¬ (c1 ∧ c2)) : (if c1 then (if c2 then X else Y) else Y) = Y := by
  by_cases h1 : c1
  · rw [if_pos h1, if_neg (fun z => h ⟨h1, z⟩)]
  · rw [if_neg h1]
theorem ite_sl {A : Type} {c1 c2 : Prop} [Decidable c1] [Decidable c2] {X Y : A} (h : ¬ (c1 ∧ ¬ c2)) : (if c1 then (if c2 then Y else X) else Y) = Y := by
  by_cases h1 : c1
  · by_cases h2 : c2
    · rw [if_pos h1, if_pos h2]
    · exact absurd ⟨h1, h2⟩ h
  · rw [if_neg h1]
theorem ka0 {a : Nat} (h : a < 2 ^ 31) : (nI a = 0) = (a = 0) := propext (nI_eq (b := 0) h (by decide))
theorem best_s {σ : Mem} {μ : MMem} {n a : Nat} {p2 : Int32} (hXM : dsX σ 0 = dsM μ) (hn : OkN (dsM μ) n) (ha : a ≤ 1) : ∀ (m c : Nat) (x3 x4 x5 : Int32) (σi : Mem) (μi : MMem), c ≤ 100 * n → 100 * n < c + m → (x3 = -4 ∨ 0 ≤ x3) → (∃ d, DX σ σi 2 d) → MF 6 μ μi (dsM μ) →
    ∃ r σ' μ', f_X11_bestPin_L38 (nI a) m x3 x4 x5 (nI c) σi (fun x3 x4 _ _ σ => if p2 = 0 then some (x3, σ) else some (x4, σ)) = some (r, σ') ∧
      f_X12_bestPin_L42 (nI a) m x3 x4 x5 (nI c) μi (fun x3 x4 _ _ σ => if p2 = 0 then some (x3, σ) else some (x4, σ)) = some (r, μ') ∧ (∃ d, DX σ σ' 2 d) ∧ MF 6 μ μ' (dsM μ) := by
  intro m
  induction m with
  | zero => intro c x3 x4 x5 σi μi h1 h2; omega
  | succ m ih =>
    intro c x3 x4 x5 σi μi h1 h2 h3 hx hm
    have h6 := hn.1
    obtain ⟨dd, hx⟩ := hx
    have hX0 : dsX σi 0 = dsM μ := (hx.other (k' := 0) (by decide)).trans hXM
    have q1 : σi (1 + 2 * 0) 1 = nI n := by
      have h : (dsX σi 0).1 0 = nI n := by rw [hX0]; exact hn.2.1
      exact h
    have q2 : (μi 0).1 0 = nI n := by rw [← M_q0, hm.1]; exact hn.2.1
    have h100 : (100 : Int32) * nI n = nI (100 * n) := pk_mul 100 n
    rw [f_X11_bestPin_L38, f_X12_bestPin_L42, q1, q2, h100]
    by_cases e : c = 100 * n
    · subst e
      rw [if_pos (nI_le (Nat.le_refl _) (by omega)), if_pos (nI_le (Nat.le_refl _) (by omega))]
      by_cases hp : p2 = 0
      · simp only [if_pos hp]
        exact ⟨_, _, _, rfl, rfl, ⟨_, hx⟩, hm⟩
      · simp only [if_neg hp]
        exact ⟨_, _, _, rfl, rfl, ⟨_, hx⟩, hm⟩
    · have hc : c < 100 * n := by omega
      rw [if_neg (nI_ge (a := c) (b := 100 * n) hc (by omega)), if_neg (nI_ge (a := c) (b := 100 * n) hc (by omega))]
      simp only [bnd, jn, dv10 (show c < 2 ^ 31 by omega), dv100 (show c < 2 ^ 31 by omega), dv10 (show c / 10 < 2 ^ 31 by omega), rm10 (show c < 2 ^ 31 by omega), rm10 (show c / 10 < 2 ^ 31 by omega), nI_1]
      have hf : c % 10 < 10 := by omega
      have hr : c / 100 < n := by omega
      have sk : ∀ σ2, (∃ d, DX σ σ2 2 d) → ∃ r σ' μ', f_X11_bestPin_L38 (nI a) m x3 x4 x5 (nI (c + 1)) σ2 (fun x3 x4 _ _ σ => if p2 = 0 then some (x3, σ) else some (x4, σ)) = some (r, σ') ∧
          f_X12_bestPin_L42 (nI a) m x3 x4 x5 (nI (c + 1)) μi (fun x3 x4 _ _ σ => if p2 = 0 then some (x3, σ) else some (x4, σ)) = some (r, μ') ∧ (∃ d, DX σ σ' 2 d) ∧ MF 6 μ μ' (dsM μ) := fun σ2 h => ih (c + 1) x3 x4 x5 σ2 μi (by omega) (by omega) h3 h hm
      have hj10 : c / 10 % 10 < 10 := by omega
      generalize c / 10 % 10 = j at hj10
      generalize c % 10 = f at hf
      generalize c / 100 = r at hr
      by_cases h8 : 8 ≤ j
      · simp only [if_pos (show (8 : Int32) ≤ nI j from nI_le (a := 8) h8 (by omega)), if_true]
        exact sk σi ⟨_, hx⟩
      · have hj : j < 8 := by omega
        simp only [if_neg (show ¬ (8 : Int32) ≤ nI j from nI_ge (a := j) (b := 8) hj (by decide)), kq4 hj, kq1 (show a < 8 by omega), ka0 (show a < 2 ^ 31 by omega)]
        by_cases hq : j = 4 ∧ a = 0
        · obtain ⟨rfl, rfl⟩ := hq
          simp (decide := true) only [if_true, if_false]
          exact sk σi ⟨_, hx⟩
        · rw [ite_sk hq, ite_sl (c2 := a = 1) (show ¬ (j = 4 ∧ ¬ a = 1) by omega)]
          obtain ⟨σ2, e2, x2⟩ := becomeLike_s (σ := σi) (k := 2) (k' := 0) (by decide)
          rw [hX0] at x2
          have hX2 : (dsX σ2 2).1 0 = nI n := by rw [x2.1]; exact hn.2.1
          have hmi : OkN (dsM μi) n := by rw [hm.1]; exact hn
          rcases mayI_01 (d := dsM μ) (n := n) (j := j) (f := f) (r := r) with h | h
          · simp only [e2, b1, atK hj, if_pos hj, tryPin_n hj hX2 hr hn.1 (by rw [x2.1]; exact h), b2, if_true, mayBe_s hj hmi.2.1 hr hn.1, hm.1, h]
            exact sk σ2 ⟨_, hx.tr x2⟩
          · obtain ⟨σ3, e3, x3'⟩ := tryPin_y hj hX2 hr hn.1 (by rw [x2.1]; exact h)
            rw [x2.1] at x3'
            obtain ⟨μ1, μ2, μ3, e4, e5, e6, e7, m7⟩ := trial_s hj hmi hr hf (by rw [hm.1]; exact h)
            rw [hm.1] at e6 m7
            have hO := okDoes hj hn hr hf h
            have hl := lacking_s (σ := σ3) (k := 2) (N := n) (by rw [x3'.1]; exact hO.2.1) hn.1
            rw [x3'.1] at hl
            simp only [e2, b1, atK hj, if_pos hj, e3, b2, if_neg ne10, hl, cost_s hj, mayBe_s hj hmi.2.1 hr hn.1, hm.1, h, e4, e5, e6, e7, minutesOf_s hj hf]
            have go : ∀ (y3 y4 y5 : Int32), (y3 = -4 ∨ 0 ≤ y3) → _ := fun y3 y4 y5 hy => ih (c + 1) y3 y4 y5 σ3 μ3 (by omega) (by omega) hy ⟨_, (hx.tr x2).tr x3'⟩ (hm.tr m7)
            have hc0 : (0 : Int32) ≤ nI c := nI_pos' (by omega)
            by_cases g1 : lackS (doesX (dsM μ) j f r) < x4
            · rw [if_pos g1, if_pos g1]
              exact go (nI c) _ _ (Or.inr hc0)
            · rw [if_neg g1, if_neg g1]
              have g2 : (x3 = -4) = (x3 < 0) := by
                rcases h3 with rfl | h3
                · decide
                · exact propext ⟨fun z => by subst z; exact absurd h3 (by decide), fun z => absurd z (Int32.not_lt.mpr h3)⟩
              simp only [g2]
              by_cases g3 : x3 < 0
              · rw [if_pos g3, if_pos g3]
                exact go x3 x4 x5 h3
              · rw [if_neg g3, if_neg g3]
                by_cases g4 : lackS (doesX (dsM μ) j f r) = x4
                · rw [if_pos g4, if_pos g4]
                  by_cases g5 : x5 ≤ costX j (nI f)
                  · rw [if_pos g5, if_pos g5]
                    exact go x3 x4 x5 h3
                  · rw [if_neg g5, if_neg g5]
                    exact go (nI c) _ _ (Or.inr hc0)
                · rw [if_neg g4, if_neg g4]
                  exact go x3 x4 x5 h3
theorem eq_bestPin {σ : Mem} {μ : MMem} (hR : Rel σ μ) (p1 p2 : Int32) : ∃ r σ' μ', f_X11_bestPin p1 p2 σ = some (r, σ') ∧ f_X12_bestPin p1 p2 μ = some (r, μ') ∧ Rel σ' μ' := by
  have hR1 := hR.t
  obtain ⟨n, hn⟩ := hR1.2.1.n
  have hM := hn.2.1
  have hX : (dsX σ 0).1 0 = nI n := by rw [hR1.1]; exact hM
  simp only [f_X11_bestPin, f_X12_bestPin, bnd, in_w (p := p2) (a := 0) (b := 1) (lo := 0) (hi := 1) rfl rfl]
  rcases rng (p := p1) (n := 1) (by decide) 1 1 rfl rfl with ⟨a, ha, rfl, e1, e2⟩ | ⟨_, e1, e2⟩
  · simp only [e1, e2, b1, if_neg ne10]
    rcases wi_c p2 0 1 with e3 | e3
    · simp only [e3, if_true]
      exact ⟨_, _, _, rfl, rfl, hR1⟩
    · simp only [e3, if_neg ne10, lacking_s hX hn.1, lacksNow_s hM hn.1, hR1.1]
      have h6 := hn.1
      obtain ⟨r, σ', μ', g1, g2, ⟨d, g3⟩, g4⟩ := best_s (p2 := p2) hR1.1 hn ha 5000 0 (-4) (lackS (dsM (uI μ 0 9 0))) 0 σ (uI μ 0 9 0) (by omega) (by omega) (Or.inl rfl) ⟨_, DX.rf⟩ MD.rf.mf
      exact ⟨r, σ', μ', g1, g2, (hR1.m g4).mind (by decide) g3⟩
  · simp only [e1, e2, b1, if_true]
    exact ⟨_, _, _, rfl, rfl, hR1⟩
