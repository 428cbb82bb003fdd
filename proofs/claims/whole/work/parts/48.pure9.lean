/-! PURE, 9: line, image, restore, count, fit -/
theorem MD.put {μ0 μ : MMem} {d d' : DS} {j c : Nat} {x : Int32} (h : MD μ0 μ d) (hj : (j = 0 ∧ c = 0) ∨ (j = 1 ∧ c = 3) ∨ (j = 2 ∧ c = 4) ∨ (j = 3 ∧ c = 1) ∨ (j = 4 ∧ c = 2)) (e : d' = setQ d j x) : MD μ0 (uI μ 0 c x) d' := by
  have t := MD.q (μ := μ) (x := x) hj
  rw [h.1] at t
  rw [e]
  exact h.tr t
theorem eq_line {σ : Mem} {μ : MMem} (hR : Rel σ μ) (p1 p2 : Int32) : ∃ r σ' μ', f_X11_line p1 p2 σ = some (r, σ') ∧ f_X12_line p1 p2 μ = some (r, μ') ∧ Rel σ' μ' := by
  have hR1 := hR.t
  obtain ⟨n, hn⟩ := hR1.2.1.n
  have hx0 : σ (1 + 2 * 0) 2 = (uI μ 0 9 0 0).1 3 := by
    have h : (dsX σ 0).1 1 = (dsM (uI μ 0 9 0)).1 1 := by rw [hR1.1]
    exact h
  have hx1 : σ (1 + 2 * 0) 3 = (uI μ 0 9 0 0).1 4 := by
    have h : (dsX σ 0).1 2 = (dsM (uI μ 0 9 0)).1 2 := by rw [hR1.1]
    exact h
  simp only [f_X11_line, f_X12_line, bnd, jn]
  rcases rng (p := p1) (n := 1) (by decide) 1 1 rfl rfl with ⟨j, hj, rfl, _, e1⟩ | ⟨ho, _, e1⟩
  · have hj2 : j = 0 ∨ j = 1 := by omega
    rcases hj2 with rfl | rfl
    · simp (decide := true) only [e1, b1, if_neg ne10, if_true, if_false]
      rcases rng (p := p2) (n := 9) (by decide) 9 9 rfl rfl with ⟨x, hx, rfl, e2, e3⟩ | ⟨_, e2, e3⟩
      · simp only [e2, e3, if_neg ne10]
        have d1 : MD (uI μ 0 9 0) (uI (uI μ 0 9 0) 0 3 (nI x)) (setQ (dsM (uI μ 0 9 0)) 1 (nI x)) := MD.q (j := 1) (by simp)
        have d2 := d1.put (d' := setQ (dsM (uI μ 0 9 0)) 1 (nI x)) (j := 2) (c := 4) (x := (uI (uI μ 0 9 0) 0 3 (nI x) 0).1 4) (by simp) (by
          rw [← M_q2, d1.1, setQ_id])
        refine ⟨_, _, _, rfl, by rw [hx0], hR1.dm (d := setQ (dsM (uI μ 0 9 0)) 1 (nI x)) ?_ d2.mf (hn.t hx).ok⟩
        have t := DX.q (σ := σ) (k := 0) (j := 1) (x := nI x) (by decide)
        rw [hR1.1] at t
        exact t
      · simp only [e2, e3, if_true]
        exact ⟨_, _, _, rfl, rfl, hR1⟩
    · simp (decide := true) only [e1, b1, if_neg ne10, if_true, if_false]
      rcases rng (p := p2) (n := 30) (by decide) 30 30 rfl rfl with ⟨x, hx, rfl, e2, e3⟩ | ⟨_, e2, e3⟩
      · simp only [e2, e3, if_neg ne10]
        have d1 : MD (uI μ 0 9 0) (uI (uI μ 0 9 0) 0 3 ((uI μ 0 9 0 0).1 3)) (dsM (uI μ 0 9 0)) := MD.rf.put (j := 1) (by simp) (by rw [← M_q1, setQ_id])
        have d2 := d1.put (d' := setQ (dsM (uI μ 0 9 0)) 2 (nI x)) (j := 2) (c := 4) (x := nI x) (by simp) rfl
        refine ⟨_, _, _, rfl, by rw [hx1], hR1.dm (d := setQ (dsM (uI μ 0 9 0)) 2 (nI x)) ?_ d2.mf (hn.l hx).ok⟩
        have t := DX.q (σ := σ) (k := 0) (j := 2) (x := nI x) (by decide)
        rw [hR1.1] at t
        exact t
      · simp only [e2, e3, if_true]
        exact ⟨_, _, _, rfl, rfl, hR1⟩
  · have n0 : ¬ p1 = 0 := fun z => by subst z; revert ho; decide
    have n1 : ¬ p1 = 1 := fun z => by subst z; revert ho; decide
    simp only [e1, b1, if_neg n0, if_neg n1, if_true]
    exact ⟨_, _, _, rfl, rfl, hR1⟩
theorem eq_image {σ : Mem} {μ : MMem} (hR : Rel σ μ) : ∃ r σ' μ', f_X11_image σ = some (r, σ') ∧ f_X12_image μ = some (r, μ') ∧ Rel σ' μ' := by
  have hR1 := hR.t
  obtain ⟨σ2, e1, x1⟩ := becomeLike_s (σ := σ) (k := 1) (k' := 0) (by decide)
  have hd : dsM (uI (uI μ 0 9 0) 0 12 1) = dsM (uI μ 0 9 0) := by
    unfold dsM
    rw [uI_f (by omega), uI_f (by omega), uI_f (by omega), uI_f (by omega), uI_f (by omega)]
    exact ds_ext (fun _ _ => rfl) (fun r w _ _ => by rw [uI_ne (by omega)])
  obtain ⟨μ2, e2, m2, m5⟩ := save_s (μ := uI (uI μ 0 9 0) 0 12 1) (t := 5) (Or.inl rfl)
  rw [hd] at m2 m5
  have h0 : dsX (uX σ2 0 9 1) 0 = dsM (uI μ 0 9 0) := by
    unfold dsX
    rw [uX_ne (by omega), uX_ne (by omega)]
    exact (x1.other (k' := 0) (by decide)).trans hR1.1
  have h1 : dsX (uX σ2 0 9 1) 1 = dsM (uI μ 0 9 0) := by
    have : dsX (uX σ2 0 9 1) 1 = dsX σ2 1 := by
      unfold dsX
      rw [uX_ne (by omega), uX_ne (by omega)]
    rw [this, x1.1, hR1.1]
  have hv : uX σ2 0 9 1 (1 + 2 * 0) 1 = (μ2 0).1 0 := by
    have a : (dsX (uX σ2 0 9 1) 0).1 0 = (dsM μ2).1 0 := by rw [h0, m2.1]
    exact a
  simp only [f_X11_image, f_X12_image, bnd, e1, e2, b1]
  refine ⟨_, _, _, rfl, by rw [hv], h0.trans m2.1.symm, by rw [m2.1]; exact hR1.2.1, ?_, fun i hi => (hR1.2.2.2 i hi).fr ?_ ?_ (fun j hj => ?_)⟩
  · have e : (μ2 0).1 12 = 1 := by
      rw [m2.2.2 12 (by omega) (by omega) (by omega) (by omega), rdI, if_pos ⟨rfl, rfl⟩]
    rw [e, h1, m5]
    exact ⟨by simp [uX, upR, upd], Or.inr rfl, fun _ => ⟨rfl, hR1.2.1⟩⟩
  · rw [uX_ne (by omega), x1.2 _ (by omega) (by omega)]
  · rw [uX_ne (by omega), x1.2 _ (by omega) (by omega)]
  · rw [m2.2.1 j (by omega) (by omega), uI_ne (by omega)]
theorem eq_restore {σ : Mem} {μ : MMem} (hR : Rel σ μ) : ∃ r σ' μ', f_X11_restore σ = some (r, σ') ∧ f_X12_restore μ = some (r, μ') ∧ Rel σ' μ' := by
  have hR1 := hR.t
  obtain ⟨a1, a2, a3⟩ := hR1.2.2.1
  simp only [f_X11_restore, f_X12_restore, bnd]
  rw [a1]
  rcases a2 with e | e
  · rw [e, if_pos rfl, if_pos rfl]
    exact ⟨_, _, _, rfl, rfl, hR1⟩
  · obtain ⟨b1', b2'⟩ := a3 e
    rw [e, if_neg ne10, if_neg ne10]
    obtain ⟨σ2, e1, x1⟩ := becomeLike_s (σ := σ) (k := 0) (k' := 1) (by decide)
    obtain ⟨μ2, e2, m2, m5⟩ := take_s (μ := uI μ 0 9 0) (t := 5) (Or.inl rfl)
    rw [b1'] at x1
    have hv : σ2 (1 + 2 * 0) 1 = (μ2 0).1 0 := by
      have a : (dsX σ2 0).1 0 = (dsM μ2).1 0 := by rw [x1.1, m2.1]
      exact a
    simp only [e1, e2, b1]
    refine ⟨_, _, _, rfl, by rw [hv], hR1.dm x1 (d := dsR (uI μ 0 9 0 5).1) ⟨m2.1, fun i hi _ => ?_, m2.2.2⟩ b2'⟩
    by_cases h5 : i = 5
    · subst h5; exact m5
    · exact m2.2.1 i hi h5
/-- what the first i rings have together -/
def sumV (d : DS) (w : Nat) : Nat → Int32
  | 0 => 0
  | i + 1 => sumV d w i + d.2 i w
theorem total_s {σ : Mem} {k n w : Nat} (hn : (dsX σ k).1 0 = nI n) (h6 : n ≤ 6) (hw : w < 4) : f_X0_total k (nI w) σ = some (sumV (dsX σ k) w n) := by
  have hq : σ (1 + 2 * k) 1 = nI n := hn
  have : ∀ (m i : Nat), i ≤ n → n < i + m → f_X0_total_L4 k (nI w) σ m (sumV (dsX σ k) w i) (nI i) (fun x _ => some x) = some (sumV (dsX σ k) w n) := by
    intro m
    induction m with
    | zero => intro i h1 h2; omega
    | succ m ih =>
      intro i h1 h2
      rw [f_X0_total_L4, hq]
      by_cases e : i = n
      · subst e
        rw [if_pos (nI_le (Nat.le_refl _) (by omega))]
      · rw [if_neg (nI_ge (by omega) (by omega)), get_s (by omega) hw]
        simp only [b1, bnd, nI_1]
        exact ih (i + 1) (by omega) (by omega)
  exact this 5000 0 (by omega) (by omega)
theorem countL_s {μ : MMem} {n : Nat} (hn : (dsM μ).1 0 = nI n) (h6 : n ≤ 6) {K : Int32 → Int32 → Int32 → MMem → Option (Int32 × MMem)} : ∀ (m i : Nat), i ≤ n → n < i + m →
    f_X12_count_L12 m (sumV (dsM μ) 2 i) (sumV (dsM μ) 1 i) (nI i) μ K = K (sumV (dsM μ) 2 n) (sumV (dsM μ) 1 n) (nI n) μ := by
  intro m
  induction m with
  | zero => intro i h1 h2; omega
  | succ m ih =>
    intro i h1 h2
    rw [M_q0] at hn
    rw [f_X12_count_L12, hn]
    by_cases e : i = n
    · subst e
      rw [if_pos (nI_le (Nat.le_refl _) (by omega))]
    · have hi6 : i < 6 := by omega
      rw [if_neg (nI_ge (by omega) (by omega))]
      simp only [nI_clamp (show i < 2 ^ 31 by omega), bad_i hi6 (show 6 < 2 ^ 31 by decide), if_false, bnd, nI_1, ← M_v2 (μ := μ) hi6, ← M_v1 (μ := μ) hi6]
      exact ih (i + 1) (by omega) (by omega)
theorem eq_count {σ : Mem} {μ : MMem} (hR : Rel σ μ) (p1 : Int32) : ∃ r μ', f_X11_count p1 σ = some r ∧ f_X12_count p1 μ = some (r, μ') ∧ Rel σ μ' := by
  have hR1 := hR.t
  obtain ⟨n, hn⟩ := hR1.2.1.n
  have hM := hn.2.1
  have hX : (dsX σ 0).1 0 = nI n := by rw [hR1.1]; exact hM
  have t1 := total_s hX hn.1 (w := 1) (by decide)
  have t2 := total_s hX hn.1 (w := 2) (by decide)
  have t1 : f_X0_total 0 1 σ = _ := t1
  have t2 : f_X0_total 0 2 σ = _ := t2
  have q : ∀ j, (dsX σ 0).1 j = (dsM (uI μ 0 9 0)).1 j := fun j => by rw [hR1.1]
  have q0 : σ (1 + 2 * 0) 1 = (uI μ 0 9 0 0).1 0 := q 0
  have q1 : σ (1 + 2 * 0) 2 = (uI μ 0 9 0 0).1 3 := q 1
  have q2 : σ (1 + 2 * 0) 3 = (uI μ 0 9 0 0).1 4 := q 2
  have q3 : σ (1 + 2 * 0) 4 = (uI μ 0 9 0 0).1 1 := q 3
  have q4 : σ (1 + 2 * 0) 5 = (uI μ 0 9 0 0).1 2 := q 4
  have h6 := hn.1
  have hL := countL_s hM hn.1 (K := fun x2_12 x3_13 _ σ_15 =>
    if p1 = 0 then some ((σ_15 0).1 0, σ_15) else if p1 = 1 then some ((σ_15 0).1 1, σ_15) else if p1 = 2 then some ((σ_15 0).1 2, σ_15)
    else if p1 = 3 then some ((σ_15 0).1 3, σ_15) else if p1 = 4 then some ((σ_15 0).1 4, σ_15) else if p1 = 5 then some (x2_12, σ_15) else if p1 = 6 then some (x3_13, σ_15) else some ((-1), σ_15)) 5000 0 (by omega) (by omega)
  have hL2 : f_X12_count p1 μ = _ := hL
  rw [hL2]
  simp only [f_X11_count, t1, t2, b1, hR1.1, q0, q1, q2, q3, q4]
  refine ⟨if p1 = 0 then (uI μ 0 9 0 0).1 0 else if p1 = 1 then (uI μ 0 9 0 0).1 1 else if p1 = 2 then (uI μ 0 9 0 0).1 2
    else if p1 = 3 then (uI μ 0 9 0 0).1 3 else if p1 = 4 then (uI μ 0 9 0 0).1 4 else if p1 = 5 then sumV (dsM (uI μ 0 9 0)) 2 n else if p1 = 6 then sumV (dsM (uI μ 0 9 0)) 1 n else -1, uI μ 0 9 0, ?_, ?_, hR1⟩
  · repeat' split
    all_goals rfl
  · repeat' split
    all_goals rfl
