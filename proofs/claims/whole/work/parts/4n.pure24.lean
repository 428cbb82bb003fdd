/-! PURE, 24: orders -/
def FX (dep : Nat) (σ σ' : Mem) : Prop := (∀ i, i ≠ 0 → (i ≤ 8 + 2 * dep ∨ 18 < i) → σ' i = σ i) ∧ ∀ j, j ≠ 10 → j ≠ 11 → σ' 0 j = σ 0 j
theorem FX.rf {dep : Nat} {σ : Mem} : FX dep σ σ := ⟨fun _ _ _ => rfl, fun _ _ _ => rfl⟩
theorem FX.tr {dep : Nat} {σ σ1 σ2 : Mem} (h1 : FX dep σ σ1) (h2 : FX dep σ1 σ2) : FX dep σ σ2 := ⟨fun i a b => (h2.1 i a b).trans (h1.1 i a b), fun j a b => (h2.2 j a b).trans (h1.2 j a b)⟩
theorem FX.up {dep : Nat} {σ σ1 : Mem} (h : FX (dep + 1) σ σ1) : FX dep σ σ1 := ⟨fun i a b => h.1 i a (by omega), h.2⟩
theorem FX.dx {dep : Nat} {σ σ1 : Mem} {D : DS} (h : DX σ σ1 (3 + (dep + 1)) D) (hd : dep ≤ 4) : FX dep σ σ1 := ⟨fun i a b => h.2 i (by omega) (by omega), fun j _ _ => by rw [h.2 0 (by omega) (by omega)]⟩
theorem FX.ds {dep : Nat} {σ σ1 : Mem} (h : FX dep σ σ1) : dsX σ1 (3 + dep) = dsX σ (3 + dep) := by
  unfold dsX
  rw [h.1 (1 + 2 * (3 + dep)) (by omega) (by omega), h.1 (2 + 2 * (3 + dep)) (by omega) (by omega)]
theorem FX.row {dep d N : Nat} {σ σ1 : Mem} {μ : MMem} (h : FX dep σ σ1) (hr : RowAt σ μ d N) : RowAt σ1 μ d N := by
  unfold RowAt
  rw [h.1 (19 + 2 * d) (by omega) (by omega), h.1 (20 + 2 * d) (by omega) (by omega)]
  exact hr
theorem FX.pin {dep d n t : Nat} {σ σ1 : Mem} (h : FX dep σ σ1) (hp : PinT σ d n t) : PinT σ1 d n t := by
  unfold PinT
  rw [h.1 (20 + 2 * d) (by omega) (by omega)]
  exact hp
theorem stepAt_s : ∀ k, k < 6 → f_X11_stepAt (nI k) = some (3 + k) := by decide +kernel
def OSt (σ : Mem) (s : Nat × Option Nat) : Prop := σ 0 10 = nI s.1 ∧ σ 0 11 = encO s.2
theorem OSt.fr {σ σ' : Mem} {s : Nat × Option Nat} (h : OSt σ s) (e : σ' 0 = σ 0) : OSt σ' s := by
  unfold OSt
  rw [e]
  exact h
theorem walk_s {μ : MMem} {ρ : Nat → Int32} {nr m d : Nat} (hm : m ≤ 5) : ∀ (r fuel dep : Nat) (σ : Mem) (u : Nat) (D : DS) (s : Nat × Option Nat), dep + r = m → r < fuel → RowAt σ μ d (3 * m) → (∀ t, t < m → PinT σ d nr t) → σ (20 + 2 * d) = ρ → dsX σ (3 + dep) = D → OkN D nr → u < 64 → OSt σ s → od_ok s → s.1 + m ^ r ≤ 4000 →
    ∃ σ', f_X11_walkOrders fuel d (nI u) (nI dep) σ = some σ' ∧ FX dep σ σ' ∧ OSt σ' (od_add s (od_lv ρ nr m r u D)) ∧ od_ok (od_lv ρ nr m r u D) := by
  intro r
  induction r with
  | zero =>
    intro fuel dep σ u D s h1 h2 hr hp hρ hX hD hu hs hk hb
    obtain ⟨f, rfl⟩ : ∃ k, fuel = k + 1 := ⟨fuel - 1, by omega⟩
    obtain ⟨ek, hk6⟩ := kD_s hD
    have hl := lacking_s (σ := σ) (k := 3 + dep) (N := nr) (by rw [hX]; exact hD.2.1) hD.1
    rw [hX, ek] at hl
    have hB : f_X11_walkOrders (f + 1) d (nI u) (nI dep) σ = if nI s.1 = 0 then some (uX (uX σ 0 11 (nI (kD D))) 0 10 ((uX σ 0 11 (nI (kD D))) 0 10 + 1)) else some (uX (uX σ 0 11 (if nI (kD D) < encO s.2 then nI (kD D) else encO s.2)) 0 10 ((uX σ 0 11 (if nI (kD D) < encO s.2 then nI (kD D) else encO s.2)) 0 10 + 1)) := by
      rw [show f_X11_walkOrders (f + 1) = f_X11_walkOrders_B (f_X11_walkOrders f) from rfl, f_X11_walkOrders_B, stepAt_s dep (by omega), b1s, if_pos (show 3 + dep < 9 by omega), f_X11_pinsIn, hr.2.2.1, dv3 (show m ≤ 100 by omega), b1s]
      simp only [jns]
      rw [if_pos (nI_le (show m ≤ dep by omega) (by omega)), hl, b1s, hs.1, hs.2]
      simp only [bnds]
    have fr : ∀ v w, FX dep σ (uX (uX σ 0 11 v) 0 10 w) := fun v w => ⟨fun i a _ => by rw [uX_ne a, uX_ne a], fun j a b => by rw [rdX, if_neg (fun z => a z.2), rdX, if_neg (fun z => b z.2)]⟩
    have v10 : ∀ v w, (uX (uX σ 0 11 v) 0 10 w) 0 10 = w := fun v w => by rw [rdX, if_pos ⟨rfl, rfl⟩]
    have v11 : ∀ v w, (uX (uX σ 0 11 v) 0 10 w) 0 11 = v := fun v w => by rw [rdX, if_neg (by omega), rdX, if_pos ⟨rfl, rfl⟩]
    have c10 : ∀ v, (uX σ 0 11 v) 0 10 + 1 = nI (s.1 + 1) := fun v => by rw [rdX, if_neg (by omega), hs.1, nI_1]
    have h0 : (nI s.1 = 0) = (s.1 = 0) := propext (nI_eq (b := 0) (by omega) (by decide))
    simp only [c10] at hB
    by_cases c : s.1 = 0
    · refine ⟨_, hB.trans (if_pos (by rw [h0]; exact c)), fr _ _, ⟨v10 _ _, ?_⟩, od_ok_1 hk6⟩
      rw [v11]
      show nI (kD D) = encO (od_min s.2 (some (kD D)))
      rw [hk.1.mp c]
      rfl
    · refine ⟨_, hB.trans (if_neg (by rw [h0]; exact c)), fr _ _, ⟨v10 _ _, ?_⟩, od_ok_1 hk6⟩
      rw [v11]
      exact od_upX (c := s.1) (o := s.2) hk c hk6
  | succ r ih =>
    intro fuel dep σ u D s h1 h2 hr hp hρ hX hD hu hs hk hb
    obtain ⟨f0, rfl⟩ : ∃ k, fuel = k + 1 := ⟨fuel - 1, by omega⟩
    obtain ⟨P, hP⟩ : ∃ P, P = m ^ r := ⟨_, rfl⟩
    obtain ⟨g, hg⟩ : ∃ g : Nat → Nat × Option Nat, g = fun t => if u.testBit t = false ∧ mayP ρ nr D t = 1 then od_lv ρ nr m r (u ||| 2 ^ t) (doP ρ D t) else (0, none) := ⟨_, rfl⟩
    have hlv : od_lv ρ nr m (r + 1) u D = od_sum g m := by rw [hg]; rfl
    have loop : ∀ (j t f : Nat) (σt : Mem), t + j = m → j < f → FX dep σ σt → OSt σt (od_add s (od_sum g t)) → od_ok (od_sum g t) → (od_add s (od_sum g t)).1 + j * P ≤ 4000 →
        ∃ σ', f_X11_walkOrders_L79 d (nI u) (nI dep) (f_X11_walkOrders f0) (3 + dep) (nI m) (3 + (dep + 1)) f (nI t) σt (fun _ σ => some σ) = some σ' ∧ FX dep σ σ' ∧ OSt σ' (od_add s (od_sum g m)) ∧ od_ok (od_sum g m) := by
      intro j
      induction j with
      | zero =>
        intro t f σt q1 q2 q3 q4 q5 q6
        obtain ⟨f, rfl⟩ : ∃ k, f = k + 1 := ⟨f - 1, by omega⟩
        have e : t = m := by omega
        subst e
        exact ⟨σt, by rw [f_X11_walkOrders_L79, if_pos (nI_le (Nat.le_refl _) (by omega))], q3, q4, q5⟩
      | succ j ihj =>
        intro t f σt q1 q2 q3 q4 q5 q6
        obtain ⟨f, rfl⟩ : ∃ k, f = k + 1 := ⟨f - 1, by omega⟩
        have ht : t < m := by omega
        rw [Nat.succ_mul] at q6
        have hgs : od_sum g (t + 1) = od_add (od_sum g t) (g t) := rfl
        obtain ⟨hbo, hbo2⟩ := bit_o u hu t (by omega)
        have hbt := bit_t u hu t (by omega)
        have skip : ∀ σ2, FX dep σ σ2 → σ2 0 = σt 0 → g t = (0, none) → ∃ σ', f_X11_walkOrders_L79 d (nI u) (nI dep) (f_X11_walkOrders f0) (3 + dep) (nI m) (3 + (dep + 1)) f (nI (t + 1)) σ2 (fun _ σ => some σ) = some σ' ∧ FX dep σ σ' ∧ OSt σ' (od_add s (od_sum g m)) ∧ od_ok (od_sum g m) := fun σ2 a b c => by
          rw [c, od_0] at hgs
          exact ihj (t + 1) f σ2 (by omega) (by omega) a (by rw [hgs]; exact q4.fr b) (by rw [hgs]; exact q5) (by rw [hgs]; omega)
        rw [f_X11_walkOrders_L79, if_neg (nI_ge ht (by omega))]
        by_cases hb0 : ((nI u >>> (nI t &&& 31)) &&& 1) = 0
        · have hb2 := hbt.mp hb0
          obtain ⟨σ2, e2, x2⟩ := becomeLike_s (σ := σt) (k := 3 + (dep + 1)) (k' := 3 + dep) (by omega)
          rw [q3.ds, hX] at x2
          have f2 : FX dep σ σ2 := q3.tr (FX.dx x2 (by omega))
          have r2 := f2.row hr
          have p2 := f2.pin (hp t ht)
          have ρ2 : σ2 (20 + 2 * d) = ρ := (f2.1 (20 + 2 * d) (by omega) (by omega)).trans hρ
          have z2 : σ2 0 = σt 0 := x2.2 0 (by omega) (by omega)
          rw [if_pos hb0, e2, b1s]
          rcases mayP01 (ρ := ρ) (n := nr) (D := D) (t := t) with h | h
          · rw [sew_n r2 p2 (by omega) x2.1 hD (by rw [ρ2]; exact h), b2s, if_pos rfl, bnds, nI_1]
            exact skip σ2 f2 z2 (by rw [hg]; exact if_neg (fun z => absurd z.2 (by rw [h]; decide)))
          · obtain ⟨σ3, e3, x3⟩ := sew_y r2 p2 (by omega) x2.1 hD (by rw [ρ2]; exact h)
            rw [ρ2] at x3
            have f3 : FX dep σ σ3 := f2.tr (FX.dx x3 (by omega))
            have z3 : σ3 0 = σt 0 := (x3.2 0 (by omega) (by omega)).trans z2
            have hD3 : OkN (doP ρ D t) nr := by
              have := hD.doP p2 (by rw [ρ2]; exact h)
              rw [ρ2] at this
              exact this
            have egt : g t = od_lv ρ nr m r (u ||| 2 ^ t) (doP ρ D t) := by rw [hg]; exact if_pos ⟨hb2, h⟩
            have hle : (g t).1 ≤ P := by rw [egt, hP]; exact od_lv_le r _ _
            obtain ⟨σ4, e4, f4, s4, k4⟩ := ih f0 (dep + 1) σ3 (u ||| 2 ^ t) (doP ρ D t) (od_add s (od_sum g t)) (by omega) (by omega) (f3.row hr) (fun t ht => f3.pin (hp t ht)) ((f3.1 (20 + 2 * d) (by omega) (by omega)).trans hρ) x3.1 hD3 hbo2 (q4.fr z3) (od_ok_add hk q5) (by rw [← hP]; omega)
            rw [e3, b2s, if_neg ne10, bnds, hbo, nI_1, e4, b1s, bnds, nI_1]
            rw [← egt] at s4 k4
            rw [od_a] at s4
            have hk1 : (od_add s (od_sum g (t + 1))).1 = (od_add s (od_sum g t)).1 + (g t).1 := (Nat.add_assoc _ _ _).symm
            exact ihj (t + 1) f σ4 (by omega) (by omega) (f3.tr f4.up) s4 (od_ok_add q5 k4) (by rw [hk1]; omega)
        · rw [if_neg hb0, bnds, nI_1]
          exact skip σt q3 rfl (by rw [hg]; exact if_neg (fun z => hb0 (hbt.mpr z.1)))
    rw [Nat.pow_succ, ← hP, Nat.mul_comm] at hb
    obtain ⟨σ', e, a1, a2, a3⟩ := loop m 0 5000 σ (by omega) (by omega) FX.rf (by rw [show od_sum g 0 = (0, none) from rfl, od_0]; exact hs) od_ok_0 (by rw [show od_sum g 0 = (0, none) from rfl, od_0]; exact hb)
    refine ⟨σ', ?_, a1, by rw [hlv]; exact a2, by rw [hlv]; exact a3⟩
    rw [show f_X11_walkOrders (f0 + 1) = f_X11_walkOrders_B (f_X11_walkOrders f0) from rfl, f_X11_walkOrders_B, stepAt_s dep (by omega), b1s, if_pos (show 3 + dep < 9 by omega), f_X11_pinsIn, hr.2.2.1, dv3 (show m ≤ 100 by omega), b1s]
    simp only [jns]
    rw [if_neg (nI_ge (show dep < m by omega) (by omega)), if_pos (show nI dep < 5 from nI_lt (a := dep) (b := 5) (by omega) (by decide)), nI_1, stepAt_s (dep + 1) (by omega), b1s, if_pos (show 3 + (dep + 1) < 9 by omega)]
    exact e
theorem dead_o {d m : Int32} {f : Nat} {a b e : Int32} {μ : MMem} {K : Int32 → Int32 → Int32 → Int32 → MMem → Option (Int32 × MMem)} : f_X12_orders_L88 d m (f + 1) a b 0 e μ K = K a b 0 e μ := by
  rw [f_X12_orders_L88]
  by_cases h : m ≤ e
  · rw [if_pos h]
  · rw [if_neg h, if_pos rfl]
theorem ordM {σ0 : Mem} {μ0 : MMem} {d m nr : Nat} (hr0 : RowAt σ0 μ0 d (3 * m)) (hp0 : ∀ t, t < m → PinT σ0 d nr t) (hm5 : m ≤ 5) : ∀ (r f k u o : Nat) (D : DS) (μi : MMem), k + r = m → r < f → u < 64 → o < 2 ^ 30 → MF 6 μ0 μi D → OkN D nr →
    (∃ a b e D' μ', (∀ K, f_X12_orders_L88 (nI d) (nI m) f (nI u) (nI o) 1 (nI k) μi K = K a b 1 e μ') ∧ MF 6 μ0 μ' D' ∧ OkN D' nr ∧ μ' 6 = μi 6 ∧ od_vl (σ0 (20 + 2 * d)) nr m r u D o = (1, some (kD D'))) ∨
    (∃ a b e D' μ', (∀ K, f_X12_orders_L88 (nI d) (nI m) f (nI u) (nI o) 1 (nI k) μi K = K a b 0 e μ') ∧ MF 6 μ0 μ' D' ∧ OkN D' nr ∧ μ' 6 = μi 6 ∧ od_vl (σ0 (20 + 2 * d)) nr m r u D o = (0, none)) := by
  intro r
  induction r with
  | zero =>
    intro f k u o D μi h1 h2 hu ho hM hD
    obtain ⟨f, rfl⟩ : ∃ k, f = k + 1 := ⟨f - 1, by omega⟩
    refine Or.inl ⟨nI u, nI o, nI k, D, μi, fun K => ?_, hM, hD, rfl, rfl⟩
    rw [f_X12_orders_L88, if_pos (nI_le (show m ≤ k by omega) (by omega))]
  | succ r ih =>
    intro f k u o D μi h1 h2 hu ho hM hD
    obtain ⟨f, rfl⟩ : ∃ k, f = k + 2 := ⟨f - 2, by omega⟩
    have hm0 : 0 < m := by omega
    have ht : o % m < m := Nat.mod_lt _ hm0
    have hri := hr0.fm (hM.2.1 18 (by omega) (by omega)) (hM.2.1 19 (by omega) (by omega))
    have hvl : od_vl (σ0 (20 + 2 * d)) nr m (r + 1) u D o = if u.testBit (o % m) = false ∧ mayP (σ0 (20 + 2 * d)) nr D (o % m) = 1 then od_vl (σ0 (20 + 2 * d)) nr m r (u ||| 2 ^ (o % m)) (doP (σ0 (20 + 2 * d)) D (o % m)) (o / m) else (0, none) := rfl
    obtain ⟨hbo, hbo2⟩ := bit_o u hu (o % m) (by omega)
    have hbt := bit_t u hu (o % m) (by omega)
    have hod : o / m < 2 ^ 30 := Nat.lt_of_le_of_lt (Nat.div_le_self _ _) ho
    have hL : ∀ K, f_X12_orders_L88 (nI d) (nI m) (f + 1 + 1) (nI u) (nI o) 1 (nI k) μi K = if ((nI u >>> (nI (o % m) &&& 31)) &&& 1) = 0 then (b2 (f_X12_puts (nI d) (nI (o % m)) μi) fun r_34 σ_35 => if r_34 = 0 then f_X12_orders_L88 (nI d) (nI m) (f + 1) (nI (u ||| 2 ^ (o % m))) (nI (o / m)) 0 (nI (k + 1)) σ_35 K else f_X12_orders_L88 (nI d) (nI m) (f + 1) (nI (u ||| 2 ^ (o % m))) (nI (o / m)) 1 (nI (k + 1)) σ_35 K)
        else f_X12_orders_L88 (nI d) (nI m) (f + 1) (nI (u ||| 2 ^ (o % m))) (nI (o / m)) 0 (nI (k + 1)) μi K := fun K => by
      rw [f_X12_orders_L88, if_neg (nI_ge (show k < m by omega) (by omega)), if_neg ne10, if_neg (nI_ne0 hm0 (by omega)), pk_rem (by omega) hm0 (by omega), bnds, if_neg (nI_ne0 hm0 (by omega)), bnds, pk_div (by omega) hm0 (by omega), hbo]
      simp only [bnds, nI_1]
    by_cases hb : ((nI u >>> (nI (o % m) &&& 31)) &&& 1) = 0
    · rcases mayP01 (ρ := σ0 (20 + 2 * d)) (n := nr) (D := D) (t := o % m) with h | h
      · refine Or.inr ⟨nI (u ||| 2 ^ (o % m)), nI (o / m), nI (k + 1), D, μi, fun K => ?_, hM, hD, rfl, ?_⟩
        · rw [hL, if_pos hb, puts_n hri (hp0 _ ht) (by omega) hM.1 hD h, b2s, if_pos rfl, dead_o]
        · rw [hvl, if_neg (fun z => absurd z.2 (by rw [h]; decide))]
      · obtain ⟨μ1, e1, x1⟩ := puts_y hri (hp0 _ ht) (by omega) hM.1 hD h
        have hD1 := hD.doP (hp0 _ ht) h
        have h66 : μ1 6 = μi 6 := x1.2.1 6 (by omega)
        rw [hvl, if_pos ⟨hbt.mp hb, h⟩]
        rcases ih (f + 1) (k + 1) (u ||| 2 ^ (o % m)) (o / m) _ μ1 (by omega) (by omega) hbo2 hod (hM.tr x1.mf) hD1 with ⟨a, b, e, D', μ', g1, g2, g3, g4, g5⟩ | ⟨a, b, e, D', μ', g1, g2, g3, g4, g5⟩
        · exact Or.inl ⟨a, b, e, D', μ', fun K => by rw [hL, if_pos hb, e1, b2s, if_neg ne10, g1], g2, g3, g4.trans h66, g5⟩
        · exact Or.inr ⟨a, b, e, D', μ', fun K => by rw [hL, if_pos hb, e1, b2s, if_neg ne10, g1], g2, g3, g4.trans h66, g5⟩
    · refine Or.inr ⟨nI (u ||| 2 ^ (o % m)), nI (o / m), nI (k + 1), D, μi, fun K => ?_, hM, hD, rfl, ?_⟩
      · rw [hL, if_neg hb, dead_o]
      · rw [hvl, if_neg (fun z => hb (hbt.mpr z.1))]
theorem power_s : ∀ m, m < 6 → f_X12_power (nI m) = some (nI (m ^ m)) ∧ m ^ m ≤ 3125 := by decide +kernel
theorem ordL {σ0 : Mem} {μ0 : MMem} {d m nr : Nat} (hr0 : RowAt σ0 μ0 d (3 * m)) (hp0 : ∀ t, t < m → PinT σ0 d nr t) (hm5 : m ≤ 5) (hD : OkN (dsM μ0) nr) : ∀ (j q f : Nat) (s : Nat × Option Nat) (μi : MMem), q + j = m ^ m → j < f → MF 6 μ0 μi (dsM μ0) → s = od_sum (od_vl (σ0 (20 + 2 * d)) nr m m 0 (dsM μ0)) q → od_ok s →
    ∃ μ', (∀ K, f_X12_orders_L60 (nI d) (nI m) f (nI s.1) (encO s.2) (nI q) μi K = K (nI (od_sum (od_vl (σ0 (20 + 2 * d)) nr m m 0 (dsM μ0)) (m ^ m)).1) (encO (od_sum (od_vl (σ0 (20 + 2 * d)) nr m m 0 (dsM μ0)) (m ^ m)).2) (nI (m ^ m)) μ') ∧ MF 6 μ0 μ' (dsM μ0) := by
  obtain ⟨hp, hp2⟩ := power_s m (by omega)
  intro j
  induction j with
  | zero =>
    intro q f s μi h1 h2 hM hs hk
    obtain ⟨f, rfl⟩ : ∃ k, f = k + 1 := ⟨f - 1, by omega⟩
    have e : q = m ^ m := by omega
    subst e hs
    exact ⟨μi, fun K => by rw [f_X12_orders_L60, hp, b1s, if_pos (nI_le (Nat.le_refl _) (by omega))], hM⟩
  | succ j ih =>
    intro q f s μi h1 h2 hM hs hk
    obtain ⟨f, rfl⟩ : ∃ k, f = k + 1 := ⟨f - 1, by omega⟩
    obtain ⟨μ1, e1, m1, r1⟩ := open_s (μ := μi)
    rw [hM.1] at m1 r1
    have hgs : od_sum (od_vl (σ0 (20 + 2 * d)) nr m m 0 (dsM μ0)) (q + 1) = od_add s (od_vl (σ0 (20 + 2 * d)) nr m m 0 (dsM μ0) q) := by rw [hs]; rfl
    rcases ordM hr0 hp0 hm5 m 5000 0 0 q (dsM μ0) μ1 (by omega) (by omega) (by decide) (by omega) (hM.tr m1) hD with ⟨a, b, e, D', μ2, g1, g2, g3, g4, g5⟩ | ⟨a, b, e, D', μ2, g1, g2, g3, g4, g5⟩
    · have g1' : ∀ K, f_X12_orders_L88 (nI d) (nI m) 5000 0 (nI q) 1 0 μ1 K = K a b 1 e μ2 := g1
      obtain ⟨ek, hk6⟩ := kD_s g3
      have hl := lacksNow_s (μ := μ2) (N := nr) (by rw [g2.1]; exact g3.2.1) g3.1
      rw [g2.1, ek] at hl
      obtain ⟨μ3, e3, m3, _⟩ := close_s (μ := μ2)
      rw [g4, r1] at m3
      rw [g5] at hgs
      have hk2 : od_ok (od_add s (1, some (kD D'))) := od_ok_add hk (od_ok_1 hk6)
      have hup := od_upM (c := s.1) (o := s.2) hk hk6
      obtain ⟨μ', k1, k2⟩ := ih (q + 1) f (od_add s (1, some (kD D'))) μ3 (by omega) (by omega) (g2.tr m3) hgs.symm hk2
      refine ⟨μ', fun K => ?_, k2⟩
      rw [← k1 K, f_X12_orders_L60, hp, b1s, if_neg (nI_ge (show q < m ^ m by omega) (by omega)), e1, b1s, g1', hl, b1s, e3, b1s, if_neg ne10, bnds, nI_1]
      show _ = f_X12_orders_L60 (nI d) (nI m) f (nI (s.1 + 1)) (encO (od_min s.2 (some (kD D')))) (nI (q + 1)) μ3 K
      rw [← hup]
      by_cases c1 : encO s.2 < 0
      · rw [if_pos c1, if_pos c1, bnds, nI_1]
      · rw [if_neg c1, if_neg c1]
        by_cases c2 : encO s.2 ≤ nI (kD D')
        · rw [if_pos c2, if_pos c2, bnds, nI_1]
        · rw [if_neg c2, if_neg c2, bnds, nI_1]
    · have g1' : ∀ K, f_X12_orders_L88 (nI d) (nI m) 5000 0 (nI q) 1 0 μ1 K = K a b 0 e μ2 := g1
      have hl := lacksNow_s (μ := μ2) (N := nr) (by rw [g2.1]; exact g3.2.1) g3.1
      obtain ⟨μ3, e3, m3, _⟩ := close_s (μ := μ2)
      rw [g4, r1] at m3
      rw [g5, od_0] at hgs
      obtain ⟨μ', k1, k2⟩ := ih (q + 1) f s μ3 (by omega) (by omega) (g2.tr m3) hgs.symm hk
      refine ⟨μ', fun K => ?_, k2⟩
      rw [← k1 K, f_X12_orders_L60, hp, b1s, if_neg (nI_ge (show q < m ^ m by omega) (by omega)), e1, b1s, g1', hl, b1s, e3, b1s, if_pos rfl, bnds, nI_1]
theorem Rel.steps {σ σ' : Mem} {μ : MMem} (h : Rel σ μ) (h9 : σ' 0 9 = σ 0 9) (hc : ∀ i, i ≠ 0 → (i < 7 ∨ 18 < i) → σ' i = σ i) : Rel σ' μ := by
  have e0 : dsX σ' 0 = dsX σ 0 := by unfold dsX; rw [hc _ (by omega) (by omega), hc _ (by omega) (by omega)]
  have e1 : dsX σ' 1 = dsX σ 1 := by unfold dsX; rw [hc _ (by omega) (by omega), hc _ (by omega) (by omega)]
  refine ⟨e0.trans h.1, h.2.1, ?_, fun i hi => (h.2.2.2 i hi).fr (hc _ (by omega) (by omega)) (hc _ (by omega) (by omega)) (fun j hj => rfl)⟩
  rw [h9, e1]
  exact h.2.2.1
theorem eq_orders {σ : Mem} {μ : MMem} (hR : Rel σ μ) (p1 p2 : Int32) : ∃ r σ' μ', f_X11_orders p1 p2 σ = some (r, σ') ∧ f_X12_orders p1 p2 μ = some (r, μ') ∧ Rel σ' μ' := by
  have hR1 := hR.t
  obtain ⟨n, hn⟩ := hR1.2.1.n
  obtain ⟨W, hW⟩ : ∃ W, W = f_X11_walkOrders 6 := ⟨_, rfl⟩
  obtain ⟨L, hL⟩ : ∃ L, L = @f_X12_orders_L60 := ⟨_, rfl⟩
  rcases rng (p := p2) (n := 1) (by decide) 1 1 rfl rfl with ⟨w, hw, rfl, e1, e2⟩ | ⟨_, e1, e2⟩
  · rcases pinsrow hR1 hn p1 with ⟨v, hv, e3, e4⟩ | ⟨d, m, rfl, hr, h6, e3, e4, hp⟩
    · refine ⟨v, σ, uI μ 0 9 0, ?_, ?_, hR1⟩
      · rw [f_X11_orders, ← hW, e1, b1s]
        simp only [jns]
        rw [if_neg ne10, e3, b1s, if_neg (neg0 hv)]
      · rw [f_X12_orders, ← hL, bnds, e2, b1s]
        simp only [jns]
        rw [if_neg ne10, e4, b1s, if_neg (Int32.not_le.mpr hv)]
    · have hd := hr.1
      have hbd : ¬ (nI d < 0 ∨ 8 ≤ (nI d).toNatClampNeg) := nI_in hd (by decide)
      have hcd := nI_clamp (show d < 2 ^ 31 by omega)
      by_cases hm5 : m ≤ 5
      · obtain ⟨hpw, hpw2⟩ := power_s m (by omega)
        obtain ⟨σ1, hσ1⟩ : ∃ σ1, σ1 = uX (uX σ 0 10 0) 0 11 (-4) := ⟨_, rfl⟩
        have c1 : ∀ i, i ≠ 0 → σ1 i = σ i := fun i hi => by rw [hσ1, uX_ne hi, uX_ne hi]
        have d1 : dsX σ1 0 = dsX σ 0 := by unfold dsX; rw [c1 _ (by omega), c1 _ (by omega)]
        obtain ⟨σ2, e5, x5⟩ := becomeLike_s (σ := σ1) (k := 3) (k' := 0) (by decide)
        rw [d1, hR1.1] at x5
        have z2 : σ2 0 = σ1 0 := x5.2 0 (by omega) (by omega)
        have c2 : ∀ i, i ≠ 0 → (i < 7 ∨ 18 < i) → σ2 i = σ i := fun i hi h => (x5.2 i (by omega) (by omega)).trans (c1 i hi)
        have s2 : OSt σ2 (0, none) := by
          unfold OSt
          rw [z2, hσ1]
          exact ⟨by rw [rdX, if_neg (by omega), rdX, if_pos ⟨rfl, rfl⟩]; rfl, by rw [rdX, if_pos ⟨rfl, rfl⟩]; rfl⟩
        have r2 : RowAt σ2 (uI μ 0 9 0) d (3 * m) := by
          unfold RowAt
          rw [c2 (19 + 2 * d) (by omega) (by omega), c2 (20 + 2 * d) (by omega) (by omega)]
          exact hr
        have p2' : ∀ t, t < m → PinT σ2 d n t := fun t ht => by
          unfold PinT
          rw [c2 (20 + 2 * d) (by omega) (by omega)]
          exact hp t ht
        obtain ⟨σ3, e6, f6, s6, _⟩ := walk_s (nr := n) hm5 m 6 0 σ2 0 (dsM (uI μ 0 9 0)) (0, none) (by omega) (by omega) r2 p2' (c2 (20 + 2 * d) (by omega) (by omega)) x5.1 hn (by decide) s2 od_ok_0 (by show 0 + m ^ m ≤ 4000; omega)
        obtain ⟨μ3, g1, g2⟩ := ordL hr hp hm5 hn (m ^ m) 0 5000 (0, none) (uI μ 0 9 0) (by omega) (by omega) MD.rf.mf rfl od_ok_0
        have hall : od_sum (od_vl (σ (20 + 2 * d)) n m m 0 (dsM (uI μ 0 9 0))) (m ^ m) = od_lv (σ (20 + 2 * d)) n m m 0 (dsM (uI μ 0 9 0)) := by
          by_cases z : m = 0
          · subst z; exact od_0l _
          · exact od_all (by omega) m 0 _
        rw [hall] at g1
        rw [od_0l] at s6
        have hX1 : f_X11_orders (nI d) (nI w) σ = if nI w = 0 then some (σ3 0 10, σ3) else some (σ3 0 11, σ3) := by
          have e6' : W d 0 0 σ2 = some σ3 := by rw [hW]; exact e6
          rw [f_X11_orders, ← hW, e1, b1s]
          simp only [jns]
          rw [if_neg ne10, e3, b1s, if_pos rfl, atS hd, b1s, if_pos (show d < 9 by omega), f_X11_pinsIn, hr.2.2.1, dv3 (show m ≤ 100 by omega), b1s, if_pos (show nI m ≤ 5 from nI_le (a := m) (b := 5) hm5 (by decide)), bnds, bnds, ← hσ1, show f_X11_stepAt 0 = some 3 from stepAt_s 0 (by decide), b1s, if_pos (show 3 < 9 by decide), e5, b1s, e6', b1s]
        have hM1 : f_X12_orders (nI d) (nI w) μ = if nI w = 0 then some (σ3 0 10, μ3) else some (σ3 0 11, μ3) := by
          have g1' : ∀ K, L (nI d) (nI m) 5000 0 (-4) 0 (uI μ 0 9 0) K = K (σ3 0 10) (σ3 0 11) (nI (m ^ m)) μ3 := fun K => by rw [hL, s6.1, s6.2]; exact g1 K
          rw [f_X12_orders, ← hL, bnds, e2, b1s]
          simp only [jns]
          rw [if_neg ne10, e4, b1s, if_pos (Int32.le_refl 0), if_neg hbd, hcd, hr.2.2.2.1, dv3 (show m ≤ 100 by omega), bnds, if_pos (show nI m ≤ 5 from nI_le (a := m) (b := 5) hm5 (by decide)), g1']
        have hRl : Rel σ3 μ3 := by
          refine (hR1.m g2).steps ?_ (fun i hi h => (f6.1 i hi (by omega)).trans (c2 i hi h))
          rw [f6.2 9 (by decide) (by decide), z2, hσ1, rdX, if_neg (by omega), rdX, if_neg (by omega)]
        rw [hX1, hM1]
        by_cases w0 : nI w = 0
        · rw [if_pos w0, if_pos w0]; exact ⟨_, _, _, rfl, rfl, hRl⟩
        · rw [if_neg w0, if_neg w0]; exact ⟨_, _, _, rfl, rfl, hRl⟩
      · refine ⟨-2, σ, uI μ 0 9 0, ?_, ?_, hR1⟩
        · rw [f_X11_orders, ← hW, e1, b1s]
          simp only [jns]
          rw [if_neg ne10, e3, b1s, if_pos rfl, atS hd, b1s, if_pos (show d < 9 by omega), f_X11_pinsIn, hr.2.2.1, dv3 (show m ≤ 100 by omega), b1s, if_neg (show ¬ nI m ≤ 5 from nI_ge (a := 5) (b := m) (by omega) (by omega))]
        · rw [f_X12_orders, ← hL, bnds, e2, b1s]
          simp only [jns]
          rw [if_neg ne10, e4, b1s, if_pos (Int32.le_refl 0), if_neg hbd, hcd, hr.2.2.2.1, dv3 (show m ≤ 100 by omega), bnds, if_neg (show ¬ nI m ≤ 5 from nI_ge (a := 5) (b := m) (by omega) (by omega))]
  · refine ⟨-1, σ, uI μ 0 9 0, ?_, ?_, hR1⟩
    · rw [f_X11_orders, ← hW, e1, b1s]
      simp (decide := true) only [jns, if_true, if_false]
    · rw [f_X12_orders, ← hL, bnds, e2, b1s]
      simp (decide := true) only [jns, if_true, if_false]
