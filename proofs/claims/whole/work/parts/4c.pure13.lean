/-! PURE, 13: least -/
theorem b2s {A B C : Type} {x : A} {y : B} {K : A → B → Option C} : b2 (some (x, y)) K = K x y := rfl
theorem bnds {A B : Type} {x : A} {K : A → B} : bnd x K = K x := rfl
theorem bit01 {c t : Nat} (hc : c < 64) (ht : t < 6) : ((nI c >>> (nI t &&& 31)) &&& 1) = 0 ∨ ((nI c >>> (nI t &&& 31)) &&& 1) = 1 := by
  have : ∀ c, c < 64 → ∀ t, t < 6 → ((nI c >>> (nI t &&& 31)) &&& 1) = 0 ∨ ((nI c >>> (nI t &&& 31)) &&& 1) = 1 := by decide +kernel
  exact this c hc t ht
theorem pow2 {m : Nat} (h : m ≤ 6) : (1 : Int32) <<< (nI m &&& 31) = nI (2 ^ m) := by
  have : ∀ m, m < 7 → (1 : Int32) <<< (nI m &&& 31) = nI (2 ^ m) := by decide +kernel
  exact this m (by omega)
theorem setL_s {σ0 : Mem} {μ0 : MMem} {d m n c : Nat} (hr0 : RowAt σ0 μ0 d (3 * m)) (hp0 : ∀ t, t < m → PinT σ0 d n t) (hm6 : m ≤ 6) (hc : c < 64) : ∀ (f t : Nat) (σi : Mem) (μi : MMem) (D : DS) (acc : Int32), t ≤ m → m < t + f → DX σ0 σi 2 D → MF 6 μ0 μi D → OkN D n →
    (∃ σ' D' z μ' acc', f_X11_sewSetInMind_L19 d (nI c) (nI m) f (nI t) σi (fun _ σ => some (1, σ)) = some (1, σ') ∧ DX σ0 σ' 2 D' ∧ OkN D' n ∧ (∀ K, f_X12_least_L78 (nI d) (nI m) (nI c) f 1 acc (nI t) μi K = K 1 acc' z μ') ∧ MF 6 μ0 μ' D' ∧ μ' 6 = μi 6 ∧
      ∀ σc, (∃ Dc, DX σ0 σc 2 Dc) → f_X11_costOfSet_L11 d (nI c) σc (nI m) f acc (nI t) (fun x _ => some x) = some acc') ∨
    (∃ σ' D' D'' z μ' acc', f_X11_sewSetInMind_L19 d (nI c) (nI m) f (nI t) σi (fun _ σ => some (1, σ)) = some (0, σ') ∧ DX σ0 σ' 2 D' ∧ OkN D'' n ∧ (∀ K, f_X12_least_L78 (nI d) (nI m) (nI c) f 1 acc (nI t) μi K = K 0 acc' z μ') ∧ MF 6 μ0 μ' D'' ∧ μ' 6 = μi 6) := by
  intro f
  induction f with
  | zero => intro t σi μi D acc h1 h2; omega
  | succ f ih =>
    intro t σi μi D acc h1 h2 hx hm hD
    have hr := hr0.fr (by decide) hx hm
    have hd := hr.1
    by_cases e : t = m
    · subst e
      have hle : nI t ≤ nI t := nI_le (Nat.le_refl _) (by omega)
      refine Or.inl ⟨σi, D, nI t, μi, acc, ?_, hx, hD, fun K => ?_, hm, rfl, fun σc _ => ?_⟩
      · rw [f_X11_sewSetInMind_L19, if_pos hle]
      · rw [f_X12_least_L78, if_pos hle]
      · rw [f_X11_costOfSet_L11, if_pos hle]
    · have ht : t < m := by omega
      have hgt : ¬ nI m ≤ nI t := nI_ge ht (by omega)
      have hp := (hp0 t ht).fr (by decide) hx
      obtain ⟨a1, a2, a3, b1', b2', b3'⟩ := hp.g hD.1
      have hρ : σi (8 + 2 * d) = σ0 (8 + 2 * d) := hx.2 _ (by omega) (by omega)
      rcases bit01 hc (show t < 6 by omega) with hb | hb
      · have e1 : ∀ K, f_X12_least_L78 (nI d) (nI m) (nI c) (f + 1) 1 acc (nI t) μi K = f_X12_least_L78 (nI d) (nI m) (nI c) f 1 acc (nI (t + 1)) μi K := fun K => by
          rw [f_X12_least_L78, if_neg hgt, if_neg ne10, hb, if_neg (by decide), bnds, nI_1]
        have e2 : f_X11_sewSetInMind_L19 d (nI c) (nI m) (f + 1) (nI t) σi (fun _ σ => some (1, σ)) = f_X11_sewSetInMind_L19 d (nI c) (nI m) f (nI (t + 1)) σi (fun _ σ => some (1, σ)) := by
          rw [f_X11_sewSetInMind_L19, if_neg hgt, hb, if_pos rfl, bnds, nI_1]
        have e3 : ∀ σc, f_X11_costOfSet_L11 d (nI c) σc (nI m) (f + 1) acc (nI t) (fun x _ => some x) = f_X11_costOfSet_L11 d (nI c) σc (nI m) f acc (nI (t + 1)) (fun x _ => some x) := fun σc => by
          rw [f_X11_costOfSet_L11, if_neg hgt, hb, if_pos rfl, bnds, nI_1]
        simp only [e1, e2, e3]
        exact ih (t + 1) σi μi D acc (by omega) (by omega) hx hm hD
      · have e3 : ∀ σc, (∃ Dc, DX σ0 σc 2 Dc) → f_X11_costOfSet_L11 d (nI c) σc (nI m) (f + 1) acc (nI t) (fun x _ => some x) = f_X11_costOfSet_L11 d (nI c) σc (nI m) f (acc + costP (σi (8 + 2 * d)) t) (nI (t + 1)) (fun x _ => some x) := fun σc hσc => by
          obtain ⟨Dc, hσc⟩ := hσc
          have hrc := hr0.fr (by decide) hσc MD.rf.mf
          have hρc : σc (8 + 2 * d) = σi (8 + 2 * d) := (hσc.2 _ (by omega) (by omega)).trans hρ.symm
          rw [f_X11_costOfSet_L11, if_neg hgt, hb, if_neg ne10, mul3, at_s hrc (show 3 * t < 3 * m by omega), add1, at_s hrc (show 3 * t + 1 < 3 * m by omega), hρc, b1', b2']
          rw [b1s, atK a1, b1s, if_pos a1, b1s, cost_s a1, b1s, bnds, bnds, add1]
          rfl
        rcases mayP01 (ρ := σi (8 + 2 * d)) (n := n) (D := D) (t := t) with h | h
        · refine Or.inr ⟨σi, D, D, nI (t + 1), μi, acc + costP (σi (8 + 2 * d)) t, ?_, hx, hD, fun K => ?_, hm, rfl⟩
          · rw [f_X11_sewSetInMind_L19, if_neg hgt, hb, if_neg ne10, sew_n hr hp (by omega) hx.1 hD h, b2s, if_pos rfl]
          · have ht0 : f_X12_told (nI d) (nI (3 * t)) μi = some (nI (pj (σi (8 + 2 * d)) t)) := by rw [told_s hr (by omega), b1']
            have ht1 : f_X12_told (nI d) (nI (3 * t + 1)) μi = some (nI (pf (σi (8 + 2 * d)) t)) := by rw [told_s hr (by omega), b2']
            rw [f_X12_least_L78, if_neg hgt, if_neg ne10, hb, if_pos rfl, mul3, add1, ht0, ht1, b1s, b1s, minutesOf_s a1 a2, b1s, bnds, puts_n hr hp (by omega) hm.1 hD h, b2s, bnds, add1]
            obtain ⟨f, rfl⟩ : ∃ k, f = k + 1 := ⟨f - 1, by omega⟩
            rw [f_X12_least_L78]
            by_cases e5 : nI m ≤ nI (t + 1)
            · rw [if_pos e5]; rfl
            · rw [if_neg e5, if_pos rfl]; rfl
        · obtain ⟨σ', g1, x1⟩ := sew_y hr hp (by omega) hx.1 hD h
          obtain ⟨μ', g2, x2⟩ := puts_y hr hp (by omega) hm.1 hD h
          have e1 : ∀ K, f_X12_least_L78 (nI d) (nI m) (nI c) (f + 1) 1 acc (nI t) μi K = f_X12_least_L78 (nI d) (nI m) (nI c) f 1 (acc + costP (σi (8 + 2 * d)) t) (nI (t + 1)) μ' K := fun K => by
            have ht0 : f_X12_told (nI d) (nI (3 * t)) μi = some (nI (pj (σi (8 + 2 * d)) t)) := by rw [told_s hr (by omega), b1']
            have ht1 : f_X12_told (nI d) (nI (3 * t + 1)) μi = some (nI (pf (σi (8 + 2 * d)) t)) := by rw [told_s hr (by omega), b2']
            rw [f_X12_least_L78, if_neg hgt, if_neg ne10, hb, if_pos rfl, mul3, add1, ht0, ht1, b1s, b1s, minutesOf_s a1 a2, b1s, bnds, g2, b2s, bnds, add1]
            rfl
          have e2 : f_X11_sewSetInMind_L19 d (nI c) (nI m) (f + 1) (nI t) σi (fun _ σ => some (1, σ)) = f_X11_sewSetInMind_L19 d (nI c) (nI m) f (nI (t + 1)) σ' (fun _ σ => some (1, σ)) := by
            rw [f_X11_sewSetInMind_L19, if_neg hgt, hb, if_neg ne10, g1, b2s, if_neg ne10, bnds, nI_1]
          have h66 : μ' 6 = μi 6 := x2.2.1 6 (by omega)
          rcases ih (t + 1) σ' μ' _ (acc + costP (σi (8 + 2 * d)) t) (by omega) (by omega) (hx.tr x1) (hm.tr x2.mf) (hD.doP hp h) with ⟨s1, D1, z1, m1, acc1, k1, k2, k3, k4, k5, k6, k7⟩ | ⟨s1, D1, D2, z1, m1, acc1, k1, k2, k3, k4, k5, k6⟩
          · refine Or.inl ⟨s1, D1, z1, m1, acc1, e2.trans k1, k2, k3, fun K => (e1 K).trans (k4 K), k5, k6.trans h66, fun σc hσc => (e3 σc hσc).trans (k7 σc hσc)⟩
          · exact Or.inr ⟨s1, D1, D2, z1, m1, acc1, e2.trans k1, k2, k3, fun K => (e1 K).trans (k4 K), k5, k6.trans h66⟩
theorem least_s {σ0 : Mem} {μ0 : MMem} {d m n : Nat} {p2 : Int32} (hXM : dsX σ0 0 = dsM μ0) (hn : OkN (dsM μ0) n) (hr0 : RowAt σ0 μ0 d (3 * m)) (hp0 : ∀ t, t < m → PinT σ0 d n t) (hm6 : m ≤ 6) : ∀ (f c : Nat) (x6 x7 x8 : Int32) (σi : Mem) (μi : MMem), c ≤ 2 ^ m → 2 ^ m < c + f → (∃ D, DX σ0 σi 2 D) → MF 6 μ0 μi (dsM μ0) →
    ∃ r σ' μ', f_X11_least_L59 d (nI (2 ^ m)) f x6 x7 x8 (nI c) σi (fun x6 x7 _ _ σ => if p2 = 0 then some (x6, σ) else some (x7, σ)) = some (r, σ') ∧
      f_X12_least_L56 (nI d) (nI m) f x6 x7 x8 (nI c) μi (fun x6 x7 _ _ σ => if p2 = 0 then some (x6, σ) else some (x7, σ)) = some (r, μ') ∧ (∃ D, DX σ0 σ' 2 D) ∧ MF 6 μ0 μ' (dsM μ0) := by
  have h64 : 2 ^ m ≤ 64 := by
    have : ∀ m, m < 7 → 2 ^ m ≤ 64 := by decide
    exact this m (by omega)
  intro f
  induction f with
  | zero => intro c x6 x7 x8 σi μi h1 h2; omega
  | succ f ih =>
    intro c x6 x7 x8 σi μi h1 h2 hx hm
    obtain ⟨dd, hx⟩ := hx
    by_cases e : c = 2 ^ m
    · subst e
      rw [f_X11_least_L59, f_X12_least_L56, pow2 hm6, if_pos (nI_le (Nat.le_refl _) (by omega)), if_pos (nI_le (Nat.le_refl _) (by omega))]
      by_cases hp : p2 = 0
      · simp only [if_pos hp]
        exact ⟨_, _, _, rfl, rfl, ⟨_, hx⟩, hm⟩
      · simp only [if_neg hp]
        exact ⟨_, _, _, rfl, rfl, ⟨_, hx⟩, hm⟩
    · have hc : c < 2 ^ m := by omega
      have hgt : ¬ nI (2 ^ m) ≤ nI c := nI_ge hc (by omega)
      have hri := hr0.fr (by decide) hx hm
      obtain ⟨σ2, e2, x2⟩ := becomeLike_s (σ := σi) (k := 2) (k' := 0) (by decide)
      rw [(hx.other (k' := 0) (by decide)).trans hXM] at x2
      obtain ⟨μ1, e3, m3, r3⟩ := open_s (μ := μi)
      rw [hm.1] at m3 r3
      have hq : ∀ σc Dc, DX σ0 σc 2 Dc → σc (7 + 2 * d) 5 = nI (3 * m) := fun σc Dc h => (hr0.fr (by decide) h MD.rf.mf).2.2.1
      have hs : f_X11_sewSetInMind d (nI c) σi = f_X11_sewSetInMind_L19 d (nI c) (nI m) 5000 (nI 0) σ2 (fun _ σ => some (1, σ)) := by
        rw [f_X11_sewSetInMind, f_X11_pinsIn, hq σi _ hx, dv3 (by omega), b1s, e2, b1s]
        rfl
      have hcs : ∀ σc Dc, DX σ0 σc 2 Dc → f_X11_costOfSet d (nI c) σc = f_X11_costOfSet_L11 d (nI c) σc (nI m) 5000 0 (nI 0) (fun x _ => some x) := fun σc Dc h => by
        rw [f_X11_costOfSet, f_X11_pinsIn, hq σc _ h, dv3 (by omega), b1s]
        rfl
      have sk : ∀ σ2 μ2, (∃ D, DX σ0 σ2 2 D) → MF 6 μ0 μ2 (dsM μ0) → _ := fun σ2 μ2 h h' => ih (c + 1) x6 x7 x8 σ2 μ2 (by omega) (by omega) h h'
      rw [f_X11_least_L59, f_X12_least_L56, pow2 hm6, if_neg hgt, if_neg hgt, hs, e3, b1s]
      rcases setL_s hr0 hp0 hm6 (show c < 64 by omega) 5000 0 σ2 μ1 (dsM μ0) 0 (by omega) (by omega) (hx.tr x2) (hm.tr m3) hn with ⟨s1, D1, z1, m1, acc1, k1, k2, k3, k4, k5, k6, k7⟩ | ⟨s1, D1, D2, z1, m1, acc1, k1, k2, k3, k4, k5, k6⟩
      · have k4' : ∀ K, f_X12_least_L78 (nI d) (nI m) (nI c) 5000 1 0 0 μ1 K = K 1 acc1 z1 m1 := k4
        have hl1 := lacking_s (σ := s1) (k := 2) (N := n) (by rw [k2.1]; exact k3.2.1) hn.1
        have hl2 := lacksNow_s (μ := m1) (N := n) (by rw [k5.1]; exact k3.2.1) hn.1
        rw [k2.1] at hl1
        rw [k5.1] at hl2
        obtain ⟨μ3, e5, m5, _⟩ := close_s (μ := m1)
        rw [k6, r3] at m5
        rw [k1, k4', b2s, if_neg ne10, hl1, b1s, hcs s1 D1 k2, k7 s1 ⟨_, k2⟩, b1s, hl2, b1s, e5, b1s, if_neg ne10]
        have go : ∀ y6 y7 y8, _ := fun y6 y7 y8 => ih (c + 1) y6 y7 y8 s1 μ3 (by omega) (by omega) ⟨_, k2⟩ (k5.tr m5)
        simp only [bnds, nI_1]
        by_cases g1 : lackS D1 < x7
        · rw [if_pos g1, if_pos g1]; exact go _ _ _
        · rw [if_neg g1, if_neg g1]
          by_cases g2 : lackS D1 = x7
          · rw [if_pos g2, if_pos g2]
            by_cases g3 : x8 ≤ acc1
            · rw [if_pos g3, if_pos g3]; exact go _ _ _
            · rw [if_neg g3, if_neg g3]; exact go _ _ _
          · rw [if_neg g2, if_neg g2]; exact go _ _ _
      · have k4' : ∀ K, f_X12_least_L78 (nI d) (nI m) (nI c) 5000 1 0 0 μ1 K = K 0 acc1 z1 m1 := k4
        have hl2 := lacksNow_s (μ := m1) (N := n) (by rw [k5.1]; exact k3.2.1) hn.1
        obtain ⟨μ3, e5, m5, _⟩ := close_s (μ := m1)
        rw [k6, r3] at m5
        rw [k1, k4', b2s, if_pos rfl, hl2, b1s, e5, b1s, if_pos rfl, bnds, bnds, nI_1]
        exact sk s1 μ3 ⟨_, k2⟩ (k5.tr m5)
theorem eq_least {σ : Mem} {μ : MMem} (hR : Rel σ μ) (p1 p2 : Int32) : ∃ r σ' μ', f_X11_least p1 p2 σ = some (r, σ') ∧ f_X12_least p1 p2 μ = some (r, μ') ∧ Rel σ' μ' := by
  have hR1 := hR.t
  obtain ⟨n, hn⟩ := hR1.2.1.n
  have hX : (dsX σ 0).1 0 = nI n := by rw [hR1.1]; exact hn.2.1
  unfold f_X11_least f_X12_least
  generalize hL1 : f_X11_least_L59 = L1
  generalize hL2 : f_X12_least_L56 = L2
  simp only [bnd, jn, in_w (p := p2) (a := 0) (b := 1) (lo := 0) (hi := 1) rfl rfl]
  rcases wi_c p2 0 1 with e0 | e0
  · simp (decide := true) only [e0, b1s, if_true, if_false]
    exact ⟨_, _, _, rfl, rfl, hR1⟩
  · simp only [e0, b1s, if_neg ne10]
    rcases pinsrow hR1 hn p1 with ⟨v, hv, e1, e2⟩ | ⟨d, m, rfl, hr, h6, e1, e2, hp⟩
    · simp only [e1, e2, b1s, if_neg (show ¬ v = 0 from fun z => absurd hv (by rw [z]; decide)), if_neg (Int32.not_le.mpr hv)]
      exact ⟨_, _, _, rfl, rfl, hR1⟩
    · have hd := hr.1
      have hpd : ¬ (nI d < 0 ∨ 8 ≤ d) := by
        have := nI_in hd (show 8 < 2 ^ 31 by decide)
        rwa [nI_clamp (by omega)] at this
      simp only [e1, e2, b1s, if_true, Int32.le_refl, atS hd, if_pos (show d < 9 by omega), f_X11_pinsIn, hr.2.2.1, dv3 (show m ≤ 100 by omega), nI_clamp (show d < 2 ^ 31 by omega), if_neg hpd, hr.2.2.2.1, pow2 h6, lacking_s hX hn.1, lacksNow_s hn.2.1 hn.1, hR1.1]
      subst hL1 hL2
      have h64 : 2 ^ m ≤ 64 ∧ 1 ≤ 2 ^ m := by
        have : ∀ m, m < 7 → 2 ^ m ≤ 64 ∧ 1 ≤ 2 ^ m := by decide
        exact this m (by omega)
      obtain ⟨r, σ', μ', g1, g2, ⟨D, g3⟩, g4⟩ := least_s (p2 := p2) hR1.1 hn hr hp h6 5000 1 0 (lackS (dsM (uI μ 0 9 0))) 0 σ (uI μ 0 9 0) (by omega) (by omega) ⟨_, DX.rf⟩ MD.rf.mf
      exact ⟨r, σ', μ', g1, g2, (hR1.m g4).mind (by decide) g3⟩
