/-! PURE, 29: dress, the two passes -/
def pls (b : Nat → Int32) : Nat → Nat
  | 0 => 0
  | i + 1 => (stm b (pls b i)).2.1
theorem FRM.mg {k : Nat} {μ μ' : MMem} (h : FRM k μ μ') : MG μ μ' (dsM μ) := by
  refine ⟨?_, h.1 5 (by decide) (by decide), fun i hi => h.1 i (by omega) (by omega), h.2.1 12 (by decide) (by decide) (by decide)⟩
  unfold dsM
  rw [h.2.1 0 (by decide) (by decide) (by decide), h.2.1 1 (by decide) (by decide) (by decide), h.2.1 2 (by decide) (by decide) (by decide), h.2.1 3 (by decide) (by decide) (by decide), h.2.1 4 (by decide) (by decide) (by decide)]
  exact ds_ext (fun _ _ => rfl) (fun r w _ _ => by rw [h.1 (1 + w) (by omega) (by omega)])
theorem STK.fr {μ μ' : MMem} {i k p : Nat} {c : Int32} {l : List Nat} (h : STK μ i p c l) (hf : FRM k μ μ') (hi : i ≠ k) : STK μ' i p c l := by
  unfold STK
  rw [hf.2.2 7 (by decide) (by decide) i hi, hf.2.2 8 (by decide) (by decide) i hi, hf.2.2 9 (by decide) (by decide) i hi, hf.2.2 10 (by decide) (by decide) i hi, hf.2.2 11 (by decide) (by decide) i hi, hf.2.2 12 (by decide) (by decide) i hi]
  exact h
theorem STK.mf {μ μ' : MMem} {i p : Nat} {c : Int32} {l : List Nat} (h : STK μ i p c l) (hf : ∀ r, 7 ≤ r → r ≤ 12 → μ' r = μ r) : STK μ' i p c l := by
  unfold STK
  rw [hf 7 (by decide) (by decide), hf 8 (by decide) (by decide), hf 9 (by decide) (by decide), hf 10 (by decide) (by decide), hf 11 (by decide) (by decide), hf 12 (by decide) (by decide)]
  exact h
def Good (b : Nat → Int32) (μ : MMem) (n : Nat) : Prop := ∀ i, i < n → (stm b (pls b i)).1 = true ∧ pls b i ≤ 100 ∧ STK μ i (pls b i) (b (pls b i)) (stm b (pls b i)).2.2
theorem pass1 {σ0 : Mem} {μ0 : MMem} {d N : Nat} (hr : RowAt σ0 μ0 d N) (hB : Byt (σ0 (8 + 2 * d))) : ∀ (j i fx fm : Nat) (σ : Mem) (μ : MMem), i + j = 40 → j < fx → j < fm → (∀ q, q ≠ 35 → q ≠ 36 → σ q = σ0 q) → σ 35 2 = nI (pls (bt (σ0 (8 + 2 * d)) N) i) →
    MB (σ0 (8 + 2 * d)) d N μ → (μ 0).1 18 = nI (pls (bt (σ0 (8 + 2 * d)) N) i) → (μ 0).1 19 = 0 → (μ 0).1 20 = nI i → MG μ0 μ (dsM μ0) → Good (bt (σ0 (8 + 2 * d)) N) μ i → pls (bt (σ0 (8 + 2 * d)) N) i ≤ N → 3 * i ≤ pls (bt (σ0 (8 + 2 * d)) N) i →
    (∃ n σ' μ', f_X11_statementsOf_L12 d fx (nI i) (nI i) σ (fun x _ σ => some (x, σ)) = some (nI n, σ') ∧ (∀ K, f_X12_dress_L51 fm μ K = K μ') ∧ n ≤ 40 ∧ (∀ q, q ≠ 35 → q ≠ 36 → σ' q = σ0 q) ∧ MG μ0 μ' (dsM μ0) ∧ (μ' 0).1 19 = 0 ∧ (μ' 0).1 20 = nI n ∧ Good (bt (σ0 (8 + 2 * d)) N) μ' n) ∨
    (∃ p σ' μ', f_X11_statementsOf_L12 d fx (nI i) (nI i) σ (fun x _ σ => some (x, σ)) = some (-1000 - nI p, σ') ∧ p ≤ 100 ∧ (∀ K, f_X12_dress_L51 fm μ K = K μ') ∧ (∀ q, q ≠ 35 → q ≠ 36 → σ' q = σ0 q) ∧ MG μ0 μ' (dsM μ0) ∧ (μ' 0).1 19 = 1 ∧ (μ' 0).1 18 = nI p) := by
  have hd := hr.1
  have hN := hr.2.1
  intro j
  induction j with
  | zero => intro i fx fm σ μ h1 h2 h3 hf hp m0 m1 m2 m3 m4 m5 hle h3i; omega
  | succ j ih =>
    intro i fx fm σ μ h1 h2 h3 hf hp m0 m1 m2 m3 m4 m5 hle h3i
    obtain ⟨fx, rfl⟩ : ∃ k, fx = k + 1 := ⟨fx - 1, by omega⟩
    obtain ⟨fm, rfl⟩ : ∃ k, fm = k + 1 := ⟨fm - 1, by omega⟩
    have e19 : σ (7 + 2 * d) = σ0 (7 + 2 * d) := hf _ (by omega) (by omega)
    have e20 : σ (8 + 2 * d) = σ0 (8 + 2 * d) := hf _ (by omega) (by omega)
    have hri : RowAt σ μ0 d N := by
      unfold RowAt
      rw [e19, e20]
      exact hr
    by_cases stop : 0 < i ∧ N ≤ pls (bt (σ0 (8 + 2 * d)) N) i
    · refine Or.inl ⟨i, σ, μ, ?_, fun K => ?_, by omega, hf, m4, m2, m3, m5⟩
      · rw [f_X11_statementsOf_L12, jns]
        try dsimp only
        rw [if_neg (nI_ne0 stop.1 (by omega)), if_neg (show ¬ (100 : Int32) ≤ nI i from nI_ge (a := i) (b := 100) (by omega) (by decide)), e19, hr.2.2.1, hp, if_pos (nI_le stop.2 (by omega))]
      · rw [f_X12_dress_L51, if_pos m2, m3, if_neg (nI_ne0 stop.1 (by omega)), m0.2.1, m1, if_pos (nI_le stop.2 (by omega))]
    · have hi34 : i ≤ 33 := by
        by_cases z : i = 0
        · omega
        · have : ¬ N ≤ pls (bt (σ0 (8 + 2 * d)) N) i := fun q => stop ⟨by omega, q⟩
          omega
      obtain ⟨σ1, x1, x2, x3, x4, x5⟩ := readS_x hri hle hp
      obtain ⟨μ1, y1, y2, y3, y4, y5, y6, y7⟩ := readS_m (k := i) hd hN hB m0 m1 m2 m3 (by omega) hle
      rw [e20] at x1 x3 x4 x5
      have hX : f_X11_statementsOf_L12 d (fx + 1) (nI i) (nI i) σ (fun x _ σ => some (x, σ)) = b2 (f_X8_readStatement d σ) fun r_7 σ_8 => if r_7 = 0 then some ((-1000) - (σ_8 35 2), σ_8) else f_X11_statementsOf_L12 d fx (nI (i + 1)) (nI (i + 1)) σ_8 (fun x _ σ => some (x, σ)) := by
        rw [f_X11_statementsOf_L12, jns]
        try dsimp only
        by_cases z : i = 0
        · rw [if_pos (show nI i = 0 by rw [z]; rfl), nI_1]
          rfl
        · have : ¬ N ≤ pls (bt (σ0 (8 + 2 * d)) N) i := fun q => stop ⟨by omega, q⟩
          rw [if_neg (nI_ne0 (by omega) (by omega)), if_neg (show ¬ (100 : Int32) ≤ nI i from nI_ge (a := i) (b := 100) (by omega) (by decide)), e19, hr.2.2.1, hp, if_neg (nI_ge (by omega) (by omega)), nI_1]
          rfl
      have hM : ∀ K, f_X12_dress_L51 (fm + 1) μ K = f_X12_dress_L51 fm μ1 K := fun K => by
        rw [f_X12_dress_L51, if_pos m2, m3]
        by_cases z : i = 0
        · rw [if_pos (show nI i = 0 by rw [z]; rfl), y1, b1s]
        · have : ¬ N ≤ pls (bt (σ0 (8 + 2 * d)) N) i := fun q => stop ⟨by omega, q⟩
          rw [if_neg (nI_ne0 (by omega) (by omega)), m0.2.1, m1, if_neg (nI_ge (by omega) (by omega)), y1, b1s]
      have hin := stm_in (ρ := σ0 (8 + 2 * d)) hle
      have hg : MG μ0 μ1 (dsM μ0) := by
        have := m4.tr y6.mg
        rw [m4.1] at this
        exact this
      have hf1 : ∀ q, q ≠ 35 → q ≠ 36 → σ1 q = σ0 q := fun q a b => (x2 q a b).trans (hf q a b)
      rw [hX, x1, b2s]
      by_cases ok : (stm (bt (σ0 (8 + 2 * d)) N) (pls (bt (σ0 (8 + 2 * d)) N) i)).1 = true
      · rw [if_pos ok, if_neg ne10]
        simp only [hM]
        refine ih (i + 1) fx fm σ1 μ1 (by omega) (by omega) (by omega) hf1 x3 y2 y3 (by rw [y4, if_pos ok]) y5 hg ?_ hin.1 ?_
        · intro i' hi'
          by_cases e : i' = i
          · rw [e]
            exact ⟨ok, by omega, y7 ok⟩
          · obtain ⟨g1, g2, g3⟩ := m5 i' (by omega)
            exact ⟨g1, g2, g3.fr y6 e⟩
        · have h5 : pls (bt (σ0 (8 + 2 * d)) N) (i + 1) = (stm (bt (σ0 (8 + 2 * d)) N) (pls (bt (σ0 (8 + 2 * d)) N) i)).2.1 := rfl
          have := hin.2 ok
          omega
      · rw [if_neg ok, if_pos rfl, x3]
        refine Or.inr ⟨_, σ1, μ1, rfl, by have := hin.1; omega, fun K => ?_, hf1, hg, by rw [y4, if_neg ok], y3⟩
        rw [hM]
        obtain ⟨fm, rfl⟩ : ∃ k, fm = k + 1 := ⟨fm - 1, by omega⟩
        rw [f_X12_dress_L51, y4, if_neg ok, if_neg ne10]
def FZ (σ0 σ : Mem) : Prop := ∀ q, q ≠ 5 → q ≠ 6 → q ≠ 35 → q ≠ 36 → σ q = σ0 q
theorem FZ.tr {σ0 σ σ1 : Mem} (h : FZ σ0 σ) (h1 : FZ σ σ1) : FZ σ0 σ1 := fun q a b c d => (h1 q a b c d).trans (h q a b c d)
theorem FZ.dx {σ σ1 : Mem} {D : DS} (h : DX σ σ1 2 D) : FZ σ σ1 := fun q a b _ _ => h.2 q (by omega) (by omega)
theorem FZ.tx {σ σ1 : Mem} (h : ∀ q, q ≠ 35 → q ≠ 36 → σ1 q = σ q) : FZ σ σ1 := fun q _ _ c d => h q c d
theorem tx_ds {σ σ1 : Mem} {k : Nat} (hk : k < 3) (h : ∀ q, q ≠ 35 → q ≠ 36 → σ1 q = σ q) : dsX σ1 k = dsX σ k := by
  unfold dsX
  rw [h _ (by omega) (by omega), h _ (by omega) (by omega)]
theorem Rel.text {σ σ' : Mem} {μ : MMem} (h : Rel σ μ) (hc : FZ σ σ') : Rel σ' μ := by
  have e0 : dsX σ' 0 = dsX σ 0 := by unfold dsX; rw [hc _ (by omega) (by omega) (by omega) (by omega), hc _ (by omega) (by omega) (by omega) (by omega)]
  have e1 : dsX σ' 1 = dsX σ 1 := by unfold dsX; rw [hc _ (by omega) (by omega) (by omega) (by omega), hc _ (by omega) (by omega) (by omega) (by omega)]
  refine ⟨e0.trans h.1, h.2.1, ?_, fun i hi => (h.2.2.2 i hi).fr (hc _ (by omega) (by omega) (by omega) (by omega)) (hc _ (by omega) (by omega) (by omega) (by omega)) (fun j hj => rfl)⟩
  rw [hc 0 (by omega) (by omega) (by omega) (by omega), e1]
  exact h.2.2.1
theorem pass2 {σ0 : Mem} {μ0 μa : MMem} {d N n : Nat} (hr : RowAt σ0 μ0 d N) (hn : n ≤ 40) (h20 : (μa 0).1 20 = nI n) (hg : Good (bt (σ0 (8 + 2 * d)) N) μa n) (hle : ∀ i, i < n → pls (bt (σ0 (8 + 2 * d)) N) i ≤ N) {KX : Int32 → Mem → Option (Int32 × Mem)} : ∀ (j i fx fm : Nat) (σ : Mem) (μ : MMem) (nr : Nat), i + j = n → j < fx → j < fm → FZ σ0 σ → σ 35 2 = nI (pls (bt (σ0 (8 + 2 * d)) N) i) → dsX σ 2 = dsM μ → OkN (dsM μ) nr → MF 6 μa μ (dsM μ) →
    (∃ σ' μ' nr', f_X11_dress_L56 d (nI n) fx (nI i) σ KX = KX (nI n) σ' ∧ (∀ K, f_X12_dress_L105 fm (nI i) μ K = some (nI n, μ')) ∧ FZ σ0 σ' ∧ dsX σ' 2 = dsM μ' ∧ OkN (dsM μ') nr' ∧ MF 6 μa μ' (dsM μ')) ∨
    (∃ i' σ' μ' D, i' < n ∧ f_X11_dress_L56 d (nI n) fx (nI i) σ KX = some (-2000 - nI (pls (bt (σ0 (8 + 2 * d)) N) i'), σ') ∧ (∀ K, f_X12_dress_L105 fm (nI i) μ K = K (nI i') μ') ∧ FZ σ0 σ' ∧ MF 6 μa μ' D ∧ μ' 6 = μ 6) := by
  have hd := hr.1
  have hN := hr.2.1
  intro j
  induction j with
  | zero =>
    intro i fx fm σ μ nr h1 h2 h3 hf hp hXM hD hM
    obtain ⟨fx, rfl⟩ : ∃ k, fx = k + 1 := ⟨fx - 1, by omega⟩
    obtain ⟨fm, rfl⟩ : ∃ k, fm = k + 1 := ⟨fm - 1, by omega⟩
    have e : i = n := by omega
    have q20 : (μ 0).1 20 = nI n := (hM.2.2 20 (by decide) (by decide) (by decide) (by decide)).trans h20
    refine Or.inl ⟨σ, μ, nr, ?_, fun K => ?_, hf, hXM, hD, hM⟩
    · rw [f_X11_dress_L56, e, if_pos (nI_le (Nat.le_refl _) (by omega))]
    · rw [f_X12_dress_L105, q20, e, if_pos (nI_le (Nat.le_refl _) (by omega))]
  | succ j ih =>
    intro i fx fm σ μ nr h1 h2 h3 hf hp hXM hD hM
    obtain ⟨fx, rfl⟩ : ∃ k, fx = k + 1 := ⟨fx - 1, by omega⟩
    obtain ⟨fm, rfl⟩ : ∃ k, fm = k + 1 := ⟨fm - 1, by omega⟩
    have hi : i < n := by omega
    have e19 : σ (7 + 2 * d) = σ0 (7 + 2 * d) := hf _ (by omega) (by omega) (by omega) (by omega)
    have e20 : σ (8 + 2 * d) = σ0 (8 + 2 * d) := hf _ (by omega) (by omega) (by omega) (by omega)
    have hri : RowAt σ μ0 d N := by
      unfold RowAt
      rw [e19, e20]
      exact hr
    have q20 : (μ 0).1 20 = nI n := (hM.2.2 20 (by decide) (by decide) (by decide) (by decide)).trans h20
    obtain ⟨g1, g2, g3⟩ := hg i hi
    obtain ⟨σ1, x1, x2, x3, x4, x5⟩ := readS_x hri (hle i hi) hp
    rw [e20] at x1 x3 x4 x5
    rw [if_pos g1] at x1
    have hs : STK μ i (pls (bt (σ0 (8 + 2 * d)) N) i) (bt (σ0 (8 + 2 * d)) N (pls (bt (σ0 (8 + 2 * d)) N) i)) (stm (bt (σ0 (8 + 2 * d)) N) (pls (bt (σ0 (8 + 2 * d)) N) i)).2.2 := g3.mf (fun r a b => hM.2.1 r (by omega) (by omega))
    have f1 : FZ σ0 σ1 := hf.tr (FZ.tx x2)
    rcases carry_s (σ := σ1) ((tx_ds (by decide) x2).trans hXM) hD (show i < 51 by omega) x4 x5 hs (stm_v g1) with ⟨σ2, μ2, D', n', c1, c2, c3, c4, c5⟩ | ⟨σ2, μ2, D1, D2, c1, c2, c3, c4⟩
    · have hX : f_X11_dress_L56 d (nI n) (fx + 1) (nI i) σ KX = f_X11_dress_L56 d (nI n) fx (nI (i + 1)) σ2 KX := by
        rw [f_X11_dress_L56, if_neg (nI_ge hi (by omega)), bnds, x1, b2s, if_neg ne10, c1, b2s, if_neg ne10, bnds, nI_1]
      have hMl : ∀ K, f_X12_dress_L105 (fm + 1) (nI i) μ K = f_X12_dress_L105 fm (nI (i + 1)) μ2 K := fun K => by
        rw [f_X12_dress_L105, q20, if_neg (nI_ge hi (by omega)), c2, b2s, if_neg ne10, bnds, nI_1]
      have m2 : MF 6 μa μ2 (dsM μ2) := by
        rw [c4.1]
        exact hM.tr c4.mf
      rw [hX]
      simp only [hMl]
      have h66 : μ2 6 = μ 6 := c4.2.1 6 (by decide)
      rcases ih (i + 1) fx fm σ2 μ2 n' (by omega) (by omega) (by omega) (f1.tr (FZ.dx c3)) (by rw [c3.2 35 (by decide) (by decide)]; exact x3) (c3.1.trans c4.1.symm) (by rw [c4.1]; exact c5) m2 with h | ⟨i', σ', μ', D, k1, k2, k3, k4, k5, k6⟩
      · exact Or.inl h
      · exact Or.inr ⟨i', σ', μ', D, k1, k2, k3, k4, k5, k6.trans h66⟩
    · refine Or.inr ⟨i, σ2, μ2, D2, hi, ?_, fun K => ?_, f1.tr (FZ.dx c3), hM.tr c4.mf, c4.2.1 6 (by decide)⟩
      · rw [f_X11_dress_L56, if_neg (nI_ge hi (by omega)), hp, bnds, x1, b2s, if_neg ne10, c1, b2s, if_pos rfl]
      · rw [f_X12_dress_L105, q20, if_neg (nI_ge hi (by omega)), c2, b2s, if_pos rfl]
theorem bytrow {σ : Mem} {μ : MMem} (hR : Rel σ μ) (p : Int32) : (∃ v, v < 0 ∧ f_X11_rowRefusal p 0 σ = some v ∧ f_X12_wrongSort p 0 μ = some v) ∨
    ∃ d N, p = nI d ∧ RowAt σ μ d N ∧ Byt (σ (8 + 2 * d)) ∧ f_X11_rowRefusal p 0 σ = some 0 ∧ f_X12_wrongSort p 0 μ = some 0 := by
  rcases rowany hR p with ⟨e1, e2⟩ | ⟨d, v, hd, rfl, hv, e1, e2, e3⟩ | ⟨d, s, N, rfl, hs, hr, e1, e2, e3, t1, t2, t3, t4, t5⟩
  · refine Or.inl ⟨-1, by decide, ?_, ?_⟩
    · rw [f_X11_rowRefusal, e1, b1s, if_pos rfl]
    · rw [f_X12_wrongSort, e2, b1s, if_neg (by decide), b1s]
  · refine Or.inl ⟨v, hv, ?_, ?_⟩
    · rw [f_X11_rowRefusal, e1, b1s, if_neg ne10, atS hd, b1s, if_pos (show d < 9 by omega), e2, b1s, if_neg (neg0 hv)]
    · rw [f_X12_wrongSort, e3, b1s, if_neg (Int32.not_le.mpr hv), b1s]
  · have hd := hr.1
    have hbd : ¬ (nI d < 0 ∨ 8 ≤ (nI d).toNatClampNeg) := nI_in hd (by decide)
    have hcd := nI_clamp (show d < 2 ^ 31 by omega)
    by_cases c : s = 0
    · subst c
      refine Or.inr ⟨d, N, rfl, hr, fun i hi => (t5 i hi).1 rfl, ?_, ?_⟩
      · rw [f_X11_rowRefusal, e1, b1s, if_neg ne10, atS hd, b1s, if_pos (show d < 9 by omega), e2, b1s, if_pos rfl, t3, if_pos nI_0]
      · rw [f_X12_wrongSort, e3, b1s, if_pos (Int32.le_refl 0), if_neg hbd, hcd, t4, if_pos nI_0]
    · have c' : ¬ nI s = 0 := nI_ne0 (by omega) (by omega)
      refine Or.inl ⟨-12, by decide, ?_, ?_⟩
      · rw [f_X11_rowRefusal, e1, b1s, if_neg ne10, atS hd, b1s, if_pos (show d < 9 by omega), e2, b1s, if_pos rfl, t3, if_neg c']
      · rw [f_X12_wrongSort, e3, b1s, if_pos (Int32.le_refl 0), if_neg hbd, hcd, t4, if_neg c']
theorem neg1000 : ∀ p, p ≤ 100 → ¬ 0 ≤ (-1000 : Int32) - nI p := by
  have : ∀ p, p < 101 → ¬ 0 ≤ (-1000 : Int32) - nI p := by decide +kernel
  exact fun p hp => this p (by omega)
theorem eq_dress {σ : Mem} {μ : MMem} (hR : Rel σ μ) (p1 : Int32) : ∃ r σ' μ', f_X11_dress p1 σ = some (r, σ') ∧ f_X12_dress p1 μ = some (r, μ') ∧ Rel σ' μ' := by
  have hR1 := hR.t
  obtain ⟨n0, hn0⟩ := hR1.2.1.n
  rcases bytrow hR1 p1 with ⟨v, hv, e1, e2⟩ | ⟨d, N, rfl, hr, hB, e1, e2⟩
  · refine ⟨v, σ, uI μ 0 9 0, ?_, ?_, hR1⟩
    · rw [f_X11_dress, e1, b1s, if_neg (neg0 hv)]
    · rw [f_X12_dress, bnds, e2, b1s, if_neg (Int32.not_le.mpr hv)]
  · have hd := hr.1
    have hN := hr.2.1
    have hbd : ¬ (nI d < 0 ∨ 8 ≤ (nI d).toNatClampNeg) := nI_in hd (by decide)
    have hcd := nI_clamp (show d < 2 ^ 31 by omega)
    have hmul : (100 : Int32) * nI d = nI (100 * d) := pk_mul 100 d
    obtain ⟨μt, hμt⟩ : ∃ μt, μt = uI μ 0 9 0 := ⟨_, rfl⟩
    rw [← hμt] at hR1 hn0 hr e2
    obtain ⟨μs, hμs⟩ : ∃ μs, μs = uI (uI (uI (uI (uI μt 0 16 (nI (100 * d))) 0 17 (nI N)) 0 18 0) 0 19 0) 0 20 0 := ⟨_, rfl⟩
    have gs : MG μt μs (dsM μt) := by rw [hμs]; exact ((((MG.rf.f (by decide) (by decide)).f (by decide) (by decide)).f (by decide) (by decide)).f (by decide) (by decide)).f (by decide) (by decide)
    have s19 : μs 19 = μt 19 := gs.2.2.1 19 (by decide)
    have s16 : (μs 0).1 16 = nI (100 * d) := by rw [hμs, uI_f (by decide), uI_f (by decide), uI_f (by decide), uI_f (by decide), uI_s]
    have s17 : (μs 0).1 17 = nI N := by rw [hμs, uI_f (by decide), uI_f (by decide), uI_f (by decide), uI_s]
    have s18 : (μs 0).1 18 = 0 := by rw [hμs, uI_f (by decide), uI_f (by decide), uI_s]
    have sb : (μs 0).1 19 = 0 := by rw [hμs, uI_f (by decide), uI_s]
    have s20 : (μs 0).1 20 = 0 := by rw [hμs, uI_s]
    have mb : MB (σ (8 + 2 * d)) d N μs := ⟨s16, s17, fun i hi => by rw [s19]; exact hr.2.2.2.2 i hi⟩
    obtain ⟨σs, hσs⟩ : ∃ σs, σs = uX σ 35 2 0 := ⟨_, rfl⟩
    have fs : ∀ q, q ≠ 35 → q ≠ 36 → σs q = σ q := fun q a _ => by rw [hσs, uX_ne a]
    have ps : σs 35 2 = 0 := by rw [hσs, rdX, if_pos ⟨rfl, rfl⟩]
    have hX0 : f_X11_dress (nI d) σ = b2 (f_X11_statementsOf_L12 d 5000 0 0 σs (fun x _ σ => some (x, σ))) fun r_8 σ_9 => if 0 ≤ r_8 then b1 (f_X0_becomeLike 2 0 σ_9) fun σ_12 => f_X11_dress_L56 d r_8 5000 0 (uX σ_12 35 2 0) (fun _ σ_28 => b1 (f_X0_becomeLike 0 2 σ_28) fun σ_30 => some (r_8, σ_30)) else some (r_8, σ_9) := by
      rw [f_X11_dress, e1, b1s, if_pos rfl, atS hd, b1s, if_pos (show d < 9 by omega), f_X11_statementsOf, bnds, ← hσs]
      rfl
    have hM0 : ∀ L1 L2, f_X12_dress_L51 = L1 → f_X12_dress_L105 = L2 → f_X12_dress (nI d) μ = L1 5000 μs fun (σ_21 : MMem) => if ((σ_21 0).1 19) = 0 then b1 (f_X12_open σ_21) fun σ_24 => L2 5000 0 σ_24 fun (x3_33 : Int32) (σ_34 : MMem) => b1 (f_X12_close σ_34) fun σ_36 => if x3_33 < 0 ∨ 51 ≤ x3_33.toNatClampNeg then none else some ((-2000) - ((σ_36 7).1 x3_33.toNatClampNeg), σ_36) else some ((-1000) - ((σ_21 0).1 18), σ_21) := by
      intro L1 L2 q1 q2
      rw [f_X12_dress, q1, q2, ← hμt, bnds, e2, b1s, if_pos (Int32.le_refl 0), bnds, bnds, if_neg hbd, hcd, hmul, uI_ne (show 18 ≠ 0 by decide), hr.2.2.2.1, bnds, bnds, bnds, bnds, bnds, ← hμs]
    rcases pass1 hr hB 40 0 5000 5000 σs μs (by omega) (by omega) (by omega) fs ps mb s18 sb s20 gs (fun i hi => by omega) (Nat.zero_le _) (by omega) with ⟨n, σ1, μ1, k1, k2, k3, k4, k5, k6, k7, k8⟩ | ⟨p, σ1, μ1, k1, k2, k3, k4, k5, k6, k7⟩
    · have k1' : f_X11_statementsOf_L12 d 5000 0 0 σs (fun x _ σ => some (x, σ)) = some (nI n, σ1) := k1
      obtain ⟨μ2, e5, m5, r5⟩ := open_s (μ := μ1)
      rw [k5.1] at m5 r5
      obtain ⟨σ2, e6, x6⟩ := becomeLike_s (σ := σ1) (k := 2) (k' := 0) (by decide)
      rw [tx_ds (by decide) k4, hR1.1] at x6
      have f2 : FZ σ (uX σ2 35 2 0) := ((FZ.tx k4).tr (FZ.dx x6)).tr (fun q _ _ c _ => uX_ne c)
      have p2 : (uX σ2 35 2 0) 35 2 = nI (pls (bt (σ (8 + 2 * d)) N) 0) := by rw [rdX, if_pos ⟨rfl, rfl⟩]; rfl
      have d2 : dsX (uX σ2 35 2 0) 2 = dsM μ2 := by rw [m5.1, ← x6.1]; exact tx_ds (by decide) (fun q a _ => uX_ne a)
      have h20 : (μ2 0).1 20 = nI n := (m5.2.2 20 (by decide) (by decide) (by decide) (by decide)).trans k7
      have hg2 : Good (bt (σ (8 + 2 * d)) N) μ2 n := fun i hi => ⟨(k8 i hi).1, (k8 i hi).2.1, (k8 i hi).2.2.mf (fun r a b => m5.2.1 r (by omega) (by omega))⟩
      have hle : ∀ i, i < n → pls (bt (σ (8 + 2 * d)) N) i ≤ N := by
        intro i
        induction i with
        | zero => intro _; exact Nat.zero_le _
        | succ i ih => intro hi; exact (stm_in (ρ := σ (8 + 2 * d)) (ih (by omega))).1
      have hX1 : f_X11_dress (nI d) σ = f_X11_dress_L56 d (nI n) 5000 0 (uX σ2 35 2 0) (fun _ σ_28 => b1 (f_X0_becomeLike 0 2 σ_28) fun σ_30 => some (nI n, σ_30)) := by
        rw [hX0, k1', b2s, if_pos (nI_pos' (by omega)), e6, b1s]
      have hM1 : ∀ L2, f_X12_dress_L105 = L2 → f_X12_dress (nI d) μ = L2 5000 0 μ2 fun (x3_33 : Int32) (σ_34 : MMem) => b1 (f_X12_close σ_34) fun σ_36 => if x3_33 < 0 ∨ 51 ≤ x3_33.toNatClampNeg then none else some ((-2000) - ((σ_36 7).1 x3_33.toNatClampNeg), σ_36) := by
        intro L2 q2
        rw [hM0 _ _ rfl q2, k2, if_pos k6, e5, b1s]
      have hm2 : MF 6 μ2 μ2 (dsM μ2) := MD.rf.mf
      rcases pass2 (KX := fun _ σ_28 => b1 (f_X0_becomeLike 0 2 σ_28) fun σ_30 => some (nI n, σ_30)) hr k3 h20 hg2 hle n 0 5000 5000 (uX σ2 35 2 0) μ2 n0 (by omega) (by omega) (by omega) f2 p2 d2 (by rw [m5.1]; exact hn0) hm2 with ⟨σ3, μ3, nr, j1, j2, j3, j4, j5, j6⟩ | ⟨i, σ3, μ3, D, hi, j1, j2, j3, j4, j5⟩
      · obtain ⟨σ4, e7, x7⟩ := becomeLike_s (σ := σ3) (k := 0) (k' := 2) (by decide)
        rw [j4] at x7
        have j2' : ∀ K, f_X12_dress_L105 5000 0 μ2 K = some (nI n, μ3) := j2
        refine ⟨nI n, σ4, μ3, ?_, (hM1 _ rfl).trans (j2' _), ?_⟩
        · rw [hX1]
          refine j1.trans ?_
          show (b1 (f_X0_becomeLike 0 2 σ3) fun σ_30 => some (nI n, σ_30)) = _
          rw [e7, b1s]
        · exact (hR1.text j3).dg x7 ((k5.tr m5.mg).tr j6.mg) j5.ok
      · obtain ⟨μ4, e7, m7, _⟩ := close_s (μ := μ3)
        rw [j5, r5] at m7
        have j2' : ∀ K, f_X12_dress_L105 5000 0 μ2 K = K (nI i) μ3 := j2
        have hbi : ¬ (nI i < 0 ∨ 51 ≤ (nI i).toNatClampNeg) := nI_in (show i < 51 by omega) (by decide)
        have e77 : (μ4 7).1 i = nI (pls (bt (σ (8 + 2 * d)) N) i) := by
          rw [m7.2.1 7 (by decide) (by decide), j4.2.1 7 (by decide) (by decide)]
          exact (hg2 i hi).2.2.1
        refine ⟨_, σ3, μ4, hX1.trans j1, ?_, ?_⟩
        · rw [hM1 _ rfl, j2', e7, b1s, if_neg hbi, nI_clamp (by omega), e77]
        · exact (hR1.text j3).g (((k5.tr m5.mg).tr j4.mg).tr m7.mg)
    · have k1' : f_X11_statementsOf_L12 d 5000 0 0 σs (fun x _ σ => some (x, σ)) = some (-1000 - nI p, σ1) := k1
      refine ⟨-1000 - nI p, σ1, μ1, ?_, ?_, (hR1.text (FZ.tx k4)).g k5⟩
      · rw [hX0, k1', b2s, if_neg (neg1000 p k2)]
      · rw [hM0 _ _ rfl rfl, k3, k6, if_neg ne10, k7]
