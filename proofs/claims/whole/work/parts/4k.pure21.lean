/-! PURE, 21: rows of lengths; sizes -/
/-- a row of lengths: the i-th -/
def LenT (σ : Mem) (d i : Nat) : Prop := ∃ v, 1 ≤ v ∧ v ≤ 99 ∧ σ (8 + 2 * d) i = nI v
theorem dead_l {d : Nat} {μ : MMem} {n : Nat} {x : Int32} (hd : d < 8) : f_X12_wrongList_L31 (nI d) μ (n + 1) 0 x (fun a _ => if a = 0 then some (-13) else some 0) = some (-13) := by
  have hbd : ¬ (nI d < 0 ∨ 8 ≤ (nI d).toNatClampNeg) := nI_in hd (by decide)
  rw [f_X12_wrongList_L31, if_neg hbd]
  by_cases h : (μ 18).1 (nI d).toNatClampNeg ≤ x
  · rw [if_pos h, if_pos rfl]
  · rw [if_neg h, if_pos rfl, if_pos rfl]
theorem lenL {σ : Mem} {μ : MMem} {d N : Nat} (hr : RowAt σ μ d N) : ∀ (j t f1 f2 : Nat), t + j = N → j < f1 → j < f2 →
    (f_X11_tellsLengths_L16 d σ f1 (nI t) (fun _ => some 1) = some 1 ∧ f_X12_wrongList_L31 (nI d) μ f2 1 (nI t) (fun a _ => if a = 0 then some (-13) else some 0) = some 0 ∧ ∀ i, t ≤ i → i < N → LenT σ d i) ∨
    (f_X11_tellsLengths_L16 d σ f1 (nI t) (fun _ => some 1) = some 0 ∧ f_X12_wrongList_L31 (nI d) μ f2 1 (nI t) (fun a _ => if a = 0 then some (-13) else some 0) = some (-13)) := by
  have hd := hr.1
  have hN := hr.2.1
  have hbd : ¬ (nI d < 0 ∨ 8 ≤ (nI d).toNatClampNeg) := nI_in hd (by decide)
  have hcd := nI_clamp (show d < 2 ^ 31 by omega)
  intro j
  induction j with
  | zero =>
    intro t f1 f2 h1 h2 h3
    obtain ⟨f1, rfl⟩ : ∃ k, f1 = k + 1 := ⟨f1 - 1, by omega⟩
    obtain ⟨f2, rfl⟩ : ∃ k, f2 = k + 1 := ⟨f2 - 1, by omega⟩
    have e : t = N := by omega
    refine Or.inl ⟨?_, ?_, fun i a b => by omega⟩
    · rw [f_X11_tellsLengths_L16, hr.2.2.1, e, if_pos (nI_le (Nat.le_refl _) (by omega))]
    · rw [f_X12_wrongList_L31, if_neg hbd, hcd, hr.2.2.2.1, e, if_pos (nI_le (Nat.le_refl _) (by omega)), if_neg ne10]
  | succ j ih =>
    intro t f1 f2 h1 h2 h3
    obtain ⟨f1, rfl⟩ : ∃ k, f1 = k + 1 := ⟨f1 - 1, by omega⟩
    obtain ⟨f2, rfl⟩ : ∃ k, f2 = k + 2 := ⟨f2 - 2, by omega⟩
    have ht : t < N := by omega
    have hge : ¬ nI N ≤ nI t := nI_ge ht (by omega)
    rcases rn1 (p := σ (8 + 2 * d) t) (lo := 1) (n := 99) (by decide) (by decide) 1 99 1 99 rfl rfl rfl rfl with ⟨v, hv1, hv, ev, e1, e2⟩ | ⟨e1, e2⟩
    · have hx : f_X11_tellsLengths_L16 d σ (f1 + 1) (nI t) (fun _ => some 1) = f_X11_tellsLengths_L16 d σ f1 (nI (t + 1)) (fun _ => some 1) := by
        rw [f_X11_tellsLengths_L16, hr.2.2.1, if_neg hge, at_s hr ht, b1s, e1, b1s, if_neg ne10, bnds, nI_1]
      have hm : f_X12_wrongList_L31 (nI d) μ (f2 + 2) 1 (nI t) (fun a _ => if a = 0 then some (-13) else some 0) = f_X12_wrongList_L31 (nI d) μ (f2 + 1) 1 (nI (t + 1)) (fun a _ => if a = 0 then some (-13) else some 0) := by
        rw [f_X12_wrongList_L31, if_neg hbd, hcd, hr.2.2.2.1, if_neg hge, if_neg ne10, bnds, ix_s, if_neg (nI_in (show 100 * d + t < 800 by omega) (by decide)), nI_clamp (show 100 * d + t < 2 ^ 31 by omega), bnds, hr.2.2.2.2 t (by omega), e2, b1s, bnds, nI_1]
      rw [hx, hm]
      rcases ih (t + 1) f1 (f2 + 1) (by omega) (by omega) (by omega) with ⟨g1, g2, g3⟩ | ⟨g1, g2⟩
      · refine Or.inl ⟨g1, g2, fun i a b => ?_⟩
        by_cases e : i = t
        · rw [e]; exact ⟨v, hv1, hv, ev⟩
        · exact g3 i (by omega) b
      · exact Or.inr ⟨g1, g2⟩
    · refine Or.inr ⟨?_, ?_⟩
      · rw [f_X11_tellsLengths_L16, hr.2.2.1, if_neg hge, at_s hr ht, b1s, e1, b1s, if_pos rfl]
      · rw [f_X12_wrongList_L31, if_neg hbd, hcd, hr.2.2.2.1, if_neg hge, if_neg ne10, bnds, ix_s, if_neg (nI_in (show 100 * d + t < 800 by omega) (by decide)), nI_clamp (show 100 * d + t < 2 ^ 31 by omega), bnds, hr.2.2.2.2 t (by omega), e2, b1s, bnds]
        exact dead_l hd
theorem listrow {σ : Mem} {μ : MMem} (hR : Rel σ μ) (p : Int32) {h : Nat} (h0 : 1 ≤ h) (hh : h ≤ 20) : (∃ v, v < 0 ∧ f_X11_lengthsRefusal p (nI h) σ = some v ∧ f_X12_wrongList p (nI h) μ = some v) ∨
    ∃ d N, p = nI d ∧ RowAt σ μ d N ∧ 1 ≤ N ∧ N ≤ h ∧ f_X11_lengthsRefusal p (nI h) σ = some 0 ∧ f_X12_wrongList p (nI h) μ = some 0 ∧ ∀ i, i < N → LenT σ d i := by
  rcases rowref hR p (s := 0) (by decide) with ⟨v, hv, e1, e2⟩ | ⟨d, N, rfl, hr, e1, e2⟩
  · have e1 : f_X11_rowRefusal p 0 σ = some v := e1
    have e2 : f_X12_wrongSort p 0 μ = some v := e2
    refine Or.inl ⟨v, hv, ?_, ?_⟩
    · rw [f_X11_lengthsRefusal, e1, b1s, if_neg (neg0 hv)]
    · rw [f_X12_wrongList, e2, b1s, if_neg (Int32.not_le.mpr hv)]
  · have e1 : f_X11_rowRefusal (nI d) 0 σ = some 0 := e1
    have e2 : f_X12_wrongSort (nI d) 0 μ = some 0 := e2
    have hd := hr.1
    have hN := hr.2.1
    have hbd : ¬ (nI d < 0 ∨ 8 ≤ (nI d).toNatClampNeg) := nI_in hd (by decide)
    have hcd := nI_clamp (show d < 2 ^ 31 by omega)
    have hx : ∀ z, f_X11_tellsLengths d (nI h) σ = some z → f_X11_lengthsRefusal (nI d) (nI h) σ = if z = 0 then some (-13) else some 0 := fun z hz => by
      rw [f_X11_lengthsRefusal, e1, b1s, if_pos rfl, atS hd, b1s, if_pos (show d < 9 by omega), hz, b1s]
    rcases rn1 (p := nI N) (lo := 1) (n := h) h0 (by omega) 1 (nI h) 1 (nI h).toInt64 rfl rfl rfl (by rw [Int32.toInt_toInt64, nI_toInt (by omega)]) with ⟨k, hk1, hk, ek, e3, e4⟩ | ⟨e3, e4⟩
    · have hkN : N = k := (nI_eq (by omega) (by omega)).mp ek
      subst hkN
      have hm : f_X12_wrongList (nI d) (nI h) μ = f_X12_wrongList_L31 (nI d) μ 5000 1 0 (fun a _ => if a = 0 then some (-13) else some 0) := by
        rw [f_X12_wrongList, e2, b1s, if_pos (Int32.le_refl 0), if_neg hbd, hcd, hr.2.2.2.1, bnds, e4, b1s]
      have ht : f_X11_tellsLengths d (nI h) σ = f_X11_tellsLengths_L16 d σ 5000 0 (fun _ => some 1) := by
        rw [f_X11_tellsLengths, hr.2.2.1, e3, b1s, if_neg ne10]
      rcases lenL hr N 0 5000 5000 (by omega) (by omega) (by omega) with ⟨g1, g2, g3⟩ | ⟨g1, g2⟩
      · refine Or.inr ⟨d, N, rfl, hr, hk1, hk, ?_, hm.trans g2, fun i hi => g3 i (by omega) hi⟩
        rw [hx 1 (ht.trans g1), if_neg ne10]
      · refine Or.inl ⟨-13, by decide, ?_, hm.trans g2⟩
        rw [hx 0 (ht.trans g1), if_pos rfl]
    · refine Or.inl ⟨-13, by decide, ?_, ?_⟩
      · rw [hx 0 (by rw [f_X11_tellsLengths, hr.2.2.1, e3, b1s, if_pos rfl]), if_pos rfl]
      · rw [f_X12_wrongList, e2, b1s, if_pos (Int32.le_refl 0), if_neg hbd, hcd, hr.2.2.2.1, bnds, e4, b1s]
        exact dead_l hd
/-- the size taken: 0 in the class, 1000 in the reference, if there is none -/
def RT (x y : Int32) : Prop := (x = 0 ∧ y = 1000) ∨ ∃ a, 1 ≤ a ∧ a ≤ 99 ∧ x = nI a ∧ y = nI a
theorem tkL {σ : Mem} {μ : MMem} {d N w : Nat} (hr : RowAt σ μ d N) (hg : ∀ i, i < N → LenT σ d i) (hw : w ≤ 200) : ∀ (j t f1 f2 : Nat) (x y : Int32), t + j = N → j < f1 → j < f2 → RT x y →
    ∃ x' y', f_X11_sizeTaken_L14 d (nI w) σ f1 x (nI t) (fun x _ => some x) = some x' ∧ (∀ K, f_X12_dressGirls_L56 (nI d) (nI w) f2 y (nI t) μ K = K y' (nI N) μ) ∧ RT x' y' := by
  have hd := hr.1
  have hN := hr.2.1
  have hbd : ¬ (nI d < 0 ∨ 8 ≤ (nI d).toNatClampNeg) := nI_in hd (by decide)
  have hcd := nI_clamp (show d < 2 ^ 31 by omega)
  intro j
  induction j with
  | zero =>
    intro t f1 f2 x y h1 h2 h3 h4
    obtain ⟨f1, rfl⟩ : ∃ k, f1 = k + 1 := ⟨f1 - 1, by omega⟩
    obtain ⟨f2, rfl⟩ : ∃ k, f2 = k + 1 := ⟨f2 - 1, by omega⟩
    have e : t = N := by omega
    refine ⟨x, y, ?_, fun K => ?_, h4⟩
    · rw [f_X11_sizeTaken_L14, hr.2.2.1, e, if_pos (nI_le (Nat.le_refl _) (by omega))]
    · rw [f_X12_dressGirls_L56, if_neg hbd, hcd, hr.2.2.2.1, e, if_pos (nI_le (Nat.le_refl _) (by omega))]
  | succ j ih =>
    intro t f1 f2 x y h1 h2 h3 h4
    obtain ⟨f1, rfl⟩ : ∃ k, f1 = k + 1 := ⟨f1 - 1, by omega⟩
    obtain ⟨f2, rfl⟩ : ∃ k, f2 = k + 1 := ⟨f2 - 1, by omega⟩
    have ht : t < N := by omega
    have hge : ¬ nI N ≤ nI t := nI_ge ht (by omega)
    obtain ⟨v, hv1, hv, ev⟩ := hg t ht
    have hx : f_X11_sizeTaken_L14 d (nI w) σ (f1 + 1) x (nI t) (fun x _ => some x) = if nI v < nI w then f_X11_sizeTaken_L14 d (nI w) σ f1 x (nI (t + 1)) (fun x _ => some x) else if x = 0 then f_X11_sizeTaken_L14 d (nI w) σ f1 (nI v) (nI (t + 1)) (fun x _ => some x) else if x ≤ nI v then f_X11_sizeTaken_L14 d (nI w) σ f1 x (nI (t + 1)) (fun x _ => some x) else f_X11_sizeTaken_L14 d (nI w) σ f1 (nI v) (nI (t + 1)) (fun x _ => some x) := by
      rw [f_X11_sizeTaken_L14, hr.2.2.1, if_neg hge, at_s hr ht, b1s, ev]
      simp only [bnds, nI_1]
    have hm : ∀ K, f_X12_dressGirls_L56 (nI d) (nI w) (f2 + 1) y (nI t) μ K = if nI v < nI w then f_X12_dressGirls_L56 (nI d) (nI w) f2 y (nI (t + 1)) μ K else if y ≤ nI v then f_X12_dressGirls_L56 (nI d) (nI w) f2 y (nI (t + 1)) μ K else f_X12_dressGirls_L56 (nI d) (nI w) f2 (nI v) (nI (t + 1)) μ K := fun K => by
      rw [f_X12_dressGirls_L56, if_neg hbd, hcd, hr.2.2.2.1, if_neg hge, told_s hr (show t < 100 by omega), b1s, ev]
      simp only [bnds, nI_1]
    have skip := ih (t + 1) f1 f2 x y (by omega) (by omega) (by omega) h4
    have take := ih (t + 1) f1 f2 (nI v) (nI v) (by omega) (by omega) (by omega) (Or.inr ⟨v, hv1, hv, rfl, rfl⟩)
    rw [hx]
    simp only [hm]
    by_cases g1 : nI v < nI w
    · simp only [if_pos g1]; exact skip
    · rcases h4 with ⟨rfl, rfl⟩ | ⟨a, ha1, ha, rfl, rfl⟩
      · simp only [if_neg g1, if_true, if_neg (show ¬ (1000 : Int32) ≤ nI v from nI_ge (a := v) (b := 1000) (by omega) (by decide))]; exact take
      · by_cases g2 : nI a ≤ nI v
        · simp only [if_neg g1, if_neg (nI_ne0 (show 0 < a by omega) (by omega)), if_pos g2]; exact skip
        · simp only [if_neg g1, if_neg (nI_ne0 (show 0 < a by omega) (by omega)), if_neg g2]; exact take
/-- the frame of sizes -/
def FR (μ μ' : MMem) : Prop := (∀ i, i ≠ 0 → μ' i = μ i) ∧ ∀ j, j ≠ 28 → j ≠ 29 → (μ' 0).1 j = (μ 0).1 j
theorem FR.tr {μ μ1 μ2 : MMem} (h1 : FR μ μ1) (h2 : FR μ1 μ2) : FR μ μ2 := ⟨fun i a => (h2.1 i a).trans (h1.1 i a), fun j a b => (h2.2 j a b).trans (h1.2 j a b)⟩
theorem FR.f {μ μ1 : MMem} {j : Nat} {x : Int32} (h1 : FR μ μ1) (hj : j = 28 ∨ j = 29) : FR μ (uI μ1 0 j x) := ⟨fun i a => (uI_ne a).trans (h1.1 i a), fun k a b => (uI_f (by omega)).trans (h1.2 k a b)⟩
theorem FR.mg {μ μ' : MMem} (h : FR μ μ') : MG μ μ' (dsM μ) := by
  refine ⟨?_, h.1 5 (by decide), fun i hi => h.1 i (by omega), h.2 12 (by decide) (by decide)⟩
  unfold dsM
  rw [h.2 0 (by decide) (by decide), h.2 1 (by decide) (by decide), h.2 2 (by decide) (by decide), h.2 3 (by decide) (by decide), h.2 4 (by decide) (by decide)]
  exact ds_ext (fun _ _ => rfl) (fun r w _ _ => by rw [h.1 (1 + w) (by omega)])
theorem girlL {σ : Mem} {μ : MMem} {d e N N' T v : Nat} (hr : RowAt σ μ d N) (hg : ∀ i, i < N → LenT σ d i) (hr' : RowAt σ μ e N') (hg' : ∀ i, i < N' → LenT σ e i) (hT : σ (1 + 2 * 0) 2 = nI T ∧ (μ 0).1 3 = nI T ∧ T ≤ 9) (hv : v ≤ 99) : ∀ (j t f1 f2 f3 : Nat) (c s : Int32) (μi : MMem), t + j = N' → j < f1 → j < f2 → j < f3 → FR μ μi → (μi 0).1 28 = c → (μi 0).1 29 = s →
    ∃ c' s' μ', f_X11_girlsWithoutSize_L6 d (nI v) e σ f1 c (nI t) (fun x _ => some x) = some c' ∧ f_X11_spareOfSizes_L6 d (nI v) e σ f2 s (nI t) (fun x _ => some x) = some s' ∧ f_X12_dressGirls_L13 (nI d) (nI e) (nI v) f3 (nI t) μi (fun _ σ => some σ) = some μ' ∧ FR μ μ' ∧ (μ' 0).1 28 = c' ∧ (μ' 0).1 29 = s' := by
  have he := hr'.1
  have hN' := hr'.2.1
  have hbe : ¬ (nI e < 0 ∨ 8 ≤ (nI e).toNatClampNeg) := nI_in he (by decide)
  have hce := nI_clamp (show e < 2 ^ 31 by omega)
  have hN := hr.2.1
  intro j
  induction j with
  | zero =>
    intro t f1 f2 f3 c s μi h1 h2 h3 h4 hf h5 h6
    obtain ⟨f1, rfl⟩ : ∃ k, f1 = k + 1 := ⟨f1 - 1, by omega⟩
    obtain ⟨f2, rfl⟩ : ∃ k, f2 = k + 1 := ⟨f2 - 1, by omega⟩
    obtain ⟨f3, rfl⟩ : ∃ k, f3 = k + 1 := ⟨f3 - 1, by omega⟩
    have et : t = N' := by omega
    refine ⟨c, s, μi, ?_, ?_, ?_, hf, h5, h6⟩
    · rw [f_X11_girlsWithoutSize_L6, hr'.2.2.1, et, if_pos (nI_le (Nat.le_refl _) (by omega))]
    · rw [f_X11_spareOfSizes_L6, hr'.2.2.1, et, if_pos (nI_le (Nat.le_refl _) (by omega))]
    · rw [f_X12_dressGirls_L13, if_neg hbe, hce, hf.1 18 (by decide), hr'.2.2.2.1, et, if_pos (nI_le (Nat.le_refl _) (by omega))]
  | succ j ih =>
    intro t f1 f2 f3 c s μi h1 h2 h3 h4 hf h5 h6
    obtain ⟨f1, rfl⟩ : ∃ k, f1 = k + 1 := ⟨f1 - 1, by omega⟩
    obtain ⟨f2, rfl⟩ : ∃ k, f2 = k + 1 := ⟨f2 - 1, by omega⟩
    obtain ⟨f3, rfl⟩ : ∃ k, f3 = k + 1 := ⟨f3 - 1, by omega⟩
    have ht : t < N' := by omega
    have hge : ¬ nI N' ≤ nI t := nI_ge ht (by omega)
    obtain ⟨g, hg1, hg2, eg⟩ := hg' t ht
    have hri := hr.fm (hf.1 18 (by decide)) (hf.1 19 (by decide))
    have hri' := hr'.fm (hf.1 18 (by decide)) (hf.1 19 (by decide))
    have hTi : (μi 0).1 3 = nI T := (hf.2 3 (by decide) (by decide)).trans hT.2.1
    have hT9 := hT.2.2
    -- the size that is taken
    obtain ⟨x', y', k1, k2, k3⟩ : ∃ x' y', f_X11_sizeTaken d (nI v) (nI (g + T)) σ = some x' ∧ (∀ K, (if nI v < nI (g + T) then f_X12_dressGirls_L56 (nI d) (nI (g + T)) 5000 1000 0 μi K else f_X12_dressGirls_L56 (nI d) (nI (g + T)) 5000 (nI v) 0 μi K) = K y' (nI N) μi) ∧ RT x' y' := by
      by_cases hv0 : nI v < nI (g + T)
      · obtain ⟨x', y', k1, k2, k3⟩ := tkL hri hg (show g + T ≤ 200 by omega) N 0 5000 5000 0 1000 (by omega) (by omega) (by omega) (Or.inl ⟨rfl, rfl⟩)
        refine ⟨x', y', ?_, fun K => by rw [if_pos hv0]; exact k2 K, k3⟩
        rw [f_X11_sizeTaken]
        simp only [jns]
        rw [if_pos hv0]
        exact k1
      · have hv1 : g + T ≤ v := by rw [nI_ltI (by omega) (by omega)] at hv0; omega
        obtain ⟨x', y', k1, k2, k3⟩ := tkL hri hg (show g + T ≤ 200 by omega) N 0 5000 5000 (nI v) (nI v) (by omega) (by omega) (by omega) (Or.inr ⟨v, by omega, hv, rfl, rfl⟩)
        refine ⟨x', y', ?_, fun K => by rw [if_neg hv0]; exact k2 K, k3⟩
        rw [f_X11_sizeTaken]
        simp only [jns]
        rw [if_neg hv0]
        exact k1
    have hx1 : f_X11_girlsWithoutSize_L6 d (nI v) e σ (f1 + 1) c (nI t) (fun x _ => some x) = if x' = 0 then f_X11_girlsWithoutSize_L6 d (nI v) e σ f1 (c + 1) (nI (t + 1)) (fun x _ => some x) else f_X11_girlsWithoutSize_L6 d (nI v) e σ f1 c (nI (t + 1)) (fun x _ => some x) := by
      rw [f_X11_girlsWithoutSize_L6, hr'.2.2.1, if_neg hge, at_s hr' ht, b1s, bnds, eg, hT.1, nI_add, k1, b1s]
      simp only [bnds, nI_1]
    have hx2 : f_X11_spareOfSizes_L6 d (nI v) e σ (f2 + 1) s (nI t) (fun x _ => some x) = if x' = 0 then f_X11_spareOfSizes_L6 d (nI v) e σ f2 s (nI (t + 1)) (fun x _ => some x) else f_X11_spareOfSizes_L6 d (nI v) e σ f2 (s + (x' - nI (g + T))) (nI (t + 1)) (fun x _ => some x) := by
      rw [f_X11_spareOfSizes_L6, hr'.2.2.1, if_neg hge, at_s hr' ht, b1s, bnds, eg, hT.1, nI_add, k1, b1s]
      simp only [bnds, nI_1]
    have hm1 : f_X12_dressGirls_L13 (nI d) (nI e) (nI v) (f3 + 1) (nI t) μi (fun _ σ => some σ) = if y' = 1000 then f_X12_dressGirls_L13 (nI d) (nI e) (nI v) f3 (nI (t + 1)) (uI (uI μi 0 28 (c + 1)) 0 29 (s + 0)) (fun _ σ => some σ) else f_X12_dressGirls_L13 (nI d) (nI e) (nI v) f3 (nI (t + 1)) (uI (uI μi 0 28 (c + 0)) 0 29 (s + (y' - nI (g + T)))) (fun _ σ => some σ) := by
      rw [f_X12_dressGirls_L13, if_neg hbe, hce, hri'.2.2.2.1, if_neg hge, told_s hri' (show t < 100 by omega), b1s, bnds, eg, hTi, nI_add]
      simp only [jns]
      rw [k2]
      by_cases hy : y' = 1000
      · rw [if_pos hy, if_pos hy]
        simp only [bnds, if_pos hy, nI_1, h5]
        rw [uI_f (show 29 ≠ 28 by decide), h6]
      · rw [if_neg hy, if_neg hy]
        simp only [bnds, if_neg hy, nI_1, h5]
        rw [uI_f (show 29 ≠ 28 by decide), h6]
    rcases k3 with ⟨rfl, rfl⟩ | ⟨a, ha1, ha, rfl, rfl⟩
    · rw [hx1, hx2, hm1, if_pos rfl, if_pos rfl, if_pos rfl]
      exact ih (t + 1) f1 f2 f3 (c + 1) s _ (by omega) (by omega) (by omega) (by omega) ((hf.f (Or.inl rfl)).f (Or.inr rfl)) (by rw [uI_f (by decide), uI_s]) (by rw [uI_s, Int32.add_zero])
    · have n1 : ¬ nI a = 0 := nI_ne0 (by omega) (by omega)
      have n2 : ¬ nI a = 1000 := fun z => by have := (nI_eq (a := a) (b := 1000) (by omega) (by decide)).mp z; omega
      rw [hx1, hx2, hm1, if_neg n1, if_neg n1, if_neg n2]
      exact ih (t + 1) f1 f2 f3 c (s + (nI a - nI (g + T))) _ (by omega) (by omega) (by omega) (by omega) ((hf.f (Or.inl rfl)).f (Or.inr rfl)) (by rw [uI_f (by decide), uI_s, Int32.add_zero]) uI_s
theorem girls_s {σ : Mem} {μ μi : MMem} {d e N N' T v : Nat} (hr : RowAt σ μ d N) (hg : ∀ i, i < N → LenT σ d i) (hr' : RowAt σ μ e N') (hg' : ∀ i, i < N' → LenT σ e i) (hT : σ (1 + 2 * 0) 2 = nI T ∧ (μ 0).1 3 = nI T ∧ T ≤ 9) (hv : v ≤ 99) (hf : FR μ μi) :
    ∃ c s μ', f_X11_girlsWithoutSize d (nI v) e σ = some c ∧ f_X11_spareOfSizes d (nI v) e σ = some s ∧ f_X12_dressGirls (nI d) (nI e) (nI v) μi = some μ' ∧ FR μ μ' ∧ (μ' 0).1 28 = c ∧ (μ' 0).1 29 = s := by
  have hN' := hr'.2.1
  obtain ⟨c, s, μ', g1, g2, g3, g4, g5, g6⟩ := girlL hr hg hr' hg' hT hv N' 0 5000 5000 5000 0 0 (uI (uI μi 0 28 0) 0 29 0) (by omega) (by omega) (by omega) (by omega) ((hf.f (Or.inl rfl)).f (Or.inr rfl)) (by rw [uI_f (by decide), uI_s]) uI_s
  refine ⟨c, s, μ', ?_, ?_, ?_, g4, g5, g6⟩
  · rw [f_X11_girlsWithoutSize]; exact g1
  · rw [f_X11_spareOfSizes]; exact g2
  · rw [f_X12_dressGirls, bnds, bnds]; exact g3
theorem moreL {σ : Mem} {μ : MMem} {d e N N' T : Nat} (hr : RowAt σ μ d N) (hg : ∀ i, i < N → LenT σ d i) (hr' : RowAt σ μ e N') (hg' : ∀ i, i < N' → LenT σ e i) (hT : σ (1 + 2 * 0) 2 = nI T ∧ (μ 0).1 3 = nI T ∧ T ≤ 9) : ∀ (j k f1 f2 : Nat) (x y z : Int32) (μi : MMem), k + j = 100 → j < f1 → j < f2 → FR μ μi →
    ∃ r b c μ', f_X11_oneMoreSize_L11 d e σ f1 x y z (nI k) (fun x _ _ _ => some x) = some r ∧ (∀ K, f_X12_sizes_L93 (nI d) (nI e) f2 x y z (nI k) μi K = K r b c (nI 100) μ') ∧ FR μ μ' := by
  intro j
  induction j with
  | zero =>
    intro k f1 f2 x y z μi h1 h2 h3 hf
    obtain ⟨f1, rfl⟩ : ∃ k, f1 = k + 1 := ⟨f1 - 1, by omega⟩
    obtain ⟨f2, rfl⟩ : ∃ k, f2 = k + 1 := ⟨f2 - 1, by omega⟩
    have ek : k = 100 := by omega
    subst ek
    refine ⟨x, y, z, μi, ?_, fun K => ?_, hf⟩
    · rw [f_X11_oneMoreSize_L11, if_pos (show (99 : Int32) < nI 100 by decide)]
    · rw [f_X12_sizes_L93, if_pos (show (100 : Int32) ≤ nI 100 by decide)]
  | succ j ih =>
    intro k f1 f2 x y z μi h1 h2 h3 hf
    obtain ⟨f1, rfl⟩ : ∃ k, f1 = k + 1 := ⟨f1 - 1, by omega⟩
    obtain ⟨f2, rfl⟩ : ∃ k, f2 = k + 1 := ⟨f2 - 1, by omega⟩
    obtain ⟨c, s, μ1, g1, g2, g3, g4, g5, g6⟩ := girls_s hr hg hr' hg' hT (show k ≤ 99 by omega) hf
    have skip := ih (k + 1) f1 f2 x y z μ1 (by omega) (by omega) (by omega) g4
    have take := ih (k + 1) f1 f2 (nI k) c s μ1 (by omega) (by omega) (by omega) g4
    have hx : f_X11_oneMoreSize_L11 d e σ (f1 + 1) x y z (nI k) (fun x _ _ _ => some x) = if x = 0 then f_X11_oneMoreSize_L11 d e σ f1 (nI k) c s (nI (k + 1)) (fun x _ _ _ => some x) else if c < y then f_X11_oneMoreSize_L11 d e σ f1 (nI k) c s (nI (k + 1)) (fun x _ _ _ => some x) else
        if c = y then if z ≤ s then f_X11_oneMoreSize_L11 d e σ f1 x y z (nI (k + 1)) (fun x _ _ _ => some x) else f_X11_oneMoreSize_L11 d e σ f1 (nI k) c s (nI (k + 1)) (fun x _ _ _ => some x) else f_X11_oneMoreSize_L11 d e σ f1 x y z (nI (k + 1)) (fun x _ _ _ => some x) := by
      rw [f_X11_oneMoreSize_L11, if_neg (show ¬ (99 : Int32) < nI k from nI_nlt (a := 99) (b := k) (by omega) (by decide)), g1, b1s, g2, b1s]
      simp only [jns, bnds, nI_1, if_neg ne10, if_true]
      by_cases a1 : x = 0
      · simp only [if_pos a1]
        repeat' split
        all_goals rfl
      · simp only [if_neg a1]
    have hm : ∀ K, f_X12_sizes_L93 (nI d) (nI e) (f2 + 1) x y z (nI k) μi K = if x = 0 then f_X12_sizes_L93 (nI d) (nI e) f2 (nI k) c s (nI (k + 1)) μ1 K else if c < y then f_X12_sizes_L93 (nI d) (nI e) f2 (nI k) c s (nI (k + 1)) μ1 K else
        if c = y then if z ≤ s then f_X12_sizes_L93 (nI d) (nI e) f2 x y z (nI (k + 1)) μ1 K else f_X12_sizes_L93 (nI d) (nI e) f2 (nI k) c s (nI (k + 1)) μ1 K else f_X12_sizes_L93 (nI d) (nI e) f2 x y z (nI (k + 1)) μ1 K := fun K => by
      rw [f_X12_sizes_L93, if_neg (show ¬ (100 : Int32) ≤ nI k from nI_ge (a := k) (b := 100) (by omega) (by decide)), g3, b1s, g5, g6]
      simp only [bnds, nI_1]
    rw [hx]
    simp only [hm]
    by_cases a1 : x = 0
    · simp only [if_pos a1]; exact take
    by_cases a2 : c < y
    · simp only [if_neg a1, if_pos a2]; exact take
    by_cases a3 : c = y
    · by_cases a4 : z ≤ s
      · simp only [if_neg a1, if_neg a2, if_pos a3, if_pos a4]; exact skip
      · simp only [if_neg a1, if_neg a2, if_pos a3, if_neg a4]; exact take
    · simp only [if_neg a1, if_neg a2, if_neg a3]; exact skip
theorem eq_sizes {σ : Mem} {μ : MMem} (hR : Rel σ μ) (p1 p2 p3 : Int32) : ∃ r μ', f_X11_sizes p1 p2 p3 σ = some r ∧ f_X12_sizes p1 p2 p3 μ = some (r, μ') ∧ Rel σ μ' := by
  have hR1 := hR.t
  obtain ⟨n, hn⟩ := hR1.2.1.n
  obtain ⟨T, hT9, eT⟩ := hn.2.2.1
  have hT : σ (1 + 2 * 0) 2 = nI T ∧ ((uI μ 0 9 0) 0).1 3 = nI T ∧ T ≤ 9 := by
    refine ⟨?_, by rw [← M_q1]; exact eT, hT9⟩
    have h : (dsX σ 0).1 1 = nI T := by rw [hR1.1]; exact eT
    exact h
  obtain ⟨L, hL⟩ : ∃ L, L = @f_X12_sizes_L93 := ⟨_, rfl⟩
  rcases rng (p := p1) (n := 7) (by decide) 7 7 rfl rfl with ⟨d0, hd0, e0, e1, e2⟩ | ⟨_, e1, e2⟩
  · rcases rng (p := p2) (n := 7) (by decide) 7 7 rfl rfl with ⟨d1, hd1, e00, e3, e4⟩ | ⟨_, e3, e4⟩
    · rcases rng (p := p3) (n := 2) (by decide) 2 2 rfl rfl with ⟨w, hw, rfl, e5, e6⟩ | ⟨_, e5, e6⟩
      · have hX0 : ∀ v, f_X11_lengthsRefusal p1 6 σ = some v → f_X11_sizes p1 p2 (nI w) σ = jn (fun (x4_12 : Int32) =>
          if x4_12 = 0 then
            b1 (f_X11_shelfAt p1) fun r_15 =>
            if r_15 < 9 then
              b1 (f_X11_shelfAt p2) fun r_18 =>
              if r_18 < 9 then
                if nI w = 0 then
                  b1 (f_X11_girlsWithoutSize r_15 0 r_18 σ) fun r_22 =>
                  some r_22
                else
                  if nI w = 1 then
                    b1 (f_X11_spareOfSizes r_15 0 r_18 σ) fun r_25 =>
                    some r_25
                  else
                    b1 (f_X11_oneMoreSize r_15 r_18 σ) fun r_27 =>
                    some r_27
              else none
            else none
          else
            some x4_12) fun J48 =>
          if v = 0 then b1 (f_X11_lengthsRefusal p2 20 σ) fun r_30 => J48 r_30 else J48 v := fun v hv => by
          rw [f_X11_sizes, shelfyes e1, b1s, if_neg ne10, shelfyes e3, b1s, if_neg ne10, e5, b1s, if_neg ne10, hv, b1s]
        have hM0 : ∀ v, f_X12_wrongList p1 6 (uI μ 0 9 0) = some v → f_X12_sizes p1 p2 (nI w) μ = jn (fun (v_6 : Int32) (σ_7 : MMem) =>
            if 0 ≤ v_6 then
              L p1 p2 5000 0 0 0 1 σ_7 fun (x5_32 : Int32) (u_33 : Int32) (u_34 : Int32) (u_35 : Int32) (σ_36 : MMem) =>
                b1 (f_X12_dressGirls p1 p2 0 σ_36) fun σ_38 =>
                if nI w = 0 then
                  some ((σ_38 0).1 28, σ_38)
                else
                  if nI w = 1 then
                    some ((σ_38 0).1 29, σ_38)
                  else
                    some (x5_32, σ_38)
            else
              some (v_6, σ_7)) fun J71 =>
            if 0 ≤ v then b1 (f_X12_wrongList p2 20 (uI μ 0 9 0)) fun r_43 => J71 r_43 (uI μ 0 9 0) else J71 v (uI μ 0 9 0) := fun v hv => by
          rw [f_X12_sizes, ← hL, bnds, e2, b1s]
          simp only [jns]
          rw [if_neg ne10, e4, b1s, if_neg ne10, e6, b1s, if_neg ne10, hv, b1s]
        rcases listrow hR1 p1 (h := 6) (by decide) (by decide) with ⟨v, hv, g1, g2⟩ | ⟨d, N, ed, hr, hN1, hN6, g1, g2, hg⟩
        · refine ⟨v, uI μ 0 9 0, ?_, ?_, hR1⟩
          · rw [hX0 v g1]
            simp only [jns]
            rw [if_neg (neg0 hv), if_neg (neg0 hv)]
          · rw [hM0 v g2]
            simp only [jns]
            rw [if_neg (Int32.not_le.mpr hv), if_neg (Int32.not_le.mpr hv)]
        · rcases listrow hR1 p2 (h := 20) (by decide) (by decide) with ⟨v, hv, g3, g4⟩ | ⟨e, N', ee, hr', hN1', hN6', g3, g4, hg'⟩
          · have g3' : f_X11_lengthsRefusal p2 20 σ = some v := g3
            have g4' : f_X12_wrongList p2 20 (uI μ 0 9 0) = some v := g4
            refine ⟨v, uI μ 0 9 0, ?_, ?_, hR1⟩
            · rw [hX0 0 g1, jns, if_pos rfl, g3', b1s]
              dsimp only
              rw [if_neg (neg0 hv)]
            · rw [hM0 0 g2, jns, if_pos (Int32.le_refl 0), g4', b1s]
              dsimp only
              rw [if_neg (Int32.not_le.mpr hv)]
          · have g3' : f_X11_lengthsRefusal p2 20 σ = some 0 := g3
            have g4' : f_X12_wrongList p2 20 (uI μ 0 9 0) = some 0 := g4
            subst ed ee
            have hd := hr.1
            have he := hr'.1
            obtain ⟨r, b, c, μ1, k1, k2, k3⟩ := moreL hr hg hr' hg' hT 99 1 5000 5000 0 0 0 (uI μ 0 9 0) (by omega) (by omega) (by omega) ⟨fun _ _ => rfl, fun _ _ _ => rfl⟩
            obtain ⟨c0, s0, μ2, j1, j2, j3, j4, j5, j6⟩ := girls_s hr hg hr' hg' hT (v := 0) (by decide) k3
            have hX1 : f_X11_sizes (nI d) (nI e) (nI w) σ = if nI w = 0 then some c0 else if nI w = 1 then some s0 else some r := by
              have k1' : f_X11_oneMoreSize d e σ = some r := by rw [f_X11_oneMoreSize]; exact k1
              rw [hX0 0 g1, jns, if_pos rfl, g3', b1s]
              dsimp only
              rw [if_pos rfl, atS hd, b1s, if_pos (show d < 9 by omega), atS he, b1s, if_pos (show e < 9 by omega), ← nI_0, j1, j2, k1', b1s, b1s, b1s]
            have hM1 : f_X12_sizes (nI d) (nI e) (nI w) μ = if nI w = 0 then some (c0, μ2) else if nI w = 1 then some (s0, μ2) else some (r, μ2) := by
              have k2' : ∀ K, L (nI d) (nI e) 5000 0 0 0 1 (uI μ 0 9 0) K = K r b c (nI 100) μ1 := by rw [hL]; exact k2
              have j3' : f_X12_dressGirls (nI d) (nI e) 0 μ1 = some μ2 := j3
              rw [hM0 0 g2, jns, if_pos (Int32.le_refl 0), g4', b1s]
              dsimp only
              rw [if_pos (Int32.le_refl 0), k2', j3', b1s, j5, j6]
            have hRl : Rel σ μ2 := hR1.g j4.mg
            rw [hX1, hM1]
            by_cases w0 : nI w = 0
            · rw [if_pos w0, if_pos w0]; exact ⟨_, _, rfl, rfl, hRl⟩
            · rw [if_neg w0, if_neg w0]
              by_cases w1 : nI w = 1
              · rw [if_pos w1, if_pos w1]; exact ⟨_, _, rfl, rfl, hRl⟩
              · rw [if_neg w1, if_neg w1]; exact ⟨_, _, rfl, rfl, hRl⟩
      · refine ⟨-1, uI μ 0 9 0, ?_, ?_, hR1⟩
        · rw [f_X11_sizes, shelfyes e1, b1s, if_neg ne10, shelfyes e3, b1s, if_neg ne10, e5, b1s, if_pos rfl]
        · rw [f_X12_sizes, ← hL, bnds, e2, b1s]
          simp only [jns]
          rw [if_neg ne10, e4, b1s, if_neg ne10, e6, b1s]
          simp (decide := true) only [if_true, if_false]
    · refine ⟨-1, uI μ 0 9 0, ?_, ?_, hR1⟩
      · rw [f_X11_sizes, shelfyes e1, b1s, if_neg ne10, shelfno e3, b1s, if_pos rfl]
      · rw [f_X12_sizes, ← hL, bnds, e2, b1s]
        simp only [jns]
        rw [if_neg ne10, e4, b1s]
        simp (decide := true) only [if_true, if_false]
  · refine ⟨-1, uI μ 0 9 0, ?_, ?_, hR1⟩
    · rw [f_X11_sizes, shelfno e1, b1s, if_pos rfl]
    · rw [f_X12_sizes, ← hL, bnds, e2, b1s]
      simp (decide := true) only [jns, if_true, if_false]
