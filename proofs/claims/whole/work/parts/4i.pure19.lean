/-! PURE, 19: judge, seeded -/
theorem jns {A B : Type} {j : A} {k : A → B} : jn j k = k j := rfl
theorem mv4 {j : Nat} (hj : j ≤ 3) : nI j = 0 ∨ nI j = 1 ∨ nI j = 2 ∨ nI j = 3 := by
  have h4 : j = 0 ∨ j = 1 ∨ j = 2 ∨ j = 3 := by omega
  rcases h4 with rfl | rfl | rfl | rfl
  · exact Or.inl rfl
  · exact Or.inr (Or.inl rfl)
  · exact Or.inr (Or.inr (Or.inl rfl))
  · exact Or.inr (Or.inr (Or.inr rfl))
theorem i64 {x y : Int32} : lg_cmp x.toInt64 y.toInt64 = 0 ↔ x = y := by
  rw [lg_cmp_eq]
  refine ⟨fun h => ?_, fun h => by rw [h]⟩
  have h2 : x.toInt64.toInt = y.toInt64.toInt := by rw [h]
  rw [Int32.toInt_toInt64, Int32.toInt_toInt64] at h2
  exact Int32.toInt_inj.mp h2
def lstN (s : Int32) : Int32 := if s = 0 then -128 else if s = 1 then -32768 else -2147483648
theorem leastN_s {σ : Mem} {d s : Nat} (h : σ (7 + 2 * d) 4 = nI s) : f_X5_leastNumber d σ = some (lstN (nI s)) := by
  rw [f_X5_leastNumber, h]
  unfold lstN
  by_cases h0 : nI s = 0
  · rw [if_pos h0, if_pos h0]
  · rw [if_neg h0, if_neg h0]
    by_cases h1 : nI s = 1
    · rw [if_pos h1, if_pos h1]
    · rw [if_neg h1, if_neg h1]
theorem skip_s {μ : MMem} {d s : Nat} (hd : d < 8) (h : (μ 17).1 d = nI s) : f_X12_skippedIn (nI d) μ = some (lstN (nI s)).toInt64 := by
  have hb : ¬ (nI d < 0 ∨ 8 ≤ (nI d).toNatClampNeg) := nI_in hd (by decide)
  rw [f_X12_skippedIn, if_neg hb, if_neg hb, nI_clamp (by omega), h]
  unfold lstN
  by_cases h0 : nI s = 0
  · rw [if_pos h0, if_pos h0]; decide
  · rw [if_neg h0, if_neg h0]
    by_cases h1 : nI s = 1
    · rw [if_pos h1, if_pos h1]; decide
    · rw [if_neg h1, if_neg h1]; decide
theorem judgeL {σ : Mem} {μ : MMem} {d N n j y s : Nat} (hXM : dsX σ 0 = dsM μ) (hn0 : (dsM μ).1 0 = nI n) (h6 : n ≤ 6) (hr : RowAt σ μ d N) (t4 : (μ 17).1 d = nI s) (hj : j ≤ 3) (hy : y ≤ N ∧ y ≤ n ∧ (y = n ∨ y = N)) {KX : Int32 → Option Int32} {KM : Int32 → MMem → Option (Int32 × MMem)} {r0 : Int32}
    (hK1 : KX (nI y) = some r0) (hK2 : KM (nI y) μ = some (r0, μ)) : ∀ (m t : Nat), t ≤ y → y < t + m →
    ∃ r, f_X11_judge_L63 (nI j) σ d (nI y) (lstN (nI s)) m (nI t) KX = some r ∧ f_X12_judge_L36 (nI j) (nI d) m (nI t) μ KM = some (r, μ) := by
  have hd := hr.1
  have hN := hr.2.1
  have hq : (μ 0).1 0 = nI n := by rw [← M_q0]; exact hn0
  have hbd : ¬ (nI d < 0 ∨ 8 ≤ (nI d).toNatClampNeg) := nI_in hd (by decide)
  have hcd := nI_clamp (show d < 2 ^ 31 by omega)
  intro m
  induction m with
  | zero => intro t h1 h2; omega
  | succ m ih =>
    intro t h1 h2
    by_cases e : t = y
    · refine ⟨r0, ?_, ?_⟩
      · rw [f_X11_judge_L63, e, if_pos (nI_le (Nat.le_refl _) (by omega))]
        exact hK1
      · rw [f_X12_judge_L36, hq, e]
        rcases hy.2.2 with e2 | e2
        · rw [if_pos (nI_le (show n ≤ y by omega) (by omega))]
          exact hK2
        · by_cases e3 : n ≤ y
          · rw [if_pos (nI_le e3 (by omega))]
            exact hK2
          · rw [if_neg (nI_ge (show y < n by omega) (by omega)), if_neg hbd, hcd, hr.2.2.2.1, if_pos (nI_le (show N ≤ y by omega) (by omega))]
            exact hK2
    · have ht : t < y := by omega
      rw [f_X11_judge_L63, f_X12_judge_L36, if_neg (nI_ge ht (by omega)), at_s hr (show t < N by omega), b1s, hq, if_neg (nI_ge (show t < n by omega) (by omega)), if_neg hbd, hcd, hr.2.2.2.1, if_neg (nI_ge (show t < N by omega) (by omega))]
      simp only [bnds, nI_1]
      rw [ix_s, if_neg (nI_in (show 100 * d + t < 800 by omega) (by decide)), nI_clamp (show 100 * d + t < 2 ^ 31 by omega), hr.2.2.2.2 t (by omega), skip_s hd t4, b1s]
      by_cases h3 : σ (8 + 2 * d) t = lstN (nI s)
      · rw [if_pos h3, if_pos (i64.mpr h3)]
        exact ih (t + 1) (by omega) (by omega)
      · rw [if_neg h3, if_neg (fun z => h3 (i64.mp z)), easeAt_s (show t < 6 by omega), easeOf_s (show t < 6 by omega) (mv4 hj), b1s, b1s, hXM]
        by_cases h4 : σ (8 + 2 * d) t = easeS (dsM μ) t (nI j)
        · rw [if_pos h4, if_pos (i64.mpr h4)]
          exact ih (t + 1) (by omega) (by omega)
        · rw [if_neg h4, if_neg (fun z => h4 (i64.mp z))]
          exact ⟨nI t, rfl, rfl⟩
theorem eq_judge {σ : Mem} {μ : MMem} (hR : Rel σ μ) (p1 p2 : Int32) : ∃ r μ', f_X11_judge p1 p2 σ = some r ∧ f_X12_judge p1 p2 μ = some (r, μ') ∧ Rel σ μ' := by
  have hR1 := hR.t
  obtain ⟨n, hn⟩ := hR1.2.1.n
  have hM := hn.2.1
  have hX : (dsX σ 0).1 0 = nI n := by rw [hR1.1]; exact hM
  have hq : σ (1 + 2 * 0) 1 = nI n := hX
  have hq2 : ((uI μ 0 9 0) 0).1 0 = nI n := by rw [← M_q0]; exact hM
  have h6 := hn.1
  rcases rng (p := p1) (n := 3) (by decide) 3 3 rfl rfl with ⟨j, hj, rfl, e1, e2⟩ | ⟨_, e1, e2⟩
  · rcases rowany hR1 p2 with ⟨e3, e4⟩ | ⟨d, v, hd, rfl, hv, e3, e4, e5⟩ | ⟨d, s, N, rfl, hs, hr, e3, e4, e5, t1, t2, t3, t4, t5⟩
    · refine ⟨-1, uI μ 0 9 0, ?_, ?_, hR1⟩
      · rw [f_X11_judge, e1, b1s, if_neg ne10, e3, b1s, if_pos rfl]
      · rw [f_X12_judge, bnds, e2, b1s]
        simp only [jns]
        rw [if_neg ne10, e4, b1s, if_neg (by decide)]
    · refine ⟨v, uI μ 0 9 0, ?_, ?_, hR1⟩
      · rw [f_X11_judge, e1, b1s, if_neg ne10, e3, b1s, if_neg ne10, atS hd, b1s, if_pos (show d < 9 by omega), e4, b1s, if_neg (neg0 hv)]
      · rw [f_X12_judge, bnds, e2, b1s]
        simp only [jns]
        rw [if_neg ne10, e5, b1s, if_neg (Int32.not_le.mpr hv)]
    · have hd := hr.1
      have hN := hr.2.1
      have hbd : ¬ (nI d < 0 ∨ 8 ≤ (nI d).toNatClampNeg) := nI_in hd (by decide)
      have hcd := nI_clamp (show d < 2 ^ 31 by omega)
      obtain ⟨y, hy, ey⟩ : ∃ y, (y ≤ N ∧ y ≤ n ∧ (y = n ∨ y = N)) ∧ (if nI n < nI N then nI n else nI N) = nI y := by
        by_cases h : n < N
        · exact ⟨n, ⟨by omega, by omega, Or.inl rfl⟩, if_pos (nI_lt h (by omega))⟩
        · exact ⟨N, ⟨by omega, by omega, Or.inr rfl⟩, if_neg (nI_nlt (by omega) (by omega))⟩
      obtain ⟨r0, k1, k2⟩ : ∃ r0, (if nI N = nI n then some (-4) else some (nI y)) = some r0 ∧ (if nI n ≤ nI N then if nI N ≤ nI n then some ((-4 : Int32), uI μ 0 9 0) else some (nI n, uI μ 0 9 0) else some (nI N, uI μ 0 9 0)) = some (r0, uI μ 0 9 0) := by
        by_cases g1 : N = n
        · rw [if_pos (show nI N = nI n by rw [g1]), if_pos (nI_le (show n ≤ N by omega) (by omega)), if_pos (nI_le (show N ≤ n by omega) (by omega))]
          exact ⟨_, rfl, rfl⟩
        · rw [if_neg (fun z => g1 ((nI_eq (by omega) (by omega)).mp z))]
          by_cases g2 : n ≤ N
          · rw [if_pos (nI_le g2 (by omega)), if_neg (nI_ge (show n < N by omega) (by omega)), show n = y by omega]
            exact ⟨_, rfl, rfl⟩
          · rw [if_neg (nI_ge (show N < n by omega) (by omega)), show N = y by omega]
            exact ⟨_, rfl, rfl⟩
      obtain ⟨r, g1, g2⟩ := judgeL hR1.1 hM h6 hr t4 hj hy (KX := fun _ => if nI N = nI n then some (-4) else some (nI y)) (KM := fun _ (σ_24 : MMem) =>
        if nI d < 0 ∨ 8 ≤ (nI d).toNatClampNeg then none else
        if ((σ_24 0).1 0) ≤ ((σ_24 18).1 (nI d).toNatClampNeg) then
          if nI d < 0 ∨ 8 ≤ (nI d).toNatClampNeg then none else
          if ((σ_24 18).1 (nI d).toNatClampNeg) ≤ ((σ_24 0).1 0) then
            some ((-4), σ_24)
          else
            some ((σ_24 0).1 0, σ_24)
        else
          if nI d < 0 ∨ 8 ≤ (nI d).toNatClampNeg then none else
          some ((σ_24 18).1 (nI d).toNatClampNeg, σ_24)) (r0 := r0) k1 (by
            show (if nI d < 0 ∨ 8 ≤ (nI d).toNatClampNeg then none else _) = _
            rw [if_neg hbd, if_neg hbd, if_neg hbd, hcd, hr.2.2.2.1, hq2]
            exact k2) 5000 0 (by omega) (by omega)
      refine ⟨r, uI μ 0 9 0, ?_, ?_, hR1⟩
      · rw [f_X11_judge, e1, b1s, if_neg ne10, e3, b1s, if_neg ne10, atS hd, b1s, if_pos (show d < 9 by omega), e4, b1s, if_pos rfl, leastN_s t3, hq, hr.2.2.1, ey, bnds, b1s]
        exact g1
      · rw [f_X12_judge, bnds, e2, b1s]
        simp only [jns]
        rw [if_neg ne10, e5, b1s, if_pos (Int32.le_refl 0)]
        exact g2
  · refine ⟨-1, uI μ 0 9 0, ?_, ?_, hR1⟩
    · rw [f_X11_judge, e1, b1s, if_pos rfl]
    · rw [f_X12_judge, bnds, e2, b1s]
      simp (decide := true) only [jns, if_true, if_false]
/-- the widest frame: what Rel sees of the reference stays, but for its dress -/
def MG (μ μ' : MMem) (d : DS) : Prop := dsM μ' = d ∧ μ' 5 = μ 5 ∧ (∀ i, 13 < i → μ' i = μ i) ∧ (μ' 0).1 12 = (μ 0).1 12
theorem MG.rf {μ : MMem} : MG μ μ (dsM μ) := ⟨rfl, rfl, fun _ _ => rfl, rfl⟩
theorem MG.tr {μ μ1 μ2 : MMem} {d1 d2 : DS} (h1 : MG μ μ1 d1) (h2 : MG μ1 μ2 d2) : MG μ μ2 d2 := ⟨h2.1, h2.2.1.trans h1.2.1, fun i a => (h2.2.2.1 i a).trans (h1.2.2.1 i a), h2.2.2.2.trans h1.2.2.2⟩
theorem MF.mg {μ μ' : MMem} {d : DS} (h : MF 6 μ μ' d) : MG μ μ' d := ⟨h.1, h.2.1 5 (by decide) (by decide), fun i a => h.2.1 i (by omega) (by omega), h.2.2 12 (by decide) (by decide) (by decide) (by decide)⟩
theorem dsf {μ : MMem} {j : Nat} {x : Int32} (h : 4 < j) : dsM (uI μ 0 j x) = dsM μ := by
  unfold dsM
  rw [uI_f (by omega), uI_f (by omega), uI_f (by omega), uI_f (by omega), uI_f (by omega)]
  exact ds_ext (fun _ _ => rfl) (fun r w _ _ => by rw [uI_ne (by omega)])
theorem dsr {μ : MMem} {i j : Nat} {x : Int32} (h : 4 < i) : dsM (uI μ i j x) = dsM μ := by
  unfold dsM
  rw [uI_ne (by omega)]
  exact ds_ext (fun _ _ => rfl) (fun r w _ _ => by rw [uI_ne (by omega)])
theorem MG.f {μ0 μ : MMem} {d : DS} {j : Nat} {x : Int32} (h : MG μ0 μ d) (h4 : 4 < j) (h12 : j ≠ 12) : MG μ0 (uI μ 0 j x) d :=
  ⟨(dsf h4).trans h.1, (uI_ne (by decide)).trans h.2.1, fun i a => (uI_ne (by omega)).trans (h.2.2.1 i a), (uI_f (Ne.symm h12)).trans h.2.2.2⟩
theorem MG.r {μ0 μ : MMem} {d : DS} {i j : Nat} {x : Int32} (h : MG μ0 μ d) (h4 : 5 < i) (h13 : i ≤ 13) : MG μ0 (uI μ i j x) d :=
  ⟨(dsr (by omega)).trans h.1, (uI_ne (by omega)).trans h.2.1, fun k a => (uI_ne (by omega)).trans (h.2.2.1 k a), by rw [uI_ne (by omega)]; exact h.2.2.2⟩
theorem Rel.dg {σ σ' : Mem} {μ μ' : MMem} {d : DS} (h : Rel σ μ) (hX : DX σ σ' 0 d) (hM : MG μ μ' d) (hO : Ok d) : Rel σ' μ' := by
  refine ⟨hX.1.trans hM.1.symm, by rw [hM.1]; exact hO, ?_, fun i hi => (h.2.2.2 i hi).fr (hX.2 _ (by omega) (by omega)) (hX.2 _ (by omega) (by omega)) (fun j hj => hM.2.2.1 j hj)⟩
  rw [hX.2 0 (by omega) (by omega), hM.2.2.2, hX.other (k' := 1) (by omega), hM.2.1]
  exact h.2.2.1
theorem Rel.g {σ : Mem} {μ μ' : MMem} (h : Rel σ μ) (hM : MG μ μ' (dsM μ)) : Rel σ μ' := h.dg (d := dsM μ) ⟨h.1, fun _ _ _ => rfl⟩ hM h.2.1
def nxt (z : Int32) : Int32 := z * 1103515245 + 12345
def dr (z : Int32) (n : Nat) : Nat := z.toBitVec.toNat % 2 ^ 31 / 2 ^ 16 % n
theorem dr_lt {z : Int32} {n : Nat} (h : 0 < n) : dr z n < n := Nat.mod_lt _ h
theorem dr_x {z : Int32} {n : Nat} (hn : 0 < n) (h : n < 2 ^ 31) : f_X11_drawBelow z (nI n) = some (nI (dr z n)) := by
  have ht : z.toBitVec.toNat % 2 ^ 31 < 2 ^ 31 := Nat.mod_lt _ (by decide)
  rw [f_X11_drawBelow, if_neg (nI_nle hn h), if_neg (nI_ne0 hn h), bnds, pk_and z 31 (by decide), pk_shrN ht _ 16 (by decide), pk_rem (Nat.lt_of_le_of_lt (Nat.div_le_self _ _) ht) hn h]
  rfl
theorem dr_m {μ : MMem} {n : Nat} (hn : 0 < n) (h : n < 2 ^ 31) : f_X12_draw (nI n) μ = some (nI (dr (nxt ((μ 0).1 30)) n), uI μ 0 30 (nxt ((μ 0).1 30))) := by
  have ht : (nxt ((μ 0).1 30)).toBitVec.toNat % 2 ^ 31 < 2 ^ 31 := Nat.mod_lt _ (by decide)
  have e : (65536 : Int32) = nI 65536 := rfl
  rw [f_X12_draw, bnds, bnds, if_neg (nI_ne0 hn h), uI_s, bnds, show (μ 0).1 30 * 1103515245 + 12345 = nxt ((μ 0).1 30) from rfl, pk_and _ 31 (by decide), e, pk_div ht (by decide) (by decide), pk_rem (Nat.lt_of_le_of_lt (Nat.div_le_self _ _) ht) hn h]
  rfl
theorem seedL {σ0 : Mem} {μ0 : MMem} {n N : Nat} (hn0 : 0 < n) (h6 : n ≤ 6) (hN : N ≤ 30) (hX0 : (dsX σ0 0).1 0 = nI n) {KX : Int32 → Int32 → Int32 → Mem → Option (Int32 × Mem)} {KM : Int32 → Int32 → MMem → Option (Int32 × MMem)} :
    ∀ (m t : Nat) (z c : Int32) (σi : Mem) (μi : MMem) (D : DS), t ≤ N → N < t + m → DX σ0 σi 2 D → MG μ0 μi D → (μi 0).1 30 = z → OkN D n →
    ∃ z' c' σ' μ' D', f_X11_seeded_L54 (nI N) m z c (nI t) σi KX = KX z' c' (nI N) σ' ∧ f_X12_seeded_L54 (nI N) m c (nI t) μi KM = KM c' (nI N) μ' ∧ DX σ0 σ' 2 D' ∧ MG μ0 μ' D' ∧ OkN D' n ∧ μ' 6 = μi 6 := by
  intro m
  induction m with
  | zero => intro t z c σi μi D h1 h2; omega
  | succ m ih =>
    intro t z c σi μi D h1 h2 hx hm hz hD
    by_cases e : t = N
    · refine ⟨z, c, σi, μi, D, ?_, ?_, hx, hm, hD, rfl⟩
      · rw [f_X11_seeded_L54, e, if_pos (nI_le (Nat.le_refl _) (by omega))]
      · rw [f_X12_seeded_L54, e, if_pos (nI_le (Nat.le_refl _) (by omega))]
    · have ht : ¬ nI N ≤ nI t := nI_ge (by omega) (by omega)
      have q1 : σi (1 + 2 * 0) 1 = nI n := by
        have h : (dsX σi 0).1 0 = nI n := by rw [hx.other (k' := 0) (by decide)]; exact hX0
        exact h
      have q2 : (μi 0).1 0 = nI n := by rw [← M_q0, hm.1]; exact hD.2.1
      have d1 := dr_m (μ := μi) (n := n) hn0 (by omega)
      rw [hz] at d1
      have d2 : f_X12_draw 8 (uI μi 0 30 (nxt z)) = some (nI (dr (nxt (nxt z)) 8), uI (uI μi 0 30 (nxt z)) 0 30 (nxt (nxt z))) := by
        have h := dr_m (μ := uI μi 0 30 (nxt z)) (n := 8) (by decide) (by decide)
        rw [uI_s] at h
        exact h
      have d3 : f_X12_draw 10 (uI (uI μi 0 30 (nxt z)) 0 30 (nxt (nxt z))) = some (nI (dr (nxt (nxt (nxt z))) 10), uI (uI (uI μi 0 30 (nxt z)) 0 30 (nxt (nxt z))) 0 30 (nxt (nxt (nxt z)))) := by
        have h := dr_m (μ := uI (uI μi 0 30 (nxt z)) 0 30 (nxt (nxt z))) (n := 10) (by decide) (by decide)
        rw [uI_s] at h
        exact h
      have m3 : MG μ0 (uI (uI (uI μi 0 30 (nxt z)) 0 30 (nxt (nxt z))) 0 30 (nxt (nxt (nxt z)))) D := ((hm.f (by decide) (by decide)).f (by decide) (by decide)).f (by decide) (by decide)
      have s3 : ((uI (uI (uI μi 0 30 (nxt z)) 0 30 (nxt (nxt z))) 0 30 (nxt (nxt (nxt z)))) 0).1 30 = nxt (nxt (nxt z)) := uI_s
      have s6 : (uI (uI (uI μi 0 30 (nxt z)) 0 30 (nxt (nxt z))) 0 30 (nxt (nxt (nxt z)))) 6 = μi 6 := by rw [uI_ne (by decide), uI_ne (by decide), uI_ne (by decide)]
      have x1 : f_X11_drawBelow (nxt z) (nI n) = some (nI (dr (nxt z) n)) := dr_x hn0 (by omega)
      have x2 : f_X11_drawBelow (nxt (nxt z)) 8 = some (nI (dr (nxt (nxt z)) 8)) := dr_x (n := 8) (by decide) (by decide)
      have x3 : f_X11_drawBelow (nxt (nxt (nxt z))) 10 = some (nI (dr (nxt (nxt (nxt z))) 10)) := dr_x (n := 10) (by decide) (by decide)
      have n1 : ∀ z, f_X11_nextSeed z = some (nxt z) := fun _ => rfl
      have hr : dr (nxt z) n < n := dr_lt hn0
      have hj : dr (nxt (nxt z)) 8 < 8 := dr_lt (by decide)
      have hf : dr (nxt (nxt (nxt z))) 10 < 10 := dr_lt (by decide)
      generalize uI (uI (uI μi 0 30 (nxt z)) 0 30 (nxt (nxt z))) 0 30 (nxt (nxt (nxt z))) = μ3 at d3 m3 s3 s6
      generalize dr (nxt z) n = r at *
      generalize dr (nxt (nxt z)) 8 = j at *
      generalize dr (nxt (nxt (nxt z))) 10 = f at *
      have hD3 : OkN (dsM μ3) n := by rw [m3.1]; exact hD
      have hX2 : (dsX σi 2).1 0 = nI n := by rw [hx.1]; exact hD.2.1
      rw [f_X11_seeded_L54, f_X12_seeded_L54, if_neg ht, if_neg ht, n1, b1s, q1, x1, b1s, n1, b1s, x2, b1s, n1, b1s, x3, b1s, atK hj, b1s, if_pos hj, q2, d1, b2s, d2, b2s, d3, b2s, mayBe_s hj hD3.2.1 hr h6, b1s, m3.1]
      rcases mayI_01 (d := D) (n := n) (j := j) (f := f) (r := r) with h | h
      · rw [tryPin_n hj hX2 hr h6 (by rw [hx.1]; exact h), b2s, if_pos rfl, h, if_pos rfl, bnds, bnds, nI_1]
        obtain ⟨z', c', σ', μ', D', g1, g2, g3, g4, g5, g6⟩ := ih (t + 1) (nxt (nxt (nxt z))) c σi μ3 D (by omega) (by omega) hx m3 s3 hD
        exact ⟨z', c', σ', μ', D', g1, g2, g3, g4, g5, g6.trans s6⟩
      · obtain ⟨σ1, e1, y1⟩ := tryPin_y hj hX2 hr h6 (f := f) (by rw [hx.1]; exact h)
        rw [hx.1] at y1
        obtain ⟨μ4, e4, y4⟩ := does_s hj hD3 hr hf (by rw [m3.1]; exact h)
        rw [m3.1] at y4
        rw [e1, b2s, if_neg ne10, h, if_neg ne10, e4, b1s, bnds, bnds, bnds, bnds, nI_1]
        have y3 : (μ4 0).1 30 = nxt (nxt (nxt z)) := (y4.2.2 30 (by decide)).trans s3
        obtain ⟨z', c', σ', μ', D', g1, g2, g3, g4, g5, g6⟩ := ih (t + 1) (nxt (nxt (nxt z))) (c + 1) σ1 μ4 _ (by omega) (by omega) (hx.tr y1) (m3.tr y4.mf.mg) y3 (okDoes hj hD hr hf h)
        exact ⟨z', c', σ', μ', D', g1, g2, g3, g4, g5, g6.trans ((y4.2.1 6 (by decide)).trans s6)⟩
theorem eq_seeded {σ : Mem} {μ : MMem} (hR : Rel σ μ) (p1 p2 p3 : Int32) : ∃ r σ' μ', f_X11_seeded p1 p2 p3 σ = some (r, σ') ∧ f_X12_seeded p1 p2 p3 μ = some (r, μ') ∧ Rel σ' μ' := by
  have hR1 := hR.t
  obtain ⟨n, hn⟩ := hR1.2.1.n
  have hM := hn.2.1
  have h6 := hn.1
  have hX : (dsX σ 0).1 0 = nI n := by rw [hR1.1]; exact hM
  have hq : σ (1 + 2 * 0) 1 = nI n := hX
  have hq2 : ((uI μ 0 9 0) 0).1 0 = nI n := by rw [← M_q0]; exact hM
  rcases rn1 (p := p1) (lo := 1) (n := 30) (by decide) (by decide) 1 30 1 30 rfl rfl rfl rfl with ⟨N, hN0, hN, rfl, e1, e2⟩ | ⟨e1, e2⟩
  · rcases rng (p := p3) (n := 1) (by decide) 1 1 rfl rfl with ⟨w, hw, rfl, e3, e4⟩ | ⟨_, e3, e4⟩
    · by_cases hz : n = 0
      · subst hz
        refine ⟨-3, σ, uI μ 0 9 0, ?_, ?_, hR1⟩
        · rw [f_X11_seeded, e1, b1s, if_neg ne10, e3, b1s, if_neg ne10, hq, if_pos nI_0]
        · rw [f_X12_seeded, bnds, e2, b1s, if_neg ne10, e4, b1s, if_neg ne10, hq2, if_pos nI_0]
      · have hn0 : 0 < n := by omega
        obtain ⟨σ2, e5, x2⟩ := becomeLike_s (σ := σ) (k := 2) (k' := 0) (by decide)
        obtain ⟨μ1, e6, m1, r1⟩ := open_s (μ := uI μ 0 9 0)
        rw [hR1.1] at x2
        obtain ⟨z', c', σ', μ', D', g1, g2, g3, g4, g5, g6⟩ := seedL (σ0 := σ) (μ0 := uI μ 0 9 0) hn0 h6 hN hX
          (KX := fun (_ : Int32) (x5_37 : Int32) (_ : Int32) (σ_40 : Mem) => if nI w = 0 then b1 (f_X0_lacking 2 σ_40) fun r_43 => some (r_43, σ_40) else some (x5_37, σ_40))
          (KM := fun (x4_33 : Int32) (_ : Int32) (σ_35 : MMem) => b1 (f_X12_lacksNow σ_35) fun r_37 => b1 (f_X12_close σ_35) fun σ_39 => if nI w = 0 then some (r_37, σ_39) else some (x4_33, σ_39))
          5000 0 p2 0 σ2 (uI μ1 0 30 p2) _ (by omega) (by omega) x2 (m1.mg.f (by decide) (by decide)) uI_s hn
        obtain ⟨μ3, e7, m7, _⟩ := close_s (μ := μ')
        rw [g6, uI_ne (by decide), r1] at m7
        have hl1 := lacking_s (σ := σ') (k := 2) (N := n) (by rw [g3.1]; exact g5.2.1) h6
        have hl2 := lacksNow_s (μ := μ') (N := n) (by rw [g4.1]; exact g5.2.1) h6
        rw [g3.1] at hl1
        rw [g4.1] at hl2
        have hz1 : ¬ nI n = 0 := nI_ne0 hn0 (by omega)
        have hX1 : f_X11_seeded (nI N) p2 (nI w) σ = if nI w = 0 then some (lackS D', σ') else some (c', σ') := by
          rw [f_X11_seeded, e1, b1s, if_neg ne10, e3, b1s, if_neg ne10, hq, if_neg hz1, e5, b1s]
          refine g1.trans ?_
          show (if nI w = 0 then b1 (f_X0_lacking 2 σ') fun r_43 => some (r_43, σ') else some (c', σ')) = _
          rw [hl1, b1s]
        have hM1 : f_X12_seeded (nI N) p2 (nI w) μ = if nI w = 0 then some (lackS D', μ3) else some (c', μ3) := by
          rw [f_X12_seeded, bnds, e2, b1s, if_neg ne10, e4, b1s, if_neg ne10, hq2, if_neg hz1, e6, b1s, bnds]
          refine g2.trans ?_
          show (b1 (f_X12_lacksNow μ') fun r_37 => b1 (f_X12_close μ') fun σ_39 => if nI w = 0 then some (r_37, σ_39) else some (c', σ_39)) = _
          rw [hl2, b1s, e7, b1s]
        rw [hX1, hM1]
        have hRl : Rel σ' μ3 := (hR1.g (g4.tr m7.mg)).mind (by decide) g3
        by_cases hw0 : nI w = 0
        · rw [if_pos hw0, if_pos hw0]
          exact ⟨_, _, _, rfl, rfl, hRl⟩
        · rw [if_neg hw0, if_neg hw0]
          exact ⟨_, _, _, rfl, rfl, hRl⟩
    · refine ⟨-1, σ, uI μ 0 9 0, ?_, ?_, hR1⟩
      · rw [f_X11_seeded, e1, b1s, if_neg ne10, e3, b1s, if_pos rfl]
      · rw [f_X12_seeded, bnds, e2, b1s, if_neg ne10, e4, b1s, if_pos rfl]
  · refine ⟨-1, σ, uI μ 0 9 0, ?_, ?_, hR1⟩
    · rw [f_X11_seeded, e1, b1s, if_pos rfl]
    · rw [f_X12_seeded, bnds, e2, b1s, if_pos rfl]
