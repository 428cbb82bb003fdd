/-! PURE, 27: a statement, as the reference reads it -/
def rsB (x1_1 r_3 : Int32) (σ_21 : MMem) : Option MMem :=
  if r_3 = 112 then
    b2 (f_X12_readDigit σ_21) fun r_28 σ_29 =>
    if x1_1 < 0 ∨ 51 ≤ x1_1.toNatClampNeg then none else
    bnd (uI σ_29 10 x1_1.toNatClampNeg r_28) fun (σ_31 : MMem) =>
    b2 (f_X12_readDigit σ_31) fun r_33 σ_34 =>
    if x1_1 < 0 ∨ 51 ≤ x1_1.toNatClampNeg then none else
    bnd (uI σ_34 11 x1_1.toNatClampNeg r_33) fun (σ_36 : MMem) =>
    b1 (f_X12_take 59 σ_36) fun σ_38 =>
    bnd (((σ_38 0).1 20) + 1) fun (y_39 : Int32) =>
    bnd (uI σ_38 0 20 y_39) fun (σ_40 : MMem) =>
    some σ_40
  else
    b1 (f_X12_take 59 σ_21) fun σ_24 =>
    bnd (((σ_24 0).1 20) + 1) fun (y_25 : Int32) =>
    bnd (uI σ_24 0 20 y_25) fun (σ_26 : MMem) =>
    some σ_26
def rsA (x1_1 r_3 v_17 : Int32) (σ_18 : MMem) : Option MMem :=
  if x1_1 < 0 ∨ 51 ≤ x1_1.toNatClampNeg then none else
  bnd (uI σ_18 9 x1_1.toNatClampNeg v_17) fun (σ_20 : MMem) =>
  jn (rsB x1_1 r_3) fun J165 =>
  if r_3 = 114 then
    b1 (f_X12_take 32 σ_20) fun σ_43 =>
    b2 (f_X12_readNumber σ_43) fun r_45 σ_46 =>
    if x1_1 < 0 ∨ 51 ≤ x1_1.toNatClampNeg then none else
    bnd (uI σ_46 10 x1_1.toNatClampNeg r_45) fun (σ_48 : MMem) =>
    b1 (f_X12_take 32 σ_48) fun σ_50 =>
    b2 (f_X12_readDigit σ_50) fun r_52 σ_53 =>
    if x1_1 < 0 ∨ 51 ≤ x1_1.toNatClampNeg then none else
    bnd (uI σ_53 11 x1_1.toNatClampNeg r_52) fun (σ_55 : MMem) =>
    b2 (f_X12_readDigit σ_55) fun r_57 σ_58 =>
    if x1_1 < 0 ∨ 51 ≤ x1_1.toNatClampNeg then none else
    bnd (uI σ_58 12 x1_1.toNatClampNeg r_57) fun (σ_60 : MMem) =>
    J165 σ_60
  else
    J165 σ_20
def rsT (x1_1 r_3 v_9 : Int32) (σ_10 : MMem) : Option MMem :=
  if v_9 = 0 ∨ v_9 = 1 then
    bnd (uI σ_10 0 19 v_9) fun (σ_12 : MMem) =>
    jn (fun (v_13 : Int32) (σ_14 : MMem) =>
      bnd (((σ_12 0).1 18) + v_13) fun (y_15 : Int32) =>
      bnd (uI σ_14 0 18 y_15) fun (σ_16 : MMem) =>
      jn (rsA x1_1 r_3) fun J116 =>
      jn (fun (σ_61 : MMem) =>
        b2 (f_X12_readNumber σ_61) fun r_63 σ_64 =>
        J116 r_63 σ_64) fun J105 =>
      if r_3 = 114 then
        J105 σ_16
      else
        if r_3 = 108 then
          J105 σ_16
        else
          b2 (f_X12_readDigit σ_16) fun r_68 σ_69 =>
          J116 r_68 σ_69) fun J84 =>
    if ((σ_12 0).1 19) = 0 then
      J84 1 σ_12
    else
      J84 0 σ_12
  else none
theorem rs_eq (σ : MMem) : f_X12_readStatement σ = (
    bnd ((σ 0).1 20) fun (x1_1 : Int32) =>
    b1 (f_X12_here σ) fun r_3 =>
    bnd ((σ 0).1 18) fun (y_4 : Int32) =>
    if x1_1 < 0 ∨ 51 ≤ x1_1.toNatClampNeg then none else
    bnd (uI σ 7 x1_1.toNatClampNeg y_4) fun (σ_6 : MMem) =>
    if x1_1 < 0 ∨ 51 ≤ x1_1.toNatClampNeg then none else
    bnd (uI σ_6 8 x1_1.toNatClampNeg r_3) fun (σ_8 : MMem) =>
    jn (rsT x1_1 r_3) fun J64 =>
    jn (fun (σ_71 : MMem) =>
      J64 1 σ_71) fun J59 =>
    if ((σ_8 0).1 19) = 0 then
      jn (fun (σ_73 : MMem) =>
        J64 0 σ_73) fun J63 =>
      if r_3 = 114 then
        J63 σ_8
      else
        if r_3 = 116 then
          J63 σ_8
        else
          if r_3 = 108 then
            J63 σ_8
          else
            if r_3 = 112 then
              J63 σ_8
            else
              J59 σ_8
    else
      J59 σ_8) := rfl
def FRM (k : Nat) (μ μ' : MMem) : Prop := (∀ i, i ≠ 0 → (i < 7 ∨ 12 < i) → μ' i = μ i) ∧ (∀ j, j ≠ 18 → j ≠ 19 → j ≠ 20 → (μ' 0).1 j = (μ 0).1 j) ∧ ∀ i, 7 ≤ i → i ≤ 12 → ∀ q, q ≠ k → (μ' i).1 q = (μ i).1 q
theorem FRM.rf {k : Nat} {μ : MMem} : FRM k μ μ := ⟨fun _ _ _ => rfl, fun _ _ _ _ => rfl, fun _ _ _ _ _ => rfl⟩
theorem FRM.c {k : Nat} {μ0 μ μ' : MMem} (h : FRM k μ0 μ) (hc : MC μ μ') : FRM k μ0 μ' := ⟨fun i a b => (hc.1 i a).trans (h.1 i a b), fun j a b c => (hc.2 j a b).trans (h.2.1 j a b c), fun i a b q c => by rw [hc.1 i (by omega)]; exact h.2.2 i a b q c⟩
theorem FRM.w {k i : Nat} {v : Int32} {μ0 μ : MMem} (h : FRM k μ0 μ) (h1 : 7 ≤ i) (h2 : i ≤ 12) : FRM k μ0 (uI μ i k v) := ⟨fun j a b => (uI_ne (by omega)).trans (h.1 j a b), fun j a b c => by rw [uI_ne (by omega)]; exact h.2.1 j a b c, fun j a b q c => by rw [rdI, if_neg (fun z => c z.2)]; exact h.2.2 j a b q c⟩
theorem FRM.s {k : Nat} {v : Int32} {μ0 μ : MMem} (h : FRM k μ0 μ) : FRM k μ0 (uI μ 0 20 v) := ⟨fun j a b => (uI_ne a).trans (h.1 j a b), fun j a b c => (uI_f c).trans (h.2.1 j a b c), fun j a b q c => by rw [uI_ne (by omega)]; exact h.2.2 j a b q c⟩
theorem MS.s {ρ : Nat → Int32} {d N : Nat} {v : Int32} {μ : MMem} {s : Bool × Nat × List Nat} (h : MS ρ d N μ s) : MS ρ d N (uI μ 0 20 v) s := by
  obtain ⟨⟨a1, a2, a3⟩, a4, a5, a6⟩ := h
  refine ⟨⟨by rw [uI_f (by decide)]; exact a1, by rw [uI_f (by decide)]; exact a2, fun i hi => by rw [uI_ne (by decide)]; exact a3 i hi⟩, by rw [uI_f (by decide)]; exact a4, by rw [uI_f (by decide)]; exact a5, a6⟩
section RSS
variable {ρ : Nat → Int32} {d N k : Nat} {μ0 σ : MMem} {s : Bool × Nat × List Nat} {r : Int32}
theorem rsB_o (hd : d < 8) (hN : N ≤ 100) (hB : Byt ρ) (hr : ¬ r = 112) (h : MS ρ d N σ s) (h20 : (σ 0).1 20 = nI k) (hf : FRM k μ0 σ) :
    ∃ μ', rsB (nI k) r σ = some μ' ∧ MS ρ d N μ' (stepP (bt ρ N) s 59) ∧ (μ' 0).1 20 = nI (k + 1) ∧ FRM k μ0 μ' ∧ (∀ i, i ≠ 0 → μ' i = σ i) ∧ ((stepP (bt ρ N) s 59).1 = true → (stepP (bt ρ N) s 59).2.2 = s.2.2) := by
  obtain ⟨μ1, e1, c1, m1, l1⟩ := opT (k := 59) (Or.inr rfl) hd hN hB h
  have e1' : f_X12_take 59 σ = some μ1 := e1
  have q20 : (μ1 0).1 20 = nI k := (c1.2 20 (by decide) (by decide)).trans h20
  refine ⟨uI μ1 0 20 (nI (k + 1)), ?_, m1.s, uI_s, (hf.c c1).s, fun i hi => (uI_ne hi).trans (c1.1 i hi), l1⟩
  rw [rsB, if_neg hr, e1', b1s, q20, nI_1, bnds, bnds]
theorem rsB_p (hd : d < 8) (hN : N ≤ 100) (hB : Byt ρ) (hk : k < 51) (h : MS ρ d N σ s) (h20 : (σ 0).1 20 = nI k) (hf : FRM k μ0 σ) :
    ∃ μ', rsB (nI k) 112 σ = some μ' ∧ MS ρ d N μ' (stepP (bt ρ N) (stepP (bt ρ N) (stepP (bt ρ N) s 1) 1) 59) ∧ (μ' 0).1 20 = nI (k + 1) ∧ FRM k μ0 μ' ∧ (∀ i, 7 ≤ i → i ≤ 9 → μ' i = σ i) ∧
      ((stepP (bt ρ N) (stepP (bt ρ N) (stepP (bt ρ N) s 1) 1) 59).1 = true → ∃ w1 w2, (stepP (bt ρ N) (stepP (bt ρ N) (stepP (bt ρ N) s 1) 1) 59).2.2 = s.2.2 ++ [w1] ++ [w2] ∧ (μ' 10).1 k = nI w1 ∧ (μ' 11).1 k = nI w2) := by
  have hbk : ¬ (nI k < 0 ∨ 51 ≤ (nI k).toNatClampNeg) := nI_in hk (by decide)
  have hck := nI_clamp (show k < 2 ^ 31 by omega)
  obtain ⟨v1, μ1, e1, c1, m1, l1⟩ := opD hd hN hB h
  obtain ⟨v2, μ2, e2, c2, m2, l2⟩ := opD hd hN hB (m1.w (i := 10) (k := k) (v := v1) (by decide) (by decide))
  obtain ⟨μ3, e3, c3, m3, l3⟩ := opT (k := 59) (Or.inr rfl) hd hN hB (m2.w (i := 11) (k := k) (v := v2) (by decide) (by decide))
  have e3' : f_X12_take 59 (uI μ2 11 k v2) = some μ3 := e3
  have q20 : (μ3 0).1 20 = nI k := by
    rw [c3.2 20 (by decide) (by decide), uI_ne (by decide), c2.2 20 (by decide) (by decide), uI_ne (by decide), c1.2 20 (by decide) (by decide)]
    exact h20
  refine ⟨uI μ3 0 20 (nI (k + 1)), ?_, m3.s, uI_s, ((((hf.c c1).w (by decide) (by decide)).c c2).w (by decide) (by decide) |>.c c3).s, fun i a b => ?_, fun ok => ?_⟩
  · rw [rsB, if_pos rfl, e1, b2s, if_neg hbk, hck, bnds, e2, b2s, if_neg (show ¬ (nI k < 0 ∨ 51 ≤ k) from fun z => z.elim (nI_pos (by omega)) (by omega)), bnds, e3', b1s, q20, nI_1, bnds, bnds]
  · rw [uI_ne (by omega), c3.1 i (by omega), uI_ne (by omega), c2.1 i (by omega), uI_ne (by omega), c1.1 i (by omega)]
  · have ok2 := stp_ok ok
    have ok1 := stp_ok ok2
    obtain ⟨w1, f1, g1⟩ := l1 ok1
    obtain ⟨w2, f2, g2⟩ := l2 ok2
    refine ⟨w1, w2, by rw [l3 ok, g2, g1], ?_, ?_⟩
    · rw [uI_ne (by decide), c3.1 10 (by decide), uI_ne (by decide), c2.1 10 (by decide), rdI, if_pos ⟨rfl, rfl⟩, f1]
    · rw [uI_ne (by decide), c3.1 11 (by decide), rdI, if_pos ⟨rfl, rfl⟩, f2]
theorem rsA_r (hd : d < 8) (hN : N ≤ 100) (hB : Byt ρ) (hk : k < 51) {v : Int32} (h : MS ρ d N σ s) (h20 : (σ 0).1 20 = nI k) (hf : FRM k μ0 σ) :
    ∃ μ' sF, rsA (nI k) 114 v σ = some μ' ∧ sF = stepP (bt ρ N) (stepP (bt ρ N) (stepP (bt ρ N) (stepP (bt ρ N) (stepP (bt ρ N) (stepP (bt ρ N) s 32) 0) 32) 1) 1) 59 ∧ MS ρ d N μ' sF ∧ (μ' 0).1 20 = nI (k + 1) ∧ FRM k μ0 μ' ∧ (∀ i, 7 ≤ i → i ≤ 8 → μ' i = σ i) ∧ (μ' 9).1 k = v ∧
      (sF.1 = true → ∃ w2 w3 w4, sF.2.2 = s.2.2 ++ [w2] ++ [w3] ++ [w4] ∧ (μ' 10).1 k = nI w2 ∧ (μ' 11).1 k = nI w3 ∧ (μ' 12).1 k = nI w4) := by
  have hbk : ¬ (nI k < 0 ∨ 51 ≤ (nI k).toNatClampNeg) := nI_in hk (by decide)
  have hbk2 : ¬ (nI k < 0 ∨ 51 ≤ k) := fun z => z.elim (nI_pos (by omega)) (by omega)
  have hck := nI_clamp (show k < 2 ^ 31 by omega)
  have h9 := h.w (i := 9) (k := k) (v := v) (by decide) (by decide)
  obtain ⟨μ1, e1, c1, m1, l1⟩ := opT (k := 32) (Or.inl rfl) hd hN hB h9
  obtain ⟨v2, μ2, e2, c2, m2, l2⟩ := opN hd hN hB m1
  obtain ⟨μ3, e3, c3, m3, l3⟩ := opT (k := 32) (Or.inl rfl) hd hN hB (m2.w (i := 10) (k := k) (v := v2) (by decide) (by decide))
  obtain ⟨v4, μ4, e4, c4, m4, l4⟩ := opD hd hN hB m3
  obtain ⟨v5, μ5, e5, c5, m5, l5⟩ := opD hd hN hB (m4.w (i := 11) (k := k) (v := v4) (by decide) (by decide))
  have e1' : f_X12_take 32 (uI σ 9 k v) = some μ1 := e1
  have e3' : f_X12_take 32 (uI μ2 10 k v2) = some μ3 := e3
  have hf6 : FRM k μ0 (uI μ5 12 k v5) := ((((((hf.w (i := 9) (v := v) (by decide) (by decide)).c c1).c c2).w (i := 10) (v := v2) (by decide) (by decide)).c c3).c c4 |>.w (i := 11) (v := v4) (by decide) (by decide) |>.c c5).w (by decide) (by decide)
  have q20 : ((uI μ5 12 k v5) 0).1 20 = nI k := by
    rw [uI_ne (by decide), c5.2 20 (by decide) (by decide), uI_ne (by decide), c4.2 20 (by decide) (by decide), c3.2 20 (by decide) (by decide), uI_ne (by decide), c2.2 20 (by decide) (by decide), c1.2 20 (by decide) (by decide), uI_ne (by decide)]
    exact h20
  obtain ⟨μ6, e6, m6, q6, f6, r6, l6⟩ := rsB_o (r := 114) hd hN hB (by decide) (m5.w (i := 12) (k := k) (v := v5) (by decide) (by decide)) q20 hf6
  refine ⟨μ6, _, ?_, rfl, m6, q6, f6, fun i a b => ?_, ?_, fun ok => ?_⟩
  · rw [rsA, if_neg hbk, hck, bnds, jns]
    try dsimp only
    rw [if_pos rfl, e1', b1s, e2, b2s, if_neg hbk2, bnds, e3', b1s, e4, b2s, if_neg hbk2, bnds, e5, b2s, if_neg hbk2, bnds]
    exact e6
  · rw [r6 i (by omega), uI_ne (by omega), c5.1 i (by omega), uI_ne (by omega), c4.1 i (by omega), c3.1 i (by omega), uI_ne (by omega), c2.1 i (by omega), c1.1 i (by omega), uI_ne (by omega)]
  · rw [r6 9 (by decide), uI_ne (by decide), c5.1 9 (by decide), uI_ne (by decide), c4.1 9 (by decide), c3.1 9 (by decide), uI_ne (by decide), c2.1 9 (by decide), c1.1 9 (by decide), rdI, if_pos ⟨rfl, rfl⟩]
  · have ok5 := stp_ok ok
    have ok4 := stp_ok ok5
    have ok3 := stp_ok ok4
    have ok2 := stp_ok ok3
    have ok1 := stp_ok ok2
    obtain ⟨w2, f2, g2⟩ := l2 ok2
    obtain ⟨w4, f4, g4⟩ := l4 ok4
    obtain ⟨w5, f5, g5⟩ := l5 ok5
    refine ⟨w2, w4, w5, by rw [l6 ok, g5, g4, l3 ok3, g2, l1 ok1], ?_, ?_, ?_⟩
    · rw [r6 10 (by decide), uI_ne (by decide), c5.1 10 (by decide), uI_ne (by decide), c4.1 10 (by decide), c3.1 10 (by decide), rdI, if_pos ⟨rfl, rfl⟩, f2]
    · rw [r6 11 (by decide), uI_ne (by decide), c5.1 11 (by decide), rdI, if_pos ⟨rfl, rfl⟩, f4]
    · rw [r6 12 (by decide), rdI, if_pos ⟨rfl, rfl⟩, f5]
theorem rsA_o (hk : k < 51) {v : Int32} (hr : ¬ r = 114) : rsA (nI k) r v σ = rsB (nI k) r (uI σ 9 k v) := by
  have hbk : ¬ (nI k < 0 ∨ 51 ≤ (nI k).toNatClampNeg) := nI_in hk (by decide)
  rw [rsA, if_neg hbk, nI_clamp (by omega), bnds, jns]
  try dsimp only
  rw [if_neg hr]
end RSS
/-- the first number, and what comes behind it -/
def rsN (x r : Int32) (σ : MMem) : Option MMem := if r = 114 then b2 (f_X12_readNumber σ) (rsA x r) else if r = 108 then b2 (f_X12_readNumber σ) (rsA x r) else b2 (f_X12_readDigit σ) (rsA x r)
theorem rsT_y {x r : Int32} {σ : MMem} {p : Nat} (h18 : (σ 0).1 18 = nI p) : rsT x r 0 σ = rsN x r (uI (uI σ 0 19 0) 0 18 (nI (p + 1))) := by
  have q18 : ((uI σ 0 19 0) 0).1 18 = nI p := by rw [uI_f (by decide)]; exact h18
  have q19 : ((uI σ 0 19 0) 0).1 19 = 0 := uI_s
  rw [rsT, if_pos (Or.inl rfl), bnds, jns]
  try dsimp only
  rw [if_pos q19, q18, nI_1, bnds, bnds, jns]
  try dsimp only
  rw [jns]
  rfl
theorem rsT_n {x r : Int32} {σ : MMem} {p : Nat} (h18 : (σ 0).1 18 = nI p) : rsT x r 1 σ = rsN x r (uI (uI σ 0 19 1) 0 18 (nI p)) := by
  have q18 : ((uI σ 0 19 1) 0).1 18 = nI p := by rw [uI_f (by decide)]; exact h18
  have q19 : ((uI σ 0 19 1) 0).1 19 = 1 := uI_s
  rw [rsT, if_pos (Or.inr rfl), bnds, jns]
  try dsimp only
  rw [q19, if_neg ne10, q18, Int32.add_zero, bnds, bnds, jns]
  try dsimp only
  rw [jns]
  rfl
/-- what the reference holds of statement k: its place, letter and numbers -/
def STK (μ : MMem) (k p : Nat) (c : Int32) (l : List Nat) : Prop := (μ 7).1 k = nI p ∧ (μ 8).1 k = c ∧ (∀ v, l[0]? = some v → (μ 9).1 k = nI v) ∧ (c = 114 ∨ c = 112 → (∀ v, l[1]? = some v → (μ 10).1 k = nI v) ∧ ∀ v, l[2]? = some v → (μ 11).1 k = nI v) ∧ (c = 114 → ∀ v, l[3]? = some v → (μ 12).1 k = nI v)
theorem gt {v w : Nat} {o : Option Nat} (h : o = some v) (e : o = some w) : w = v := by
  rw [h] at e
  cases e
  rfl
theorem readS_m {ρ : Nat → Int32} {d N k p : Nat} {μ : MMem} (hd : d < 8) (hN : N ≤ 100) (hB : Byt ρ) (hb : MB ρ d N μ) (h18 : (μ 0).1 18 = nI p) (h19 : (μ 0).1 19 = 0) (h20 : (μ 0).1 20 = nI k) (hk : k < 51) (hp : p ≤ N) :
    ∃ μ', f_X12_readStatement μ = some μ' ∧ MB ρ d N μ' ∧ (μ' 0).1 18 = nI (stm (bt ρ N) p).2.1 ∧ (μ' 0).1 19 = (if (stm (bt ρ N) p).1 = true then 0 else 1) ∧ (μ' 0).1 20 = nI (k + 1) ∧ FRM k μ μ' ∧ ((stm (bt ρ N) p).1 = true → STK μ' k p (bt ρ N p) (stm (bt ρ N) p).2.2) := by
  have hbk : ¬ (nI k < 0 ∨ 51 ≤ (nI k).toNatClampNeg) := nI_in hk (by decide)
  have hbk2 : ¬ (nI k < 0 ∨ 51 ≤ k) := fun z => z.elim (nI_pos (by omega)) (by omega)
  have hck := nI_clamp (show k < 2 ^ 31 by omega)
  obtain ⟨h, eh, hc, _⟩ := here_m hd hN hB hb h18 hp
  obtain ⟨μ8, hμ8⟩ : ∃ μ8, μ8 = uI (uI μ 7 k (nI p)) 8 k h := ⟨_, rfl⟩
  have z8 : μ8 0 = μ 0 := by rw [hμ8, uI_ne (by decide), uI_ne (by decide)]
  have f8 : FRM k μ μ8 := by rw [hμ8]; exact (FRM.rf.w (by decide) (by decide)).w (by decide) (by decide)
  have b8 : MB ρ d N μ8 := by
    unfold MB
    rw [z8, show μ8 19 = μ 19 by rw [hμ8, uI_ne (by decide), uI_ne (by decide)]]
    exact hb
  have v7 : (μ8 7).1 k = nI p := by rw [hμ8, uI_ne (by decide), rdI, if_pos ⟨rfl, rfl⟩]
  have v8 : (μ8 8).1 k = h := by rw [hμ8, rdI, if_pos ⟨rfl, rfl⟩]
  have h18' : (μ8 0).1 18 = nI p := by rw [z8]; exact h18
  have h19' : (μ8 0).1 19 = 0 := by rw [z8]; exact h19
  have h20' : (μ8 0).1 20 = nI k := by rw [z8]; exact h20
  have e : stm (bt ρ N) p = match form (bt ρ N p) with
    | none => (false, p, [])
    | some ks => run (bt ρ N) ks (p + 1) [] := rfl
  have hS : f_X12_readStatement μ = if h = 114 then rsT (nI k) h 0 μ8 else if h = 116 then rsT (nI k) h 0 μ8 else if h = 108 then rsT (nI k) h 0 μ8 else if h = 112 then rsT (nI k) h 0 μ8 else rsT (nI k) h 1 μ8 := by
    rw [rs_eq, h20, bnds, eh, b1s, h18, bnds, if_neg hbk, hck, bnds, if_neg hbk2, bnds, ← hμ8, jns]
    try dsimp only
    rw [jns]
    try dsimp only
    rw [if_pos h19', jns]
  have hc114 : h = 114 ↔ bt ρ N p = 114 := hc 114 (by decide)
  have hc116 : h = 116 ↔ bt ρ N p = 116 := hc 116 (by decide)
  have hc108 : h = 108 ↔ bt ρ N p = 108 := hc 108 (by decide)
  have hc112 : h = 112 ↔ bt ρ N p = 112 := hc 112 (by decide)
  cases hf : form (bt ρ N p) with
  | none =>
    rw [hf] at e
    have e : stm (bt ρ N) p = (false, p, []) := e
    obtain ⟨n1, n2, n3, n4⟩ := form_n hf
    have a1 : ¬ h = 114 := fun z => n1 (hc114.mp z)
    have a2 : ¬ h = 116 := fun z => n2 (hc116.mp z)
    have a3 : ¬ h = 108 := fun z => n3 (hc108.mp z)
    have a4 : ¬ h = 112 := fun z => n4 (hc112.mp z)
    have cc : MC μ8 (uI (uI μ8 0 19 1) 0 18 (nI p)) := (MC.rf.u (Or.inr rfl)).u (Or.inl rfl)
    have m0 : MS ρ d N (uI (uI μ8 0 19 1) 0 18 (nI p)) (false, p, []) := ⟨b8.c cc, uI_s, by rw [uI_f (by decide), uI_s]; rfl, hp⟩
    obtain ⟨v1, μ1, e1, c1, m1, _⟩ := opD hd hN hB m0
    rw [stp_bad (fun z => (by cases z))] at m1
    have q20 : ((uI μ1 9 k v1) 0).1 20 = nI k := by rw [uI_ne (by decide), c1.2 20 (by decide) (by decide), cc.2 20 (by decide) (by decide)]; exact h20'
    obtain ⟨μ2, e2, m2, q2, f2, _, _⟩ := rsB_o (r := h) hd hN hB a4 (m1.w (i := 9) (k := k) (v := v1) (by decide) (by decide)) q20 (((f8.c cc).c c1).w (by decide) (by decide))
    rw [stp_bad (fun z => (by cases z))] at m2
    rw [e]
    refine ⟨μ2, ?_, m2.1, m2.2.1, m2.2.2.1, q2, f2, fun z => by cases z⟩
    rw [hS, if_neg a1, if_neg a2, if_neg a3, if_neg a4, rsT_n h18', rsN, if_neg a1, if_neg a3, e1, b2s, rsA_o hk a1]
    exact e2
  | some ks =>
    rw [hf] at e
    have e : stm (bt ρ N) p = run (bt ρ N) ks (p + 1) [] := e
    rw [run_fold] at e
    have hpN : p < N := bt_in (ρ := ρ) (by rcases form_ks hf with ⟨a, _⟩ | ⟨a, _⟩ | ⟨a, _⟩ | ⟨a, _⟩ <;> rw [a] <;> decide)
    have cc : MC μ8 (uI (uI μ8 0 19 0) 0 18 (nI (p + 1))) := (MC.rf.u (Or.inr rfl)).u (Or.inl rfl)
    have m0 : MS ρ d N (uI (uI μ8 0 19 0) 0 18 (nI (p + 1))) (true, p + 1, []) := ⟨b8.c cc, uI_s, by rw [uI_f (by decide), uI_s]; rfl, hpN⟩
    have q0 : ((uI (uI μ8 0 19 0) 0 18 (nI (p + 1))) 0).1 20 = nI k := (cc.2 20 (by decide) (by decide)).trans h20'
    have r7 : ∀ i, i ≠ 0 → (uI (uI μ8 0 19 0) 0 18 (nI (p + 1))) i = μ8 i := cc.1
    have f0 := f8.c cc
    rcases form_ks hf with ⟨a, rfl⟩ | ⟨a, rfl⟩ | ⟨a, rfl⟩ | ⟨a, rfl⟩
    · have ah : h = 114 := hc114.mpr a
      obtain ⟨v1, μ1, e1, c1, m1, l1⟩ := opN hd hN hB m0
      obtain ⟨μ2, sF, e2, es, m2, q2, f2, r2, v2, l2⟩ := rsA_r (v := v1) hd hN hB hk m1 ((c1.2 20 (by decide) (by decide)).trans q0) (f0.c c1)
      have e : stm (bt ρ N) p = sF := by rw [e, es]; rfl
      rw [e]
      refine ⟨μ2, ?_, m2.1, m2.2.1, m2.2.2.1, q2, f2, fun ok => ?_⟩
      · rw [hS, ah, if_pos rfl, rsT_y h18', rsN, if_pos rfl, e1, b2s]
        exact e2
      · have ok1 : (stepP (bt ρ N) (true, p + 1, []) 0).1 = true := by
          rw [es] at ok
          exact stp_ok (stp_ok (stp_ok (stp_ok (stp_ok (stp_ok ok)))))
        obtain ⟨w1, g1, k1⟩ := l1 ok1
        obtain ⟨w2, w3, w4, k2, g2, g3, g4⟩ := l2 ok
        have el : sF.2.2 = [w1, w2, w3, w4] := by rw [k2, k1]; rfl
        rw [el]
        refine ⟨by rw [r2 7 (by decide) (by decide), c1.1 7 (by decide), r7 7 (by decide)]; exact v7, by rw [r2 8 (by decide) (by decide), c1.1 8 (by decide), r7 8 (by decide), v8, ah, a], fun v hv => ?_, fun _ => ⟨fun v hv => ?_, fun v hv => ?_⟩, fun _ v hv => ?_⟩
        · rw [v2, g1, gt hv rfl]
        · rw [g2, gt hv rfl]
        · rw [g3, gt hv rfl]
        · rw [g4, gt hv rfl]
    · have ah : h = 116 := hc116.mpr a
      obtain ⟨v1, μ1, e1, c1, m1, l1⟩ := opD hd hN hB m0
      have q20 : ((uI μ1 9 k v1) 0).1 20 = nI k := by rw [uI_ne (by decide), c1.2 20 (by decide) (by decide)]; exact q0
      obtain ⟨μ2, e2, m2, q2, f2, r2, l2⟩ := rsB_o (r := 116) hd hN hB (by decide) (m1.w (i := 9) (k := k) (v := v1) (by decide) (by decide)) q20 ((f0.c c1).w (by decide) (by decide))
      have e : stm (bt ρ N) p = stepP (bt ρ N) (stepP (bt ρ N) (true, p + 1, []) 1) 59 := by rw [e]; rfl
      rw [e]
      refine ⟨μ2, ?_, m2.1, m2.2.1, m2.2.2.1, q2, f2, fun ok => ?_⟩
      · rw [hS, ah, if_neg (by decide), if_pos rfl, rsT_y h18', rsN, if_neg (by decide), if_neg (by decide), e1, b2s, rsA_o hk (by decide)]
        exact e2
      · obtain ⟨w1, g1, k1⟩ := l1 (stp_ok ok)
        have el : (stepP (bt ρ N) (stepP (bt ρ N) (true, p + 1, []) 1) 59).2.2 = [w1] := by rw [l2 ok, k1]; rfl
        rw [el, a]
        refine ⟨by rw [r2 7 (by decide), uI_ne (by decide), c1.1 7 (by decide), r7 7 (by decide)]; exact v7, by rw [r2 8 (by decide), uI_ne (by decide), c1.1 8 (by decide), r7 8 (by decide), v8, ah], fun v hv => ?_, fun z => absurd z (by decide), fun z => absurd z (by decide)⟩
        rw [r2 9 (by decide), rdI, if_pos ⟨rfl, rfl⟩, g1, gt hv rfl]
    · have ah : h = 108 := hc108.mpr a
      obtain ⟨v1, μ1, e1, c1, m1, l1⟩ := opN hd hN hB m0
      have q20 : ((uI μ1 9 k v1) 0).1 20 = nI k := by rw [uI_ne (by decide), c1.2 20 (by decide) (by decide)]; exact q0
      obtain ⟨μ2, e2, m2, q2, f2, r2, l2⟩ := rsB_o (r := 108) hd hN hB (by decide) (m1.w (i := 9) (k := k) (v := v1) (by decide) (by decide)) q20 ((f0.c c1).w (by decide) (by decide))
      have e : stm (bt ρ N) p = stepP (bt ρ N) (stepP (bt ρ N) (true, p + 1, []) 0) 59 := by rw [e]; rfl
      rw [e]
      refine ⟨μ2, ?_, m2.1, m2.2.1, m2.2.2.1, q2, f2, fun ok => ?_⟩
      · rw [hS, ah, if_neg (by decide), if_neg (by decide), if_pos rfl, rsT_y h18', rsN, if_neg (by decide), if_pos rfl, e1, b2s, rsA_o hk (by decide)]
        exact e2
      · obtain ⟨w1, g1, k1⟩ := l1 (stp_ok ok)
        have el : (stepP (bt ρ N) (stepP (bt ρ N) (true, p + 1, []) 0) 59).2.2 = [w1] := by rw [l2 ok, k1]; rfl
        rw [el, a]
        refine ⟨by rw [r2 7 (by decide), uI_ne (by decide), c1.1 7 (by decide), r7 7 (by decide)]; exact v7, by rw [r2 8 (by decide), uI_ne (by decide), c1.1 8 (by decide), r7 8 (by decide), v8, ah], fun v hv => ?_, fun z => absurd z (by decide), fun z => absurd z (by decide)⟩
        rw [r2 9 (by decide), rdI, if_pos ⟨rfl, rfl⟩, g1, gt hv rfl]
    · have ah : h = 112 := hc112.mpr a
      obtain ⟨v1, μ1, e1, c1, m1, l1⟩ := opD hd hN hB m0
      have q20 : ((uI μ1 9 k v1) 0).1 20 = nI k := by rw [uI_ne (by decide), c1.2 20 (by decide) (by decide)]; exact q0
      obtain ⟨μ2, e2, m2, q2, f2, r2, l2⟩ := rsB_p hd hN hB hk (m1.w (i := 9) (k := k) (v := v1) (by decide) (by decide)) q20 ((f0.c c1).w (by decide) (by decide))
      have e : stm (bt ρ N) p = stepP (bt ρ N) (stepP (bt ρ N) (stepP (bt ρ N) (stepP (bt ρ N) (true, p + 1, []) 1) 1) 1) 59 := by rw [e]; rfl
      rw [e]
      refine ⟨μ2, ?_, m2.1, m2.2.1, m2.2.2.1, q2, f2, fun ok => ?_⟩
      · rw [hS, ah, if_neg (by decide), if_neg (by decide), if_neg (by decide), if_pos rfl, rsT_y h18', rsN, if_neg (by decide), if_neg (by decide), e1, b2s, rsA_o hk (by decide)]
        exact e2
      · obtain ⟨w1, g1, k1⟩ := l1 (stp_ok (stp_ok (stp_ok ok)))
        obtain ⟨w2, w3, k2, g2, g3⟩ := l2 ok
        have el : (stepP (bt ρ N) (stepP (bt ρ N) (stepP (bt ρ N) (stepP (bt ρ N) (true, p + 1, []) 1) 1) 1) 59).2.2 = [w1, w2, w3] := by rw [k2, k1]; rfl
        rw [el, a]
        refine ⟨by rw [r2 7 (by decide) (by decide), uI_ne (by decide), c1.1 7 (by decide), r7 7 (by decide)]; exact v7, by rw [r2 8 (by decide) (by decide), uI_ne (by decide), c1.1 8 (by decide), r7 8 (by decide), v8, ah], fun v hv => ?_, fun _ => ⟨fun v hv => ?_, fun v hv => ?_⟩, fun z => absurd z (by decide)⟩
        · rw [r2 9 (by decide) (by decide), rdI, if_pos ⟨rfl, rfl⟩, g1, gt hv rfl]
        · rw [g2, gt hv rfl]
        · rw [g3, gt hv rfl]
