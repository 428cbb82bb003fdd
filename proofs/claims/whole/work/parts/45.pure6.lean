/-! PURE, 6: the reference lays its dress down and takes it up -/
theorem rdI {μ : MMem} {i j i' j' : Nat} {v : Int32} : (uI μ i j v i').1 j' = if i' = i ∧ j' = j then v else (μ i').1 j' := by
  by_cases h : i' = i
  · subst h
    rw [uI_same]
    by_cases h2 : j' = j
    · subst h2
      rw [if_pos ⟨rfl, rfl⟩]
      exact if_pos rfl
    · rw [if_neg (fun z => h2 z.2)]
      exact if_neg h2
  · rw [uI_ne h, if_neg (fun z => h z.1)]
def cI (q : Nat) : Nat := if q < 5 then 0 else 1 + (q - 5) % 4
def cJ (q : Nat) : Nat := if q < 5 then q else (q - 5) / 4
theorem cIJ {q : Nat} (h : q < 29) : cI q ≤ 4 ∧ (cI q = 0 → cJ q ≤ 4) := by
  have : ∀ q, q < 29 → cI q ≤ 4 ∧ (cI q = 0 → cJ q ≤ 4) := by decide +kernel
  exact this q h
theorem cIJ_i {q q' : Nat} (h : q < 29) (h' : q' < 29) (e : cI q = cI q') (e2 : cJ q = cJ q') : q = q' := by
  have : ∀ q, q < 29 → ∀ q', q' < 29 → cI q = cI q' → cJ q = cJ q' → q = q' := by decide +kernel
  exact this q h q' h' e e2
/-- p numbers of the dress lie in row t -/
def Sv (μ0 : MMem) (t : Nat) (μ : MMem) (p : Nat) : Prop :=
  (μ 0).1 14 = 1 ∧ (μ 0).1 15 = nI t ∧ (μ 0).1 13 = nI p ∧ (∀ i j, i ≤ 4 → (i = 0 → j ≤ 4) → (μ i).1 j = (μ0 i).1 j) ∧
  (∀ q, q < p → (μ t).1 q = (μ0 (cI q)).1 (cJ q)) ∧ (∀ i, 4 < i → i ≠ t → μ i = μ0 i) ∧ ∀ j, 4 < j → j ≠ 13 → j ≠ 14 → j ≠ 15 → (μ 0).1 j = (μ0 0).1 j
/-- p numbers of the dress are taken out of row t -/
def Rs (μ0 : MMem) (t : Nat) (μ : MMem) (p : Nat) : Prop :=
  (μ 0).1 14 = 0 ∧ (μ 0).1 15 = nI t ∧ (μ 0).1 13 = nI p ∧
  (∀ q, q < p → (μ (cI q)).1 (cJ q) = (μ0 t).1 q) ∧ (∀ i, 4 < i → μ i = μ0 i) ∧ ∀ j, 4 < j → j ≠ 13 → j ≠ 14 → j ≠ 15 → (μ 0).1 j = (μ0 0).1 j
theorem nI_1s {p : Nat} : nI p + 1 - 1 = nI p := Int32.add_sub_cancel _ _
theorem Sv.step {μ0 μ : MMem} {t p i j : Nat} (ht : t = 5 ∨ t = 6) (hp : p < 29) (hi : cI p = i) (hj : cJ p = j) (h : Sv μ0 t μ p) :
    ∃ v μ1, f_X12_carry ((μ i).1 j) μ = some (v, μ1) ∧ Sv μ0 t (uI μ1 i j v) (p + 1) := by
  obtain ⟨h14, h15, h13, hc, hq, hr, hf⟩ := h
  have hb := cIJ hp
  rw [hi, hj] at hb
  have hx := hc i j hb.1 hb.2
  have hcl := nI_clamp (show p < 2 ^ 31 by omega)
  have hbad : (nI p < 0 ∨ 29 ≤ p) = False := bad_i hp (by decide)
  refine ⟨(μ i).1 j, uI (uI μ t p ((μ i).1 j)) 0 13 (nI (p + 1)), ?_, ?_⟩
  · rcases ht with rfl | rfl
    · have e15 : (μ 0).1 15 = 5 := h15
      simp (decide := true) only [f_X12_carry, bnd, h14, e15, h13, hcl, hbad, rdI, if_true, if_false, false_and, true_and, and_true, and_false, nI_1s]
      rw [nI_1]
    · have e15 : (μ 0).1 15 = 6 := h15
      simp (decide := true) only [f_X12_carry, bnd, h14, e15, h13, hcl, hbad, rdI, if_true, if_false, false_and, true_and, and_true, and_false, nI_1s]
      rw [nI_1]
  · have n1 : ∀ b, 4 < b → ¬ (0 = i ∧ b = j) := fun b _ z => by omega
    refine ⟨?_, ?_, ?_, fun a b ha hab => ?_, fun q hq' => ?_, fun a ha hat => ?_, fun b hb1 hb2 hb3 hb4 => ?_⟩
    · simp only [rdI, if_neg (n1 14 (by omega))]
      rw [if_neg (by omega), if_neg (by omega), h14]
    · simp only [rdI, if_neg (n1 15 (by omega))]
      rw [if_neg (by omega), if_neg (by omega), h15]
    · simp only [rdI, if_neg (n1 13 (by omega))]
      exact if_pos (by simp)
    · simp only [rdI]
      by_cases e : a = i ∧ b = j
      · obtain ⟨rfl, rfl⟩ := e
        rw [if_pos ⟨rfl, rfl⟩]
        exact hx
      · rw [if_neg e, if_neg (by omega), if_neg (by omega)]
        exact hc a b ha hab
    · simp only [rdI]
      rw [if_neg (by omega), if_neg (by omega)]
      by_cases e : q = p
      · subst e
        exact (if_pos (by simp)).trans (by rw [hi, hj]; exact hx)
      · rw [if_neg (fun z => e z.2)]
        exact hq q (by omega)
    · rw [uI_ne (by omega), uI_ne (by omega), uI_ne (by omega)]
      exact hr a ha hat
    · simp only [rdI]
      rw [if_neg (n1 b hb1), if_neg (by omega), if_neg (by omega)]
      exact hf b hb1 hb2 hb3 hb4
theorem Rs.step {μ0 μ : MMem} {t p i j : Nat} (ht : t = 5 ∨ t = 6) (hp : p < 29) (hi : cI p = i) (hj : cJ p = j) (h : Rs μ0 t μ p) :
    ∃ v μ1, f_X12_carry ((μ i).1 j) μ = some (v, μ1) ∧ Rs μ0 t (uI μ1 i j v) (p + 1) := by
  obtain ⟨h14, h15, h13, hq, hr, hf⟩ := h
  have hb := cIJ hp
  rw [hi, hj] at hb
  have hcl := nI_clamp (show p < 2 ^ 31 by omega)
  have hbad : (nI p < 0 ∨ 29 ≤ p) = False := bad_i hp (by decide)
  have htt : μ t = μ0 t := hr t (by omega)
  refine ⟨(μ t).1 p, uI μ 0 13 (nI (p + 1)), ?_, ?_⟩
  · rcases ht with rfl | rfl
    · have e15 : (μ 0).1 15 = 5 := h15
      simp (decide := true) only [f_X12_carry, bnd, h14, e15, h13, hcl, hbad, rdI, if_true, if_false, false_and, true_and, and_true, and_false, nI_1s]
      rw [nI_1]
    · have e15 : (μ 0).1 15 = 6 := h15
      simp (decide := true) only [f_X12_carry, bnd, h14, e15, h13, hcl, hbad, rdI, if_true, if_false, false_and, true_and, and_true, and_false, nI_1s]
      rw [nI_1]
  · have n1 : ∀ b, 4 < b → ¬ (0 = i ∧ b = j) := fun b _ z => by omega
    refine ⟨?_, ?_, ?_, fun q hq' => ?_, fun a ha => ?_, fun b hb1 hb2 hb3 hb4 => ?_⟩
    · simp only [rdI, if_neg (n1 14 (by omega))]
      rw [if_neg (by omega), h14]
    · simp only [rdI, if_neg (n1 15 (by omega))]
      rw [if_neg (by omega), h15]
    · simp only [rdI, if_neg (n1 13 (by omega))]
      exact if_pos (by simp)
    · simp only [rdI]
      by_cases e : q = p
      · subst e
        rw [if_pos ⟨hi, hj⟩, htt]
      · have hbq := cIJ (show q < 29 by omega)
        rw [if_neg (fun z => e (cIJ_i (by omega) hp (z.1.trans hi.symm) (z.2.trans hj.symm))), if_neg (by omega)]
        exact hq q (by omega)
    · rw [uI_ne (by omega), uI_ne (by omega)]
      exact hr a ha
    · simp only [rdI]
      rw [if_neg (n1 b hb1), if_neg (by omega)]
      exact hf b hb1 hb2 hb3 hb4
theorem carryL {P : MMem → Nat → Prop} (st : ∀ p i j μ, p < 29 → cI p = i → cJ p = j → P μ p → ∃ v μ1, f_X12_carry ((μ i).1 j) μ = some (v, μ1) ∧ P (uI μ1 i j v) (p + 1)) {K : Int32 → MMem → Option MMem} :
    ∀ (n i : Nat) (μ : MMem), i ≤ 6 → 6 < i + n → P μ (5 + 4 * i) → ∃ μ', f_X12_carryAll_L77 n (nI i) μ K = K (nI 6) μ' ∧ P μ' 29 := by
  intro n
  induction n with
  | zero => intro i μ h1 h2; omega
  | succ n ih =>
    intro i μ h1 h2 h
    rw [f_X12_carryAll_L77]
    by_cases e : i = 6
    · subst e
      rw [if_pos (by decide)]
      exact ⟨μ, rfl, h⟩
    · have hi : i < 6 := by omega
      have hc := nI_clamp (show i < 2 ^ 31 by omega)
      have hb : (nI i < 0 ∨ 6 ≤ i) = False := bad_i hi (by decide)
      have hcI : ∀ i, i < 6 → ∀ w, w < 4 → cI (5 + 4 * i + w) = 1 + w ∧ cJ (5 + 4 * i + w) = i := by decide +kernel
      rw [if_neg (show ¬ (6 : Int32) ≤ nI i from nI_ge (a := i) (b := 6) hi (by omega))]
      obtain ⟨v1, μ1, e1, p1⟩ := st (5 + 4 * i) 1 i μ (by omega) (hcI i hi 0 (by decide)).1 (hcI i hi 0 (by decide)).2 h
      obtain ⟨v2, μ2, e2, p2⟩ := st (5 + 4 * i + 1) 2 i _ (by omega) (hcI i hi 1 (by decide)).1 (hcI i hi 1 (by decide)).2 p1
      obtain ⟨v3, μ3, e3, p3⟩ := st (5 + 4 * i + 2) 3 i _ (by omega) (hcI i hi 2 (by decide)).1 (hcI i hi 2 (by decide)).2 p2
      obtain ⟨v4, μ4, e4, p4⟩ := st (5 + 4 * i + 3) 4 i _ (by omega) (hcI i hi 3 (by decide)).1 (hcI i hi 3 (by decide)).2 p3
      simp only [hc, hb, if_false, bnd, e1, b2, e2, e3, e4, nI_1]
      exact ih (i + 1) _ (by omega) (by omega) p4
theorem carryAll_s {P : MMem → Nat → Prop} {t : Nat} {x : Int32} {μ : MMem} (st : ∀ p i j μ, p < 29 → cI p = i → cJ p = j → P μ p → ∃ v μ1, f_X12_carry ((μ i).1 j) μ = some (v, μ1) ∧ P (uI μ1 i j v) (p + 1))
    (hx : x = 0 ∨ x = 1) (h0 : P (uI (uI (uI μ 0 15 (nI t)) 0 14 x) 0 13 0) 0) : ∃ μ', f_X12_carryAll t x μ = some μ' ∧ P μ' 29 := by
  obtain ⟨v1, μ1, e1, p1⟩ := st 0 0 0 _ (by omega) rfl rfl h0
  obtain ⟨v2, μ2, e2, p2⟩ := st 1 0 1 _ (by omega) rfl rfl p1
  obtain ⟨v3, μ3, e3, p3⟩ := st 2 0 2 _ (by omega) rfl rfl p2
  obtain ⟨v4, μ4, e4, p4⟩ := st 3 0 3 _ (by omega) rfl rfl p3
  obtain ⟨v5, μ5, e5, p5⟩ := st 4 0 4 _ (by omega) rfl rfl p4
  unfold f_X12_carryAll
  generalize hL : f_X12_carryAll_L77 5000 = L
  simp only [if_pos hx, bnd, e1, b2, e2, e3, e4, e5]
  subst hL
  obtain ⟨μ', e6, p6⟩ := carryL st (K := fun _ σ => some σ) 5000 0 _ (by omega) (by omega) p5
  exact ⟨μ', e6, p6⟩
/-- the reference's frame, while its dress is held in row t -/
def MF (t : Nat) (μ μ' : MMem) (d : DS) : Prop := dsM μ' = d ∧ (∀ i, 4 < i → i ≠ t → μ' i = μ i) ∧ ∀ j, 4 < j → j ≠ 13 → j ≠ 14 → j ≠ 15 → (μ' 0).1 j = (μ 0).1 j
theorem MD.mf {μ μ' : MMem} {d : DS} {t : Nat} (h : MD μ μ' d) : MF t μ μ' d := ⟨h.1, fun i hi _ => h.2.1 i hi, fun j hj _ _ _ => h.2.2 j hj⟩
theorem MF.tr {μ μ1 μ2 : MMem} {d1 d2 : DS} {t : Nat} (h1 : MF t μ μ1 d1) (h2 : MF t μ1 μ2 d2) : MF t μ μ2 d2 :=
  ⟨h2.1, fun i a b => (h2.2.1 i a b).trans (h1.2.1 i a b), fun j a b c d => (h2.2.2 j a b c d).trans (h1.2.2 j a b c d)⟩
theorem save_s {μ : MMem} {t : Nat} (ht : t = 5 ∨ t = 6) : ∃ μ', f_X12_carryAll t 1 μ = some μ' ∧ MF t μ μ' (dsM μ) ∧ dsR (μ' t).1 = dsM μ := by
  obtain ⟨μ', e, h14, h15, h13, hc, hq, hr, hf⟩ := carryAll_s (P := Sv μ t) (t := t) (x := 1) (μ := μ) (fun p i j μ hp hi hj h => Sv.step ht hp hi hj h) (Or.inr rfl)
    ⟨by simp (decide := true) only [rdI, if_true, if_false], by simp (decide := true) only [rdI, if_true, if_false], by simp (decide := true) only [rdI, if_true, if_false],
     fun i j hi hij => by simp only [rdI]; rw [if_neg (by omega), if_neg (by omega), if_neg (by omega)],
     fun q hq => by omega, fun i hi _ => by rw [uI_ne (by omega), uI_ne (by omega), uI_ne (by omega)],
     fun j a b c d => by simp only [rdI]; rw [if_neg (by omega), if_neg (by omega), if_neg (by omega)]⟩
  refine ⟨μ', e, ⟨?_, hr, hf⟩, ?_⟩
  · unfold dsM
    rw [hc 0 0 (by omega) (by omega), hc 0 1 (by omega) (by omega), hc 0 2 (by omega) (by omega), hc 0 3 (by omega) (by omega), hc 0 4 (by omega) (by omega)]
    exact ds_ext (fun j _ => rfl) (fun r w hr' hw => hc (1 + w) r (by omega) (by omega))
  · unfold dsM dsR
    rw [hq 0 (by omega), hq 1 (by omega), hq 2 (by omega), hq 3 (by omega), hq 4 (by omega)]
    refine ds_ext (fun j _ => rfl) (fun r w hr' hw => ?_)
    rw [hq _ (by omega)]
    have hcI : ∀ i, i < 6 → ∀ w, w < 4 → cI (5 + 4 * i + w) = 1 + w ∧ cJ (5 + 4 * i + w) = i := by decide +kernel
    rw [(hcI r hr' w hw).1, (hcI r hr' w hw).2]
theorem take_s {μ : MMem} {t : Nat} (ht : t = 5 ∨ t = 6) : ∃ μ', f_X12_carryAll t 0 μ = some μ' ∧ MF t μ μ' (dsR (μ t).1) ∧ μ' t = μ t := by
  obtain ⟨μ', e, h14, h15, h13, hq, hr, hf⟩ := carryAll_s (P := Rs μ t) (t := t) (x := 0) (μ := μ) (fun p i j μ hp hi hj h => Rs.step ht hp hi hj h) (Or.inl rfl)
    ⟨by simp (decide := true) only [rdI, if_true, if_false], by simp (decide := true) only [rdI, if_true, if_false], by simp (decide := true) only [rdI, if_true, if_false],
     fun q hq => by omega, fun i hi => by rw [uI_ne (by omega), uI_ne (by omega), uI_ne (by omega)],
     fun j a b c d => by simp only [rdI]; rw [if_neg (by omega), if_neg (by omega), if_neg (by omega)]⟩
  refine ⟨μ', e, ⟨?_, fun i a _ => hr i a, hf⟩, hr t (by omega)⟩
  unfold dsM dsR
  rw [← hq 0 (by omega), ← hq 1 (by omega), ← hq 2 (by omega), ← hq 3 (by omega), ← hq 4 (by omega)]
  refine ds_ext (fun j _ => rfl) (fun r w hr' hw => ?_)
  rw [← hq _ (by omega)]
  have hcI : ∀ i, i < 6 → ∀ w, w < 4 → cI (5 + 4 * i + w) = 1 + w ∧ cJ (5 + 4 * i + w) = i := by decide +kernel
  rw [(hcI r hr' w hw).1, (hcI r hr' w hw).2]
theorem open_s {μ : MMem} : ∃ μ', f_X12_open μ = some μ' ∧ MF 6 μ μ' (dsM μ) ∧ dsR (μ' 6).1 = dsM μ := by
  obtain ⟨μ', e, h⟩ := save_s (μ := μ) (t := 6) (Or.inr rfl)
  exact ⟨μ', by simp only [f_X12_open, e, b1], h⟩
theorem close_s {μ : MMem} : ∃ μ', f_X12_close μ = some μ' ∧ MF 6 μ μ' (dsR (μ 6).1) ∧ μ' 6 = μ 6 := by
  obtain ⟨μ', e, h⟩ := take_s (μ := μ) (t := 6) (Or.inr rfl)
  exact ⟨μ', by simp only [f_X12_close, e, b1], h⟩
