/-! PURE, 2: pins of the class -/
def mayI (d : DS) (n j f r : Nat) : Int32 :=
  if j = 0 then 1 else if j = 1 then (if d.2 r 1 ≤ nI f then 0 else 1) else if j = 2 then (if d.2 r 2 < nI f then 0 else 1)
  else if j = 3 then (if d.2 r 1 ≤ nI f then 0 else if r + 1 < n then 1 else 0) else if j = 4 then 1 else if j = 5 then (if d.1 3 ≤ 0 then 0 else 1)
  else if j = 6 then (if d.2 r 2 < nI f then 0 else 1) else (if d.2 r 1 ≤ nI f then 0 else if r + 1 < n then 0 else 1)
theorem mayI_01 {d : DS} {n j f r : Nat} : mayI d n j f r = 0 ∨ mayI d n j f r = 1 := by
  unfold mayI
  repeat' split
  all_goals first | exact Or.inl rfl | exact Or.inr rfl
theorem lt8 {P : Nat → Prop} {j : Nat} (hj : j < 8) (h0 : P 0) (h1 : P 1) (h2 : P 2) (h3 : P 3) (h4 : P 4) (h5 : P 5) (h6 : P 6) (h7 : P 7) : P j := by
  match j, hj with
  | 0, _ => exact h0
  | 1, _ => exact h1
  | 2, _ => exact h2
  | 3, _ => exact h3
  | 4, _ => exact h4
  | 5, _ => exact h5
  | 6, _ => exact h6
  | 7, _ => exact h7
theorem canTaken {σ : Mem} {k r f : Nat} (hr : r < 6) : f_X7_canBe k (nI r) (nI f) σ = some (if (dsX σ k).2 r 1 ≤ nI f then 0 else 1) := by
  simp only [f_X7_canBe, get1 hr, b1]
  split <;> rfl
theorem canLet {σ : Mem} {k r f : Nat} (hr : r < 6) : f_X2_canBe k (nI r) (nI f) σ = some (if (dsX σ k).2 r 2 < nI f then 0 else 1) := by
  simp only [f_X2_canBe, get2 hr, b1]
  split <;> rfl
theorem hasNext {σ : Mem} {k n r : Nat} (hn : (dsX σ k).1 0 = nI n) (hr : r < n) (h6 : n ≤ 6) : f_X0_has k (nI r + 1) σ = some (if r + 1 < n then 1 else 0) := by
  rw [nI_1]
  by_cases h : r + 1 < n
  · rw [has_yes hn h h6, if_pos h]
  · rw [has_no hn (Or.inr (nI_le (by omega) (by omega))), if_neg h]
theorem canBe_s {σ : Mem} {k n j f r : Nat} (hj : j < 8) (hn : (dsX σ k).1 0 = nI n) (hr : r < n) (h6 : n ≤ 6) : f_dp_canBe j k (nI r) (nI f) σ = some (mayI (dsX σ k) n j f r) := by
  have hr6 : r < 6 := by omega
  refine lt8 (P := fun j => f_dp_canBe j k (nI r) (nI f) σ = some (mayI (dsX σ k) n j f r)) hj rfl ?_ ?_ ?_ rfl ?_ ?_ ?_
  · show f_X7_canBe k (nI r) (nI f) σ = _
    rw [canTaken hr6]; rfl
  · show f_X2_canBe k (nI r) (nI f) σ = _
    rw [canLet hr6]; rfl
  · show f_X9_canBe k (nI r) (nI f) σ = some (if (dsX σ k).2 r 1 ≤ nI f then 0 else if r + 1 < n then 1 else 0)
    simp only [f_X9_canBe, canTaken hr6, b1, hasNext hn hr h6]
    by_cases h1 : (dsX σ k).2 r 1 ≤ nI f
    · simp [h1]
    · by_cases h2 : r + 1 < n <;> simp [h1, h2]
  · show f_X10_canBe k (nI r) (nI f) σ = some (if (dsX σ k).1 3 ≤ 0 then 0 else 1)
    rw [X_q (by decide)]
    simp only [f_X10_canBe]
    split <;> rfl
  · show f_X2_canBe k (nI r) (nI f) σ = _
    rw [canLet hr6]; rfl
  · show f_X1_canBe k (nI r) (nI f) σ = some (if (dsX σ k).2 r 1 ≤ nI f then 0 else if r + 1 < n then 0 else 1)
    simp only [f_X1_canBe, canTaken hr6, b1, hasNext hn hr h6]
    by_cases h1 : (dsX σ k).2 r 1 ≤ nI f
    · simp [h1]
    · by_cases h2 : r + 1 < n <;> simp [h1, h2]
theorem allows_s {σ : Mem} {k n j f r : Nat} (hj : j < 8) (hn : (dsX σ k).1 0 = nI n) (hr : r < n) (h6 : n ≤ 6) : f_X0_allows k j (nI f) (nI r) σ = some (mayI (dsX σ k) n j f r) := by
  simp only [f_X0_allows, has_yes hn hr h6, b1, canBe_s hj hn hr h6]
  rw [if_neg (by decide)]
  rcases mayI_01 (d := dsX σ k) (n := n) (j := j) (f := f) (r := r) with h | h <;> rw [h] <;> rfl
theorem allows_no {σ : Mem} {k n j : Nat} {p q : Int32} (hn : (dsX σ k).1 0 = nI n) (h : p < 0 ∨ nI n ≤ p) : f_X0_allows k j q p σ = some 0 := by
  simp only [f_X0_allows, has_no hn h, b1]
  rfl
-- what a pin does
def takenX (d : DS) (f r : Nat) : DS := opK (opW d r (-(nI f))) r (nI f / 2)
def letX (d : DS) (f r : Nat) : DS := opK (opW d r (nI f)) r (-(nI f))
def aboveX (d : DS) : Nat → DS
  | 0 => d
  | n + 1 => opW (aboveX d n) n (-1)
def workX (d : DS) (j f r : Nat) : DS :=
  if j = 0 then d else if j = 1 then takenX d f r else if j = 2 then letX d f r else if j = 3 then opW (takenX d f r) (r + 1) (nI f)
  else if j = 4 then opW d r (2 * nI f) else if j = 5 then opH d (-1) else if j = 6 then opH (letX d f r) (nI f) else aboveX (takenX d f r) r
def costX (j : Nat) (f : Int32) : Int32 :=
  if j = 0 then 1 else if j = 1 then 1 + f else if j = 2 then 1 + 2 * f else if j = 3 then 3 * (1 + f) else if j = 4 then 1 + 2 * f + 9 else if j = 5 then 1 - 1 else if j = 6 then 1 + 2 * f - f else 1 + f + 4
theorem cost_s {j : Nat} {f : Int32} (hj : j < 8) : f_dp_cost j f = some (costX j f) := by
  refine lt8 (P := fun j => f_dp_cost j f = some (costX j f)) hj rfl rfl rfl rfl rfl rfl rfl rfl
theorem taken_s {σ : Mem} {k r f : Nat} (hr : r < 6) : ∃ σ', f_X7_work k (nI r) (nI f) σ = some σ' ∧ DX σ σ' k (takenX (dsX σ k) f r) := by
  obtain ⟨σ1, e1, h1⟩ := widen_s (σ := σ) (k := k) (z := -(nI f)) hr
  obtain ⟨σ2, e2, h2⟩ := keepMore_s (σ := σ1) (k := k) (z := nI f / 2) hr
  refine ⟨σ2, by simp only [f_X7_work, e1, b1, e2], ?_⟩
  rw [h1.1] at h2
  exact h1.tr h2
theorem let_s {σ : Mem} {k r f : Nat} (hr : r < 6) : ∃ σ', f_X2_work k (nI r) (nI f) σ = some σ' ∧ DX σ σ' k (letX (dsX σ k) f r) := by
  obtain ⟨σ1, e1, h1⟩ := widen_s (σ := σ) (k := k) (z := nI f) hr
  obtain ⟨σ2, e2, h2⟩ := keepMore_s (σ := σ1) (k := k) (z := -(nI f)) hr
  refine ⟨σ2, by simp only [f_X2_work, e1, b1, e2], ?_⟩
  rw [h1.1] at h2
  exact h1.tr h2
theorem above_s {σ0 : Mem} {k r : Nat} (hr : r < 6) {K : Int32 → Mem → Option Mem} : ∀ (n i : Nat) (σ : Mem), i ≤ r → r < i + n → DX σ0 σ k (aboveX (dsX σ0 k) i) → ∃ σ', f_X1_work_L10 k (nI r) n (nI i) σ K = K (nI r) σ' ∧ DX σ0 σ' k (aboveX (dsX σ0 k) r) := by
  intro n
  induction n with
  | zero => intro i σ h1 h2; omega
  | succ n ih =>
    intro i σ h1 h2 hd
    rw [f_X1_work_L10]
    by_cases hi : i = r
    · subst hi
      rw [if_pos (nI_le (Nat.le_refl _) (by omega))]
      exact ⟨σ, rfl, hd⟩
    · rw [if_neg (nI_ge (by omega) (by omega))]
      obtain ⟨σ1, e1, g1⟩ := widen_s (σ := σ) (k := k) (r := i) (z := -1) (by omega)
      rw [hd.1] at g1
      simp only [e1, b1, bnd]
      rw [nI_1]
      exact ih (i + 1) σ1 (by omega) (by omega) (hd.tr g1)
theorem work_s {σ : Mem} {k j f r : Nat} (hj : j < 8) (hr : r < 6) (h3 : j = 3 → r + 1 < 6) : ∃ σ', f_dp_work j k (nI r) (nI f) σ = some σ' ∧ DX σ σ' k (workX (dsX σ k) j f r) := by
  refine lt8 (P := fun j => (j = 3 → r + 1 < 6) → ∃ σ', f_dp_work j k (nI r) (nI f) σ = some σ' ∧ DX σ σ' k (workX (dsX σ k) j f r)) hj ?_ ?_ ?_ ?_ ?_ ?_ ?_ ?_ h3
  · intro _; exact ⟨σ, rfl, DX.rf⟩
  · intro _; exact taken_s hr
  · intro _; exact let_s hr
  · intro h3
    obtain ⟨σ1, e1, h1⟩ := taken_s (σ := σ) (k := k) (f := f) hr
    obtain ⟨σ2, e2, h2⟩ := widen_s (σ := σ1) (k := k) (r := r + 1) (z := nI f) (h3 rfl)
    refine ⟨σ2, ?_, ?_⟩
    · show f_X9_work k (nI r) (nI f) σ = _
      simp only [f_X9_work, e1, b1, nI_1, e2]
    · rw [h1.1] at h2
      exact h1.tr h2
  · intro _
    obtain ⟨σ1, e1, h1⟩ := widen_s (σ := σ) (k := k) (z := 2 * nI f) hr
    exact ⟨σ1, by show f_X4_work k (nI r) (nI f) σ = _; simp only [f_X4_work, e1, b1], h1⟩
  · intro _
    obtain ⟨σ1, e1, h1⟩ := pierce_s (σ := σ) (k := k) (z := -1)
    exact ⟨σ1, by show f_X10_work k (nI r) (nI f) σ = _; simp only [f_X10_work, e1, b1], h1⟩
  · intro _
    obtain ⟨σ1, e1, h1⟩ := let_s (σ := σ) (k := k) (f := f) hr
    obtain ⟨σ2, e2, h2⟩ := pierce_s (σ := σ1) (k := k) (z := nI f)
    refine ⟨σ2, ?_, ?_⟩
    · show f_X6_work k (nI r) (nI f) σ = _
      simp only [f_X6_work, e1, b1, e2]
    · rw [h1.1] at h2
      exact h1.tr h2
  · intro _
    obtain ⟨σ1, e1, h1⟩ := taken_s (σ := σ) (k := k) (f := f) hr
    obtain ⟨σ2, e2, h2⟩ := above_s (σ0 := σ1) (k := k) hr (K := fun _ σ => some σ) 5000 0 σ1 (by omega) (by omega) DX.rf
    refine ⟨σ2, ?_, ?_⟩
    · show f_X1_work k (nI r) (nI f) σ = _
      simp only [f_X1_work, e1, b1]
      exact e2
    · rw [h1.1] at h2
      exact h1.tr h2
def addM (x y : Int32) : Int32 := if x + y < 9999 then x + y else 9999
def doesX (d : DS) (j f r : Nat) : DS := setQ (workX d j f r) 4 (addM ((workX d j f r).1 4) (costX j (nI f)))
theorem mayI_3 {d : DS} {n f r : Nat} (h : mayI d n 3 f r = 1) : r + 1 < n := by
  have h' : (if d.2 r 1 ≤ nI f then (0 : Int32) else if r + 1 < n then 1 else 0) = 1 := h
  by_cases h1 : d.2 r 1 ≤ nI f
  · rw [if_pos h1] at h'; exact absurd h' (by decide)
  · rw [if_neg h1] at h'
    by_cases h2 : r + 1 < n
    · exact h2
    · rw [if_neg h2] at h'; exact absurd h' (by decide)
theorem tryPin_y {σ : Mem} {k n j f r : Nat} (hj : j < 8) (hn : (dsX σ k).1 0 = nI n) (hr : r < n) (h6 : n ≤ 6) (hm : mayI (dsX σ k) n j f r = 1) : ∃ σ', f_X0_tryPin k j (nI f) (nI r) σ = some (1, σ') ∧ DX σ σ' k (doesX (dsX σ k) j f r) := by
  obtain ⟨σ1, e1, h1⟩ := work_s (σ := σ) (k := k) (f := f) hj (show r < 6 by omega) (fun h => by subst h; have := mayI_3 hm; omega)
  refine ⟨uX σ1 (1 + 2 * k) (4 + 1) (addM (σ1 (1 + 2 * k) 5) (costX j (nI f))), ?_, ?_⟩
  · simp only [f_X0_tryPin, allows_s hj hn hr h6, b1, hm, e1, cost_s hj, bnd, addM]
    rfl
  · have h2 := DX.q (σ := σ1) (k := k) (j := 4) (x := addM (σ1 (1 + 2 * k) 5) (costX j (nI f))) (by decide)
    rw [h1.1] at h2
    have e : σ1 (1 + 2 * k) 5 = (workX (dsX σ k) j f r).1 4 := by rw [← h1.1, X_q (by decide)]
    rw [e] at h2 ⊢
    exact h1.tr h2
theorem tryPin_n {σ : Mem} {k n j f r : Nat} (hj : j < 8) (hn : (dsX σ k).1 0 = nI n) (hr : r < n) (h6 : n ≤ 6) (hm : mayI (dsX σ k) n j f r = 0) : f_X0_tryPin k j (nI f) (nI r) σ = some (0, σ) := by
  simp only [f_X0_tryPin, allows_s hj hn hr h6, b1, hm]
  rfl
theorem tryPin_o {σ : Mem} {k n j : Nat} {p q : Int32} (hn : (dsX σ k).1 0 = nI n) (h : p < 0 ∨ nI n ≤ p) : f_X0_tryPin k j q p σ = some (0, σ) := by
  simp only [f_X0_tryPin, allows_no hn h, b1]
  rfl
/-- a dress becomes like another -/
theorem becomeLike_s {σ : Mem} {k k' : Nat} (hk : k ≠ k') : ∃ σ', f_X0_becomeLike k k' σ = some σ' ∧ DX σ σ' k (dsX σ k') := by
  have c : ∀ x : Int32, x = 24 → ¬ ((0 : Int32) < 0 ∨ (0 : Int32) < 0 ∨ x < 0 ∨ 24 < (0 : Int32).toNatClampNeg + x.toNatClampNeg ∨ 24 < (0 : Int32).toNatClampNeg + x.toNatClampNeg) := fun x hx => by subst hx; decide
  refine ⟨_, by simp only [f_X0_becomeLike, bnd]; rw [if_neg (c _ (by decide))], ?_, ?_⟩
  · refine ds_ext (fun j hj => ?_) (fun r w hr hw => ?_)
    · have h5 : j = 0 ∨ j = 1 ∨ j = 2 ∨ j = 3 ∨ j = 4 := by omega
      have n1 : 1 + 2 * k' ≠ 1 + 2 * k := by omega
      have n2 : 1 + 2 * k' ≠ 2 + 2 * k := by omega
      have n3 : 1 + 2 * k ≠ 2 + 2 * k := by omega
      have n4 : ¬ 2 * k' = 2 * k := by omega
      have n5 : ¬ k' = k := Ne.symm hk
      rcases h5 with rfl | rfl | rfl | rfl | rfl <;> simp [uX, upR, upd, n1, n2, n3, n4, n5]
    · have n3 : 2 + 2 * k ≠ 1 + 2 * k := by omega
      have hc : 4 * r + w < 24 := by omega
      simp [uX, upR, n3, va_cpy, show (0 : Int32).toNatClampNeg = 0 from rfl, show (24 : Int32).toNatClampNeg = 24 from rfl, hc]
  · intro i h1 h2
    simp [uX, upR, h1, h2]
