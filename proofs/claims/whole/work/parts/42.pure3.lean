/-! PURE, 3: the reference's dress -/
theorem M_q {μ : MMem} {j : Nat} (h : j < 5) : (dsM μ).1 j = [(μ 0).1 0, (μ 0).1 3, (μ 0).1 4, (μ 0).1 1, (μ 0).1 2].getD j 0 := ds_q h
theorem M_v {μ : MMem} {r w : Nat} (hr : r < 6) (hw : w < 4) : (dsM μ).2 r w = (μ (1 + w)).1 r := ds_v hr hw
theorem M_q0 {μ : MMem} : (dsM μ).1 0 = (μ 0).1 0 := ds_q (by decide)
theorem M_q1 {μ : MMem} : (dsM μ).1 1 = (μ 0).1 3 := ds_q (by decide)
theorem M_q2 {μ : MMem} : (dsM μ).1 2 = (μ 0).1 4 := ds_q (by decide)
theorem M_q3 {μ : MMem} : (dsM μ).1 3 = (μ 0).1 1 := ds_q (by decide)
theorem M_q4 {μ : MMem} : (dsM μ).1 4 = (μ 0).1 2 := ds_q (by decide)
theorem M_v0 {μ : MMem} {r : Nat} (hr : r < 6) : (dsM μ).2 r 0 = (μ 1).1 r := ds_v hr (by decide)
theorem M_v1 {μ : MMem} {r : Nat} (hr : r < 6) : (dsM μ).2 r 1 = (μ 2).1 r := ds_v hr (by decide)
theorem M_v2 {μ : MMem} {r : Nat} (hr : r < 6) : (dsM μ).2 r 2 = (μ 3).1 r := ds_v hr (by decide)
theorem M_v3 {μ : MMem} {r : Nat} (hr : r < 6) : (dsM μ).2 r 3 = (μ 4).1 r := ds_v hr (by decide)
theorem uI_same {μ : MMem} {i j : Nat} {v : Int32} : uI μ i j v i = (upd (μ i).1 j v, (μ i).2) := if_pos rfl
theorem uI_ne {μ : MMem} {i j i' : Nat} {v : Int32} (h : i' ≠ i) : uI μ i j v i' = μ i' := if_neg h
theorem uI_f {μ : MMem} {j j' : Nat} {v : Int32} (h : j' ≠ j) : (uI μ 0 j v 0).1 j' = (μ 0).1 j' := by
  rw [uI_same]
  exact if_neg h
theorem uI_s {μ : MMem} {i j : Nat} {v : Int32} : (uI μ i j v i).1 j = v := by
  rw [uI_same]
  exact if_pos rfl
/-- its dress becomes d; nothing else changes -/
def MD (μ μ' : MMem) (d : DS) : Prop := dsM μ' = d ∧ (∀ i, 4 < i → μ' i = μ i) ∧ ∀ j, 4 < j → (μ' 0).1 j = (μ 0).1 j
theorem MD.rf {μ : MMem} : MD μ μ (dsM μ) := ⟨rfl, fun _ _ => rfl, fun _ _ => rfl⟩
theorem MD.tr {μ μ1 μ2 : MMem} {d1 d2 : DS} (h1 : MD μ μ1 d1) (h2 : MD μ1 μ2 d2) : MD μ μ2 d2 := ⟨h2.1, fun i a => (h2.2.1 i a).trans (h1.2.1 i a), fun j a => (h2.2.2 j a).trans (h1.2.2 j a)⟩
theorem MD.v {μ : MMem} {r w : Nat} {x : Int32} (hr : r < 6) (hw : w < 4) : MD μ (uI μ (1 + w) r x) (setV (dsM μ) r w x) := by
  refine ⟨?_, fun i hi => uI_ne (by omega), fun j _ => by rw [uI_ne (by omega)]⟩
  refine Prod.ext (funext fun j => ?_) (funext fun r' => funext fun w' => ?_)
  · show (if j < 5 then _ else _) = (if j < 5 then _ else _)
    rw [uI_ne (show 0 ≠ 1 + w by omega)]
  · show (if r' < 6 ∧ w' < 4 then _ else _) = (if r' = r ∧ w' = w then x else if r' < 6 ∧ w' < 4 then _ else _)
    by_cases h : r' = r ∧ w' = w
    · obtain ⟨rfl, rfl⟩ := h
      rw [if_pos ⟨hr, hw⟩, if_pos ⟨rfl, rfl⟩, uI_same]
      exact if_pos rfl
    · rw [if_neg h]
      by_cases h2 : r' < 6 ∧ w' < 4
      · rw [if_pos h2, if_pos h2]
        by_cases hw' : w' = w
        · subst hw'
          rw [uI_same]
          exact if_neg (fun e => h ⟨e, rfl⟩)
        · rw [uI_ne (by omega)]
      · rw [if_neg h2, if_neg h2]
theorem MD.q {μ : MMem} {j c : Nat} {x : Int32} (h : (j = 0 ∧ c = 0) ∨ (j = 1 ∧ c = 3) ∨ (j = 2 ∧ c = 4) ∨ (j = 3 ∧ c = 1) ∨ (j = 4 ∧ c = 2)) : MD μ (uI μ 0 c x) (setQ (dsM μ) j x) := by
  refine ⟨?_, fun i hi => uI_ne (by omega), fun i hi => uI_f (by omega)⟩
  refine Prod.ext (funext fun i => ?_) (funext fun r' => funext fun w' => ?_)
  · show (if i < 5 then _ else _) = (if i = j then x else if i < 5 then _ else _)
    by_cases h5 : i < 5
    · rw [if_pos h5, if_pos h5]
      have hi : i = 0 ∨ i = 1 ∨ i = 2 ∨ i = 3 ∨ i = 4 := by omega
      rcases h with ⟨rfl, rfl⟩ | ⟨rfl, rfl⟩ | ⟨rfl, rfl⟩ | ⟨rfl, rfl⟩ | ⟨rfl, rfl⟩ <;> rcases hi with rfl | rfl | rfl | rfl | rfl <;> simp [uI, upR, upd]
    · rw [if_neg h5, if_neg h5, if_neg (by omega)]
  · show (if r' < 6 ∧ w' < 4 then _ else _) = (if r' < 6 ∧ w' < 4 then _ else _)
    rw [uI_ne (by omega)]
theorem in_i {p : Int32} {lo hi : Int64} : f_X12_in p.toInt64 lo hi = some (if lo.toInt ≤ p.toInt ∧ p.toInt ≤ hi.toInt then 1 else 0) := by
  unfold f_X12_in
  have e : p.toInt64.toInt = p.toInt := Int32.toInt_toInt64 p
  by_cases h1 : lg_cmp p.toInt64 lo < 0
  · rw [if_pos h1, if_neg]
    rw [lg_cmp_lt, Int64.lt_iff_toInt_lt, e] at h1
    omega
  · rw [if_neg h1]
    rw [lg_cmp_lt, Int64.lt_iff_toInt_lt, e] at h1
    by_cases h2 : 0 < lg_cmp p.toInt64 hi
    · rw [if_pos h2, if_neg]
      rw [lg_cmp_gt, Int64.lt_iff_toInt_lt, e] at h2
      omega
    · rw [if_neg h2, if_pos]
      rw [lg_cmp_gt, Int64.lt_iff_toInt_lt, e] at h2
      omega
theorem within_i {p lo hi : Int32} : f_X11_within p lo hi = some (if lo.toInt ≤ p.toInt ∧ p.toInt ≤ hi.toInt then 1 else 0) := by
  unfold f_X11_within
  by_cases h1 : p < lo
  · rw [if_pos h1, if_neg]
    rw [Int32.lt_iff_toInt_lt] at h1
    omega
  · rw [if_neg h1]
    rw [Int32.lt_iff_toInt_lt] at h1
    by_cases h2 : hi < p
    · rw [if_pos h2, if_neg]
      rw [Int32.lt_iff_toInt_lt] at h2
      omega
    · rw [if_neg h2, if_pos]
      rw [Int32.lt_iff_toInt_lt] at h2
      omega
theorem pred_i : ∀ n, n < 7 → (nI n - 1).toInt = (n : Int) - 1 := by decide
theorem isRing_y {μ : MMem} {n r : Nat} (hn : (dsM μ).1 0 = nI n) (hr : r < n) (h6 : n ≤ 6) : f_X12_isRing (nI r) μ = some 1 := by
  rw [M_q0] at hn
  simp only [f_X12_isRing, bnd, hn, in_i, b1]
  rw [if_pos (show (0 : Int64).toInt ≤ (nI r).toInt ∧ (nI r).toInt ≤ ((nI n - 1).toInt64).toInt by
    rw [Int32.toInt_toInt64, pred_i n (by omega), nI_toInt (by omega), Int64.toInt_zero]
    omega)]
  rfl
theorem isRing_n {μ : MMem} {n : Nat} {p : Int32} (hn : (dsM μ).1 0 = nI n) (h : p < 0 ∨ nI n ≤ p) (h6 : n ≤ 6) : f_X12_isRing p μ = some 0 := by
  rw [M_q0] at hn
  simp only [f_X12_isRing, bnd, hn, in_i, b1]
  rw [if_neg (show ¬ ((0 : Int64).toInt ≤ p.toInt ∧ p.toInt ≤ ((nI n - 1).toInt64).toInt) by
    rw [Int32.toInt_toInt64, pred_i n (by omega), Int64.toInt_zero]
    rw [Int32.lt_iff_toInt_lt, Int32.le_iff_toInt_le, nI_toInt (by omega), Int32.toInt_zero] at h
    omega)]
  rfl
theorem bad_i {n N : Nat} (h : n < N) (hN : N < 2 ^ 31) : (nI n < 0 ∨ N ≤ n) = False := eq_false fun z => z.elim (nI_pos (by omega)) (by omega)
theorem easeOf_s {μ : MMem} {r : Nat} {mv : Int32} (hr : r < 6) (hm : mv = 0 ∨ mv = 1 ∨ mv = 2 ∨ mv = 3) : f_X12_easeOf (nI r) mv μ = some (easeS (dsM μ) r mv) := by
  have hc := nI_clamp (show r < 2 ^ 31 by omega)
  have hi : (nI r < 0 ∨ 6 ≤ r) = False := bad_i hr (by decide)
  simp only [f_X12_easeOf, jn, bnd, hc, hi, if_false, easeS, needS, M_v0 hr, M_v1 hr, M_v3 hr]
  rcases hm with rfl | rfl | rfl | rfl
  · simp (decide := true) only [if_true, if_false]
  · simp (decide := true) only [if_true, if_false]
  · by_cases hz : r = 0
    · simp (decide := true) only [(zero_i hr).mpr hz, hz, if_true, if_false]
    · have hz' : ¬ nI r = 0 := fun q => hz ((zero_i hr).mp q)
      simp (decide := true) only [hz', hz, if_true, if_false]
  · by_cases he : r % 2 = 0
    · simp (decide := true) only [(even_i hr).mpr he, he, if_true, if_false]
    · have he' : ¬ nI r - nI r / 2 * 2 = 0 := fun q => he ((even_i hr).mp q)
      simp (decide := true) only [he', he, if_true, if_false]
theorem posS_m {x : Int32} : posS x = if x ≤ 0 then 0 else x := by
  unfold posS
  by_cases h : 0 < x
  · rw [if_pos h, if_neg (Int32.not_le.mpr h)]
  · rw [if_neg h, if_pos (Int32.not_lt.mp h)]
theorem lackInM_s {μ : MMem} {r : Nat} (hr : r < 6) {a : Int32} {K : Int32 → Int32 → Option Int32} : f_X12_lacksNow_L14 μ (nI r) 5000 a 0 K = K (a + posS ((dsM μ).1 1 - easeS (dsM μ) r 0) + posS ((dsM μ).1 1 - easeS (dsM μ) r 1) + posS ((dsM μ).1 1 - easeS (dsM μ) r 2) + posS ((dsM μ).1 1 - easeS (dsM μ) r 3)) 4 := by
  have stop : ∀ (n : Nat) (a : Int32), f_X12_lacksNow_L14 μ (nI r) (n + 1) a 4 K = K a 4 := fun n a => by
    rw [f_X12_lacksNow_L14, if_pos (by decide)]
  have step : ∀ (n : Nat) (a mv mv' : Int32), ¬ 4 ≤ mv → mv + 1 = mv' → (mv = 0 ∨ mv = 1 ∨ mv = 2 ∨ mv = 3) → f_X12_lacksNow_L14 μ (nI r) (n + 1) a mv K = f_X12_lacksNow_L14 μ (nI r) n (a + posS ((dsM μ).1 1 - easeS (dsM μ) r mv)) mv' K := fun n a mv mv' h1 h2 h3 => by
    rw [f_X12_lacksNow_L14, if_neg h1, easeOf_s hr h3, posS_m, M_q1]
    simp only [b1, bnd, h2]
    by_cases h : (μ 0).1 3 - easeS (dsM μ) r mv ≤ 0
    · rw [if_pos h, if_pos h]
    · rw [if_neg h, if_neg h]
  rw [step 4999 a 0 1 (by decide) (by decide) (by simp), step 4998 _ 1 2 (by decide) (by decide) (by simp), step 4997 _ 2 3 (by decide) (by decide) (by simp), step 4996 _ 3 4 (by decide) (by decide) (by simp), stop 4995]
theorem lackML_s {μ : MMem} {N : Nat} (hN : (dsM μ).1 0 = nI N) (h6 : N ≤ 6) {K : Int32 → Int32 → Option Int32} : ∀ (n i : Nat), i ≤ N → N < i + n → f_X12_lacksNow_L4 μ n (lackTo (dsM μ) i) (nI i) K = K (lackTo (dsM μ) N) (nI N) := by
  have hN' := hN
  rw [M_q0] at hN'
  intro n
  induction n with
  | zero => intro i h1 h2; omega
  | succ n ih =>
    intro i h1 h2
    rw [f_X12_lacksNow_L4]
    by_cases hi : i = N
    · subst hi
      rw [if_pos (by rw [hN']; exact nI_le (Nat.le_refl _) (by omega))]
    · rw [if_neg (by rw [hN']; exact nI_ge (by omega) (by omega)), lackInM_s (by omega), easeOf_s (by omega) (Or.inl rfl)]
      simp only [b1, bnd]
      rw [← ih (i + 1) (by omega) (by omega)]
      simp only [lackTo, lackRing, nI_1]
      rw [posS_m (x := easeS (dsM μ) i 0 - (dsM μ).1 2), M_q2]
      by_cases h : easeS (dsM μ) i 0 - (μ 0).1 4 ≤ 0
      · rw [if_pos h, if_pos h]
      · rw [if_neg h, if_neg h]
theorem lacksNow_s {μ : MMem} {N : Nat} (hN : (dsM μ).1 0 = nI N) (h6 : N ≤ 6) : f_X12_lacksNow μ = some (lackS (dsM μ)) := by
  rw [f_X12_lacksNow]
  have := lackML_s (K := fun x _ => some x) hN h6 5000 0 (by omega) (by omega)
  simp only [lackS, hN, nI_clamp (show N < 2 ^ 31 by omega)]
  exact this
theorem mayBe_s {μ : MMem} {n j f r : Nat} (hj : j < 8) (hn : (dsM μ).1 0 = nI n) (hr : r < n) (h6 : n ≤ 6) : f_X12_mayBe (nI j) (nI f) (nI r) μ = some (mayI (dsM μ) n j f r) := by
  have hr6 : r < 6 := by omega
  have hc := nI_clamp (show r < 2 ^ 31 by omega)
  have hi : (nI r < 0 ∨ 6 ≤ r) = False := bad_i hr6 (by decide)
  have hn' := hn
  rw [M_q0] at hn'
  have e1 : nI n ≤ nI (r + 1) ↔ ¬ r + 1 < n := by rw [nI_leI (by omega) (by omega)]; omega
  have e2 : nI (r + 1) = nI n ↔ ¬ r + 1 < n := by rw [nI_eq (by omega) (by omega)]; omega
  refine lt8 (P := fun j => f_X12_mayBe (nI j) (nI f) (nI r) μ = some (mayI (dsM μ) n j f r)) hj ?_ ?_ ?_ ?_ ?_ ?_ ?_ ?_ <;>
    simp (decide := true) only [f_X12_mayBe, mayI, hi, hc, M_v1 hr6, M_v2 hr6, M_q3, hn', nI_1, e1, e2, if_true, if_false] <;>
    (repeat' split) <;> first | rfl | contradiction | omega
theorem minutesOf_s {j f : Nat} (hj : j < 8) (hf : f < 10) : f_X12_minutesOf (nI j) (nI f) = some (costX j (nI f)) := by
  have : ∀ j, j < 8 → ∀ f, f < 10 → f_X12_minutesOf (nI j) (nI f) = some (costX j (nI f)) := by decide +kernel
  exact this j hj f hf
