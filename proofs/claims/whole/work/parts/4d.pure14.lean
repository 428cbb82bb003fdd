/-! PURE, 14: fit -/
def mkN (b : Nat → Bool) : Nat → Nat
  | 0 => 0
  | i + 1 => if b i then mkN b i + 2 ^ i else mkN b i
theorem mk_lt {b : Nat → Bool} : ∀ i, mkN b i < 2 ^ i := by
  intro i
  induction i with
  | zero => show (0 : Nat) < 1; omega
  | succ i ih =>
    show (if b i then mkN b i + 2 ^ i else mkN b i) < 2 ^ (i + 1)
    have : 2 ^ (i + 1) = 2 ^ i + 2 ^ i := by rw [Nat.pow_succ]; omega
    split <;> omega
theorem or_f : ∀ i, i < 6 → ∀ x, x < 32 → x < 2 ^ i → nI x ||| ((1 : Int32) <<< (nI i &&& 31)) = nI (x + 2 ^ i) ∧ nI x ||| (0 : Int32) = nI x := by decide +kernel
theorem and_fa : ∀ i, i < 6 → ∀ x, x < 2 ^ i → ∀ y, y < 2 ^ i → (x + 2 ^ i) &&& (y + 2 ^ i) = (x &&& y) + 2 ^ i := by decide +kernel
theorem and_fb : ∀ i, i < 6 → ∀ x, x < 2 ^ i → ∀ y, y < 2 ^ i → (x + 2 ^ i) &&& y = x &&& y := by decide +kernel
theorem and_fc : ∀ i, i < 6 → ∀ x, x < 2 ^ i → ∀ y, y < 2 ^ i → x &&& (y + 2 ^ i) = x &&& y := by decide +kernel
theorem and_n : ∀ x, x < 64 → ∀ y, y < 64 → nI x &&& nI y = nI (x &&& y) := by decide +kernel
theorem mk_le {i : Nat} (h : i < 6) : 2 ^ i ≤ 32 := by
  have : ∀ i, i < 6 → 2 ^ i ≤ 32 := by decide
  exact this i h
theorem mk_and {a b : Nat → Bool} : ∀ i, i ≤ 6 → mkN a i &&& mkN b i = mkN (fun r => a r && b r) i := by
  intro i
  induction i with
  | zero =>
    intro _
    show (0 : Nat) &&& 0 = 0
    rfl
  | succ i ih =>
    intro h
    have h2 := ih (by omega)
    have ha := mk_lt (b := a) i
    have hb := mk_lt (b := b) i
    have h32 := mk_le (show i < 6 by omega)
    show (if a i then mkN a i + 2 ^ i else mkN a i) &&& (if b i then mkN b i + 2 ^ i else mkN b i) = (if (a i && b i) then mkN (fun r => a r && b r) i + 2 ^ i else mkN (fun r => a r && b r) i)
    cases h3 : a i <;> cases h4 : b i <;> simp only [Bool.and_self, Bool.and_true, Bool.and_false, Bool.false_and, Bool.true_and, if_true, if_false, Bool.false_eq_true] <;> rw [← h2]
    · exact and_fc i (by omega) _ ha _ hb
    · exact and_fb i (by omega) _ ha _ hb
    · exact and_fa i (by omega) _ ha _ hb
theorem mk_i {a b : Nat → Bool} {n : Nat} (h6 : n ≤ 6) : nI (mkN a n) &&& nI (mkN b n) = nI (mkN (fun r => a r && b r) n) := by
  have h64 : 2 ^ n ≤ 64 := by
    have : ∀ n, n < 7 → 2 ^ n ≤ 64 := by decide
    exact this n (by omega)
  have ha := mk_lt (b := a) n
  have hb := mk_lt (b := b) n
  rw [and_n _ (by omega) _ (by omega), mk_and n h6]
theorem mk_or {b : Nat → Bool} {i : Nat} (h : i < 6) : nI (mkN b i) ||| ((1 : Int32) <<< (nI i &&& 31)) = nI (mkN b i + 2 ^ i) ∧ nI (mkN b i) ||| (0 : Int32) = nI (mkN b i) := by
  have hb := mk_lt (b := b) i
  have h32 := mk_le h
  exact or_f i h (mkN b i) (by omega) hb
/-- does ring r fit at move j -/
def bf (d : DS) (j r : Nat) : Bool := !decide (fitS d r (nI j) = 0)
theorem fitting_s {σ : Mem} {n j : Nat} (hX : (dsX σ 0).1 0 = nI n) (h6 : n ≤ 6) : f_X11_fitting (nI j) σ = some (nI (mkN (bf (dsX σ 0) j) n)) := by
  have hq : σ (1 + 2 * 0) 1 = nI n := hX
  have : ∀ (m i : Nat), i ≤ n → n < i + m → f_X11_fitting_L4 (nI j) σ m (nI (mkN (bf (dsX σ 0) j) i)) (nI i) (fun x _ => some x) = some (nI (mkN (bf (dsX σ 0) j) n)) := by
    intro m
    induction m with
    | zero => intro i h1 h2; omega
    | succ m ih =>
      intro i h1 h2
      rw [f_X11_fitting_L4, hq]
      by_cases e : i = n
      · subst e
        rw [if_pos (nI_le (Nat.le_refl _) (by omega))]
      · have hi : i < 6 := by omega
        have h3 := ih (i + 1) (by omega) (by omega)
        rw [if_neg (nI_ge (by omega) (by omega)), fits_s hi, b1s]
        by_cases hf : fitS (dsX σ 0) i (nI j) = 0
        · have hb : bf (dsX σ 0) j i = false := by unfold bf; rw [decide_eq_true hf]; rfl
          rw [if_pos hf, bnds, nI_1]
          have h4 : mkN (bf (dsX σ 0) j) (i + 1) = mkN (bf (dsX σ 0) j) i := by
            show (if bf (dsX σ 0) j i then _ else _) = _
            rw [hb]; rfl
          rw [h4] at h3
          exact h3
        · have hb : bf (dsX σ 0) j i = true := by unfold bf; rw [decide_eq_false hf]; rfl
          rw [if_neg hf, bnds, bnds, nI_1, (mk_or hi).1]
          have h4 : mkN (bf (dsX σ 0) j) (i + 1) = mkN (bf (dsX σ 0) j) i + 2 ^ i := by
            show (if bf (dsX σ 0) j i then _ else _) = _
            rw [hb]; rfl
          rw [h4] at h3
          exact h3
  exact this 5000 0 (by omega) (by omega)
theorem fitsM_s {μ : MMem} {r j : Nat} (hr : r < 6) (hj : j < 4) : f_X12_fits (nI r) (nI j) μ = some (fitS (dsM μ) r (nI j)) := by
  have h4 : j = 0 ∨ j = 1 ∨ j = 2 ∨ j = 3 := by omega
  have h4' : nI j = 0 ∨ nI j = 1 ∨ nI j = 2 ∨ nI j = 3 := by
    rcases h4 with rfl | rfl | rfl | rfl
    · exact Or.inl rfl
    · exact Or.inr (Or.inl rfl)
    · exact Or.inr (Or.inr (Or.inl rfl))
    · exact Or.inr (Or.inr (Or.inr rfl))
  rw [f_X12_fits, easeOf_s hr h4', b1s, ← M_q1, ← M_q2]
  unfold fitS
  by_cases h1 : easeS (dsM μ) r (nI j) < (dsM μ).1 1
  · rw [if_pos h1, if_pos h1]
  · rw [if_neg h1, if_neg h1]
    by_cases h2 : j = 0
    · subst h2
      rw [if_neg (show ¬ (0 : Int32) < nI 0 by decide), if_pos (show nI 0 = 0 from rfl)]
      split <;> rfl
    · rw [if_pos (show (0 : Int32) < nI j from nI_lt (a := 0) (by omega) (by omega)), if_neg (nI_ne0 (by omega) (by omega))]
def bI (b : Bool) : Int32 := if b then 1 else 0
theorem bI0 {b : Bool} : (bI b = 0) = (b = false) := by cases b <;> decide
theorem fit39 {μ : MMem} {r : Nat} {p1 : Int32} {tq : Nat → Bool} (hr : r < 6) (ht : ∀ j, j < 4 → ((p1 < 0 ∨ nI j = p1) ↔ tq j = true)) {n j : Nat} {b : Bool} (hj : j < 4) {K : Int32 → Int32 → MMem → Option (Int32 × MMem)} :
    f_X12_fit_L39 p1 (nI r) (n + 1) (bI b) (nI j) μ K = f_X12_fit_L39 p1 (nI r) n (bI (b && (!tq j || bf (dsM μ) j r))) (nI (j + 1)) μ K := by
  rw [f_X12_fit_L39, if_neg (show ¬ (4 : Int32) ≤ nI j from nI_ge (a := j) (b := 4) hj (by decide))]
  cases b
  · rw [if_pos (show bI false = 0 from rfl), bnds, nI_1]; rfl
  · rw [if_neg (show ¬ bI true = 0 by decide)]
    simp only [jn, fitsM_s hr hj, b1s, bnds, nI_1]
    have h := ht j hj
    by_cases h1 : p1 < 0 ∨ nI j = p1
    · have h2 := h.mp h1
      have h3 : (true && (!tq j || bf (dsM μ) j r)) = bf (dsM μ) j r := by rw [h2]; rfl
      rw [h3]
      have g : (if fitS (dsM μ) r (nI j) = 0 then f_X12_fit_L39 p1 (nI r) n 0 (nI (j + 1)) μ K else f_X12_fit_L39 p1 (nI r) n 1 (nI (j + 1)) μ K) = f_X12_fit_L39 p1 (nI r) n (bI (bf (dsM μ) j r)) (nI (j + 1)) μ K := by
        by_cases h5 : fitS (dsM μ) r (nI j) = 0
        · rw [if_pos h5]; unfold bf; rw [decide_eq_true h5]; rfl
        · rw [if_neg h5]; unfold bf; rw [decide_eq_false h5]; rfl
      by_cases h4 : p1 < 0
      · rw [if_pos h4]; exact g
      · rw [if_neg h4, if_pos (h1.resolve_left h4)]; exact g
    · have h2 : tq j = false := by
        cases h5 : tq j
        · rfl
        · exact absurd (h.mpr h5) h1
      rw [if_neg (fun z => h1 (Or.inl z)), if_neg (fun z => h1 (Or.inr z)), h2]
      rfl
theorem fit25 {μ : MMem} {n : Nat} {p1 : Int32} {tq : Nat → Bool} (hn : (dsM μ).1 0 = nI n) (h6 : n ≤ 6) (ht : ∀ j, j < 4 → ((p1 < 0 ∨ nI j = p1) ↔ tq j = true)) : ∀ (m i : Nat), i ≤ n → n < i + m →
    f_X12_fit_L25 p1 m (nI (mkN (fun r => (!tq 0 || bf (dsM μ) 0 r) && (!tq 1 || bf (dsM μ) 1 r) && (!tq 2 || bf (dsM μ) 2 r) && (!tq 3 || bf (dsM μ) 3 r)) i)) (nI i) μ (fun x _ σ => some (x, σ)) =
      some (nI (mkN (fun r => (!tq 0 || bf (dsM μ) 0 r) && (!tq 1 || bf (dsM μ) 1 r) && (!tq 2 || bf (dsM μ) 2 r) && (!tq 3 || bf (dsM μ) 3 r)) n), μ) := by
  have hq : (μ 0).1 0 = nI n := by rw [← M_q0]; exact hn
  intro m
  induction m with
  | zero => intro i h1 h2; omega
  | succ m ih =>
    intro i h1 h2
    rw [f_X12_fit_L25, hq]
    by_cases e : i = n
    · subst e
      rw [if_pos (nI_le (Nat.le_refl _) (by omega))]
    · have hi : i < 6 := by omega
      have h3 := ih (i + 1) (by omega) (by omega)
      rw [if_neg (nI_ge (by omega) (by omega))]
      generalize hg : (fun r => (!tq 0 || bf (dsM μ) 0 r) && (!tq 1 || bf (dsM μ) 1 r) && (!tq 2 || bf (dsM μ) 2 r) && (!tq 3 || bf (dsM μ) 3 r)) = g at h3
      have go : ∀ K, f_X12_fit_L39 p1 (nI i) 5000 1 0 μ K = K (bI (g i)) (nI 4) μ := fun K => by
        have s0 := fit39 (μ := μ) (p1 := p1) hi ht (n := 4999) (j := 0) (b := true) (by decide) (K := K)
        have s1 := fit39 (μ := μ) (p1 := p1) hi ht (n := 4998) (j := 1) (b := true && (!tq 0 || bf (dsM μ) 0 i)) (by decide) (K := K)
        have s2 := fit39 (μ := μ) (p1 := p1) hi ht (n := 4997) (j := 2) (b := true && (!tq 0 || bf (dsM μ) 0 i) && (!tq 1 || bf (dsM μ) 1 i)) (by decide) (K := K)
        have s3 := fit39 (μ := μ) (p1 := p1) hi ht (n := 4996) (j := 3) (b := true && (!tq 0 || bf (dsM μ) 0 i) && (!tq 1 || bf (dsM μ) 1 i) && (!tq 2 || bf (dsM μ) 2 i)) (by decide) (K := K)
        refine (s0.trans (s1.trans (s2.trans (s3.trans ?_))))
        rw [show (4996 : Nat) = 4995 + 1 from rfl, f_X12_fit_L39, if_pos (show (4 : Int32) ≤ nI 4 by decide), ← hg]
        rfl
      rw [go]
      cases hb : g i
      · rw [if_pos (show bI false = 0 from rfl), bnds, bnds, nI_1, (mk_or hi).2]
        have h4 : mkN g (i + 1) = mkN g i := by
          show (if g i then _ else _) = _
          rw [hb]; rfl
        rw [h4] at h3
        exact h3
      · rw [if_neg (show ¬ bI true = 0 by decide), bnds, bnds, nI_1, (mk_or hi).1]
        have h4 : mkN g (i + 1) = mkN g i + 2 ^ i := by
          show (if g i then _ else _) = _
          rw [hb]; rfl
        rw [h4] at h3
        exact h3
theorem eq_fit {σ : Mem} {μ : MMem} (hR : Rel σ μ) (p1 : Int32) : ∃ r μ', f_X11_fit p1 σ = some r ∧ f_X12_fit p1 μ = some (r, μ') ∧ Rel σ μ' := by
  have hR1 := hR.t
  obtain ⟨n, hn⟩ := hR1.2.1.n
  have h6 := hn.1
  have hX : (dsX σ 0).1 0 = nI n := by rw [hR1.1]; exact hn.2.1
  have fs := fun j => fitting_s (σ := σ) (n := n) (j := j) hX hn.1
  rw [hR1.1] at fs
  rw [f_X11_fit, f_X12_fit, bnds, in_w (p := p1) (a := -1) (b := 3) (lo := -1) (hi := 3) rfl rfl]
  by_cases hm : p1 = -1
  · subst hm
    have hz : f_X11_within (-1) (-1) 3 = some 1 := by decide
    rw [if_pos rfl, hz, b1s, if_neg ne10]
    have f0 : f_X11_fitting 0 σ = _ := fs 0
    have f1 : f_X11_fitting 1 σ = _ := fs 1
    have f2 : f_X11_fitting 2 σ = _ := fs 2
    have f3 : f_X11_fitting 3 σ = _ := fs 3
    have g := fit25 (μ := uI μ 0 9 0) (p1 := -1) (tq := fun _ => true) hn.2.1 hn.1 (fun j _ => ⟨fun _ => rfl, fun _ => Or.inl (by decide)⟩) 5000 0 (by omega) (by omega)
    refine ⟨_, _, ?_, g, hR1⟩
    rw [f0, b1s, show (5000 : Nat) = 4996 + 1 + 1 + 1 + 1 from rfl, f_X11_fit_L13, if_neg (by decide), f1, b1s, bnds, bnds, show (1 : Int32) + 1 = 2 from rfl, f_X11_fit_L13, if_neg (by decide), f2, b1s, bnds, bnds, show (2 : Int32) + 1 = 3 from rfl,
      f_X11_fit_L13, if_neg (by decide), f3, b1s, bnds, bnds, show (3 : Int32) + 1 = 4 from rfl, f_X11_fit_L13, if_pos (by decide), mk_i hn.1, mk_i hn.1, mk_i hn.1]
    rfl
  · rw [if_neg hm]
    rcases rng (p := p1) (n := 3) (by decide) 3 3 rfl rfl with ⟨q, hq, rfl, e1, _⟩ | ⟨ho, e1, _⟩
    · have hz : f_X11_within (nI q) (-1) 3 = some 1 := by
        have : ∀ q, q < 4 → f_X11_within (nI q) (-1) 3 = some 1 := by decide
        exact this q (by omega)
      rw [e1, hz, b1s, b1s, if_neg ne10, if_neg ne10, fs q, b1s]
      have g := fit25 (μ := uI μ 0 9 0) (p1 := nI q) (tq := fun j => decide (j = q)) hn.2.1 hn.1 (fun j hj => by
        rw [decide_eq_true_iff, nI_eq (by omega) (by omega)]
        exact ⟨fun z => z.resolve_left (nI_pos (by omega)), Or.inr⟩) 5000 0 (by omega) (by omega)
      refine ⟨_, _, rfl, ?_, hR1⟩
      refine Eq.trans g ?_
      have hq4 : q = 0 ∨ q = 1 ∨ q = 2 ∨ q = 3 := by omega
      rcases hq4 with rfl | rfl | rfl | rfl <;> simp (decide := true) only [Bool.not_true, Bool.not_false, Bool.false_or, Bool.true_or, Bool.and_true, Bool.true_and, decide_true, decide_false]
    · have hz : f_X11_within p1 (-1) 3 = some 0 := by
        rw [within_i, if_neg]
        intro z
        rcases ho with ho | ho
        · rw [Int32.lt_iff_toInt_lt, Int32.toInt_zero] at ho
          have h1 : ((-1 : Int32)).toInt = -1 := rfl
          rw [h1] at z
          exact hm (Int32.toInt_inj.mp (by rw [h1]; omega))
        · rw [Int32.lt_iff_toInt_lt, nI_toInt (by decide)] at ho
          have h1 : ((3 : Int32)).toInt = 3 := rfl
          rw [h1] at z
          omega
      rw [e1, hz, b1s, b1s, if_pos rfl, if_pos rfl]
      exact ⟨_, _, rfl, rfl, hR1⟩
