/-! PURE, 8: line, image, restore, count, hem, darts, stripes -/
theorem in_w {p lo hi : Int32} {a b : Int64} (ha : a.toInt = lo.toInt) (hb : b.toInt = hi.toInt) : f_X12_in p.toInt64 a b = f_X11_within p lo hi := by
  rw [in_i, within_i, ha, hb]
theorem wi_c (p lo hi : Int32) : f_X11_within p lo hi = some 0 ∨ f_X11_within p lo hi = some 1 := by
  rw [within_i]
  split
  · exact Or.inr rfl
  · exact Or.inl rfl
theorem most_lt {x h : Int32} : (if x < h then x else h) = mostM x h := by
  unfold mostM
  by_cases h1 : x < h
  · rw [if_pos h1, if_pos (Int32.le_of_lt h1)]
  · rw [if_neg h1]
    by_cases h2 : x ≤ h
    · rw [if_pos h2]
      exact Int32.le_antisymm (Int32.not_lt.mp h1) h2
    · rw [if_neg h2]
theorem hem_s {p2 : Int32} {m : Nat} (hm : m < 2 ^ 31) {μ : MMem} : ∀ (n i : Nat) (x : Int32), i ≤ m → m < i + n →
    ∃ r, f_X11_hem_L38 p2 (nI m) n x (nI i) (fun x _ => some x) = some r ∧ f_X12_hem_L49 p2 (nI m) n x (nI i) μ (fun x _ σ => some (x, σ)) = some (r, μ) := by
  intro n
  induction n with
  | zero => intro i x h1 h2; omega
  | succ n ih =>
    intro i x h1 h2
    rw [f_X11_hem_L38, f_X12_hem_L49]
    by_cases h : nI m ≤ nI i
    · rw [if_pos h, if_pos h]
      exact ⟨_, rfl, rfl⟩
    · rw [if_neg h, if_neg h]
      rw [nI_leI (by omega) (by omega)] at h
      simp only [bnd, most_s, b1, most_lt, nI_1]
      exact ih (i + 1) _ (by omega) (by omega)
theorem eq_hem {σ : Mem} {μ : MMem} (hR : Rel σ μ) (p1 p2 p3 : Int32) : ∃ r μ', f_X11_hem p1 p2 p3 = some r ∧ f_X12_hem p1 p2 p3 μ = some (r, μ') ∧ Rel σ μ' := by
  have hR1 := hR.t
  simp only [f_X11_hem, f_X12_hem, bnd, in_w (p := p1) (a := 1) (b := 99) (lo := 1) (hi := 99) rfl rfl, in_w (p := p2) (a := 0) (b := 99) (lo := 0) (hi := 99) rfl rfl]
  rcases wi_c p1 1 99 with e1 | e1 <;> rw [e1] <;> simp only [b1, if_neg ne10, if_true]
  · exact ⟨_, _, rfl, rfl, hR1⟩
  rcases wi_c p2 0 99 with e2 | e2 <;> rw [e2] <;> simp only [if_neg ne10, if_true]
  · exact ⟨_, _, rfl, rfl, hR1⟩
  rcases rng (p := p3) (n := 20) (by decide) 20 20 rfl rfl with ⟨j, hj, rfl, e3, e4⟩ | ⟨_, e3, e4⟩
  · simp only [e3, e4, if_neg ne10]
    obtain ⟨r, h1, h2⟩ := hem_s (p2 := p2) (m := j) (by omega) (μ := uI μ 0 9 0) 5000 0 p1 (by omega) (by omega)
    exact ⟨r, _, h1, h2, hR1⟩
  · simp only [e3, e4, if_true]
    exact ⟨_, _, rfl, rfl, hR1⟩
theorem eq_darts {σ : Mem} {μ : MMem} (hR : Rel σ μ) (p1 p2 p3 p4 : Int32) : ∃ r μ', f_X11_darts p1 p2 p3 p4 = some r ∧ f_X12_darts p1 p2 p3 p4 μ = some (r, μ') ∧ Rel σ μ' := by
  have hR1 := hR.t
  simp only [f_X11_darts, f_X12_darts, bnd, jn, in_w (p := p1) (a := 0) (b := 99) (lo := 0) (hi := 99) rfl rfl, in_w (p := p2) (a := 1) (b := 99) (lo := 1) (hi := 99) rfl rfl,
    in_w (p := p3) (a := 0) (b := 99) (lo := 0) (hi := 99) rfl rfl, in_w (p := p4) (a := 1) (b := 99) (lo := 1) (hi := 99) rfl rfl]
  rcases wi_c p1 0 99 with e1 | e1 <;> rcases wi_c p2 1 99 with e2 | e2 <;> rcases wi_c p3 0 99 with e3 | e3 <;> rcases wi_c p4 1 99 with e4 | e4 <;>
    simp only [e1, e2, e3, e4, b1, if_neg ne10, if_true]
  all_goals first | exact ⟨_, _, rfl, rfl, hR1⟩ | skip
  by_cases h : p1 * p4 = p3 * p2
  · simp only [if_pos h]; exact ⟨_, _, rfl, rfl, hR1⟩
  · simp only [if_neg h]; exact ⟨_, _, rfl, rfl, hR1⟩
/-- stripes: the reference walks over every place, the class over the stripes of the first cloth -/
theorem st_skip {a b c d : Nat} (hb : b < a) (ha : 0 < a) (ha6 : a ≤ 60) (hc : c ≤ 60) {μ : MMem} {K : Int32 → MMem → Option (Int32 × MMem)} (i : Nat) (hi : i < c) : ∀ (k j n : Nat), j + k ≤ a → (b < j ∨ j + k ≤ b) → 
    f_X12_stripes_L61 (nI a) (nI b) (nI c) (nI d) (n + k) (nI (i * a + j)) μ K = f_X12_stripes_L61 (nI a) (nI b) (nI c) (nI d) n (nI (i * a + j + k)) μ K := by
  intro k
  induction k with
  | zero => intro j n _ _; rfl
  | succ k ih =>
    intro j n h1 h2
    have hia : i * a + a ≤ c * a := by rw [← Nat.succ_mul]; exact Nat.mul_le_mul_right a hi
    have hca : c * a ≤ 60 * 60 := Nat.mul_le_mul hc ha6
    have hj : (i * a + j) % a = j := by rw [Nat.mul_comm, Nat.mul_add_mod]; exact Nat.mod_eq_of_lt (by omega)
    rw [show n + (k + 1) = n + k + 1 from rfl, f_X12_stripes_L61, pk_mul, if_neg (nI_ge (by rw [Nat.mul_comm a c]; omega) (by rw [Nat.mul_comm a c]; omega)), if_neg (nI_ne0 ha (by omega)), pk_rem (by omega) ha (by omega), hj, if_neg (by rw [nI_eq (by omega) (by omega)]; omega)]
    simp only [bnd, nI_1]
    rw [show i * a + j + (k + 1) = i * a + (j + 1) + k from by omega]
    exact ih (j + 1) n (by omega) (by omega)
theorem st_s {a b c d : Nat} (ha : 0 < a) (ha6 : a ≤ 60) (hc0 : 0 < c) (hc : c ≤ 60) (hb : b < a) (hd : d < c) {μ : MMem} : ∀ (m i n1 n2 : Nat), i + m = c → m < n1 → m * a < n2 →
    ∃ r, f_X11_stripes_L48 (nI a) (nI b) (nI c) (nI d) n1 (nI i) (fun _ => some (-4)) = some r ∧ f_X12_stripes_L61 (nI a) (nI b) (nI c) (nI d) n2 (nI (i * a)) μ (fun _ σ => some (-4, σ)) = some (r, μ) := by
  intro m
  induction m with
  | zero =>
    intro i n1 n2 h1 h2 h3
    obtain ⟨n1, rfl⟩ : ∃ k, n1 = k + 1 := ⟨n1 - 1, by omega⟩
    obtain ⟨n2, rfl⟩ : ∃ k, n2 = k + 1 := ⟨n2 - 1, by omega⟩
    have hi : i = c := by omega
    subst hi
    have hca : i * a ≤ 60 * 60 := Nat.mul_le_mul hc ha6
    rw [f_X11_stripes_L48, f_X12_stripes_L61, if_pos (nI_le (by omega) (by omega)), pk_mul, if_pos (nI_le (by rw [Nat.mul_comm]; exact Nat.le_refl _) (by omega))]
    exact ⟨_, rfl, rfl⟩
  | succ m ih =>
    intro i n1 n2 h1 h2 h3
    have hma : (m + 1) * a = m * a + a := Nat.succ_mul m a
    have hia : i * a + a ≤ c * a := by rw [← Nat.succ_mul]; exact Nat.mul_le_mul_right a (by omega)
    have hca : c * a ≤ 60 * 60 := Nat.mul_le_mul hc ha6
    obtain ⟨n1, rfl⟩ : ∃ k, n1 = k + 1 := ⟨n1 - 1, by omega⟩
    obtain ⟨n2, rfl⟩ : ∃ k, n2 = (k + (a - 1 - b)) + 1 + b := ⟨n2 - a, by omega⟩
    have s1 := st_skip (d := d) hb ha ha6 hc (μ := μ) (K := fun _ σ => some (-4, σ)) i (by omega) b 0 (n2 + (a - 1 - b) + 1) (by omega) (Or.inr (by omega : 0 + b ≤ b))
    rw [show i * a + 0 = i * a from rfl] at s1
    have hj : (i * a + b) % a = b := by rw [Nat.mul_comm, Nat.mul_add_mod]; exact Nat.mod_eq_of_lt (by omega)
    have hac : a * c = c * a := Nat.mul_comm a c
    rw [s1, f_X11_stripes_L48, f_X12_stripes_L61, if_neg (nI_ge (a := i) (b := c) (by omega) (by omega)), pk_mul a c, if_neg (nI_ge (a := i * a + b) (b := a * c) (by omega) (by omega)), if_neg (nI_ne0 ha (by omega)), pk_rem (by omega) ha (by omega), hj, if_pos rfl, if_neg (nI_ne0 hc0 (by omega))]
    simp only [bnd, if_neg (nI_ne0 hc0 (show c < 2 ^ 31 by omega)), pk_mul, nI_add]
    rw [show b + i * a = i * a + b from Nat.add_comm _ _, pk_rem (by omega) hc0 (by omega)]
    by_cases h : nI ((i * a + b) % c) = nI d
    · rw [if_pos h, if_pos h]
      exact ⟨_, rfl, rfl⟩
    · rw [if_neg h, if_neg h, nI_1, nI_1]
      have s2 := st_skip (d := d) hb ha ha6 hc (μ := μ) (K := fun _ σ => some (-4, σ)) i (by omega) (a - 1 - b) (b + 1) n2 (by omega) (Or.inl (by omega : b < b + 1))
      rw [show i * a + b + 1 = i * a + (b + 1) from rfl, s2, show i * a + (b + 1) + (a - 1 - b) = (i + 1) * a from by rw [Nat.succ_mul]; omega]
      exact ih (i + 1) n1 n2 (by omega) (by omega) (by omega)
theorem nI_p (a : Nat) (h : 0 < a) : nI a - 1 = nI (a - 1) := by
  obtain ⟨k, rfl⟩ : ∃ k, a = k + 1 := ⟨a - 1, by omega⟩
  exact nI_pred k
/-- from lo to hi -/
theorem rn1 {p : Int32} {lo n : Nat} (hl : lo ≤ n) (hn : n < 2 ^ 31) (l a : Int32) (b c : Int64) (hl2 : l = nI lo) (ha : a = nI n) (hb : b.toInt = lo) (hc : c.toInt = n) :
    (∃ j, lo ≤ j ∧ j ≤ n ∧ p = nI j ∧ f_X11_within p l a = some 1 ∧ f_X12_in p.toInt64 b c = some 1) ∨ (f_X11_within p l a = some 0 ∧ f_X12_in p.toInt64 b c = some 0) := by
  subst ha hl2
  rw [within_i, in_i, hb, hc, nI_toInt hn, nI_toInt (by omega)]
  by_cases h : (lo : Int) ≤ p.toInt ∧ p.toInt ≤ n
  · rw [if_pos h]
    have h0 : ¬ p < 0 := by rw [Int32.lt_iff_toInt_lt, Int32.toInt_zero]; omega
    obtain ⟨j, hj, rfl⟩ := nI_of h0
    rw [nI_toInt hj] at h
    exact Or.inl ⟨j, by omega, by omega, rfl, rfl, rfl⟩
  · rw [if_neg h]
    exact Or.inr ⟨rfl, rfl⟩
theorem eq_stripes {σ : Mem} {μ : MMem} (hR : Rel σ μ) (p1 p2 p3 p4 : Int32) : ∃ r μ', f_X11_stripes p1 p2 p3 p4 = some r ∧ f_X12_stripes p1 p2 p3 p4 μ = some (r, μ') ∧ Rel σ μ' := by
  have hR1 := hR.t
  simp only [f_X11_stripes, f_X12_stripes, bnd]
  rcases rn1 (p := p1) (lo := 1) (n := 60) (by decide) (by decide) 1 60 1 60 rfl rfl rfl rfl with ⟨a, ha0, ha, rfl, e1, e2⟩ | ⟨e1, e2⟩
  · rcases rn1 (p := p3) (lo := 1) (n := 60) (by decide) (by decide) 1 60 1 60 rfl rfl rfl rfl with ⟨c, hc0, hc, rfl, e3, e4⟩ | ⟨e3, e4⟩
    · simp only [e1, e2, e3, e4, b1, if_neg ne10]
      rw [nI_p a ha0, nI_p c hc0]
      rcases rng (p := p2) (n := a - 1) (by omega) (nI (a - 1)) (nI (a - 1)).toInt64 rfl (by rw [Int32.toInt_toInt64, nI_toInt (by omega)]) with ⟨b, hb, rfl, e5, e6⟩ | ⟨_, e5, e6⟩
      · rcases rng (p := p4) (n := c - 1) (by omega) (nI (c - 1)) (nI (c - 1)).toInt64 rfl (by rw [Int32.toInt_toInt64, nI_toInt (by omega)]) with ⟨d, hd, rfl, e7, e8⟩ | ⟨_, e7, e8⟩
        · simp only [e5, e6, e7, e8, if_neg ne10]
          have hca : c * a ≤ 60 * 60 := Nat.mul_le_mul hc ha
          obtain ⟨r, h1, h2⟩ := st_s (a := a) (b := b) (c := c) (d := d) ha0 ha hc0 hc (by omega) (by omega) (μ := uI μ 0 9 0) c 0 5000 5000 (by omega) (by omega) (by omega)
          rw [Nat.zero_mul] at h2
          exact ⟨r, _, h1, h2, hR1⟩
        · simp only [e5, e6, e7, e8, if_neg ne10, if_true]
          exact ⟨_, _, rfl, rfl, hR1⟩
      · simp only [e5, e6, if_true]
        exact ⟨_, _, rfl, rfl, hR1⟩
    · simp only [e1, e2, e3, e4, b1, if_neg ne10, if_true]
      exact ⟨_, _, rfl, rfl, hR1⟩
  · simp only [e1, e2, b1, if_true]
    exact ⟨_, _, rfl, rfl, hR1⟩
