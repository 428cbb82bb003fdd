/-! PURE, 25: dresses as texts: how a text is read, and how the class reads it -/
/-- the byte at a place; 0 behind the end -/
def bt (ρ : Nat → Int32) (N p : Nat) : Int32 := if p < N then ρ p else 0
def dgt (b : Nat → Int32) (p : Nat) : Option Nat := if 48 ≤ (b p).toInt ∧ (b p).toInt ≤ 57 then some ((b p).toInt.toNat - 48) else none
theorem dgt_y {b : Nat → Int32} {p v : Nat} (h : dgt b p = some v) : v ≤ 9 ∧ b p = nI (48 + v) ∧ f_X11_within (b p) 48 57 = some 1 := by
  unfold dgt at h
  by_cases c : 48 ≤ (b p).toInt ∧ (b p).toInt ≤ 57
  · rw [if_pos c] at h
    cases h
    have h0 : ¬ b p < 0 := by rw [Int32.lt_iff_toInt_lt, Int32.toInt_zero]; omega
    obtain ⟨j, hj, e⟩ := nI_of h0
    rw [within_i, show (48 : Int32).toInt = 48 by decide, show (57 : Int32).toInt = 57 by decide, if_pos c]
    rw [e, nI_toInt hj] at c ⊢
    refine ⟨by omega, ?_, rfl⟩
    congr 1
    omega
  · rw [if_neg c] at h
    cases h
theorem dgt_n {b : Nat → Int32} {p : Nat} (h : dgt b p = none) : f_X11_within (b p) 48 57 = some 0 := by
  unfold dgt at h
  by_cases c : 48 ≤ (b p).toInt ∧ (b p).toInt ≤ 57
  · rw [if_pos c] at h
    cases h
  · rw [within_i, show (48 : Int32).toInt = 48 by decide, show (57 : Int32).toInt = 57 by decide, if_neg c]
def nmb (b : Nat → Int32) (p : Nat) : Option (Nat × Nat) := match dgt b p with
  | none => none
  | some v => if 0 < v then (match dgt b (p + 1) with
    | none => some (v, p + 1)
    | some w => some (10 * v + w, p + 2)) else some (v, p + 1)
/-- a part of a form: 0 a number, 1 a digit, else the sign itself -/
def part (b : Nat → Int32) (k p : Nat) : Option (Option Nat × Nat) :=
  if k = 0 then (match nmb b p with
    | none => none
    | some (v, q) => some (some v, q))
  else if k = 1 then (match dgt b p with
    | none => none
    | some v => some (some v, p + 1))
  else if b p = nI k then some (none, p + 1) else none
def run (b : Nat → Int32) : List Nat → Nat → List Nat → Bool × Nat × List Nat
  | [], p, l => (true, p, l)
  | k :: ks, p, l => match part b k p with
    | none => (false, p, l)
    | some (o, q) => run b ks q (l ++ o.toList)
def form (c : Int32) : Option (List Nat) := if c = 114 then some [0, 32, 0, 32, 1, 1, 59] else if c = 116 then some [1, 59] else if c = 108 then some [0, 59] else if c = 112 then some [1, 1, 1, 59] else none
/-- the statement at a place: whether it is one, where it ends (where it fails), its numbers -/
def stm (b : Nat → Int32) (p : Nat) : Bool × Nat × List Nat := match form (b p) with
  | none => (false, p, [])
  | some ks => run b ks (p + 1) []
theorem bt_in {ρ : Nat → Int32} {N p : Nat} (h : bt ρ N p ≠ 0) : p < N := by
  unfold bt at h
  by_cases c : p < N
  · exact c
  · rw [if_neg c] at h
    exact absurd rfl h
theorem dgt_in {ρ : Nat → Int32} {N p v : Nat} (h : dgt (bt ρ N) p = some v) : p < N := bt_in (ρ := ρ) (by
  obtain ⟨h1, h2, _⟩ := dgt_y h
  rw [h2]
  exact nI_ne0 (by omega) (by omega))
theorem nmb_in {ρ : Nat → Int32} {N p v q : Nat} (h : nmb (bt ρ N) p = some (v, q)) : p < q ∧ q ≤ N ∧ v ≤ 99 := by
  unfold nmb at h
  cases h1 : dgt (bt ρ N) p with
  | none => rw [h1] at h; cases h
  | some w =>
    have i1 := dgt_in h1
    obtain ⟨b1', _⟩ := dgt_y h1
    rw [h1] at h
    dsimp only at h
    by_cases c : 0 < w
    · rw [if_pos c] at h
      cases h2 : dgt (bt ρ N) (p + 1) with
      | none => rw [h2] at h; cases h; omega
      | some x =>
        have i2 := dgt_in h2
        obtain ⟨b2', _⟩ := dgt_y h2
        rw [h2] at h
        cases h
        omega
    · rw [if_neg c] at h; cases h; omega
theorem part_in {ρ : Nat → Int32} {N k p q : Nat} {o : Option Nat} (hk : k < 2 ^ 31) (h : part (bt ρ N) k p = some (o, q)) : p < q ∧ q ≤ N := by
  unfold part at h
  by_cases c : k = 0
  · rw [if_pos c] at h
    cases h1 : nmb (bt ρ N) p with
    | none => rw [h1] at h; cases h
    | some w =>
      obtain ⟨v, q'⟩ := w
      have := nmb_in h1
      rw [h1] at h
      cases h
      omega
  rw [if_neg c] at h
  by_cases c1 : k = 1
  · rw [if_pos c1] at h
    cases h1 : dgt (bt ρ N) p with
    | none => rw [h1] at h; cases h
    | some w =>
      have := dgt_in h1
      rw [h1] at h
      cases h
      omega
  rw [if_neg c1] at h
  by_cases c2 : bt ρ N p = nI k
  · rw [if_pos c2] at h
    have := bt_in (ρ := ρ) (N := N) (p := p) (by rw [c2]; exact nI_ne0 (by omega) hk)
    cases h
    omega
  · rw [if_neg c2] at h
    cases h
theorem run_in {ρ : Nat → Int32} {N : Nat} : ∀ (ks : List Nat) (p : Nat) (l : List Nat), (∀ k, k ∈ ks → k < 2 ^ 31) → p ≤ N → (run (bt ρ N) ks p l).2.1 ≤ N ∧ ((run (bt ρ N) ks p l).1 = true → p + ks.length ≤ (run (bt ρ N) ks p l).2.1) := by
  intro ks
  induction ks with
  | nil => intro p l _ hp; exact ⟨hp, fun _ => Nat.le_refl _⟩
  | cons k ks ih =>
    intro p l hk hp
    have e : run (bt ρ N) (k :: ks) p l = match part (bt ρ N) k p with
      | none => (false, p, l)
      | some (o, q) => run (bt ρ N) ks q (l ++ o.toList) := rfl
    cases h : part (bt ρ N) k p with
    | none =>
      rw [h] at e
      rw [e]
      exact ⟨hp, fun z => by cases z⟩
    | some w =>
      obtain ⟨o, q⟩ := w
      rw [h] at e
      have hi := part_in (hk k List.mem_cons_self) h
      have := ih q (l ++ o.toList) (fun k hk' => hk k (List.mem_cons_of_mem _ hk')) hi.2
      have e : run (bt ρ N) (k :: ks) p l = run (bt ρ N) ks q (l ++ o.toList) := e
      rw [e]
      refine ⟨this.1, fun z => ?_⟩
      have := this.2 z
      rw [List.length_cons]
      omega
theorem form_ks {c : Int32} {ks : List Nat} (h : form c = some ks) : (c = 114 ∧ ks = [0, 32, 0, 32, 1, 1, 59]) ∨ (c = 116 ∧ ks = [1, 59]) ∨ (c = 108 ∧ ks = [0, 59]) ∨ (c = 112 ∧ ks = [1, 1, 1, 59]) := by
  unfold form at h
  by_cases c1 : c = 114
  · rw [if_pos c1] at h; cases h; exact Or.inl ⟨c1, rfl⟩
  rw [if_neg c1] at h
  by_cases c2 : c = 116
  · rw [if_pos c2] at h; cases h; exact Or.inr (Or.inl ⟨c2, rfl⟩)
  rw [if_neg c2] at h
  by_cases c3 : c = 108
  · rw [if_pos c3] at h; cases h; exact Or.inr (Or.inr (Or.inl ⟨c3, rfl⟩))
  rw [if_neg c3] at h
  by_cases c4 : c = 112
  · rw [if_pos c4] at h; cases h; exact Or.inr (Or.inr (Or.inr ⟨c4, rfl⟩))
  rw [if_neg c4] at h
  cases h
theorem form_n {c : Int32} (h : form c = none) : ¬ c = 114 ∧ ¬ c = 116 ∧ ¬ c = 108 ∧ ¬ c = 112 := by
  unfold form at h
  by_cases c1 : c = 114
  · rw [if_pos c1] at h; cases h
  rw [if_neg c1] at h
  by_cases c2 : c = 116
  · rw [if_pos c2] at h; cases h
  rw [if_neg c2] at h
  by_cases c3 : c = 108
  · rw [if_pos c3] at h; cases h
  rw [if_neg c3] at h
  by_cases c4 : c = 112
  · rw [if_pos c4] at h; cases h
  exact ⟨c1, c2, c3, c4⟩
theorem stm_in {ρ : Nat → Int32} {N p : Nat} (hp : p ≤ N) : (stm (bt ρ N) p).2.1 ≤ N ∧ ((stm (bt ρ N) p).1 = true → p + 3 ≤ (stm (bt ρ N) p).2.1) := by
  have e : stm (bt ρ N) p = match form (bt ρ N p) with
    | none => (false, p, [])
    | some ks => run (bt ρ N) ks (p + 1) [] := rfl
  cases h : form (bt ρ N p) with
  | none =>
    rw [h] at e
    rw [e]
    exact ⟨hp, fun z => by cases z⟩
  | some ks =>
    rw [h] at e
    have e : stm (bt ρ N) p = run (bt ρ N) ks (p + 1) [] := e
    rw [e]
    have hpN : p < N := bt_in (ρ := ρ) (by rcases form_ks h with ⟨a, _⟩ | ⟨a, _⟩ | ⟨a, _⟩ | ⟨a, _⟩ <;> rw [a] <;> decide)
    have hl : 2 ≤ ks.length ∧ ∀ k, k ∈ ks → k < 2 ^ 31 := by rcases form_ks h with ⟨_, a⟩ | ⟨_, a⟩ | ⟨_, a⟩ | ⟨_, a⟩ <;> subst a <;> decide
    have := run_in (ρ := ρ) (N := N) ks (p + 1) [] hl.2 hpN
    exact ⟨this.1, fun z => by have := this.2 z; omega⟩
-- the class's reader
def XN (σ : Mem) (l : List Nat) : Prop := σ 35 1 = nI l.length ∧ l.length ≤ 4 ∧ ∀ (j v : Nat), l[j]? = some v → σ 36 j = nI v
def XS (σ0 : Mem) (c : Int32) (σ : Mem) (p : Nat) (l : List Nat) : Prop := (∀ i, i ≠ 35 → i ≠ 36 → σ i = σ0 i) ∧ σ 35 2 = nI p ∧ σ 35 3 = c ∧ XN σ l
theorem at_b {σ0 σ : Mem} {μ : MMem} {d N p : Nat} (hr : RowAt σ0 μ d N) (hp : p ≤ N) (hf : ∀ i, i ≠ 35 → i ≠ 36 → σ i = σ0 i) : f_X5_at d (nI p) σ = some (bt (σ0 (8 + 2 * d)) N p) := by
  have hd := hr.1
  have hN := hr.2.1
  have e1 : σ (7 + 2 * d) = σ0 (7 + 2 * d) := hf _ (by omega) (by omega)
  have e2 : σ (8 + 2 * d) = σ0 (8 + 2 * d) := hf _ (by omega) (by omega)
  have hr2 : RowAt σ μ d N := by
    unfold RowAt
    rw [e1, e2]
    exact hr
  unfold bt
  by_cases c : p < N
  · rw [at_s hr2 c, if_pos c, e2]
  · rw [f_X5_at, if_neg (nI_pos (by omega)), hr2.2.2.1, if_pos (nI_le (by omega) (by omega)), if_neg c]
def encD : Option Nat → Int32
  | none => -1
  | some v => nI v
theorem dig_x {σ0 σ : Mem} {μ : MMem} {d N p : Nat} (hr : RowAt σ0 μ d N) (hp : p ≤ N) (hf : ∀ i, i ≠ 35 → i ≠ 36 → σ i = σ0 i) (h2 : σ 35 2 = nI p) : f_X8_digitHere d σ = some (encD (dgt (bt (σ0 (8 + 2 * d)) N) p)) := by
  rw [f_X8_digitHere, h2, at_b hr hp hf, b1s]
  cases h : dgt (bt (σ0 (8 + 2 * d)) N) p with
  | none => rw [dgt_n h, b1s, if_pos rfl]; rfl
  | some v =>
    obtain ⟨h1, h3, h4⟩ := dgt_y h
    rw [h4, b1s, if_neg ne10, h3, show (48 : Int32) = nI 48 from rfl, pk_sub (by omega), show 48 + v - 48 = v by omega]
    rfl
theorem XS.put {σ0 σ : Mem} {c : Int32} {p v : Nat} {l : List Nat} (h : XS σ0 c σ p l) (hl : l.length < 4) : XS σ0 c (uX (uX σ 36 l.length (nI v)) 35 1 (nI (l.length + 1))) p (l ++ [v]) := by
  obtain ⟨h0, h2, h3, h1, h4, h5⟩ := h
  refine ⟨fun i a b => by rw [uX_ne a, uX_ne b]; exact h0 i a b, ?_, ?_, ?_, ?_, fun j w hj => ?_⟩
  · rw [rdX, if_neg (by omega), rdX, if_neg (by omega)]; exact h2
  · rw [rdX, if_neg (by omega), rdX, if_neg (by omega)]; exact h3
  · rw [rdX, if_pos ⟨rfl, rfl⟩, List.length_append]; rfl
  · rw [List.length_append]; show l.length + 1 ≤ 4; omega
  · rw [rdX, if_neg (by omega), rdX]
    rw [List.getElem?_append] at hj
    by_cases c1 : j < l.length
    · rw [if_pos c1] at hj
      rw [if_neg (by omega)]
      exact h5 j w hj
    · rw [if_neg c1] at hj
      by_cases c2 : j = l.length
      · subst c2
        rw [Nat.sub_self] at hj
        have hj : some v = some w := hj
        cases hj
        rw [if_pos ⟨rfl, rfl⟩]
      · rw [show j - l.length = (j - l.length - 1) + 1 by omega] at hj
        cases hj
theorem XS.mv {σ0 σ : Mem} {c : Int32} {p q : Nat} {l : List Nat} (h : XS σ0 c σ p l) : XS σ0 c (uX σ 35 2 (nI q)) q l := by
  obtain ⟨h0, h2, h3, h1, h4, h5⟩ := h
  refine ⟨fun i a b => by rw [uX_ne a]; exact h0 i a b, by rw [rdX, if_pos ⟨rfl, rfl⟩], by rw [rdX, if_neg (by omega)]; exact h3, by rw [rdX, if_neg (by omega)]; exact h1, h4, fun j w hj => by rw [rdX, if_neg (by omega)]; exact h5 j w hj⟩
/-- what readNumber does with what it has read -/
theorem J60_s {σ0 σ : Mem} {c : Int32} {p v : Nat} {l : List Nat} (h : XS σ0 c σ p l) (hl : l.length < 4) : ∃ σ', (if (σ 35 1) < 0 then some ((1 : Int32), σ) else if 4 ≤ (σ 35 1) then some (1, σ) else bnd (σ 35 1) fun (i_12 : Int32) => if i_12 < 0 ∨ 4 ≤ i_12.toNatClampNeg then none else bnd (uX σ 36 i_12.toNatClampNeg (nI v)) fun (σ_14 : Mem) => bnd ((σ_14 35 1) + 1) fun (y_15 : Int32) => bnd (uX σ_14 35 1 y_15) fun (σ_16 : Mem) => some (1, σ_16)) = some (1, σ') ∧ XS σ0 c σ' p (l ++ [v]) := by
  refine ⟨_, ?_, h.put hl⟩
  obtain ⟨h0, h2, h3, h1, h4, h5⟩ := h
  rw [h1, if_neg (nI_pos (by omega)), if_neg (show ¬ (4 : Int32) ≤ nI l.length from nI_ge (a := l.length) (b := 4) hl (by decide)), bnds, if_neg (nI_in hl (by decide)), nI_clamp (by omega), bnds, rdX, if_neg (by omega), h1, bnds, bnds, nI_1]
theorem num_x {σ0 σ : Mem} {μ : MMem} {d N p : Nat} {c : Int32} {l : List Nat} (hr : RowAt σ0 μ d N) (hp : p ≤ N) (h : XS σ0 c σ p l) (hl : l.length < 4) :
    (nmb (bt (σ0 (8 + 2 * d)) N) p = none → f_X8_readNumber d 1 σ = some (0, σ)) ∧ (∀ v q, nmb (bt (σ0 (8 + 2 * d)) N) p = some (v, q) → ∃ σ', f_X8_readNumber d 1 σ = some (1, σ') ∧ XS σ0 c σ' q (l ++ [v])) ∧
    (dgt (bt (σ0 (8 + 2 * d)) N) p = none → f_X8_readNumber d 0 σ = some (0, σ)) ∧ (∀ v, dgt (bt (σ0 (8 + 2 * d)) N) p = some v → ∃ σ', f_X8_readNumber d 0 σ = some (1, σ') ∧ XS σ0 c σ' (p + 1) (l ++ [v])) := by
  have hN := hr.2.1
  have hd0 := dig_x hr hp h.1 h.2.1
  have hno : dgt (bt (σ0 (8 + 2 * d)) N) p = none → ∀ t, f_X8_readNumber d t σ = some (0, σ) := fun e t => by
    rw [f_X8_readNumber, hd0, e, b1s, if_neg (by decide)]
  have hyes : ∀ v, dgt (bt (σ0 (8 + 2 * d)) N) p = some v → ∀ t, f_X8_readNumber d t σ = if t = 0 ∨ v = 0 ∨ dgt (bt (σ0 (8 + 2 * d)) N) (p + 1) = none then (if ((uX σ 35 2 (nI (p + 1))) 35 1) < 0 then some ((1 : Int32), (uX σ 35 2 (nI (p + 1)))) else if 4 ≤ ((uX σ 35 2 (nI (p + 1))) 35 1) then some (1, (uX σ 35 2 (nI (p + 1)))) else bnd ((uX σ 35 2 (nI (p + 1))) 35 1) fun (i_12 : Int32) => if i_12 < 0 ∨ 4 ≤ i_12.toNatClampNeg then none else bnd (uX (uX σ 35 2 (nI (p + 1))) 36 i_12.toNatClampNeg (nI v)) fun (σ_14 : Mem) => bnd ((σ_14 35 1) + 1) fun (y_15 : Int32) => bnd (uX σ_14 35 1 y_15) fun (σ_16 : Mem) => some (1, σ_16))
      else (if ((uX (uX σ 35 2 (nI (p + 1))) 35 2 (nI (p + 2))) 35 1) < 0 then some ((1 : Int32), (uX (uX σ 35 2 (nI (p + 1))) 35 2 (nI (p + 2)))) else if 4 ≤ ((uX (uX σ 35 2 (nI (p + 1))) 35 2 (nI (p + 2))) 35 1) then some (1, (uX (uX σ 35 2 (nI (p + 1))) 35 2 (nI (p + 2)))) else bnd ((uX (uX σ 35 2 (nI (p + 1))) 35 2 (nI (p + 2))) 35 1) fun (i_12 : Int32) => if i_12 < 0 ∨ 4 ≤ i_12.toNatClampNeg then none else bnd (uX (uX (uX σ 35 2 (nI (p + 1))) 35 2 (nI (p + 2))) 36 i_12.toNatClampNeg (10 * nI v + encD (dgt (bt (σ0 (8 + 2 * d)) N) (p + 1)))) fun (σ_14 : Mem) => bnd ((σ_14 35 1) + 1) fun (y_15 : Int32) => bnd (uX σ_14 35 1 y_15) fun (σ_16 : Mem) => some (1, σ_16)) := fun v e t => by
    have hpN := dgt_in e
    obtain ⟨hv, _, _⟩ := dgt_y e
    have hf1 : ∀ i, i ≠ 35 → i ≠ 36 → (uX σ 35 2 (nI (p + 1))) i = σ0 i := fun i a b => by rw [uX_ne a]; exact h.1 i a b
    have s2 : (uX σ 35 2 (nI (p + 1))) 35 2 = nI (p + 1) := by rw [rdX, if_pos ⟨rfl, rfl⟩]
    have hd1 := dig_x (σ := uX σ 35 2 (nI (p + 1))) hr (show p + 1 ≤ N by omega) hf1 s2
    rw [f_X8_readNumber, hd0, e, b1s, show encD (some v) = nI v from rfl, if_pos (nI_pos' (by omega)), h.2.1, nI_1, bnds, bnds, hd1, b1s]
    simp only [jns]
    by_cases c1 : t = 0
    · rw [if_pos c1, if_pos (Or.inl c1)]
    rw [if_neg c1]
    by_cases c2 : v = 0
    · rw [if_pos (show nI v ≤ 0 by rw [c2]; decide), if_pos (Or.inr (Or.inl c2))]
    rw [if_neg (nI_nle (show 0 < v by omega) (by omega))]
    cases c3 : dgt (bt (σ0 (8 + 2 * d)) N) (p + 1) with
    | none => rw [if_pos (show encD none < 0 by decide), if_pos (Or.inr (Or.inr rfl))]
    | some w =>
      obtain ⟨hw, _, _⟩ := dgt_y c3
      rw [if_neg (show ¬ encD (some w) < 0 from nI_pos (by omega)), if_neg (fun z => z.elim c1 (fun z => z.elim c2 (fun z => by cases z))), bnds, s2, nI_1, bnds, bnds]
  refine ⟨fun e => ?_, fun v q e => ?_, fun e => hno e 0, fun v e => ?_⟩
  · unfold nmb at e
    cases c1 : dgt (bt (σ0 (8 + 2 * d)) N) p with
    | none => exact hno c1 1
    | some v =>
      rw [c1] at e
      dsimp only at e
      by_cases c2 : 0 < v
      · rw [if_pos c2] at e
        cases c3 : dgt (bt (σ0 (8 + 2 * d)) N) (p + 1) with
        | none => rw [c3] at e; cases e
        | some w => rw [c3] at e; cases e
      · rw [if_neg c2] at e; cases e
  · unfold nmb at e
    cases c1 : dgt (bt (σ0 (8 + 2 * d)) N) p with
    | none => rw [c1] at e; cases e
    | some v' =>
      rw [c1] at e
      dsimp only at e
      by_cases c2 : 0 < v'
      · rw [if_pos c2] at e
        cases c3 : dgt (bt (σ0 (8 + 2 * d)) N) (p + 1) with
        | none =>
          rw [c3] at e
          cases e
          rw [hyes v c1 1, if_pos (Or.inr (Or.inr c3))]
          exact J60_s h.mv hl
        | some w =>
          rw [c3] at e
          cases e
          rw [hyes v' c1 1, if_neg (fun z => z.elim (by decide) (fun z => z.elim (by omega) (fun z => by rw [c3] at z; cases z))), c3, show (10 : Int32) * nI v' + encD (some w) = nI (10 * v' + w) by rw [show (10 : Int32) = nI 10 from rfl, pk_mul, show encD (some w) = nI w from rfl, nI_add]]
          exact J60_s h.mv.mv hl
      · rw [if_neg c2] at e
        cases e
        rw [hyes v c1 1, if_pos (Or.inr (Or.inl (by omega)))]
        exact J60_s h.mv hl
  · rw [hyes v e 0, if_pos (Or.inl rfl)]
    exact J60_s h.mv hl
def chr (k : Nat) : Int32 := if k = 0 then 110 else if k = 1 then 100 else nI k
theorem part_x {σ0 σ : Mem} {μ : MMem} {d N p k : Nat} {c : Int32} {l : List Nat} (hr : RowAt σ0 μ d N) (hp : p ≤ N) (h : XS σ0 c σ p l) (hl : k ≤ 1 → l.length < 4) (hk : k = 0 ∨ k = 1 ∨ k = 32 ∨ k = 59) :
    (part (bt (σ0 (8 + 2 * d)) N) k p = none → f_X8_readPart d (chr k) σ = some (0, σ)) ∧ (∀ o q, part (bt (σ0 (8 + 2 * d)) N) k p = some (o, q) → ∃ σ', f_X8_readPart d (chr k) σ = some (1, σ') ∧ XS σ0 c σ' q (l ++ o.toList)) := by
  unfold part
  by_cases k0 : k = 0
  · subst k0
    obtain ⟨a1, a2, _, _⟩ := num_x hr hp h (hl (by decide))
    have e : f_X8_readPart d (chr 0) σ = b2 (f_X8_readNumber d 1 σ) fun r_8 σ_9 => if r_8 = 0 ∨ r_8 = 1 then some (r_8, σ_9) else none := by
      rw [show chr 0 = 110 from rfl, f_X8_readPart, if_pos rfl, if_pos rfl]
    rw [if_pos rfl, e]
    refine ⟨fun q => ?_, fun o q z => ?_⟩
    · cases c1 : nmb (bt (σ0 (8 + 2 * d)) N) p with
      | none => rw [a1 c1, b2s, if_pos (Or.inl rfl)]
      | some w => rw [c1] at q; cases q
    · cases c1 : nmb (bt (σ0 (8 + 2 * d)) N) p with
      | none => rw [c1] at z; cases z
      | some w =>
        obtain ⟨v, q'⟩ := w
        rw [c1] at z
        cases z
        obtain ⟨σ', e1, x1⟩ := a2 v q c1
        exact ⟨σ', by rw [e1, b2s, if_pos (Or.inr rfl)], x1⟩
  rw [if_neg k0]
  by_cases k1 : k = 1
  · subst k1
    obtain ⟨_, _, a1, a2⟩ := num_x hr hp h (hl (by decide))
    have e : f_X8_readPart d (chr 1) σ = b2 (f_X8_readNumber d 0 σ) fun r_8 σ_9 => if r_8 = 0 ∨ r_8 = 1 then some (r_8, σ_9) else none := by
      rw [show chr 1 = 100 from rfl, f_X8_readPart, if_neg (by decide), if_pos rfl, if_neg (by decide)]
    rw [if_pos rfl, e]
    refine ⟨fun q => ?_, fun o q z => ?_⟩
    · cases c1 : dgt (bt (σ0 (8 + 2 * d)) N) p with
      | none => rw [a1 c1, b2s, if_pos (Or.inl rfl)]
      | some w => rw [c1] at q; cases q
    · cases c1 : dgt (bt (σ0 (8 + 2 * d)) N) p with
      | none => rw [c1] at z; cases z
      | some v =>
        rw [c1] at z
        cases z
        obtain ⟨σ', e1, x1⟩ := a2 v c1
        exact ⟨σ', by rw [e1, b2s, if_pos (Or.inr rfl)], x1⟩
  rw [if_neg k1]
  have hc : chr k = nI k := by unfold chr; rw [if_neg k0, if_neg k1]
  have n1 : ¬ chr k = 110 := by rcases hk with rfl | rfl | rfl | rfl <;> first | decide | exact absurd rfl k0
  have n2 : ¬ chr k = 100 := by rcases hk with rfl | rfl | rfl | rfl <;> first | decide | exact absurd rfl k1
  have e : f_X8_readPart d (chr k) σ = if bt (σ0 (8 + 2 * d)) N p = nI k then some (1, uX σ 35 2 (nI (p + 1))) else some (0, σ) := by
    rw [f_X8_readPart, if_neg n1, if_neg n2, h.2.1, at_b hr hp h.1, b1s, hc, nI_1]
    rfl
  rw [e]
  refine ⟨fun q => ?_, fun o q z => ?_⟩
  · by_cases c1 : bt (σ0 (8 + 2 * d)) N p = nI k
    · rw [if_pos c1] at q; cases q
    · rw [if_neg c1]
  · by_cases c1 : bt (σ0 (8 + 2 * d)) N p = nI k
    · rw [if_pos c1] at z
      cases z
      rw [if_pos c1]
      exact ⟨_, rfl, by rw [show (none : Option Nat).toList = [] from rfl, List.append_nil]; exact h.mv⟩
    · rw [if_neg c1] at z; cases z
def vc : List Nat → Nat
  | [] => 0
  | k :: ks => (if k ≤ 1 then 1 else 0) + vc ks
theorem runX {σ0 : Mem} {μ : MMem} {d N z : Nat} {c : Int32} (hr : RowAt σ0 μ d N) : ∀ (ks : List Nat) (i n p : Nat) (σ : Mem) (l : List Nat), ks.length < n → i + ks.length < 2 ^ 31 → f_J0_length_8abf5 z = some (nI (i + ks.length)) → (∀ t k, ks[t]? = some k → f_J0_charAt_5068e z (nI (i + t)) = some (chr k) ∧ (k = 0 ∨ k = 1 ∨ k = 32 ∨ k = 59)) → p ≤ N → XS σ0 c σ p l → l.length + vc ks ≤ 4 →
    ∃ σ', f_X8_readStatement_L46 d z n (nI i) σ (fun _ σ => some (1, σ)) = some (if (run (bt (σ0 (8 + 2 * d)) N) ks p l).1 = true then 1 else 0, σ') ∧ XS σ0 c σ' (run (bt (σ0 (8 + 2 * d)) N) ks p l).2.1 (run (bt (σ0 (8 + 2 * d)) N) ks p l).2.2 := by
  intro ks
  induction ks with
  | nil =>
    intro i n p σ l h1 h2 h3 h4 h5 h6 h7
    obtain ⟨n, rfl⟩ : ∃ k, n = k + 1 := ⟨n - 1, by omega⟩
    refine ⟨σ, ?_, h6⟩
    have h2 : i < 2 ^ 31 := h2
    have h3 : f_J0_length_8abf5 z = some (nI i) := h3
    rw [f_X8_readStatement_L46, h3, b1s, if_pos (nI_le (Nat.le_refl _) h2)]
    rfl
  | cons k ks ih =>
    intro i n p σ l h1 h2 h3 h4 h5 h6 h7
    obtain ⟨n, rfl⟩ : ∃ k, n = k + 1 := ⟨n - 1, by omega⟩
    rw [List.length_cons] at h1 h2 h3
    obtain ⟨hc, hk⟩ := h4 0 k rfl
    have hvc : vc (k :: ks) = (if k ≤ 1 then 1 else 0) + vc ks := rfl
    have hl : k ≤ 1 → l.length < 4 := fun q => by rw [hvc, if_pos q] at h7; omega
    obtain ⟨a1, a2⟩ := part_x hr h5 h6 hl hk
    have e : run (bt (σ0 (8 + 2 * d)) N) (k :: ks) p l = match part (bt (σ0 (8 + 2 * d)) N) k p with
      | none => (false, p, l)
      | some (o, q) => run (bt (σ0 (8 + 2 * d)) N) ks q (l ++ o.toList) := rfl
    have hL : f_X8_readStatement_L46 d z (n + 1) (nI i) σ (fun _ σ => some (1, σ)) = b2 (f_X8_readPart d (chr k) σ) fun r_21 σ_22 => if r_21 = 0 then some (0, σ_22) else f_X8_readStatement_L46 d z n (nI (i + 1)) σ_22 (fun _ σ => some (1, σ)) := by
      rw [f_X8_readStatement_L46, h3, b1s, if_neg (nI_ge (by omega) h2), show nI i = nI (i + 0) from rfl, hc, b1s, nI_1]
      rfl
    rw [hL]
    cases hp : part (bt (σ0 (8 + 2 * d)) N) k p with
    | none =>
      rw [hp] at e
      rw [e, a1 hp, b2s, if_pos rfl]
      exact ⟨σ, rfl, h6⟩
    | some w =>
      obtain ⟨o, q⟩ := w
      rw [hp] at e
      obtain ⟨σ1, e1, x1⟩ := a2 o q hp
      have hi := part_in (show k < 2 ^ 31 by omega) hp
      have ho : (l ++ o.toList).length + vc ks ≤ 4 := by
        rw [List.length_append]
        rw [hvc] at h7
        by_cases q1 : k ≤ 1
        · rw [if_pos q1] at h7
          have : o.toList.length ≤ 1 := by
            cases o with
            | none => exact Nat.zero_le _
            | some _ => exact Nat.le_refl _
          omega
        · rw [if_neg q1] at h7
          have : o.toList.length = 0 := by
            unfold part at hp
            rw [if_neg (by omega), if_neg (by omega)] at hp
            by_cases q2 : bt (σ0 (8 + 2 * d)) N p = nI k
            · rw [if_pos q2] at hp; cases hp; rfl
            · rw [if_neg q2] at hp; cases hp
          omega
      rw [e, e1, b2s, if_neg ne10]
      exact ih (i + 1) n q σ1 (l ++ o.toList) (by omega) (by omega) (by rw [h3]; congr 2; omega) (fun t k' ht => by
        have := h4 (t + 1) k' ht
        rw [show i + (t + 1) = i + 1 + t by omega] at this
        exact this) hi.2 x1 ho
theorem form_x {c : Int32} : (c = 114 → f_X8_formBehind c = some 0) ∧ (c = 116 → f_X8_formBehind c = some 1) ∧ (c = 108 → f_X8_formBehind c = some 2) ∧ (c = 112 → f_X8_formBehind c = some 3) ∧ (form c = none → f_X8_formBehind c = some 4) := by
  refine ⟨fun h => by rw [h]; decide, fun h => by rw [h]; decide, fun h => by rw [h]; decide, fun h => by rw [h]; decide, fun h => ?_⟩
  obtain ⟨h1, h2, h3, h4⟩ := form_n h
  simp only [f_X8_formBehind, if_neg h1, if_neg h2, if_neg h3, if_neg h4, ite_self]
theorem str_len : ∀ z, z < 4 → f_J0_length_8abf5 z = some (nI ([7, 2, 2, 4].getD z 0)) ∧ f_J0_isEmpty_aae02 z = some 0 := by decide +kernel
theorem str4 : f_J0_isEmpty_aae02 4 = some 1 := by decide +kernel
theorem str0 : ∀ t, t < 7 → f_J0_charAt_5068e 0 (nI t) = some (chr ([0, 32, 0, 32, 1, 1, 59].getD t 0)) := by decide +kernel
theorem str1 : ∀ t, t < 2 → f_J0_charAt_5068e 1 (nI t) = some (chr ([1, 59].getD t 0)) := by decide +kernel
theorem str2 : ∀ t, t < 2 → f_J0_charAt_5068e 2 (nI t) = some (chr ([0, 59].getD t 0)) := by decide +kernel
theorem str3 : ∀ t, t < 4 → f_J0_charAt_5068e 3 (nI t) = some (chr ([1, 1, 1, 59].getD t 0)) := by decide +kernel
theorem str_all {z : Nat} {c : Int32} {ks : List Nat} (h : f_X8_formBehind c = some z) (hf : form c = some ks) : z < 4 ∧ f_J0_length_8abf5 z = some (nI (0 + ks.length)) ∧ (∀ t k, ks[t]? = some k → f_J0_charAt_5068e z (nI (0 + t)) = some (chr k) ∧ (k = 0 ∨ k = 1 ∨ k = 32 ∨ k = 59)) ∧ vc ks ≤ 4 ∧ ks.length < 10 := by
  obtain ⟨f1, f2, f3, f4, _⟩ := form_x (c := c)
  have key : ∀ (ks : List Nat) (z : Nat), (∀ t, t < ks.length → f_J0_charAt_5068e z (nI t) = some (chr (ks.getD t 0))) → (∀ k, k ∈ ks → k = 0 ∨ k = 1 ∨ k = 32 ∨ k = 59) → ∀ t k, ks[t]? = some k → f_J0_charAt_5068e z (nI (0 + t)) = some (chr k) ∧ (k = 0 ∨ k = 1 ∨ k = 32 ∨ k = 59) := fun ks z a b t k ht => by
    have hl : t < ks.length := (List.getElem?_eq_some_iff.mp ht).1
    have e : ks.getD t 0 = k := by rw [List.getD_eq_getElem?_getD, ht]; rfl
    rw [Nat.zero_add, a t hl, e]
    exact ⟨rfl, b k (List.mem_of_getElem? ht)⟩
  rcases form_ks hf with ⟨a, rfl⟩ | ⟨a, rfl⟩ | ⟨a, rfl⟩ | ⟨a, rfl⟩
  · rw [f1 a] at h; cases h
    exact ⟨by decide, (str_len 0 (by decide)).1, key _ _ str0 (by decide), by decide, by decide⟩
  · rw [f2 a] at h; cases h
    exact ⟨by decide, (str_len 1 (by decide)).1, key _ _ str1 (by decide), by decide, by decide⟩
  · rw [f3 a] at h; cases h
    exact ⟨by decide, (str_len 2 (by decide)).1, key _ _ str2 (by decide), by decide, by decide⟩
  · rw [f4 a] at h; cases h
    exact ⟨by decide, (str_len 3 (by decide)).1, key _ _ str3 (by decide), by decide, by decide⟩
theorem readS_x {σ : Mem} {μ : MMem} {d N p : Nat} (hr : RowAt σ μ d N) (hp : p ≤ N) (h2 : σ 35 2 = nI p) :
    ∃ σ', f_X8_readStatement d σ = some (if (stm (bt (σ (8 + 2 * d)) N) p).1 = true then 1 else 0, σ') ∧ (∀ i, i ≠ 35 → i ≠ 36 → σ' i = σ i) ∧ σ' 35 2 = nI (stm (bt (σ (8 + 2 * d)) N) p).2.1 ∧ σ' 35 3 = bt (σ (8 + 2 * d)) N p ∧ XN σ' (stm (bt (σ (8 + 2 * d)) N) p).2.2 := by
  have hN := hr.2.1
  obtain ⟨σ1, hσ1⟩ : ∃ σ1, σ1 = uX σ 35 1 0 := ⟨_, rfl⟩
  obtain ⟨σ4, hσ4⟩ : ∃ σ4, σ4 = uX σ1 35 3 (bt (σ (8 + 2 * d)) N p) := ⟨_, rfl⟩
  have f1 : ∀ i, i ≠ 35 → i ≠ 36 → σ1 i = σ i := fun i a _ => by rw [hσ1, uX_ne a]
  have f4 : ∀ i, i ≠ 35 → i ≠ 36 → σ4 i = σ i := fun i a b => by rw [hσ4, uX_ne a]; exact f1 i a b
  have a1 : σ1 35 2 = nI p := by rw [hσ1, rdX, if_neg (by omega)]; exact h2
  have a4 : σ4 35 2 = nI p := by rw [hσ4, rdX, if_neg (by omega)]; exact a1
  have a43 : σ4 35 3 = bt (σ (8 + 2 * d)) N p := by rw [hσ4, rdX, if_pos ⟨rfl, rfl⟩]
  have x4 : XS σ (bt (σ (8 + 2 * d)) N p) σ4 p [] := ⟨f4, a4, a43, by rw [hσ4, rdX, if_neg (by omega), hσ1, rdX, if_pos ⟨rfl, rfl⟩]; rfl, by decide, fun j v hj => by cases hj⟩
  have e : stm (bt (σ (8 + 2 * d)) N) p = match form (bt (σ (8 + 2 * d)) N p) with
    | none => (false, p, [])
    | some ks => run (bt (σ (8 + 2 * d)) N) ks (p + 1) [] := rfl
  have hS : f_X8_readStatement d σ = b1 (f_X8_formBehind (bt (σ (8 + 2 * d)) N p)) fun r_6 => if r_6 < 5 then b1 (f_J0_isEmpty_aae02 r_6) fun r_9 => if r_9 = 0 then f_X8_readStatement_L46 d r_6 5000 0 (uX σ4 35 2 (nI (p + 1))) (fun _ σ => some (1, σ)) else some (0, σ4) else none := by
    rw [f_X8_readStatement, bnds, ← hσ1, a1, at_b hr hp f1, b1s, bnds, ← hσ4, a43, a4, nI_1]
    rfl
  rw [hS]
  cases hf : form (bt (σ (8 + 2 * d)) N p) with
  | none =>
    rw [hf] at e
    rw [e, (form_x.2.2.2.2) hf, b1s, if_pos (by decide), str4, b1s, if_neg ne10]
    exact ⟨σ4, rfl, f4, a4, a43, x4.2.2.2⟩
  | some ks =>
    rw [hf] at e
    have hz : ∃ z, f_X8_formBehind (bt (σ (8 + 2 * d)) N p) = some z := by
      obtain ⟨f1, f2, f3, f4, _⟩ := form_x (c := bt (σ (8 + 2 * d)) N p)
      rcases form_ks hf with ⟨a, _⟩ | ⟨a, _⟩ | ⟨a, _⟩ | ⟨a, _⟩
      · exact ⟨0, f1 a⟩
      · exact ⟨1, f2 a⟩
      · exact ⟨2, f3 a⟩
      · exact ⟨3, f4 a⟩
    obtain ⟨z, hz⟩ := hz
    obtain ⟨z1, z2, z3, z4, z5⟩ := str_all hz hf
    have hpN : p < N := bt_in (ρ := σ (8 + 2 * d)) (by rcases form_ks hf with ⟨a, _⟩ | ⟨a, _⟩ | ⟨a, _⟩ | ⟨a, _⟩ <;> rw [a] <;> decide)
    obtain ⟨σ', g1, g2⟩ := runX (z := z) hr ks 0 5000 (p + 1) (uX σ4 35 2 (nI (p + 1))) [] (by omega) (by omega) z2 z3 hpN x4.mv (by show 0 + vc ks ≤ 4; omega)
    rw [e, hz, b1s, if_pos (by omega), (str_len z z1).2, b1s, if_pos rfl]
    exact ⟨σ', g1, g2.1, g2.2.1, g2.2.2.1, g2.2.2.2⟩
