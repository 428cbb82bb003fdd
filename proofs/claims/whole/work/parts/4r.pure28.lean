/-! PURE, 28: dress -/
theorem part_v {ρ : Nat → Int32} {N k p q : Nat} {o : Option Nat} (h : part (bt ρ N) k p = some (o, q)) : (2 ≤ k ∧ o = none) ∨ (k < 2 ∧ ∃ v, o = some v ∧ v ≤ (if k = 0 then 99 else 9)) := by
  unfold part at h
  by_cases c : k = 0
  · rw [if_pos c] at h
    cases h1 : nmb (bt ρ N) p with
    | none => rw [h1] at h; cases h
    | some w =>
      obtain ⟨v, q'⟩ := w
      have := nmb_in h1
      rw [h1] at h
      cases h
      rw [if_pos c]
      exact Or.inr ⟨by omega, v, rfl, this.2.2⟩
  rw [if_neg c] at h
  by_cases c1 : k = 1
  · rw [if_pos c1] at h
    cases h1 : dgt (bt ρ N) p with
    | none => rw [h1] at h; cases h
    | some w =>
      have := dgt_y h1
      rw [h1] at h
      cases h
      rw [if_neg c]
      exact Or.inr ⟨by omega, w, rfl, this.1⟩
  rw [if_neg c1] at h
  by_cases c2 : bt ρ N p = nI k
  · rw [if_pos c2] at h
    cases h
    exact Or.inl ⟨by omega, rfl⟩
  · rw [if_neg c2] at h
    cases h
def okv : List Nat → List Nat → Prop
  | [], vs => vs = []
  | k :: ks, vs => (2 ≤ k ∧ okv ks vs) ∨ (k < 2 ∧ ∃ v vs', vs = v :: vs' ∧ v ≤ (if k = 0 then 99 else 9) ∧ okv ks vs')
theorem run_v {ρ : Nat → Int32} {N : Nat} : ∀ (ks : List Nat) (p : Nat) (l : List Nat), (run (bt ρ N) ks p l).1 = true → ∃ vs, (run (bt ρ N) ks p l).2.2 = l ++ vs ∧ okv ks vs := by
  intro ks
  induction ks with
  | nil => intro p l _; exact ⟨[], (List.append_nil l).symm, rfl⟩
  | cons k ks ih =>
    intro p l h
    have e : run (bt ρ N) (k :: ks) p l = match part (bt ρ N) k p with
      | none => (false, p, l)
      | some (o, q) => run (bt ρ N) ks q (l ++ o.toList) := rfl
    cases hp : part (bt ρ N) k p with
    | none =>
      rw [hp] at e
      have e : run (bt ρ N) (k :: ks) p l = (false, p, l) := e
      rw [e] at h
      cases h
    | some w =>
      obtain ⟨o, q⟩ := w
      rw [hp] at e
      have e : run (bt ρ N) (k :: ks) p l = run (bt ρ N) ks q (l ++ o.toList) := e
      rw [e] at h ⊢
      obtain ⟨vs, h1, h2⟩ := ih q _ h
      rcases part_v hp with ⟨a, rfl⟩ | ⟨a, v, rfl, hv⟩
      · exact ⟨vs, by rw [h1]; show l ++ [] ++ vs = l ++ vs; rw [List.append_nil], Or.inl ⟨a, h2⟩⟩
      · exact ⟨v :: vs, by rw [h1]; show l ++ [v] ++ vs = l ++ v :: vs; rw [List.append_assoc]; rfl, Or.inr ⟨a, v, vs, rfl, hv, h2⟩⟩
/-- what a statement's numbers may be -/
def VL (c : Int32) (l : List Nat) : Prop := (c = 114 ∧ ∃ a b e f, l = [a, b, e, f] ∧ a ≤ 99 ∧ b ≤ 99 ∧ e ≤ 9 ∧ f ≤ 9) ∨ (c = 116 ∧ ∃ a, l = [a] ∧ a ≤ 9) ∨ (c = 108 ∧ ∃ a, l = [a] ∧ a ≤ 99) ∨ (c = 112 ∧ ∃ a b e, l = [a, b, e] ∧ a ≤ 9 ∧ b ≤ 9 ∧ e ≤ 9)
theorem okv_n {k : Nat} {ks vs : List Nat} (h : okv (k :: ks) vs) (hk : k < 2) : ∃ v vs', vs = v :: vs' ∧ v ≤ (if k = 0 then 99 else 9) ∧ okv ks vs' := by
  rcases h with ⟨a, _⟩ | ⟨_, h⟩
  · omega
  · exact h
theorem okv_s {k : Nat} {ks vs : List Nat} (h : okv (k :: ks) vs) (hk : 2 ≤ k) : okv ks vs := by
  rcases h with ⟨_, h⟩ | ⟨a, _⟩
  · exact h
  · omega
theorem stm_v {ρ : Nat → Int32} {N p : Nat} (h : (stm (bt ρ N) p).1 = true) : VL (bt ρ N p) (stm (bt ρ N) p).2.2 := by
  have e : stm (bt ρ N) p = match form (bt ρ N p) with
    | none => (false, p, [])
    | some ks => run (bt ρ N) ks (p + 1) [] := rfl
  cases hf : form (bt ρ N p) with
  | none =>
    rw [hf] at e
    have e : stm (bt ρ N) p = (false, p, []) := e
    rw [e] at h
    cases h
  | some ks =>
    rw [hf] at e
    have e : stm (bt ρ N) p = run (bt ρ N) ks (p + 1) [] := e
    rw [e] at h ⊢
    obtain ⟨vs, h1, h2⟩ := run_v ks (p + 1) [] h
    rw [h1, List.nil_append]
    rcases form_ks hf with ⟨a, rfl⟩ | ⟨a, rfl⟩ | ⟨a, rfl⟩ | ⟨a, rfl⟩
    · obtain ⟨x1, v1, rfl, b1', h3⟩ := okv_n h2 (by decide)
      obtain ⟨x2, v2, rfl, b2', h4⟩ := okv_n (okv_s h3 (by decide)) (by decide)
      obtain ⟨x3, v3, rfl, b3', h5⟩ := okv_n (okv_s h4 (by decide)) (by decide)
      obtain ⟨x4, v4, rfl, b4', h6⟩ := okv_n h5 (by decide)
      have h7 : v4 = [] := okv_s h6 (by decide)
      subst h7
      exact Or.inl ⟨a, x1, x2, x3, x4, rfl, b1', b2', b3', b4'⟩
    · obtain ⟨x1, v1, rfl, b1', h3⟩ := okv_n h2 (by decide)
      have h7 : v1 = [] := okv_s h3 (by decide)
      subst h7
      exact Or.inr (Or.inl ⟨a, x1, rfl, b1'⟩)
    · obtain ⟨x1, v1, rfl, b1', h3⟩ := okv_n h2 (by decide)
      have h7 : v1 = [] := okv_s h3 (by decide)
      subst h7
      exact Or.inr (Or.inr (Or.inl ⟨a, x1, rfl, b1'⟩))
    · obtain ⟨x1, v1, rfl, b1', h3⟩ := okv_n h2 (by decide)
      obtain ⟨x2, v2, rfl, b2', h4⟩ := okv_n h3 (by decide)
      obtain ⟨x3, v3, rfl, b3', h5⟩ := okv_n h4 (by decide)
      have h7 : v3 = [] := okv_s h5 (by decide)
      subst h7
      exact Or.inr (Or.inr (Or.inr ⟨a, x1, x2, x3, rfl, b1', b2', b3'⟩))
-- carrying out
theorem num_l {σ : Mem} {l : List Nat} {j v : Nat} (h : XN σ l) (hj : l[j]? = some v) : f_X8_number (nI j) σ = some (nI v) := by
  have hl : j < l.length := (List.getElem?_eq_some_iff.mp hj).1
  have h4 := h.2.1
  rw [f_X8_number, if_neg (nI_pos (by omega)), h.1, if_neg (nI_ge hl (by omega)), if_neg (show ¬ (4 : Int32) ≤ nI j from nI_ge (a := j) (b := 4) (by omega) (by decide)), if_neg (nI_in (show j < 4 by omega) (by decide)), nI_clamp (by omega), h.2.2 j v hj]
def ringD (D : DS) (n a b e f : Nat) : DS := setQ (setV (setV (setV (setV D n 0 (nI a)) n 1 (nI b)) n 2 (nI e)) n 3 (nI f)) 0 (nI (n + 1))
theorem okRing {D : DS} {n a b e f : Nat} (h : OkN D n) (hn : n < 6) (ha : 1 ≤ a ∧ a ≤ 99) (hb : 1 ≤ b ∧ b ≤ 99) (he : e ≤ 9) (hf : f ≤ 9) : OkN (ringD D n a b e f) (n + 1) := by
  refine ⟨by omega, setQ_same, ?_, ?_, ?_, ?_, fun r hr => ?_⟩
  · obtain ⟨t, h1, h2⟩ := h.2.2.1
    exact ⟨t, h1, (setQ_ne (by decide)).trans h2⟩
  · obtain ⟨t, h1, h2⟩ := h.2.2.2.1
    exact ⟨t, h1, (setQ_ne (by decide)).trans h2⟩
  · obtain ⟨t, h1, h2⟩ := h.2.2.2.2.1
    exact ⟨t, h1, (setQ_ne (by decide)).trans h2⟩
  · obtain ⟨t, h1, h2⟩ := h.2.2.2.2.2.1
    exact ⟨t, h1, (setQ_ne (by decide)).trans h2⟩
  · unfold ringD
    unfold OkR
    simp only [setQ_v]
    by_cases c : r = n
    · subst c
      refine ⟨a, b, e, f, ha.1, ha.2, hb.1, hb.2, he, hf, ?_, ?_, ?_, setV_same⟩
      · rw [setV_ne (by omega), setV_ne (by omega), setV_ne (by omega), setV_same]
      · rw [setV_ne (by omega), setV_ne (by omega), setV_same]
      · rw [setV_ne (by omega), setV_same]
    · obtain ⟨g, w, k, v, a1, a2, a3, a4, a5, a6, b0, b1', b2', b3⟩ := h.2.2.2.2.2.2 r (by omega)
      refine ⟨g, w, k, v, a1, a2, a3, a4, a5, a6, ?_, ?_, ?_, ?_⟩
      · rw [setV_ne (by omega), setV_ne (by omega), setV_ne (by omega), setV_ne (by omega)]; exact b0
      · rw [setV_ne (by omega), setV_ne (by omega), setV_ne (by omega), setV_ne (by omega)]; exact b1'
      · rw [setV_ne (by omega), setV_ne (by omega), setV_ne (by omega), setV_ne (by omega)]; exact b2'
      · rw [setV_ne (by omega), setV_ne (by omega), setV_ne (by omega), setV_ne (by omega)]; exact b3
theorem wi99 : ∀ a, a < 100 → f_X11_within (nI a) 1 99 = some (if a < 1 then 0 else 1) := by decide +kernel
theorem lt1 : ∀ a, a < 100 → (nI a < 1 ↔ a < 1) := by decide +kernel
def Car (σ : Mem) (μ : MMem) (k : Nat) : Prop := (∃ σ' μ' D' n', f_X11_carryOut 2 σ = some (1, σ') ∧ f_X12_comes (nI k) μ = some (1, μ') ∧ DX σ σ' 2 D' ∧ MD μ μ' D' ∧ OkN D' n') ∨ (∃ σ' μ' D1 D2, f_X11_carryOut 2 σ = some (0, σ') ∧ f_X12_comes (nI k) μ = some (0, μ') ∧ DX σ σ' 2 D1 ∧ MD μ μ' D2)
theorem carry_r {σ : Mem} {μ : MMem} {k n a b e f : Nat} (hXM : dsX σ 2 = dsM μ) (hD : OkN (dsM μ) n) (hk : k < 51) (h3 : σ 35 3 = 114) (hn : XN σ [a, b, e, f]) (h8 : (μ 8).1 k = 114) (h9 : (μ 9).1 k = nI a) (h10 : (μ 10).1 k = nI b) (h11 : (μ 11).1 k = nI e) (h12 : (μ 12).1 k = nI f) (ha : a ≤ 99) (hb : b ≤ 99) (he : e ≤ 9) (hf : f ≤ 9) : Car σ μ k := by
  have h6 := hD.1
  have hbk : ¬ (nI k < 0 ∨ 51 ≤ (nI k).toNatClampNeg) := nI_in hk (by decide)
  have hbk2 : ¬ (nI k < 0 ∨ 51 ≤ k) := fun z => z.elim (nI_pos (by omega)) (by omega)
  have hck := nI_clamp (show k < 2 ^ 31 by omega)
  have n0 : f_X8_number 0 σ = some (nI a) := num_l hn (j := 0) rfl
  have n1 : f_X8_number 1 σ = some (nI b) := num_l hn (j := 1) rfl
  have n2 : f_X8_number 2 σ = some (nI e) := num_l hn (j := 2) rfl
  have n3 : f_X8_number 3 σ = some (nI f) := num_l hn (j := 3) rfl
  have hX : f_X11_carryOut 2 σ = b2 (f_X0_addRing 2 (nI a) (nI b) (nI e) (nI f) σ) fun r_14 σ_15 => if r_14 = 0 ∨ r_14 = 1 then some (r_14, σ_15) else none := by
    rw [f_X11_carryOut, n0, b1s, h3, if_neg (by decide), if_pos rfl, n1, b1s, n2, b1s, n3, b1s]
  have hM : f_X12_comes (nI k) μ = b2 (f_X12_ringComes (nI k) μ) fun r_46 σ_47 => if r_46 = 0 ∨ r_46 = 1 then some (r_46, σ_47) else none := by
    rw [f_X12_comes, if_neg hbk, hck, h8, if_pos rfl]
  have q0 : σ (1 + 2 * 2) 1 = nI n := by
    have h : (dsX σ 2).1 0 = nI n := by rw [hXM]; exact hD.2.1
    exact h
  have q1 : (μ 0).1 0 = nI n := by rw [← M_q0]; exact hD.2.1
  have bad : (a < 1 ∨ b < 1 ∨ n = 6) → Car σ μ k := fun h => by
    refine Or.inr ⟨σ, μ, _, _, ?_, ?_, DX.rf, MD.rf⟩
    · rw [hX, f_X0_addRing, wi99 a (by omega), b1s]
      by_cases c1 : a < 1
      · rw [if_pos c1, if_pos rfl, b2s, if_pos (Or.inl rfl)]
      rw [if_neg c1, if_neg ne10, wi99 b (by omega), b1s]
      by_cases c2 : b < 1
      · rw [if_pos c2, if_pos rfl, b2s, if_pos (Or.inl rfl)]
      rw [if_neg c2, if_neg ne10, q0, if_neg (show ¬ nI n < 6 from nI_nlt (a := n) (b := 6) (by omega) (by omega)), b2s, if_pos (Or.inl rfl)]
    · rw [hM, f_X12_ringComes, if_neg hbk, hck, h9]
      by_cases c1 : a < 1
      · rw [if_pos ((lt1 a (by omega)).mpr c1), b2s, if_pos (Or.inl rfl)]
      rw [if_neg (fun z => c1 ((lt1 a (by omega)).mp z)), if_neg hbk2, h10]
      by_cases c2 : b < 1
      · rw [if_pos ((lt1 b (by omega)).mpr c2), b2s, if_pos (Or.inl rfl)]
      rw [if_neg (fun z => c2 ((lt1 b (by omega)).mp z)), q1, if_pos (show nI n = 6 by rw [show n = 6 by omega]; rfl), b2s, if_pos (Or.inl rfl)]
  by_cases c1 : a < 1
  · exact bad (Or.inl c1)
  by_cases c2 : b < 1
  · exact bad (Or.inr (Or.inl c2))
  by_cases c3 : n = 6
  · exact bad (Or.inr (Or.inr c3))
  have hn6 : n < 6 := by omega
  have hbn : ¬ (nI n < 0 ∨ 6 ≤ (nI n).toNatClampNeg) := nI_in hn6 (by decide)
  have hbn2 : ¬ (nI n < 0 ∨ 6 ≤ n) := fun z => z.elim (nI_pos (by omega)) (by omega)
  have hcn := nI_clamp (show n < 2 ^ 31 by omega)
  have x0 := DX.v (σ := σ) (k := 2) (r := n) (w := 0) (x := nI a) hn6 (by decide)
  have x1 := DX.v (σ := uX σ (2 + 2 * 2) (4 * n + 0) (nI a)) (k := 2) (r := n) (w := 1) (x := nI b) hn6 (by decide)
  have x2 := DX.v (σ := uX (uX σ (2 + 2 * 2) (4 * n + 0) (nI a)) (2 + 2 * 2) (4 * n + 1) (nI b)) (k := 2) (r := n) (w := 2) (x := nI e) hn6 (by decide)
  have x3 := DX.v (σ := uX (uX (uX σ (2 + 2 * 2) (4 * n + 0) (nI a)) (2 + 2 * 2) (4 * n + 1) (nI b)) (2 + 2 * 2) (4 * n + 2) (nI e)) (k := 2) (r := n) (w := 3) (x := nI f) hn6 (by decide)
  have x4 := DX.q (σ := uX (uX (uX (uX σ (2 + 2 * 2) (4 * n + 0) (nI a)) (2 + 2 * 2) (4 * n + 1) (nI b)) (2 + 2 * 2) (4 * n + 2) (nI e)) (2 + 2 * 2) (4 * n + 3) (nI f)) (k := 2) (j := 0) (x := nI (n + 1)) (by decide)
  rw [x0.1] at x1
  rw [x1.1] at x2
  rw [x2.1] at x3
  rw [x3.1, hXM] at x4
  have y0 := MD.v (μ := μ) (r := n) (w := 0) (x := nI a) hn6 (by decide)
  have y1 := MD.v (μ := uI μ (1 + 0) n (nI a)) (r := n) (w := 1) (x := nI b) hn6 (by decide)
  have y2 := MD.v (μ := uI (uI μ (1 + 0) n (nI a)) (1 + 1) n (nI b)) (r := n) (w := 2) (x := nI e) hn6 (by decide)
  have y3 := MD.v (μ := uI (uI (uI μ (1 + 0) n (nI a)) (1 + 1) n (nI b)) (1 + 2) n (nI e)) (r := n) (w := 3) (x := nI f) hn6 (by decide)
  have y4 := MD.q (μ := uI (uI (uI (uI μ (1 + 0) n (nI a)) (1 + 1) n (nI b)) (1 + 2) n (nI e)) (1 + 3) n (nI f)) (j := 0) (c := 0) (x := nI (n + 1)) (Or.inl ⟨rfl, rfl⟩)
  rw [y0.1] at y1
  rw [y1.1] at y2
  rw [y2.1] at y3
  rw [y3.1] at y4
  refine Or.inl ⟨_, _, ringD (dsM μ) n a b e f, n + 1, ?_, ?_, (((x0.tr x1).tr x2).tr x3).tr x4, (((y0.tr y1).tr y2).tr y3).tr y4, okRing hD hn6 (by omega) (by omega) he hf⟩
  · rw [hX, f_X0_addRing, wi99 a (by omega), b1s, if_neg c1, if_neg ne10, wi99 b (by omega), b1s, if_neg c2, if_neg ne10, q0, if_pos (show nI n < 6 from nI_lt (a := n) (b := 6) hn6 (by decide)), set0 hn6, b1s, uX_ne (show 1 + 2 * 2 ≠ 2 + 2 * 2 by decide), q0, set1 hn6, b1s, uX_ne (show 1 + 2 * 2 ≠ 2 + 2 * 2 by decide), uX_ne (show 1 + 2 * 2 ≠ 2 + 2 * 2 by decide), q0, bnds, set2 hn6, b1s, uX_ne (show 1 + 2 * 2 ≠ 2 + 2 * 2 by decide), uX_ne (show 1 + 2 * 2 ≠ 2 + 2 * 2 by decide), uX_ne (show 1 + 2 * 2 ≠ 2 + 2 * 2 by decide), q0, bnds, set3 hn6, b1s, uX_ne (show 1 + 2 * 2 ≠ 2 + 2 * 2 by decide), uX_ne (show 1 + 2 * 2 ≠ 2 + 2 * 2 by decide), uX_ne (show 1 + 2 * 2 ≠ 2 + 2 * 2 by decide), uX_ne (show 1 + 2 * 2 ≠ 2 + 2 * 2 by decide), q0, nI_1, bnds, bnds, b2s, if_pos (Or.inr rfl)]
  · have z0 : ∀ i x, i ≠ 0 → ∀ μ : MMem, ((uI μ i n x) 0).1 0 = (μ 0).1 0 := fun i x h μ => by rw [uI_ne (Ne.symm h)]
    have z10 : ∀ i x, i ≤ 4 → ∀ (μ : MMem) (j : Nat), 9 ≤ j → (uI μ i n x) j = μ j := fun i x h μ j hj => uI_ne (by omega)
    rw [hM, f_X12_ringComes, if_neg hbk, hck, h9, if_neg (fun z => c1 ((lt1 a (by omega)).mp z)), if_neg hbk2, h10, if_neg (fun z => c2 ((lt1 b (by omega)).mp z)), q1, if_neg (show ¬ nI n = 6 from fun z => c3 ((nI_eq (a := n) (b := 6) (by omega) (by decide)).mp z)), if_neg hbk2, bnds, bnds, if_neg hbn, hcn, bnds, if_neg hbk2, z10 1 _ (by decide) _ 10 (by decide), h10, bnds, z0 1 _ (by decide), q1, bnds, if_neg hbn, hcn, bnds,
      if_neg hbk2, z10 2 _ (by decide) _ 11 (by decide), z10 1 _ (by decide) _ 11 (by decide), h11, bnds, z0 2 _ (by decide), z0 1 _ (by decide), q1, bnds, if_neg hbn, hcn, bnds,
      if_neg hbk2, z10 3 _ (by decide) _ 12 (by decide), z10 2 _ (by decide) _ 12 (by decide), z10 1 _ (by decide) _ 12 (by decide), h12, bnds, z0 3 _ (by decide), z0 2 _ (by decide), z0 1 _ (by decide), q1, bnds, if_neg hbn, hcn, bnds,
      z0 4 _ (by decide), z0 3 _ (by decide), z0 2 _ (by decide), z0 1 _ (by decide), q1, nI_1, bnds, bnds, b2s, if_pos (Or.inr rfl)]
theorem carry_t {σ : Mem} {μ : MMem} {k n a : Nat} (hXM : dsX σ 2 = dsM μ) (hD : OkN (dsM μ) n) (hk : k < 51) (h3 : σ 35 3 = 116) (hn : XN σ [a]) (h8 : (μ 8).1 k = 116) (h9 : (μ 9).1 k = nI a) (ha : a ≤ 9) : Car σ μ k := by
  have hbk : ¬ (nI k < 0 ∨ 51 ≤ (nI k).toNatClampNeg) := nI_in hk (by decide)
  have hbk2 : ¬ (nI k < 0 ∨ 51 ≤ k) := fun z => z.elim (nI_pos (by omega)) (by omega)
  have hck := nI_clamp (show k < 2 ^ 31 by omega)
  have n0 : f_X8_number 0 σ = some (nI a) := num_l hn (j := 0) rfl
  have x := DX.q (σ := σ) (k := 2) (j := 1) (x := nI a) (by decide)
  rw [hXM] at x
  refine Or.inl ⟨_, _, _, n, ?_, ?_, x, MD.q (j := 1) (c := 3) (x := nI a) (Or.inr (Or.inl ⟨rfl, rfl⟩)), hD.t ha⟩
  · rw [f_X11_carryOut, n0, b1s, h3, if_neg (by decide), if_neg (by decide), if_pos rfl, bnds]
  · rw [f_X12_comes, if_neg hbk, hck, h8, if_neg (by decide), if_neg hbk2, if_pos rfl, if_neg hbk2, h9, bnds, bnds]
theorem carry_l {σ : Mem} {μ : MMem} {k n a : Nat} (hXM : dsX σ 2 = dsM μ) (hD : OkN (dsM μ) n) (hk : k < 51) (h3 : σ 35 3 = 108) (hn : XN σ [a]) (h8 : (μ 8).1 k = 108) (h9 : (μ 9).1 k = nI a) (ha : a ≤ 99) : Car σ μ k := by
  have hbk : ¬ (nI k < 0 ∨ 51 ≤ (nI k).toNatClampNeg) := nI_in hk (by decide)
  have hbk2 : ¬ (nI k < 0 ∨ 51 ≤ k) := fun z => z.elim (nI_pos (by omega)) (by omega)
  have hck := nI_clamp (show k < 2 ^ 31 by omega)
  have n0 : f_X8_number 0 σ = some (nI a) := num_l hn (j := 0) rfl
  have x := DX.q (σ := σ) (k := 2) (j := 2) (x := nI a) (by decide)
  rw [hXM] at x
  have y := MD.q (μ := μ) (j := 2) (c := 4) (x := nI a) (Or.inr (Or.inr (Or.inl ⟨rfl, rfl⟩)))
  have hM : f_X12_comes (nI k) μ = if 30 < nI a then some (0, uI μ 0 4 (nI a)) else some (1, uI μ 0 4 (nI a)) := by
    rw [f_X12_comes, if_neg hbk, hck, h8, if_neg (by decide), if_neg hbk2, if_neg (by decide), if_neg hbk2, if_pos rfl, if_neg hbk2, h9, bnds, bnds, if_neg hbk2, uI_ne (show 9 ≠ 0 by decide), h9]
  by_cases c : a ≤ 30
  · refine Or.inl ⟨_, _, _, n, ?_, hM.trans (if_neg (show ¬ (30 : Int32) < nI a from nI_nlt (a := 30) (b := a) c (by decide))), x, y, hD.l c⟩
    rw [f_X11_carryOut, n0, b1s, h3, if_pos rfl, if_pos (show nI a ≤ 30 from nI_le (a := a) (b := 30) c (by decide)), bnds]
  · refine Or.inr ⟨σ, _, _, _, ?_, hM.trans (if_pos (show (30 : Int32) < nI a from nI_lt (a := 30) (b := a) (by omega) (by omega))), DX.rf, y⟩
    rw [f_X11_carryOut, n0, b1s, h3, if_pos rfl, if_neg (show ¬ nI a ≤ 30 from nI_ge (a := 30) (b := a) (by omega) (by omega))]
theorem carry_p {σ : Mem} {μ : MMem} {k n a b e : Nat} (hXM : dsX σ 2 = dsM μ) (hD : OkN (dsM μ) n) (hk : k < 51) (h3 : σ 35 3 = 112) (hn : XN σ [a, b, e]) (h8 : (μ 8).1 k = 112) (h9 : (μ 9).1 k = nI a) (h10 : (μ 10).1 k = nI b) (h11 : (μ 11).1 k = nI e) (ha : a ≤ 9) (hb : b ≤ 9) (he : e ≤ 9) : Car σ μ k := by
  have h6 := hD.1
  have hbk : ¬ (nI k < 0 ∨ 51 ≤ (nI k).toNatClampNeg) := nI_in hk (by decide)
  have hbk2 : ¬ (nI k < 0 ∨ 51 ≤ k) := fun z => z.elim (nI_pos (by omega)) (by omega)
  have hck := nI_clamp (show k < 2 ^ 31 by omega)
  have n0 : f_X8_number 0 σ = some (nI a) := num_l hn (j := 0) rfl
  have n1 : f_X8_number 1 σ = some (nI b) := num_l hn (j := 1) rfl
  have n2 : f_X8_number 2 σ = some (nI e) := num_l hn (j := 2) rfl
  have hX2 : (dsX σ 2).1 0 = nI n := by rw [hXM]; exact hD.2.1
  have hM : f_X12_comes (nI k) μ = if 8 ≤ nI a then some (0, μ) else b1 (f_X12_isRing (nI e) μ) fun r_26 => if r_26 = 0 then some (0, μ) else b1 (f_X12_mayBe (nI a) (nI b) (nI e) μ) fun r_35 => if r_35 = 0 then some (0, μ) else b1 (f_X12_does (nI a) (nI b) (nI e) μ) fun σ_19 => some (1, σ_19) := by
    rw [f_X12_comes, if_neg hbk, hck, h8, if_neg (by decide), if_neg hbk2, if_neg (by decide), if_neg hbk2, if_neg (by decide), if_neg hbk2, jns]
    dsimp only
    rw [jns]
    dsimp only
    simp only [h9, h10, h11, if_neg hbk2, bnds, if_neg ne10, if_true, true_or, or_true]
  by_cases c : 8 ≤ a
  · refine Or.inr ⟨σ, μ, _, _, ?_, hM.trans (if_pos (show (8 : Int32) ≤ nI a from nI_le (a := 8) (b := a) c (by omega))), DX.rf, MD.rf⟩
    rw [f_X11_carryOut, n0, b1s, h3, if_neg (by decide), if_neg (by decide), if_neg (by decide), if_pos (show (8 : Int32) ≤ nI a from nI_le (a := 8) (b := a) c (by omega))]
  · have ha8 : a < 8 := by omega
    rw [if_neg (show ¬ (8 : Int32) ≤ nI a from nI_ge (a := a) (b := 8) ha8 (by decide))] at hM
    have hX : f_X11_carryOut 2 σ = b2 (f_X0_tryPin 2 a (nI b) (nI e) σ) fun r_28 σ_29 => if r_28 = 0 then some (0, σ_29) else some (1, σ_29) := by
      rw [f_X11_carryOut, n0, b1s, h3, if_neg (by decide), if_neg (by decide), if_neg (by decide), if_neg (show ¬ (8 : Int32) ≤ nI a from nI_ge (a := a) (b := 8) ha8 (by decide)), atK ha8, b1s, if_pos ha8, n1, b1s, n2, b1s]
    by_cases ce : e < n
    · rw [isRing_y hD.2.1 ce h6, b1s, if_neg ne10, mayBe_s ha8 hD.2.1 ce h6, b1s] at hM
      rcases mayI_01 (d := dsM μ) (n := n) (j := a) (f := b) (r := e) with h | h
      · rw [h, if_pos rfl] at hM
        refine Or.inr ⟨σ, μ, _, _, ?_, hM, DX.rf, MD.rf⟩
        rw [hX, tryPin_n ha8 hX2 ce h6 (by rw [hXM]; exact h), b2s, if_pos rfl]
      · obtain ⟨σ1, e1, y1⟩ := tryPin_y ha8 hX2 ce h6 (f := b) (by rw [hXM]; exact h)
        obtain ⟨μ1, e2, y2⟩ := does_s ha8 hD ce (show b < 10 by omega) h
        rw [hXM] at y1
        rw [h, if_neg ne10, e2, b1s] at hM
        refine Or.inl ⟨σ1, μ1, _, n, ?_, hM, y1, y2, okDoes ha8 hD ce (by omega) h⟩
        rw [hX, e1, b2s, if_neg ne10]
    · have ho : nI e < 0 ∨ nI n ≤ nI e := Or.inr (nI_le (by omega) (by omega))
      rw [isRing_n hD.2.1 ho h6, b1s, if_pos rfl] at hM
      refine Or.inr ⟨σ, μ, _, _, ?_, hM, DX.rf, MD.rf⟩
      rw [hX, tryPin_o hX2 ho, b2s, if_pos rfl]
theorem carry_s {σ : Mem} {μ : MMem} {k n p : Nat} {c : Int32} {l : List Nat} (hXM : dsX σ 2 = dsM μ) (hD : OkN (dsM μ) n) (hk : k < 51) (h3 : σ 35 3 = c) (hn : XN σ l) (hs : STK μ k p c l) (hv : VL c l) : Car σ μ k := by
  obtain ⟨s7, s8, s9, s10, s12⟩ := hs
  rcases hv with ⟨rfl, a, b, e, f, rfl, v1, v2, v3, v4⟩ | ⟨rfl, a, rfl, v1⟩ | ⟨rfl, a, rfl, v1⟩ | ⟨rfl, a, b, e, rfl, v1, v2, v3⟩
  · exact carry_r hXM hD hk h3 hn s8 (s9 a rfl) ((s10 (Or.inl rfl)).1 b rfl) ((s10 (Or.inl rfl)).2 e rfl) (s12 rfl f rfl) v1 v2 v3 v4
  · exact carry_t hXM hD hk h3 hn s8 (s9 a rfl) v1
  · exact carry_l hXM hD hk h3 hn s8 (s9 a rfl) v1
  · exact carry_p hXM hD hk h3 hn s8 (s9 a rfl) ((s10 (Or.inr rfl)).1 b rfl) ((s10 (Or.inr rfl)).2 e rfl) v1 v2 v3
