/-! PURE, 24: orders -/
def fct : Nat → Nat
  | 0 => 1
  | n + 1 => fct n * (n + 1)
theorem fct_s : ∀ n, n < 6 → nI (fct n) * nI (n + 1) = nI (fct (n + 1)) := by decide +kernel
theorem fct_b : ∀ n, n < 6 → 1 ≤ fct n ∧ fct n ≤ 120 := by decide +kernel
theorem fctL {m : Nat} (hm : m ≤ 5) : ∀ (j f n : Nat), n + j = m → j < f → ∃ x, ∀ σ K, f_X11_orders_L54 (nI m) f (nI (fct n)) (nI (n + 1)) σ K = K (nI (fct m)) x σ := by
  intro j
  induction j with
  | zero =>
    intro f n h1 h2
    obtain ⟨f, rfl⟩ : ∃ k, f = k + 1 := ⟨f - 1, by omega⟩
    have e : n = m := by omega
    subst e
    exact ⟨nI (n + 1), fun σ K => by rw [f_X11_orders_L54, if_pos (nI_lt (show n < n + 1 by omega) (by omega))]⟩
  | succ j ih =>
    intro f n h1 h2
    obtain ⟨f, rfl⟩ : ∃ k, f = k + 1 := ⟨f - 1, by omega⟩
    obtain ⟨x, hx⟩ := ih f (n + 1) (by omega) (by omega)
    refine ⟨x, fun σ K => ?_⟩
    rw [f_X11_orders_L54, if_neg (Int32.not_lt.mpr (nI_le (show n + 1 ≤ m by omega) (by omega))), bnds, bnds, fct_s n (by omega), nI_1]
    exact hx σ K
theorem fct1 {m f : Nat} (hm : m ≤ 5) (hf : 5 < f) : ∃ x, ∀ σ K, f_X11_orders_L54 (nI m) f 1 2 σ K = K (nI (fct m)) x σ := by
  by_cases z : m = 0
  · subst z
    obtain ⟨f, rfl⟩ : ∃ k, f = k + 1 := ⟨f - 1, by omega⟩
    exact ⟨2, fun σ K => by rw [f_X11_orders_L54, if_pos (by decide)]; rfl⟩
  · exact fctL hm (m - 1) f 1 (by omega) (by omega)
/-- how many of the places below n are not used -/
def cnt (u : Nat) : Nat → Nat
  | 0 => 0
  | n + 1 => cnt u n + if u.testBit n = false then 1 else 0
/-- the unused place with t unused ones ahead -/
def upl (u t : Nat) : Nat → Nat
  | 0 => 0
  | n + 1 => if u.testBit n = false ∧ cnt u n = t then n else upl u t n
theorem un_s : ∀ u, u < 64 → ∀ p, p < 6 → u.testBit p = false → f_X11_unusedPlace (nI u) (nI (cnt u p)) = some (nI p) := by decide +kernel
theorem upl_s : ∀ u, u < 64 → ∀ p, p < 6 → u.testBit p = false → upl u (cnt u p) 6 = p := by decide +kernel
theorem cnt_o : ∀ u, u < 64 → ∀ p, p < 6 → ∀ n, n < 7 → u.testBit p = false → p < n → cnt (u ||| 2 ^ p) n + 1 = cnt u n := by decide +kernel
theorem cnt_0 : ∀ m, m < 7 → cnt 0 m = m := by decide +kernel
theorem cnt_ex {u t : Nat} : ∀ n, t < cnt u n → ∃ p, p < n ∧ u.testBit p = false ∧ cnt u p = t := by
  intro n
  induction n with
  | zero => intro h; exact absurd h (Nat.not_lt_zero t)
  | succ n ih =>
    intro h
    have e : cnt u (n + 1) = cnt u n + if u.testBit n = false then 1 else 0 := rfl
    by_cases h1 : t < cnt u n
    · obtain ⟨p, a, b, c⟩ := ih h1
      exact ⟨p, by omega, b, c⟩
    · by_cases hb : u.testBit n = false
      · rw [e, if_pos hb] at h
        exact ⟨n, by omega, hb, by omega⟩
      · rw [e, if_neg hb] at h
        omega
theorem od_up {g : Nat → Nat × Option Nat} {u : Nat} (hu : u < 64) : ∀ n, n ≤ 6 → od_sum (fun t => g (upl u t 6)) (cnt u n) = od_sum (fun p => if u.testBit p = false then g p else (0, none)) n := by
  intro n
  induction n with
  | zero => intro _; rfl
  | succ n ih =>
    intro h
    have e : cnt u (n + 1) = cnt u n + if u.testBit n = false then 1 else 0 := rfl
    have e2 : od_sum (fun p => if u.testBit p = false then g p else (0, none)) (n + 1) = od_add (od_sum (fun p => if u.testBit p = false then g p else (0, none)) n) (if u.testBit n = false then g n else (0, none)) := rfl
    rw [e, e2, ← ih (by omega)]
    by_cases hb : u.testBit n = false
    · rw [if_pos hb, if_pos hb]
      have e3 : od_sum (fun t => g (upl u t 6)) (cnt u n + 1) = od_add (od_sum (fun t => g (upl u t 6)) (cnt u n)) (g (upl u (cnt u n) 6)) := rfl
      rw [e3, upl_s u hu n (by omega) hb]
    · rw [if_neg hb, if_neg hb, od_0, Nat.add_zero]
/-- one order, told by its number among all of the unused -/
def od_vf (ρ : Nat → Int32) (nr : Nat) : Nat → Nat → DS → Nat → Nat × Option Nat
  | 0, _, D, _ => (1, some (kD D))
  | r + 1, u, D, o => if mayP ρ nr D (upl u (o % (r + 1)) 6) = 1 then od_vf ρ nr r (u ||| 2 ^ upl u (o % (r + 1)) 6) (doP ρ D (upl u (o % (r + 1)) 6)) (o / (r + 1)) else (0, none)
theorem vf_all {ρ : Nat → Int32} {nr m : Nat} (hm : m ≤ 5) : ∀ (r u : Nat) (D : DS), cnt u m = r → u < 64 → od_sum (od_vf ρ nr r u D) (fct r) = od_lv ρ nr m r u D := by
  intro r
  induction r with
  | zero => intro u D _ _; exact od_0l _
  | succ r ih =>
    intro u D hc hu
    obtain ⟨g, hg⟩ : ∃ g : Nat → Nat × Option Nat, g = fun p => if mayP ρ nr D p = 1 then od_lv ρ nr m r (u ||| 2 ^ p) (doP ρ D p) else (0, none) := ⟨_, rfl⟩
    have e1 : od_lv ρ nr m (r + 1) u D = od_sum (fun p => if u.testBit p = false then g p else (0, none)) m := by
      show od_sum (fun t => if u.testBit t = false ∧ mayP ρ nr D t = 1 then od_lv ρ nr m r (u ||| 2 ^ t) (doP ρ D t) else (0, none)) m = _
      refine od_cg m (fun p hp => ?_)
      rw [hg]
      by_cases a : u.testBit p = false
      · by_cases b : mayP ρ nr D p = 1
        · rw [if_pos ⟨a, b⟩, if_pos a]; exact (if_pos b).symm
        · rw [if_neg (fun z => b z.2), if_pos a]; exact (if_neg b).symm
      · rw [if_neg (fun z => a z.1), if_neg a]
    rw [e1, ← od_up hu m (by omega), hc]
    show od_sum (od_vf ρ nr (r + 1) u D) (fct r * (r + 1)) = _
    rw [od_mul, od_sw]
    refine od_cg (r + 1) (fun t ht => ?_)
    obtain ⟨p, hp, hb, hcp⟩ := cnt_ex (u := u) (t := t) m (by omega)
    have hup : upl u t 6 = p := by rw [← hcp]; exact upl_s u hu p (by omega) hb
    have hcr : cnt (u ||| 2 ^ p) m = r := by
      have := cnt_o u hu p (by omega) m (by omega) hb hp
      omega
    have hu2 := (bit_o u hu p (by omega)).2
    have e : ∀ q, od_vf ρ nr (r + 1) u D (q * (r + 1) + t) = if mayP ρ nr D p = 1 then od_vf ρ nr r (u ||| 2 ^ p) (doP ρ D p) q else (0, none) := fun q => by
      have h1 : (q * (r + 1) + t) % (r + 1) = t := by rw [Nat.mul_comm, Nat.mul_add_mod]; exact Nat.mod_eq_of_lt ht
      have h2 : (q * (r + 1) + t) / (r + 1) = q := by rw [Nat.mul_comm, Nat.mul_add_div (Nat.succ_pos r), Nat.div_eq_of_lt ht, Nat.add_zero]
      show (if mayP ρ nr D (upl u ((q * (r + 1) + t) % (r + 1)) 6) = 1 then od_vf ρ nr r (u ||| 2 ^ upl u ((q * (r + 1) + t) % (r + 1)) 6) (doP ρ D (upl u ((q * (r + 1) + t) % (r + 1)) 6)) ((q * (r + 1) + t) / (r + 1)) else (0, none)) = _
      rw [h1, h2, hup]
    simp only [e, hup]
    rw [hg]
    by_cases c : mayP ρ nr D p = 1
    · simp only [if_pos c]
      exact ih _ _ hcr hu2
    · simp only [if_neg c]
      exact od_z _
theorem nI_m1 : ∀ r, r < 6 → nI (r + 1) + (-1) = nI r := by decide +kernel
theorem sewO {σ0 : Mem} {μ : MMem} {d m nr : Nat} (hr0 : RowAt σ0 μ d (3 * m)) (hp0 : ∀ t, t < m → PinT σ0 d nr t) (hm5 : m ≤ 5) : ∀ (r f u o : Nat) (D : DS) (σi : Mem), cnt u m = r → r ≤ 5 → r < f → u < 64 → o < 2 ^ 30 → DX σ0 σi 2 D → OkN D nr →
    (∃ a b e D' σ', (∀ K, f_X11_sewOrderInMind_L22 d f (nI o) (nI u) (nI r) σi K = K a b e σ') ∧ DX σ0 σ' 2 D' ∧ OkN D' nr ∧ od_vf (σ0 (8 + 2 * d)) nr r u D o = (1, some (kD D'))) ∨
    (∃ D' σ', (∀ K, f_X11_sewOrderInMind_L22 d f (nI o) (nI u) (nI r) σi K = some (0, σ')) ∧ DX σ0 σ' 2 D' ∧ od_vf (σ0 (8 + 2 * d)) nr r u D o = (0, none)) := by
  intro r
  induction r with
  | zero =>
    intro f u o D σi hc h5 hf hu ho hX hD
    obtain ⟨f, rfl⟩ : ∃ k, f = k + 1 := ⟨f - 1, by omega⟩
    refine Or.inl ⟨nI o, nI u, nI 0, D, σi, fun K => ?_, hX, hD, rfl⟩
    rw [f_X11_sewOrderInMind_L22, if_pos (show nI 0 ≤ 0 from Int32.le_refl 0)]
  | succ r ih =>
    intro f u o D σi hc h5 hf hu ho hX hD
    obtain ⟨f, rfl⟩ : ∃ k, f = k + 1 := ⟨f - 1, by omega⟩
    have hd := hr0.1
    have ht : o % (r + 1) < r + 1 := Nat.mod_lt _ (Nat.succ_pos r)
    obtain ⟨p, hp, hb, hcp⟩ := cnt_ex (u := u) (t := o % (r + 1)) m (by omega)
    have hup : upl u (o % (r + 1)) 6 = p := by rw [← hcp]; exact upl_s u hu p (by omega) hb
    have hcr : cnt (u ||| 2 ^ p) m = r := by
      have := cnt_o u hu p (by omega) m (by omega) hb hp
      omega
    obtain ⟨hbo, hbo2⟩ := bit_o u hu p (by omega)
    have hun := un_s u hu p (by omega) hb
    rw [hcp] at hun
    have hri : RowAt σi μ d (3 * m) := hr0.fr (by decide) hX MD.rf.mf
    have hpi : PinT σi d nr p := (hp0 p hp).fr (by decide) hX
    have hρ : σi (8 + 2 * d) = σ0 (8 + 2 * d) := hX.2 _ (by omega) (by omega)
    have hvf : od_vf (σ0 (8 + 2 * d)) nr (r + 1) u D o = if mayP (σ0 (8 + 2 * d)) nr D p = 1 then od_vf (σ0 (8 + 2 * d)) nr r (u ||| 2 ^ p) (doP (σ0 (8 + 2 * d)) D p) (o / (r + 1)) else (0, none) := by
      rw [← hup]; rfl
    have hL : ∀ K, f_X11_sewOrderInMind_L22 d (f + 1) (nI o) (nI u) (nI (r + 1)) σi K = b2 (f_X11_sewPinOfRow 2 d (nI p) σi) fun r_18 σ_19 => if r_18 = 0 then some (0, σ_19) else f_X11_sewOrderInMind_L22 d f (nI (o / (r + 1))) (nI (u ||| 2 ^ p)) (nI r) σ_19 K := fun K => by
      rw [f_X11_sewOrderInMind_L22, if_neg (show ¬ nI (r + 1) ≤ 0 from nI_ge (a := 0) (b := r + 1) (by omega) (by omega)), if_neg (nI_ne0 (Nat.succ_pos r) (by omega)), pk_rem (by omega) (Nat.succ_pos r) (by omega), bnds, hun, b1s, if_neg (nI_ne0 (Nat.succ_pos r) (by omega)), pk_div (by omega) (Nat.succ_pos r) (by omega), bnds, hbo]
      simp only [bnds, nI_m1 r (by omega)]
    rw [hvf]
    rcases mayP01 (ρ := σ0 (8 + 2 * d)) (n := nr) (D := D) (t := p) with h | h
    · refine Or.inr ⟨D, σi, fun K => ?_, hX, if_neg (by rw [h]; decide)⟩
      rw [hL, sew_n hri hpi (by omega) hX.1 hD (by rw [hρ]; exact h), b2s, if_pos rfl]
    · obtain ⟨σ1, e1, x1⟩ := sew_y hri hpi (by omega) hX.1 hD (by rw [hρ]; exact h)
      have hD1 := hD.doP (hp0 p hp) h
      rw [hρ] at x1
      rw [if_pos h]
      rcases ih f (u ||| 2 ^ p) (o / (r + 1)) _ σ1 hcr (by omega) (by omega) hbo2 (Nat.lt_of_le_of_lt (Nat.div_le_self _ _) ho) (hX.tr x1) hD1 with ⟨a, b, e, D', σ', g1, g2, g3, g4⟩ | ⟨D', σ', g1, g2, g3⟩
      · exact Or.inl ⟨a, b, e, D', σ', fun K => by rw [hL, e1, b2s, if_neg ne10, g1], g2, g3, g4⟩
      · exact Or.inr ⟨D', σ', fun K => by rw [hL, e1, b2s, if_neg ne10, g1], g2, g3⟩
theorem sewM {σ0 : Mem} {μ : MMem} {d m nr o : Nat} {σi : Mem} {D : DS} (hr0 : RowAt σ0 μ d (3 * m)) (hp0 : ∀ t, t < m → PinT σ0 d nr t) (hm5 : m ≤ 5) (hD : OkN (dsX σ0 0) nr) (ho : o < 2 ^ 30) (hX : DX σ0 σi 2 D) :
    (∃ D' σ', f_X11_sewOrderInMind d (nI o) σi = some (1, σ') ∧ DX σ0 σ' 2 D' ∧ OkN D' nr ∧ od_vf (σ0 (8 + 2 * d)) nr m 0 (dsX σ0 0) o = (1, some (kD D'))) ∨
    (∃ D' σ', f_X11_sewOrderInMind d (nI o) σi = some (0, σ') ∧ DX σ0 σ' 2 D' ∧ od_vf (σ0 (8 + 2 * d)) nr m 0 (dsX σ0 0) o = (0, none)) := by
  obtain ⟨L, hL⟩ : ∃ L, L = @f_X11_sewOrderInMind_L22 := ⟨_, rfl⟩
  obtain ⟨σ2, e2, x2⟩ := becomeLike_s (σ := σi) (k := 2) (k' := 0) (by decide)
  rw [hX.other (k' := 0) (by omega)] at x2
  have hX2 := hX.tr x2
  have hr2 : RowAt σ2 μ d (3 * m) := hr0.fr (by decide) hX2 MD.rf.mf
  have hB : f_X11_sewOrderInMind d (nI o) σi = L d 5000 (nI o) 0 (nI m) σ2 fun _ _ _ σ_25 => some (1, σ_25) := by
    rw [f_X11_sewOrderInMind, ← hL, e2, b1s, f_X11_pinsIn, hr2.2.2.1, dv3 (show m ≤ 100 by omega), b1s]
  rw [hB, hL]
  rcases sewO hr0 hp0 hm5 m 5000 0 o (dsX σ0 0) σ2 (cnt_0 m (by omega)) hm5 (by omega) (by decide) ho hX2 hD with ⟨a, b, e, D', σ', g1, g2, g3, g4⟩ | ⟨D', σ', g1, g2, g3⟩
  · exact Or.inl ⟨D', σ', g1 _, g2, g3, g4⟩
  · exact Or.inr ⟨D', σ', g1 _, g2, g3⟩
theorem ordX {σ0 : Mem} {μ : MMem} {d m nr : Nat} (hr0 : RowAt σ0 μ d (3 * m)) (hp0 : ∀ t, t < m → PinT σ0 d nr t) (hm5 : m ≤ 5) (hD : OkN (dsX σ0 0) nr) : ∀ (j q f : Nat) (s : Nat × Option Nat) (σi : Mem) (D : DS), q + j = fct m → j < f → DX σ0 σi 2 D → s = od_sum (od_vf (σ0 (8 + 2 * d)) nr m 0 (dsX σ0 0)) q → od_ok s → s.1 ≤ q →
    ∃ D' σ', (∀ K, f_X11_orders_L84 d (nI (fct m)) f (nI s.1) (encO s.2) (nI q) σi K = K (nI (od_sum (od_vf (σ0 (8 + 2 * d)) nr m 0 (dsX σ0 0)) (fct m)).1) (encO (od_sum (od_vf (σ0 (8 + 2 * d)) nr m 0 (dsX σ0 0)) (fct m)).2) (nI (fct m)) σ') ∧ DX σ0 σ' 2 D' := by
  obtain ⟨_, hfb⟩ := fct_b m (by omega)
  obtain ⟨S, hS⟩ : ∃ S, S = @f_X11_sewOrderInMind := ⟨_, rfl⟩
  intro j
  induction j with
  | zero =>
    intro q f s σi D h1 h2 hX hs hk hq
    obtain ⟨f, rfl⟩ : ∃ k, f = k + 1 := ⟨f - 1, by omega⟩
    have e : q = fct m := by omega
    subst e hs
    exact ⟨D, σi, fun K => by rw [f_X11_orders_L84, if_pos (nI_le (Nat.le_refl _) (by omega))], hX⟩
  | succ j ih =>
    intro q f s σi D h1 h2 hX hs hk hq
    obtain ⟨f, rfl⟩ : ∃ k, f = k + 1 := ⟨f - 1, by omega⟩
    have hgs : od_sum (od_vf (σ0 (8 + 2 * d)) nr m 0 (dsX σ0 0)) (q + 1) = od_add s (od_vf (σ0 (8 + 2 * d)) nr m 0 (dsX σ0 0) q) := by rw [hs]; rfl
    rcases sewM (o := q) hr0 hp0 hm5 hD (by omega) hX with ⟨D', σ2, g1, g2, g3, g4⟩ | ⟨D', σ2, g1, g2, g3⟩
    · rw [← hS] at g1
      obtain ⟨ek, hk6⟩ := kD_s g3
      have hl := lacking_s (σ := σ2) (k := 2) (N := nr) (by rw [g2.1]; exact g3.2.1) g3.1
      rw [g2.1, ek] at hl
      rw [g4] at hgs
      have hk2 : od_ok (od_add s (1, some (kD D'))) := od_ok_add hk (od_ok_1 hk6)
      obtain ⟨D9, σ', k1, k2⟩ := ih (q + 1) f (od_add s (1, some (kD D'))) σ2 D' (by omega) (by omega) g2 hgs.symm hk2 (by show s.1 + 1 ≤ q + 1; omega)
      refine ⟨D9, σ', fun K => ?_, k2⟩
      rw [← k1 K, f_X11_orders_L84, ← hS, if_neg (nI_ge (show q < fct m by omega) (by omega)), g1, b2s, if_neg ne10, hl, b1s]
      show _ = f_X11_orders_L84 d (nI (fct m)) f (nI (s.1 + 1)) (encO (od_min s.2 (some (kD D')))) (nI (q + 1)) σ2 K
      have h0 : (nI s.1 = 0) = (s.1 = 0) := propext (nI_eq (b := 0) (by omega) (by decide))
      by_cases c : s.1 = 0
      · rw [if_pos (by rw [h0]; exact c), bnds, bnds, nI_1, nI_1, hk.1.mp c]
        rfl
      · rw [if_neg (by rw [h0]; exact c), od_upX (c := s.1) (o := s.2) hk c hk6, bnds, bnds, bnds, nI_1, nI_1]
    · rw [← hS] at g1
      rw [g3, od_0] at hgs
      obtain ⟨D9, σ', k1, k2⟩ := ih (q + 1) f s σ2 D' (by omega) (by omega) g2 hgs.symm hk (by omega)
      refine ⟨D9, σ', fun K => ?_, k2⟩
      rw [← k1 K, f_X11_orders_L84, ← hS, if_neg (nI_ge (show q < fct m by omega) (by omega)), g1, b2s, if_pos rfl, bnds, nI_1]
theorem dead_o {d m : Int32} {f : Nat} {a b e : Int32} {μ : MMem} {K : Int32 → Int32 → Int32 → Int32 → MMem → Option (Int32 × MMem)} : f_X12_orders_L88 d m (f + 1) a b 0 e μ K = K a b 0 e μ := by
  rw [f_X12_orders_L88]
  by_cases h : m ≤ e
  · rw [if_pos h]
  · rw [if_neg h, if_pos rfl]
theorem ordM {σ0 : Mem} {μ0 : MMem} {d m nr : Nat} (hr0 : RowAt σ0 μ0 d (3 * m)) (hp0 : ∀ t, t < m → PinT σ0 d nr t) (hm5 : m ≤ 5) : ∀ (r f k u o : Nat) (D : DS) (μi : MMem), k + r = m → r < f → u < 64 → o < 2 ^ 30 → MF 6 μ0 μi D → OkN D nr →
    (∃ a b e D' μ', (∀ K, f_X12_orders_L88 (nI d) (nI m) f (nI u) (nI o) 1 (nI k) μi K = K a b 1 e μ') ∧ MF 6 μ0 μ' D' ∧ OkN D' nr ∧ μ' 6 = μi 6 ∧ od_vl (σ0 (8 + 2 * d)) nr m r u D o = (1, some (kD D'))) ∨
    (∃ a b e D' μ', (∀ K, f_X12_orders_L88 (nI d) (nI m) f (nI u) (nI o) 1 (nI k) μi K = K a b 0 e μ') ∧ MF 6 μ0 μ' D' ∧ OkN D' nr ∧ μ' 6 = μi 6 ∧ od_vl (σ0 (8 + 2 * d)) nr m r u D o = (0, none)) := by
  intro r
  induction r with
  | zero =>
    intro f k u o D μi h1 h2 hu ho hM hD
    obtain ⟨f, rfl⟩ : ∃ k, f = k + 1 := ⟨f - 1, by omega⟩
    refine Or.inl ⟨nI u, nI o, nI k, D, μi, fun K => ?_, hM, hD, rfl, rfl⟩
    rw [f_X12_orders_L88, if_pos (nI_le (show m ≤ k by omega) (by omega))]
  | succ r ih =>
    intro f k u o D μi h1 h2 hu ho hM hD
    obtain ⟨f, rfl⟩ : ∃ k, f = k + 2 := ⟨f - 2, by omega⟩
    have hm0 : 0 < m := by omega
    have ht : o % m < m := Nat.mod_lt _ hm0
    have hri := hr0.fm (hM.2.1 18 (by omega) (by omega)) (hM.2.1 19 (by omega) (by omega))
    have hvl : od_vl (σ0 (8 + 2 * d)) nr m (r + 1) u D o = if u.testBit (o % m) = false ∧ mayP (σ0 (8 + 2 * d)) nr D (o % m) = 1 then od_vl (σ0 (8 + 2 * d)) nr m r (u ||| 2 ^ (o % m)) (doP (σ0 (8 + 2 * d)) D (o % m)) (o / m) else (0, none) := rfl
    obtain ⟨hbo, hbo2⟩ := bit_o u hu (o % m) (by omega)
    have hbt := bit_t u hu (o % m) (by omega)
    have hod : o / m < 2 ^ 30 := Nat.lt_of_le_of_lt (Nat.div_le_self _ _) ho
    have hL : ∀ K, f_X12_orders_L88 (nI d) (nI m) (f + 1 + 1) (nI u) (nI o) 1 (nI k) μi K = if ((nI u >>> (nI (o % m) &&& 31)) &&& 1) = 0 then (b2 (f_X12_puts (nI d) (nI (o % m)) μi) fun r_34 σ_35 => if r_34 = 0 then f_X12_orders_L88 (nI d) (nI m) (f + 1) (nI (u ||| 2 ^ (o % m))) (nI (o / m)) 0 (nI (k + 1)) σ_35 K else f_X12_orders_L88 (nI d) (nI m) (f + 1) (nI (u ||| 2 ^ (o % m))) (nI (o / m)) 1 (nI (k + 1)) σ_35 K)
        else f_X12_orders_L88 (nI d) (nI m) (f + 1) (nI (u ||| 2 ^ (o % m))) (nI (o / m)) 0 (nI (k + 1)) μi K := fun K => by
      rw [f_X12_orders_L88, if_neg (nI_ge (show k < m by omega) (by omega)), if_neg ne10, if_neg (nI_ne0 hm0 (by omega)), pk_rem (by omega) hm0 (by omega), bnds, if_neg (nI_ne0 hm0 (by omega)), bnds, pk_div (by omega) hm0 (by omega), hbo]
      simp only [bnds, nI_1]
    by_cases hb : ((nI u >>> (nI (o % m) &&& 31)) &&& 1) = 0
    · rcases mayP01 (ρ := σ0 (8 + 2 * d)) (n := nr) (D := D) (t := o % m) with h | h
      · refine Or.inr ⟨nI (u ||| 2 ^ (o % m)), nI (o / m), nI (k + 1), D, μi, fun K => ?_, hM, hD, rfl, ?_⟩
        · rw [hL, if_pos hb, puts_n hri (hp0 _ ht) (by omega) hM.1 hD h, b2s, if_pos rfl, dead_o]
        · rw [hvl, if_neg (fun z => absurd z.2 (by rw [h]; decide))]
      · obtain ⟨μ1, e1, x1⟩ := puts_y hri (hp0 _ ht) (by omega) hM.1 hD h
        have hD1 := hD.doP (hp0 _ ht) h
        have h66 : μ1 6 = μi 6 := x1.2.1 6 (by omega)
        rw [hvl, if_pos ⟨hbt.mp hb, h⟩]
        rcases ih (f + 1) (k + 1) (u ||| 2 ^ (o % m)) (o / m) _ μ1 (by omega) (by omega) hbo2 hod (hM.tr x1.mf) hD1 with ⟨a, b, e, D', μ', g1, g2, g3, g4, g5⟩ | ⟨a, b, e, D', μ', g1, g2, g3, g4, g5⟩
        · exact Or.inl ⟨a, b, e, D', μ', fun K => by rw [hL, if_pos hb, e1, b2s, if_neg ne10, g1], g2, g3, g4.trans h66, g5⟩
        · exact Or.inr ⟨a, b, e, D', μ', fun K => by rw [hL, if_pos hb, e1, b2s, if_neg ne10, g1], g2, g3, g4.trans h66, g5⟩
    · refine Or.inr ⟨nI (u ||| 2 ^ (o % m)), nI (o / m), nI (k + 1), D, μi, fun K => ?_, hM, hD, rfl, ?_⟩
      · rw [hL, if_neg hb, dead_o]
      · rw [hvl, if_neg (fun z => hb (hbt.mpr z.1))]
theorem power_s : ∀ m, m < 6 → f_X12_power (nI m) = some (nI (m ^ m)) ∧ m ^ m ≤ 3125 := by decide +kernel
theorem ordL {σ0 : Mem} {μ0 : MMem} {d m nr : Nat} (hr0 : RowAt σ0 μ0 d (3 * m)) (hp0 : ∀ t, t < m → PinT σ0 d nr t) (hm5 : m ≤ 5) (hD : OkN (dsM μ0) nr) : ∀ (j q f : Nat) (s : Nat × Option Nat) (μi : MMem), q + j = m ^ m → j < f → MF 6 μ0 μi (dsM μ0) → s = od_sum (od_vl (σ0 (8 + 2 * d)) nr m m 0 (dsM μ0)) q → od_ok s →
    ∃ μ', (∀ K, f_X12_orders_L60 (nI d) (nI m) f (nI s.1) (encO s.2) (nI q) μi K = K (nI (od_sum (od_vl (σ0 (8 + 2 * d)) nr m m 0 (dsM μ0)) (m ^ m)).1) (encO (od_sum (od_vl (σ0 (8 + 2 * d)) nr m m 0 (dsM μ0)) (m ^ m)).2) (nI (m ^ m)) μ') ∧ MF 6 μ0 μ' (dsM μ0) := by
  obtain ⟨hp, hp2⟩ := power_s m (by omega)
  intro j
  induction j with
  | zero =>
    intro q f s μi h1 h2 hM hs hk
    obtain ⟨f, rfl⟩ : ∃ k, f = k + 1 := ⟨f - 1, by omega⟩
    have e : q = m ^ m := by omega
    subst e hs
    exact ⟨μi, fun K => by rw [f_X12_orders_L60, hp, b1s, if_pos (nI_le (Nat.le_refl _) (by omega))], hM⟩
  | succ j ih =>
    intro q f s μi h1 h2 hM hs hk
    obtain ⟨f, rfl⟩ : ∃ k, f = k + 1 := ⟨f - 1, by omega⟩
    obtain ⟨μ1, e1, m1, r1⟩ := open_s (μ := μi)
    rw [hM.1] at m1 r1
    have hgs : od_sum (od_vl (σ0 (8 + 2 * d)) nr m m 0 (dsM μ0)) (q + 1) = od_add s (od_vl (σ0 (8 + 2 * d)) nr m m 0 (dsM μ0) q) := by rw [hs]; rfl
    rcases ordM hr0 hp0 hm5 m 5000 0 0 q (dsM μ0) μ1 (by omega) (by omega) (by decide) (by omega) (hM.tr m1) hD with ⟨a, b, e, D', μ2, g1, g2, g3, g4, g5⟩ | ⟨a, b, e, D', μ2, g1, g2, g3, g4, g5⟩
    · have g1' : ∀ K, f_X12_orders_L88 (nI d) (nI m) 5000 0 (nI q) 1 0 μ1 K = K a b 1 e μ2 := g1
      obtain ⟨ek, hk6⟩ := kD_s g3
      have hl := lacksNow_s (μ := μ2) (N := nr) (by rw [g2.1]; exact g3.2.1) g3.1
      rw [g2.1, ek] at hl
      obtain ⟨μ3, e3, m3, _⟩ := close_s (μ := μ2)
      rw [g4, r1] at m3
      rw [g5] at hgs
      have hk2 : od_ok (od_add s (1, some (kD D'))) := od_ok_add hk (od_ok_1 hk6)
      have hup := od_upM (c := s.1) (o := s.2) hk hk6
      obtain ⟨μ', k1, k2⟩ := ih (q + 1) f (od_add s (1, some (kD D'))) μ3 (by omega) (by omega) (g2.tr m3) hgs.symm hk2
      refine ⟨μ', fun K => ?_, k2⟩
      rw [← k1 K, f_X12_orders_L60, hp, b1s, if_neg (nI_ge (show q < m ^ m by omega) (by omega)), e1, b1s, g1', hl, b1s, e3, b1s, if_neg ne10, bnds, nI_1]
      show _ = f_X12_orders_L60 (nI d) (nI m) f (nI (s.1 + 1)) (encO (od_min s.2 (some (kD D')))) (nI (q + 1)) μ3 K
      rw [← hup]
      by_cases c1 : encO s.2 < 0
      · rw [if_pos c1, if_pos c1, bnds, nI_1]
      · rw [if_neg c1, if_neg c1]
        by_cases c2 : encO s.2 ≤ nI (kD D')
        · rw [if_pos c2, if_pos c2, bnds, nI_1]
        · rw [if_neg c2, if_neg c2, bnds, nI_1]
    · have g1' : ∀ K, f_X12_orders_L88 (nI d) (nI m) 5000 0 (nI q) 1 0 μ1 K = K a b 0 e μ2 := g1
      have hl := lacksNow_s (μ := μ2) (N := nr) (by rw [g2.1]; exact g3.2.1) g3.1
      obtain ⟨μ3, e3, m3, _⟩ := close_s (μ := μ2)
      rw [g4, r1] at m3
      rw [g5, od_0] at hgs
      obtain ⟨μ', k1, k2⟩ := ih (q + 1) f s μ3 (by omega) (by omega) (g2.tr m3) hgs.symm hk
      refine ⟨μ', fun K => ?_, k2⟩
      rw [← k1 K, f_X12_orders_L60, hp, b1s, if_neg (nI_ge (show q < m ^ m by omega) (by omega)), e1, b1s, g1', hl, b1s, e3, b1s, if_pos rfl, bnds, nI_1]
theorem eq_orders {σ : Mem} {μ : MMem} (hR : Rel σ μ) (p1 p2 : Int32) : ∃ r σ' μ', f_X11_orders p1 p2 σ = some (r, σ') ∧ f_X12_orders p1 p2 μ = some (r, μ') ∧ Rel σ' μ' := by
  have hR1 := hR.t
  obtain ⟨n, hn⟩ := hR1.2.1.n
  obtain ⟨W, hW⟩ : ∃ W, W = @f_X11_orders_L84 := ⟨_, rfl⟩
  obtain ⟨V, hV⟩ : ∃ V, V = @f_X11_orders_L54 := ⟨_, rfl⟩
  obtain ⟨L, hL⟩ : ∃ L, L = @f_X12_orders_L60 := ⟨_, rfl⟩
  rcases rng (p := p2) (n := 1) (by decide) 1 1 rfl rfl with ⟨w, hw, rfl, e1, e2⟩ | ⟨_, e1, e2⟩
  · rcases pinsrow hR1 hn p1 with ⟨v, hv, e3, e4⟩ | ⟨d, m, rfl, hr, h6, e3, e4, hp⟩
    · refine ⟨v, σ, uI μ 0 9 0, ?_, ?_, hR1⟩
      · rw [f_X11_orders, ← hW, ← hV, e1, b1s]
        simp only [jns]
        rw [if_neg ne10, e3, b1s, if_neg (neg0 hv)]
      · rw [f_X12_orders, ← hL, bnds, e2, b1s]
        simp only [jns]
        rw [if_neg ne10, e4, b1s, if_neg (Int32.not_le.mpr hv)]
    · have hd := hr.1
      have hbd : ¬ (nI d < 0 ∨ 8 ≤ (nI d).toNatClampNeg) := nI_in hd (by decide)
      have hcd := nI_clamp (show d < 2 ^ 31 by omega)
      by_cases hm5 : m ≤ 5
      · obtain ⟨hpw, hpw2⟩ := power_s m (by omega)
        have hdx : dsX σ 0 = dsM (uI μ 0 9 0) := hR1.1
        have hnX : OkN (dsX σ 0) n := by rw [hdx]; exact hn
        obtain ⟨xf, hxf⟩ := fct1 (m := m) (f := 5000) hm5 (by omega)
        obtain ⟨D3, σ3, e6, x6⟩ := ordX hr hp hm5 hnX (fct m) 0 5000 (0, none) σ (dsX σ 2) (by omega) (by have := (fct_b m (by omega)).2; omega) DX.rf rfl od_ok_0 (Nat.le_refl 0)
        obtain ⟨μ3, g1, g2⟩ := ordL hr hp hm5 hn (m ^ m) 0 5000 (0, none) (uI μ 0 9 0) (by omega) (by omega) MD.rf.mf rfl od_ok_0
        have hall : od_sum (od_vl (σ (8 + 2 * d)) n m m 0 (dsM (uI μ 0 9 0))) (m ^ m) = od_lv (σ (8 + 2 * d)) n m m 0 (dsM (uI μ 0 9 0)) := by
          by_cases z : m = 0
          · subst z; exact od_0l _
          · exact od_all (by omega) m 0 _
        have hall2 := vf_all (ρ := σ (8 + 2 * d)) (nr := n) (m := m) hm5 m 0 (dsX σ 0) (cnt_0 m (by omega)) (by decide)
        rw [hall] at g1
        rw [hall2, hdx] at e6
        obtain ⟨T, hT⟩ : ∃ T, T = od_lv (σ (8 + 2 * d)) n m m 0 (dsM (uI μ 0 9 0)) := ⟨_, rfl⟩
        rw [← hT] at g1 e6
        have hX1 : f_X11_orders (nI d) (nI w) σ = if nI w = 0 then some (nI T.1, σ3) else some (encO T.2, σ3) := by
          have e6' : ∀ K, W d (nI (fct m)) 5000 0 (-4) 0 σ K = K (nI T.1) (encO T.2) (nI (fct m)) σ3 := fun K => by rw [hW]; exact e6 K
          have e5' : ∀ K, V (nI m) 5000 1 2 σ K = K (nI (fct m)) xf σ := fun K => by rw [hV]; exact hxf σ K
          rw [f_X11_orders, ← hW, ← hV, e1, b1s]
          simp only [jns]
          rw [if_neg ne10, e3, b1s, if_pos rfl, atS hd, b1s, if_pos (show d < 9 by omega), f_X11_pinsIn, hr.2.2.1, dv3 (show m ≤ 100 by omega), b1s, if_pos (show nI m ≤ 5 from nI_le (a := m) (b := 5) hm5 (by decide)), e5', e6']
        have hM1 : f_X12_orders (nI d) (nI w) μ = if nI w = 0 then some (nI T.1, μ3) else some (encO T.2, μ3) := by
          have g1' : ∀ K, L (nI d) (nI m) 5000 0 (-4) 0 (uI μ 0 9 0) K = K (nI T.1) (encO T.2) (nI (m ^ m)) μ3 := fun K => by rw [hL]; exact g1 K
          rw [f_X12_orders, ← hL, bnds, e2, b1s]
          simp only [jns]
          rw [if_neg ne10, e4, b1s, if_pos (Int32.le_refl 0), if_neg hbd, hcd, hr.2.2.2.1, dv3 (show m ≤ 100 by omega), bnds, if_pos (show nI m ≤ 5 from nI_le (a := m) (b := 5) hm5 (by decide)), g1']
        have hRl : Rel σ3 μ3 := (hR1.m g2).mind (by decide) x6
        rw [hX1, hM1]
        by_cases w0 : nI w = 0
        · rw [if_pos w0, if_pos w0]; exact ⟨_, _, _, rfl, rfl, hRl⟩
        · rw [if_neg w0, if_neg w0]; exact ⟨_, _, _, rfl, rfl, hRl⟩
      · refine ⟨-2, σ, uI μ 0 9 0, ?_, ?_, hR1⟩
        · rw [f_X11_orders, ← hW, ← hV, e1, b1s]
          simp only [jns]
          rw [if_neg ne10, e3, b1s, if_pos rfl, atS hd, b1s, if_pos (show d < 9 by omega), f_X11_pinsIn, hr.2.2.1, dv3 (show m ≤ 100 by omega), b1s, if_neg (show ¬ nI m ≤ 5 from nI_ge (a := 5) (b := m) (by omega) (by omega))]
        · rw [f_X12_orders, ← hL, bnds, e2, b1s]
          simp only [jns]
          rw [if_neg ne10, e4, b1s, if_pos (Int32.le_refl 0), if_neg hbd, hcd, hr.2.2.2.1, dv3 (show m ≤ 100 by omega), bnds, if_neg (show ¬ nI m ≤ 5 from nI_ge (a := 5) (b := m) (by omega) (by omega))]
  · refine ⟨-1, σ, uI μ 0 9 0, ?_, ?_, hR1⟩
    · rw [f_X11_orders, ← hW, ← hV, e1, b1s]
      simp (decide := true) only [jns, if_true, if_false]
    · rw [f_X12_orders, ← hL, bnds, e2, b1s]
      simp (decide := true) only [jns, if_true, if_false]
