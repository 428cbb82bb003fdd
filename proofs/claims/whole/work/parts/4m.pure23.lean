/-! PURE, 23: orders, what is counted -/
def od_min : Option Nat → Option Nat → Option Nat
  | none, y => y
  | some a, none => some a
  | some a, some b => some (min a b)
def od_add (x y : Nat × Option Nat) : Nat × Option Nat := (x.1 + y.1, od_min x.2 y.2)
theorem od_min_c (x y : Option Nat) : od_min x y = od_min y x := by
  cases x <;> cases y <;> simp only [od_min]
  congr 1
  omega
theorem od_min_a (x y z : Option Nat) : od_min (od_min x y) z = od_min x (od_min y z) := by
  cases x <;> cases y <;> cases z <;> simp only [od_min]
  congr 1
  omega
theorem od_min_n (x : Option Nat) : od_min x none = x := by cases x <;> rfl
theorem od_c (x y : Nat × Option Nat) : od_add x y = od_add y x := by
  unfold od_add
  rw [Nat.add_comm, od_min_c]
theorem od_a (x y z : Nat × Option Nat) : od_add (od_add x y) z = od_add x (od_add y z) := by
  unfold od_add
  rw [Nat.add_assoc, od_min_a]
theorem od_0 (x : Nat × Option Nat) : od_add x (0, none) = x := by
  unfold od_add
  rw [Nat.add_zero, od_min_n]
theorem od_0l (x : Nat × Option Nat) : od_add (0, none) x = x := by rw [od_c, od_0]
def od_sum (f : Nat → Nat × Option Nat) : Nat → Nat × Option Nat
  | 0 => (0, none)
  | n + 1 => od_add (od_sum f n) (f n)
theorem od_cg {f g : Nat → Nat × Option Nat} : ∀ n, (∀ i, i < n → f i = g i) → od_sum f n = od_sum g n := by
  intro n
  induction n with
  | zero => intro _; rfl
  | succ n ih =>
    intro h
    show od_add (od_sum f n) (f n) = od_add (od_sum g n) (g n)
    rw [ih (fun i hi => h i (by omega)), h n (by omega)]
theorem od_z : ∀ n, od_sum (fun _ => (0, none)) n = (0, none) := by
  intro n
  induction n with
  | zero => rfl
  | succ n ih =>
    show od_add (od_sum (fun _ => (0, none)) n) (0, none) = _
    rw [od_0, ih]
theorem od_sp {f : Nat → Nat × Option Nat} (m : Nat) : ∀ n, od_sum f (m + n) = od_add (od_sum f m) (od_sum (fun t => f (m + t)) n) := by
  intro n
  induction n with
  | zero => exact (od_0 _).symm
  | succ n ih =>
    show od_add (od_sum f (m + n)) (f (m + n)) = od_add (od_sum f m) (od_add (od_sum (fun t => f (m + t)) n) (f (m + n)))
    rw [ih, od_a]
theorem od_mul {f : Nat → Nat × Option Nat} (b : Nat) : ∀ a, od_sum f (a * b) = od_sum (fun q => od_sum (fun t => f (q * b + t)) b) a := by
  intro a
  induction a with
  | zero => rw [Nat.zero_mul]; rfl
  | succ a ih =>
    rw [Nat.succ_mul, od_sp, ih]
    rfl
theorem od_dist {f g : Nat → Nat × Option Nat} : ∀ n, od_sum (fun t => od_add (f t) (g t)) n = od_add (od_sum f n) (od_sum g n) := by
  intro n
  induction n with
  | zero => rfl
  | succ n ih =>
    show od_add (od_sum (fun t => od_add (f t) (g t)) n) (od_add (f n) (g n)) = od_add (od_add (od_sum f n) (f n)) (od_add (od_sum g n) (g n))
    rw [ih, od_a, od_a, ← od_a (od_sum g n), od_c (od_sum g n), od_a (f n)]
theorem od_sw {f : Nat → Nat → Nat × Option Nat} (b : Nat) : ∀ a, od_sum (fun q => od_sum (fun t => f q t) b) a = od_sum (fun t => od_sum (fun q => f q t) a) b := by
  intro a
  induction a with
  | zero => exact (od_z b).symm
  | succ a ih =>
    show od_add (od_sum (fun q => od_sum (fun t => f q t) b) a) (od_sum (fun t => f a t) b) = od_sum (fun t => od_add (od_sum (fun q => f q t) a) (f a t)) b
    rw [ih, od_dist]
/-- what is lacking, as a number -/
def kD (D : DS) : Nat := (lackS D).toNatClampNeg
theorem posS_b {x : Int32} (h : x.toInt ≤ 200) : ∃ k, k ≤ 200 ∧ posS x = nI k := by
  unfold posS
  by_cases h0 : 0 < x
  · rw [if_pos h0]
    have h1 : ¬ x < 0 := fun z => Int32.lt_irrefl (Int32.lt_trans h0 z)
    obtain ⟨j, hj, rfl⟩ := nI_of h1
    rw [nI_toInt hj] at h
    exact ⟨j, by omega, rfl⟩
  · rw [if_neg h0]
    exact ⟨0, by decide, rfl⟩
theorem need_b {D : DS} {n r : Nat} {mv : Int32} (h : OkN D n) (hr : r < n) : ∃ q, q ≤ 11 ∧ needS D r mv = nI q := by
  obtain ⟨g, w, k, v, a1, a2, a3, a4, a5, a6, b0, b1', b2', b3⟩ := h.2.2.2.2.2.2 r hr
  unfold needS
  rw [b3]
  have hv : nI v / 2 = nI (v / 2) := pk_div (d := 2) (by omega) (by decide) (by decide)
  by_cases c0 : mv = 0
  · rw [if_pos c0]; exact ⟨0, by decide, rfl⟩
  rw [if_neg c0]
  by_cases c1 : mv = 1
  · rw [if_pos c1]; exact ⟨v, by omega, rfl⟩
  rw [if_neg c1]
  by_cases c2 : mv = 2
  · rw [if_pos c2, hv]
    by_cases c3 : r = 0
    · rw [if_pos c3, show (2 : Int32) = nI 2 from rfl, nI_add]; exact ⟨_, by omega, rfl⟩
    · rw [if_neg c3]; exact ⟨_, by omega, rfl⟩
  rw [if_neg c2]
  by_cases c3 : r % 2 = 0
  · rw [if_pos c3]; exact ⟨1, by decide, rfl⟩
  · rw [if_neg c3]; exact ⟨0, by decide, rfl⟩
theorem sub3 {w g q : Nat} (hw : w ≤ 99) (hg : g ≤ 99) (hq : q ≤ 11) : (nI w - nI g - nI q).toInt = (w : Int) - g - q := by
  rw [Int32.toInt_sub, pk_sub_toInt (by omega) (by omega), nI_toInt (by omega)]
  exact Int.bmod_eq_of_le (by omega) (by omega)
theorem ease_b {D : DS} {n r : Nat} {mv : Int32} (h : OkN D n) (hr : r < n) : -110 ≤ (easeS D r mv).toInt ∧ (easeS D r mv).toInt ≤ 99 := by
  obtain ⟨q, hq, eq⟩ := need_b (mv := mv) h hr
  obtain ⟨g, w, k, v, a1, a2, a3, a4, a5, a6, b0, b1', b2', b3⟩ := h.2.2.2.2.2.2 r hr
  unfold easeS
  rw [eq, b0, b1', sub3 a4 a2 hq]
  omega
theorem lackRing_b {D : DS} {n r : Nat} (h : OkN D n) (hr : r < n) (a : Nat) : ∃ k, k ≤ a + 1000 ∧ lackRing D r (nI a) = nI k := by
  obtain ⟨t, ht, et⟩ := h.2.2.1
  obtain ⟨l, hl, el⟩ := h.2.2.2.1
  have up : ∀ mv, ∃ k, k ≤ 200 ∧ posS (D.1 1 - easeS D r mv) = nI k := fun mv => by
    refine posS_b ?_
    have e := ease_b (mv := mv) h hr
    rw [et, Int32.toInt_sub, nI_toInt (by omega), Int.bmod_eq_of_le (by omega) (by omega)]
    omega
  obtain ⟨k0, q0, e0⟩ := up 0
  obtain ⟨k1, q1, e1⟩ := up 1
  obtain ⟨k2, q2, e2⟩ := up 2
  obtain ⟨k3, q3, e3⟩ := up 3
  obtain ⟨k4, q4, e4⟩ : ∃ k, k ≤ 200 ∧ posS (easeS D r 0 - D.1 2) = nI k := by
    refine posS_b ?_
    have e := ease_b (mv := 0) h hr
    rw [el, Int32.toInt_sub, nI_toInt (by omega), Int.bmod_eq_of_le (by omega) (by omega)]
    omega
  unfold lackRing
  rw [e0, e1, e2, e3, e4, nI_add, nI_add, nI_add, nI_add, nI_add]
  exact ⟨_, by omega, rfl⟩
theorem lackTo_b {D : DS} {n : Nat} (h : OkN D n) : ∀ i, i ≤ n → ∃ k, k ≤ 1000 * i ∧ lackTo D i = nI k := by
  intro i
  induction i with
  | zero => intro _; exact ⟨0, by decide, rfl⟩
  | succ i ih =>
    intro hi
    obtain ⟨k, hk, e⟩ := ih (by omega)
    obtain ⟨k', hk', e'⟩ := lackRing_b h (show i < n by omega) k
    refine ⟨k', by omega, ?_⟩
    show lackRing D i (lackTo D i) = _
    rw [e, e']
theorem kD_s {D : DS} {n : Nat} (h : OkN D n) : lackS D = nI (kD D) ∧ kD D ≤ 6000 := by
  have h6 := h.1
  obtain ⟨k, hk, e⟩ := lackTo_b h n (Nat.le_refl _)
  have e2 : lackS D = nI k := by
    unfold lackS
    rw [h.2.1, nI_clamp (by omega)]
    exact e
  unfold kD
  rw [e2, nI_clamp (by omega)]
  exact ⟨rfl, by omega⟩
/-- all orders of the m pins that are not used yet, r of them -/
def od_lv (ρ : Nat → Int32) (nr m : Nat) : Nat → Nat → DS → Nat × Option Nat
  | 0, _, D => (1, some (kD D))
  | r + 1, u, D => od_sum (fun t => if u.testBit t = false ∧ mayP ρ nr D t = 1 then od_lv ρ nr m r (u ||| 2 ^ t) (doP ρ D t) else (0, none)) m
/-- one order, told by a number -/
def od_vl (ρ : Nat → Int32) (nr m : Nat) : Nat → Nat → DS → Nat → Nat × Option Nat
  | 0, _, D, _ => (1, some (kD D))
  | r + 1, u, D, o => if u.testBit (o % m) = false ∧ mayP ρ nr D (o % m) = 1 then od_vl ρ nr m r (u ||| 2 ^ (o % m)) (doP ρ D (o % m)) (o / m) else (0, none)
theorem od_all {ρ : Nat → Int32} {nr m : Nat} (hm : 0 < m) : ∀ (r u : Nat) (D : DS), od_sum (od_vl ρ nr m r u D) (m ^ r) = od_lv ρ nr m r u D := by
  intro r
  induction r with
  | zero => intro u D; exact od_0l _
  | succ r ih =>
    intro u D
    rw [Nat.pow_succ, od_mul, od_sw]
    refine od_cg m (fun t ht => ?_)
    have e : ∀ q, od_vl ρ nr m (r + 1) u D (q * m + t) = if u.testBit t = false ∧ mayP ρ nr D t = 1 then od_vl ρ nr m r (u ||| 2 ^ t) (doP ρ D t) q else (0, none) := fun q => by
      have h1 : (q * m + t) % m = t := by rw [Nat.mul_comm, Nat.mul_add_mod]; exact Nat.mod_eq_of_lt ht
      have h2 : (q * m + t) / m = q := by rw [Nat.mul_comm, Nat.mul_add_div hm, Nat.div_eq_of_lt ht, Nat.add_zero]
      show (if u.testBit ((q * m + t) % m) = false ∧ mayP ρ nr D ((q * m + t) % m) = 1 then od_vl ρ nr m r (u ||| 2 ^ ((q * m + t) % m)) (doP ρ D ((q * m + t) % m)) ((q * m + t) / m) else (0, none)) = _
      rw [h1, h2]
    simp only [e]
    by_cases c : u.testBit t = false ∧ mayP ρ nr D t = 1
    · simp only [if_pos c]
      exact ih _ _
    · simp only [if_neg c]
      exact od_z _
theorem od_lv_le {ρ : Nat → Int32} {nr m : Nat} : ∀ (r u : Nat) (D : DS), (od_lv ρ nr m r u D).1 ≤ m ^ r := by
  intro r
  induction r with
  | zero => intro u D; exact Nat.le_refl _
  | succ r ih =>
    intro u D
    have : ∀ t, (od_sum (fun t => if u.testBit t = false ∧ mayP ρ nr D t = 1 then od_lv ρ nr m r (u ||| 2 ^ t) (doP ρ D t) else (0, none)) t).1 ≤ t * m ^ r := by
      intro t
      induction t with
      | zero => exact Nat.zero_le _
      | succ t iht =>
        rw [Nat.succ_mul]
        refine Nat.add_le_add iht ?_
        show (if u.testBit t = false ∧ mayP ρ nr D t = 1 then od_lv ρ nr m r (u ||| 2 ^ t) (doP ρ D t) else (0, none)).1 ≤ _
        by_cases c : u.testBit t = false ∧ mayP ρ nr D t = 1
        · rw [if_pos c]; exact ih _ _
        · rw [if_neg c]; exact Nat.zero_le _
    rw [Nat.pow_succ, Nat.mul_comm]
    exact this m
def encO : Option Nat → Int32
  | none => -4
  | some k => nI k
/-- a count, and the least that goes with it -/
def od_ok (s : Nat × Option Nat) : Prop := (s.1 = 0 ↔ s.2 = none) ∧ ∀ l, s.2 = some l → l ≤ 6000
theorem od_ok_add {s t : Nat × Option Nat} (h1 : od_ok s) (h2 : od_ok t) : od_ok (od_add s t) := by
  obtain ⟨c, o⟩ := s
  obtain ⟨c', o'⟩ := t
  obtain ⟨a1, a2⟩ := h1
  obtain ⟨b1', b2'⟩ := h2
  have a1 : c = 0 ↔ o = none := a1
  have b1' : c' = 0 ↔ o' = none := b1'
  refine ⟨⟨fun h => ?_, fun h => ?_⟩, fun l h => ?_⟩
  · have h : c + c' = 0 := h
    show od_min o o' = none
    rw [a1.mp (show c = 0 by omega), b1'.mp (show c' = 0 by omega)]
    rfl
  · have h : od_min o o' = none := h
    show c + c' = 0
    cases o with
    | none =>
      have h : o' = none := h
      have e1 : c = 0 := a1.mpr rfl
      have e2 : c' = 0 := b1'.mpr h
      omega
    | some a => cases o' <;> cases h
  · have h : od_min o o' = some l := h
    cases o with
    | none => exact b2' l h
    | some a =>
      have ha := a2 a rfl
      cases o' with
      | none => exact a2 l h
      | some b =>
        have h : some (min a b) = some l := h
        cases h
        omega
theorem od_ok_1 {k : Nat} (h : k ≤ 6000) : od_ok (1, some k) := ⟨⟨fun z => (by cases z), fun z => (by cases z)⟩, fun l z => (by cases z; exact h)⟩
theorem od_ok_0 : od_ok (0, none) := ⟨⟨fun _ => rfl, fun _ => rfl⟩, fun l z => (by cases z)⟩
/-- the least, brought up to date: in the class, in the reference -/
theorem od_upX {c k : Nat} {o : Option Nat} (h : od_ok (c, o)) (hc : c ≠ 0) (hk : k ≤ 6000) : (if nI k < encO o then nI k else encO o) = encO (od_min o (some k)) := by
  cases o with
  | none => exact absurd (h.1.mpr rfl) hc
  | some l =>
    have hl := h.2 l rfl
    show (if nI k < nI l then nI k else nI l) = nI (min l k)
    by_cases z : k < l
    · rw [if_pos (nI_lt z (by omega)), show min l k = k by omega]
    · rw [if_neg (nI_nlt (by omega) (by omega)), show min l k = l by omega]
theorem od_upM {c k : Nat} {o : Option Nat} (h : od_ok (c, o)) (hk : k ≤ 6000) : (if encO o < 0 then nI k else if encO o ≤ nI k then encO o else nI k) = encO (od_min o (some k)) := by
  cases o with
  | none => exact if_pos (show encO none < 0 by decide)
  | some l =>
    have hl := h.2 l rfl
    show (if nI l < 0 then nI k else if nI l ≤ nI k then nI l else nI k) = nI (min l k)
    rw [if_neg (nI_pos (by omega))]
    by_cases z : l ≤ k
    · rw [if_pos (nI_le z (by omega)), show min l k = l by omega]
    · rw [if_neg (nI_ge (by omega) (by omega)), show min l k = k by omega]
