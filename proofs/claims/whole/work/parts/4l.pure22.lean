/-! PURE, 22: old -/
def clo (D : DS) (r : Nat) : Nat := (D.2 r 1 + D.2 r 2).toNatClampNeg
theorem clo_s {D : DS} {n r : Nat} (h : OkN D n) (hr : r < n) : D.2 r 1 + D.2 r 2 = nI (clo D r) ∧ clo D r ≤ 108 := by
  obtain ⟨g, w, k, v, a1, a2, a3, a4, a5, a6, b0, b1', b2', b3⟩ := h.2.2.2.2.2.2 r hr
  unfold clo
  rw [b1', b2', nI_add, nI_clamp (by omega)]
  exact ⟨rfl, by omega⟩
theorem bit_t : ∀ u, u < 64 → ∀ r, r < 6 → (((nI u >>> (nI r &&& 31)) &&& 1) = 0 ↔ u.testBit r = false) := by decide +kernel
theorem bit_o : ∀ u, u < 64 → ∀ r, r < 6 → nI u ||| ((1 : Int32) <<< (nI r &&& 31)) = nI (u ||| 2 ^ r) ∧ u ||| 2 ^ r < 64 := by decide +kernel
theorem or0 : ∀ u, u < 64 → nI u ||| (0 : Int32) = nI u := by decide +kernel
/-- of the free rings with enough the one with the least, the first of these -/
def pk (C : Nat → Nat) (w u : Nat) : Nat → Option Nat
  | 0 => none
  | r + 1 => match pk C w u r with
    | none => if u.testBit r = false ∧ w ≤ C r then some r else none
    | some q => if u.testBit r = false ∧ w ≤ C r ∧ C r < C q then some r else some q
section PKS
variable {C : Nat → Nat} {w u : Nat}
theorem pk_n {i : Nat} (h : pk C w u i = none) : pk C w u (i + 1) = if u.testBit i = false ∧ w ≤ C i then some i else none := by
  show (match pk C w u i with
    | none => if u.testBit i = false ∧ w ≤ C i then some i else none
    | some q => if u.testBit i = false ∧ w ≤ C i ∧ C i < C q then some i else some q) = _
  rw [h]
theorem pk_y {i q : Nat} (h : pk C w u i = some q) : pk C w u (i + 1) = if u.testBit i = false ∧ w ≤ C i ∧ C i < C q then some i else some q := by
  show (match pk C w u i with
    | none => if u.testBit i = false ∧ w ≤ C i then some i else none
    | some q => if u.testBit i = false ∧ w ≤ C i ∧ C i < C q then some i else some q) = _
  rw [h]
def PP (C : Nat → Nat) (w u n q : Nat) : Prop := q < n ∧ u.testBit q = false ∧ w ≤ C q ∧ ∀ r, r < n → u.testBit r = false → w ≤ C r → C q < C r ∨ (C q = C r ∧ q ≤ r)
theorem pk_ch : ∀ n, (pk C w u n = none ∧ ∀ r, r < n → ¬ (u.testBit r = false ∧ w ≤ C r)) ∨ ∃ q, pk C w u n = some q ∧ PP C w u n q := by
  intro n
  induction n with
  | zero => exact Or.inl ⟨rfl, fun r hr => by omega⟩
  | succ n ih =>
    rcases ih with ⟨e, h⟩ | ⟨q, e, h1, h2, h3, h4⟩
    · rw [pk_n e]
      by_cases c : u.testBit n = false ∧ w ≤ C n
      · rw [if_pos c]
        refine Or.inr ⟨n, rfl, by omega, c.1, c.2, fun r hr a b => ?_⟩
        by_cases e2 : r = n
        · exact Or.inr ⟨by rw [e2], by omega⟩
        · exact absurd ⟨a, b⟩ (h r (by omega))
      · rw [if_neg c]
        refine Or.inl ⟨rfl, fun r hr => ?_⟩
        by_cases e2 : r = n
        · rw [e2]; exact c
        · exact h r (by omega)
    · rw [pk_y e]
      by_cases c : u.testBit n = false ∧ w ≤ C n ∧ C n < C q
      · rw [if_pos c]
        refine Or.inr ⟨n, rfl, by omega, c.1, c.2.1, fun r hr a b => ?_⟩
        by_cases e2 : r = n
        · exact Or.inr ⟨by rw [e2], by omega⟩
        · have := h4 r (by omega) a b
          have := c.2.2
          exact Or.inl (by omega)
      · rw [if_neg c]
        refine Or.inr ⟨q, rfl, by omega, h2, h3, fun r hr a b => ?_⟩
        by_cases e2 : r = n
        · subst e2
          have : ¬ C r < C q := fun z => c ⟨a, b, z⟩
          omega
        · exact h4 r (by omega) a b
theorem pk_of {n q : Nat} (h : PP C w u n q) : pk C w u n = some q := by
  rcases pk_ch (C := C) (w := w) (u := u) n with ⟨_, h2⟩ | ⟨q', e, h2⟩
  · exact absurd ⟨h.2.1, h.2.2.1⟩ (h2 q h.1)
  · have a := h.2.2.2 q' h2.1 h2.2.1 h2.2.2.1
    have b := h2.2.2.2 q h.1 h.2.1 h.2.2.1
    rw [e]
    congr 1
    omega
theorem pk_no {n : Nat} (h : ∀ r, r < n → ¬ (u.testBit r = false ∧ w ≤ C r)) : pk C w u n = none := by
  rcases pk_ch (C := C) (w := w) (u := u) n with ⟨e, _⟩ | ⟨q', _, h2⟩
  · exact e
  · exact absurd ⟨h2.2.1, h2.2.2.1⟩ (h q' h2.1)
theorem pk_cg {n a b : Nat} (h : ∀ r, r < n → u.testBit r = false → (a ≤ C r ↔ b ≤ C r)) : pk C a u n = pk C b u n := by
  rcases pk_ch (C := C) (w := a) (u := u) n with ⟨e, h2⟩ | ⟨q, e, h1, h2, h3, h4⟩
  · rw [e]
    exact (pk_no (fun r hr z => h2 r hr ⟨z.1, (h r hr z.1).mpr z.2⟩)).symm
  · rw [e]
    exact (pk_of ⟨h1, h2, (h q h1 h2).mp h3, fun r hr z1 z2 => h4 r hr z1 ((h r hr z1).mpr z2)⟩).symm
end PKS
theorem fr2 {u y r : Nat} : (u ||| 2 ^ y).testBit r = false ↔ u.testBit r = false ∧ ¬ y = r := by
  rw [Nat.testBit_or, Nat.testBit_two_pow]
  cases u.testBit r <;> simp
/-- one width is looked for -/
def stp (C : Nat → Nat) (n w : Nat) (s : Nat × Nat) : Nat × Nat := match pk C w s.1 n with
  | none => s
  | some q => (s.1 ||| 2 ^ q, s.2 + 1)
section STPS
variable {C : Nat → Nat} {n u c : Nat}
theorem stp_n {w : Nat} (h : pk C w u n = none) : stp C n w (u, c) = (u, c) := by simp only [stp, h]
theorem stp_y {w q : Nat} (h : pk C w u n = some q) : stp C n w (u, c) = (u ||| 2 ^ q, c + 1) := by simp only [stp, h]
theorem stp_c {a b : Nat} (h : pk C a u n = pk C b u n) : stp C n a (u, c) = stp C n b (u, c) := by simp only [stp, h]
theorem stp_comm (a b : Nat) : stp C n b (stp C n a (u, c)) = stp C n a (stp C n b (u, c)) := by
  rcases pk_ch (C := C) (w := a) (u := u) n with ⟨ea, na⟩ | ⟨x, ea, pa⟩
  · rw [stp_n ea]
    rcases pk_ch (C := C) (w := b) (u := u) n with ⟨eb, nb⟩ | ⟨y, eb, pb⟩
    · rw [stp_n eb, stp_n ea]
    · rw [stp_y eb]
      exact (stp_n (pk_no (fun r hr z => na r hr ⟨(fr2.mp z.1).1, z.2⟩))).symm
  · rcases pk_ch (C := C) (w := b) (u := u) n with ⟨eb, nb⟩ | ⟨y, eb, pb⟩
    · rw [stp_y ea, stp_n eb, stp_y ea]
      exact stp_n (pk_no (fun r hr z => nb r hr ⟨(fr2.mp z.1).1, z.2⟩))
    · by_cases e : x = y
      · subst e
        rw [stp_y ea, stp_y eb]
        refine stp_c (pk_cg (fun r hr z => ?_))
        obtain ⟨z1, _⟩ := fr2.mp z
        have hb := pb.2.2.1
        have ha := pa.2.2.1
        refine ⟨fun h => ?_, fun h => ?_⟩
        · have := pb.2.2.2 r hr z1 h; omega
        · have := pa.2.2.2 r hr z1 h; omega
      · have h1 : pk C b (u ||| 2 ^ x) n = some y := pk_of ⟨pb.1, fr2.mpr ⟨pb.2.1, e⟩, pb.2.2.1, fun r hr z1 z2 => pb.2.2.2 r hr (fr2.mp z1).1 z2⟩
        have h2 : pk C a (u ||| 2 ^ y) n = some x := pk_of ⟨pa.1, fr2.mpr ⟨pa.2.1, fun z => e z.symm⟩, pa.2.2.1, fun r hr z1 z2 => pa.2.2.2 r hr (fr2.mp z1).1 z2⟩
        rw [stp_y ea, stp_y eb, stp_y h1, stp_y h2, Nat.or_assoc, Nat.or_comm (2 ^ x), ← Nat.or_assoc]
end STPS
def encX : Option Nat → Int32
  | none => -4
  | some q => nI q
def encC (C : Nat → Nat) : Option Nat → Int32
  | none => 0
  | some q => nI (C q)
def encM : Option Nat → Int32
  | none => -1
  | some q => nI q
theorem pik_lt {C : Nat → Nat} {w u i q : Nat} (h : pk C w u i = some q) : q < i := by
  rcases pk_ch (C := C) (w := w) (u := u) i with ⟨e, _⟩ | ⟨q', e, h2⟩
  · rw [e] at h; cases h
  · rw [e] at h; cases h; exact h2.1
theorem srcX {σ : Mem} {D : DS} {n w u : Nat} (hX : dsX σ 0 = D) (hD : OkN D n) (hu : u < 64) (hw : w ≤ 99) : ∀ (f i : Nat), i ≤ n → n < i + f →
    f_X11_tightestSource_L9 (nI w) (nI u) σ f (encX (pk (clo D) w u i)) (encC (clo D) (pk (clo D) w u i)) (nI i) (fun x _ _ => some x) = some (encX (pk (clo D) w u n)) := by
  have h6 := hD.1
  have hq : σ (1 + 2 * 0) 1 = nI n := by
    have h : (dsX σ 0).1 0 = nI n := by rw [hX]; exact hD.2.1
    exact h
  intro f
  induction f with
  | zero => intro i h1 h2; omega
  | succ f ih =>
    intro i h1 h2
    by_cases e : i = n
    · rw [f_X11_tightestSource_L9, hq, e, if_pos (nI_le (Nat.le_refl _) (by omega))]
    · have hi : i < n := by omega
      obtain ⟨ec, hc⟩ := clo_s hD hi
      have go := ih (i + 1) (by omega) (by omega)
      rw [f_X11_tightestSource_L9, hq, if_neg (nI_ge hi (by omega)), get1 (by omega), b1s, get2 (by omega), b1s, hX, ec]
      simp only [jns, bnds, nI_1, if_true, if_neg ne10]
      have ht := bit_t u hu i (by omega)
      by_cases hb : ((nI u >>> (nI i &&& 31)) &&& 1) = 0
      · have hb2 := ht.mp hb
        rw [if_pos hb]
        by_cases hcw : nI (clo D i) < nI w
        · have hcw2 : ¬ w ≤ clo D i := by rw [nI_ltI (by omega) (by omega)] at hcw; omega
          rw [if_pos hcw]
          have : pk (clo D) w u (i + 1) = pk (clo D) w u i := by
            cases hp : pk (clo D) w u i with
            | none => rw [pk_n hp, if_neg (fun z => hcw2 z.2)]
            | some q => rw [pk_y hp, if_neg (fun z => hcw2 z.2.1)]
          rw [this] at go
          exact go
        · have hcw2 : w ≤ clo D i := by rw [nI_ltI (by omega) (by omega)] at hcw; omega
          rw [if_neg hcw]
          cases hp : pk (clo D) w u i with
          | none =>
            rw [pk_n hp, if_pos ⟨hb2, hcw2⟩] at go
            rw [if_pos (show encX none = -4 from rfl)]
            exact go
          | some q =>
            have hqi := pik_lt hp
            have hcq := (clo_s hD (show q < n by omega)).2
            rw [pk_y hp] at go
            rw [if_neg (show ¬ encX (some q) = -4 from fun z => absurd (nI_pos' (show q < 2 ^ 31 by omega)) (by rw [show nI q = -4 from z]; decide))]
            by_cases hlt : clo D i < clo D q
            · rw [if_pos ⟨hb2, hcw2, hlt⟩] at go
              rw [if_neg (show ¬ encC (clo D) (some q) ≤ nI (clo D i) from nI_ge hlt (by omega))]
              exact go
            · rw [if_neg (fun z => hlt z.2.2)] at go
              rw [if_pos (show encC (clo D) (some q) ≤ nI (clo D i) from nI_le (by omega) (by omega))]
              exact go
      · have hb2 : ¬ u.testBit i = false := fun z => hb (ht.mpr z)
        rw [if_neg hb]
        have : pk (clo D) w u (i + 1) = pk (clo D) w u i := by
          cases hp : pk (clo D) w u i with
          | none => rw [pk_n hp, if_neg (fun z => hb2 z.1)]
          | some q => rw [pk_y hp, if_neg (fun z => hb2 z.1)]
        rw [this] at go
        exact go
theorem srcM {μ : MMem} {D : DS} {n d w u l : Nat} (hM : dsM μ = D) (hD : OkN D n) (hu : u < 64) (hw : w ≤ 99) (htold : f_X12_told (nI d) (nI l) μ = some (nI w)) : ∀ (f i : Nat), i ≤ n → n < i + f →
    ∀ K, f_X12_old_L132 (nI d) (nI u) (nI l) f (encM (pk (clo D) w u i)) (nI i) μ K = K (encM (pk (clo D) w u n)) (nI n) μ := by
  have h6 := hD.1
  have hq : (μ 0).1 0 = nI n := by rw [← M_q0, hM]; exact hD.2.1
  intro f
  induction f with
  | zero => intro i h1 h2; omega
  | succ f ih =>
    intro i h1 h2 K
    by_cases e : i = n
    · rw [f_X12_old_L132, hq, e, if_pos (nI_le (Nat.le_refl _) (by omega))]
    · have hi : i < n := by omega
      obtain ⟨ec, hc⟩ := clo_s hD hi
      have go := ih (i + 1) (by omega) (by omega) K
      have hbi : ¬ (nI i < 0 ∨ 6 ≤ i) := fun z => z.elim (nI_pos (by omega)) (by omega)
      have ecm : (μ 2).1 i + (μ 3).1 i = nI (clo D i) := by rw [← ec, ← hM, M_v1 (by omega), M_v2 (by omega)]
      rw [f_X12_old_L132, hq, if_neg (nI_ge hi (by omega)), nI_clamp (show i < 2 ^ 31 by omega), if_neg hbi, if_neg hbi, ecm, htold]
      simp only [jns, bnds, b1s, nI_1, if_true, if_neg ne10]
      have ht := bit_t u hu i (by omega)
      by_cases hb : ((nI u >>> (nI i &&& 31)) &&& 1) = 0
      · have hb2 := ht.mp hb
        rw [if_pos hb]
        by_cases hcw : nI (clo D i) < nI w
        · have hcw2 : ¬ w ≤ clo D i := by rw [nI_ltI (by omega) (by omega)] at hcw; omega
          rw [if_pos hcw]
          have : pk (clo D) w u (i + 1) = pk (clo D) w u i := by
            cases hp : pk (clo D) w u i with
            | none => rw [pk_n hp, if_neg (fun z => hcw2 z.2)]
            | some q => rw [pk_y hp, if_neg (fun z => hcw2 z.2.1)]
          rw [this] at go
          exact go
        · have hcw2 : w ≤ clo D i := by rw [nI_ltI (by omega) (by omega)] at hcw; omega
          rw [if_neg hcw]
          cases hp : pk (clo D) w u i with
          | none =>
            rw [pk_n hp, if_pos ⟨hb2, hcw2⟩] at go
            rw [if_pos (show encM none < 0 by decide)]
            exact go
          | some q =>
            have hqi := pik_lt hp
            have hcq := (clo_s hD (show q < n by omega)).2
            have hbq : ¬ (nI q < 0 ∨ 6 ≤ q) := fun z => z.elim (nI_pos (by omega)) (by omega)
            have ecq : (μ 2).1 q + (μ 3).1 q = nI (clo D q) := by rw [← (clo_s hD (show q < n by omega)).1, ← hM, M_v1 (by omega), M_v2 (by omega)]
            rw [pk_y hp] at go
            rw [if_neg (show ¬ encM (some q) < 0 from nI_pos (by omega)), show encM (some q) = nI q from rfl, nI_clamp (show q < 2 ^ 31 by omega), if_neg hbq, if_neg hbq, ecq]
            by_cases hlt : clo D i < clo D q
            · rw [if_pos ⟨hb2, hcw2, hlt⟩] at go
              rw [if_neg (nI_ge hlt (by omega))]
              exact go
            · rw [if_neg (fun z => hlt z.2.2)] at go
              rw [if_pos (nI_le (show clo D q ≤ clo D i by omega) (by omega))]
              exact go
      · have hb2 : ¬ u.testBit i = false := fun z => hb (ht.mpr z)
        rw [if_neg hb]
        have : pk (clo D) w u (i + 1) = pk (clo D) w u i := by
          cases hp : pk (clo D) w u i with
          | none => rw [pk_n hp, if_neg (fun z => hb2 z.1)]
          | some q => rw [pk_y hp, if_neg (fun z => hb2 z.1)]
        rw [this] at go
        exact go
def SInv (h i : Nat) (x : Int32) : Prop := (x = -1 ∧ ∀ k, k < i → h.testBit k = true) ∨ ∃ l, l < i ∧ x = nI l ∧ h.testBit l = false
theorem selL {σ : Mem} {μ : MMem} {d N h : Nat} (hr : RowAt σ μ d N) (hN6 : N ≤ 6) (hh : h < 64) : ∀ (f i : Nat) (x : Int32), i ≤ N → N < i + f → SInv h i x →
    ∃ x', (∀ K, f_X12_old_L47 (nI d) (nI h) f x (nI i) μ K = K x' (nI N) μ) ∧ SInv h N x' := by
  have hd := hr.1
  have hbd : ¬ (nI d < 0 ∨ 8 ≤ (nI d).toNatClampNeg) := nI_in hd (by decide)
  have hcd := nI_clamp (show d < 2 ^ 31 by omega)
  intro f
  induction f with
  | zero => intro i x h1 h2; omega
  | succ f ih =>
    intro i x h1 h2 hi
    by_cases e : i = N
    · subst e
      exact ⟨x, fun K => by rw [f_X12_old_L47, if_neg hbd, hcd, hr.2.2.2.1, if_pos (nI_le (Nat.le_refl _) (by omega))], hi⟩
    · have hiN : i < N := by omega
      have ht := bit_t h hh i (by omega)
      have hm : ∀ K, f_X12_old_L47 (nI d) (nI h) (f + 1) x (nI i) μ K = if ((nI h >>> (nI i &&& 31)) &&& 1) = 0 then (if x < 0 then f_X12_old_L47 (nI d) (nI h) f (nI i) (nI (i + 1)) μ K else b1 (f_X12_told (nI d) (nI i) μ) fun r_28 => b1 (f_X12_told (nI d) x μ) fun r_30 => if r_30 ≤ r_28 then f_X12_old_L47 (nI d) (nI h) f x (nI (i + 1)) μ K else f_X12_old_L47 (nI d) (nI h) f (nI i) (nI (i + 1)) μ K) else f_X12_old_L47 (nI d) (nI h) f x (nI (i + 1)) μ K := fun K => by
        rw [f_X12_old_L47, if_neg hbd, hcd, hr.2.2.2.1, if_neg (nI_ge hiN (by omega))]
        simp only [jns, bnds, nI_1, if_true, if_neg ne10]
      simp only [hm]
      by_cases hb : ((nI h >>> (nI i &&& 31)) &&& 1) = 0
      · have hb2 := ht.mp hb
        have take := ih (i + 1) (nI i) (by omega) (by omega) (Or.inr ⟨i, by omega, rfl, hb2⟩)
        rcases hi with ⟨rfl, _⟩ | ⟨l, hl, rfl, hl2⟩
        · simp only [if_pos hb, if_pos (show (-1 : Int32) < 0 by decide)]
          exact take
        · simp only [if_pos hb, if_neg (nI_pos (show l < 2 ^ 31 by omega)), told_s hr (show i < 100 by omega), told_s hr (show l < 100 by omega), b1s]
          by_cases hc : σ (8 + 2 * d) l ≤ σ (8 + 2 * d) i
          · simp only [if_pos hc]
            exact ih (i + 1) (nI l) (by omega) (by omega) (Or.inr ⟨l, by omega, rfl, hl2⟩)
          · simp only [if_neg hc]
            exact take
      · have hb2 : h.testBit i = true := by
          cases q : h.testBit i with
          | true => rfl
          | false => exact absurd (ht.mpr q) hb
        simp only [if_neg hb]
        refine ih (i + 1) x (by omega) (by omega) ?_
        rcases hi with ⟨rfl, h3⟩ | ⟨l, hl, rfl, hl2⟩
        · refine Or.inl ⟨rfl, fun k hk => ?_⟩
          by_cases e2 : k = i
          · rw [e2]; exact hb2
          · exact h3 k (by omega)
        · exact Or.inr ⟨l, by omega, rfl, hl2⟩
def wid (ρ : Nat → Int32) (i : Nat) : Nat := (ρ i).toNatClampNeg
theorem wid_t {σ : Mem} {d i : Nat} (h : LenT σ d i) : σ (8 + 2 * d) i = nI (wid (σ (8 + 2 * d)) i) ∧ wid (σ (8 + 2 * d)) i ≤ 99 := by
  obtain ⟨v, h1, h2, e⟩ := h
  unfold wid
  rw [e, nI_clamp (by omega)]
  exact ⟨rfl, h2⟩
/-- all the widths of a list of places, one behind the other -/
def fold (C : Nat → Nat) (n : Nat) (ρ : Nat → Int32) (s : Nat × Nat) (l : List Nat) : Nat × Nat := l.foldl (fun s i => stp C n (wid ρ i) s) s
theorem oldX {σ : Mem} {μ : MMem} {D : DS} {n d N : Nat} (hX : dsX σ 0 = D) (hD : OkN D n) (hr : RowAt σ μ d N) (hg : ∀ i, i < N → LenT σ d i) : ∀ (j i f u c : Nat), i + j = N → j < f → u < 64 → fold (clo D) n (σ (8 + 2 * d)) (0, 0) (List.range i) = (u, c) →
    f_X11_old_L29 σ d f (nI u) (nI c) (nI i) (fun _ x _ => some x) = some (nI (fold (clo D) n (σ (8 + 2 * d)) (0, 0) (List.range N)).2) := by
  have h6 := hD.1
  have hN := hr.2.1
  intro j
  induction j with
  | zero =>
    intro i f u c h1 h2 h3 h4
    obtain ⟨f, rfl⟩ : ∃ k, f = k + 1 := ⟨f - 1, by omega⟩
    have e : i = N := by omega
    subst e
    rw [f_X11_old_L29, hr.2.2.1, if_pos (nI_le (Nat.le_refl _) (by omega)), h4]
  | succ j ih =>
    intro i f u c h1 h2 h3 h4
    obtain ⟨f, rfl⟩ : ∃ k, f = k + 1 := ⟨f - 1, by omega⟩
    obtain ⟨ew, hw⟩ := wid_t (hg i (by omega))
    have hs : f_X11_tightestSource (nI (wid (σ (8 + 2 * d)) i)) (nI u) σ = some (encX (pk (clo D) (wid (σ (8 + 2 * d)) i) u n)) := by
      rw [f_X11_tightestSource]
      exact srcX hX hD h3 hw 5000 0 (by omega) (by omega)
    have hf : fold (clo D) n (σ (8 + 2 * d)) (0, 0) (List.range (i + 1)) = stp (clo D) n (wid (σ (8 + 2 * d)) i) (u, c) := by
      rw [List.range_succ, fold, List.foldl_append]
      rw [fold] at h4
      rw [h4]
      rfl
    rw [f_X11_old_L29, hr.2.2.1, if_neg (nI_ge (show i < N by omega) (by omega)), at_s hr (show i < N by omega), b1s, ew, hs, b1s]
    cases hp : pk (clo D) (wid (σ (8 + 2 * d)) i) u n with
    | none =>
      rw [if_pos (show encX none = -4 from rfl), bnds, nI_1]
      rw [stp_n hp] at hf
      exact ih (i + 1) f u c (by omega) (by omega) h3 hf
    | some q =>
      have hq := pik_lt hp
      rw [stp_y hp] at hf
      rw [if_neg (show ¬ encX (some q) = -4 from fun z => absurd (nI_pos' (show q < 2 ^ 31 by omega)) (by rw [show nI q = -4 from z]; decide)), bnds, bnds, bnds, nI_1, nI_1, show encX (some q) = nI q from rfl, (bit_o u h3 q (by omega)).1]
      exact ih (i + 1) f _ _ (by omega) (by omega) (bit_o u h3 q (by omega)).2 hf
theorem oldM {σ : Mem} {μ : MMem} {D : DS} {n d N : Nat} (hM : dsM μ = D) (hD : OkN D n) (hr : RowAt σ μ d N) (hN6 : N ≤ 6) (hg : ∀ i, i < N → LenT σ d i) : ∀ (j k f h u c : Nat), k + j = N → j < f → h < 64 → u < 64 → ((List.range N).filter (fun i => !h.testBit i)).length = j →
    ∃ a b, ∀ K, f_X12_old_L30 (nI d) f (nI u) (nI h) (nI c) (nI k) μ K = K a b (nI (fold (clo D) n (σ (8 + 2 * d)) (u, c) ((List.range N).filter (fun i => !h.testBit i))).2) (nI N) μ := by
  have h6 := hD.1
  have hd := hr.1
  have hbd : ¬ (nI d < 0 ∨ 8 ≤ (nI d).toNatClampNeg) := nI_in hd (by decide)
  have hcd := nI_clamp (show d < 2 ^ 31 by omega)
  intro j
  induction j with
  | zero =>
    intro k f h u c h1 h2 h3 h4 h5
    obtain ⟨f, rfl⟩ : ∃ k, f = k + 1 := ⟨f - 1, by omega⟩
    have e : k = N := by omega
    subst e
    refine ⟨nI u, nI h, fun K => ?_⟩
    rw [List.length_eq_zero_iff.mp h5, f_X12_old_L30, if_neg hbd, hcd, hr.2.2.2.1, if_pos (nI_le (Nat.le_refl _) (by omega))]
    rfl
  | succ j ih =>
    intro k f h u c h1 h2 h3 h4 h5
    obtain ⟨f, rfl⟩ : ∃ k, f = k + 1 := ⟨f - 1, by omega⟩
    obtain ⟨x', g1, g2⟩ := selL hr hN6 h3 5000 0 (-1) (by omega) (by omega) (Or.inl ⟨rfl, fun k hk => by omega⟩)
    rcases g2 with ⟨_, hall⟩ | ⟨l, hl, rfl, hl2⟩
    · exfalso
      have : (List.range N).filter (fun i => !h.testBit i) = [] := List.filter_eq_nil_iff.mpr (fun a ha => by
        rw [List.mem_range] at ha
        simp [hall a ha])
      rw [this] at h5
      cases h5
    · have g1' : ∀ K, f_X12_old_L47 (nI d) (nI h) 5000 (-1) 0 μ K = K (nI l) (nI N) μ := g1
      obtain ⟨ew, hw⟩ := wid_t (hg l hl)
      have hmem : l ∈ (List.range N).filter (fun i => !h.testBit i) := List.mem_filter.mpr ⟨List.mem_range.mpr hl, by simp [hl2]⟩
      have hnd : ((List.range N).filter (fun i => !h.testBit i)).Nodup := List.Pairwise.filter _ List.nodup_range
      have hR : ((List.range N).filter (fun i => !h.testBit i)).erase l = (List.range N).filter (fun i => !(h ||| 2 ^ l).testBit i) := by
        rw [List.Nodup.erase_eq_filter hnd, List.filter_filter]
        congr 1
        funext a
        rw [Nat.testBit_or, Nat.testBit_two_pow]
        by_cases e : l = a
        · subst e; simp
        · have e2 : ¬ a = l := fun z => e z.symm
          simp [e, e2]
      have hperm := List.perm_cons_erase hmem
      rw [hR] at hperm
      have hlen := hperm.length_eq
      rw [h5, List.length_cons] at hlen
      have hfold : fold (clo D) n (σ (8 + 2 * d)) (u, c) ((List.range N).filter (fun i => !h.testBit i)) = fold (clo D) n (σ (8 + 2 * d)) (stp (clo D) n (wid (σ (8 + 2 * d)) l) (u, c)) ((List.range N).filter (fun i => !(h ||| 2 ^ l).testBit i)) :=
        (List.Perm.foldl_eq' hperm (fun x _ y _ z => stp_comm (u := z.1) (c := z.2) _ _) (u, c)).trans rfl
      have htold : f_X12_told (nI d) (nI l) μ = some (nI (wid (σ (8 + 2 * d)) l)) := by rw [told_s hr (by omega), ew]
      have hs : ∀ K, f_X12_old_L132 (nI d) (nI u) (nI l) 5000 (-1) 0 μ K = K (encM (pk (clo D) (wid (σ (8 + 2 * d)) l) u n)) (nI n) μ := srcM hM hD h4 hw htold 5000 0 (by omega) (by omega)
      obtain ⟨hbo, hbo2⟩ := bit_o h h3 l (by omega)
      have hm : ∀ K, f_X12_old_L30 (nI d) (f + 1) (nI u) (nI h) (nI c) (nI k) μ K = if 0 ≤ encM (pk (clo D) (wid (σ (8 + 2 * d)) l) u n) then f_X12_old_L30 (nI d) f (nI u ||| (1 <<< (encM (pk (clo D) (wid (σ (8 + 2 * d)) l) u n) &&& 31))) (nI (h ||| 2 ^ l)) (nI (c + 1)) (nI (k + 1)) μ K else f_X12_old_L30 (nI d) f (nI u ||| 0) (nI (h ||| 2 ^ l)) (nI c + 0) (nI (k + 1)) μ K := fun K => by
        rw [f_X12_old_L30, if_neg hbd, hcd, hr.2.2.2.1, if_neg (nI_ge (show k < N by omega) (by omega)), g1', bnds, hbo, hs]
        simp only [jns, bnds, nI_1]
        by_cases z : 0 ≤ encM (pk (clo D) (wid (σ (8 + 2 * d)) l) u n)
        · simp only [if_pos z]
        · simp only [if_neg z]
      cases hp : pk (clo D) (wid (σ (8 + 2 * d)) l) u n with
      | none =>
        obtain ⟨a, b, go⟩ := ih (k + 1) f (h ||| 2 ^ l) u c (by omega) (by omega) hbo2 h4 (by omega)
        refine ⟨a, b, fun K => ?_⟩
        rw [hm, hp, if_neg (show ¬ 0 ≤ encM none by decide), or0 u h4, Int32.add_zero, go, hfold, stp_n hp]
      | some q =>
        have hq := pik_lt hp
        obtain ⟨ho, ho2⟩ := bit_o u h4 q (by omega)
        obtain ⟨a, b, go⟩ := ih (k + 1) f (h ||| 2 ^ l) (u ||| 2 ^ q) (c + 1) (by omega) (by omega) hbo2 ho2 (by omega)
        refine ⟨a, b, fun K => ?_⟩
        rw [hm, hp, if_pos (show 0 ≤ encM (some q) from nI_pos' (by omega)), show encM (some q) = nI q from rfl, ho, go, hfold, stp_y hp]
theorem eq_old {σ : Mem} {μ : MMem} (hR : Rel σ μ) (p1 : Int32) : ∃ r μ', f_X11_old p1 σ = some r ∧ f_X12_old p1 μ = some (r, μ') ∧ Rel σ μ' := by
  have hR1 := hR.t
  obtain ⟨n, hn⟩ := hR1.2.1.n
  rcases listrow hR1 p1 (h := 6) (by decide) (by decide) with ⟨v, hv, g1, g2⟩ | ⟨d, N, rfl, hr, hN1, hN6, g1, g2, hg⟩
  · have g1' : f_X11_lengthsRefusal p1 6 σ = some v := g1
    have g2' : f_X12_wrongList p1 6 (uI μ 0 9 0) = some v := g2
    refine ⟨v, uI μ 0 9 0, ?_, ?_, hR1⟩
    · rw [f_X11_old, g1', b1s, if_neg (neg0 hv)]
    · rw [f_X12_old, bnds, g2', b1s, if_neg (Int32.not_le.mpr hv)]
  · have g1' : f_X11_lengthsRefusal (nI d) 6 σ = some 0 := g1
    have g2' : f_X12_wrongList (nI d) 6 (uI μ 0 9 0) = some 0 := g2
    have hd := hr.1
    have hx := oldX hR1.1 hn hr hg N 0 5000 0 0 (by omega) (by omega) (by decide) rfl
    have hall : (List.range N).filter (fun i => !(0 : Nat).testBit i) = List.range N := List.filter_eq_self.mpr (fun a _ => by simp)
    obtain ⟨a, b, hm⟩ := oldM rfl hn hr hN6 hg N 0 5000 0 0 0 (by omega) (by omega) (by decide) (by decide) (by rw [hall, List.length_range])
    rw [hall] at hm
    refine ⟨nI (fold (clo (dsM (uI μ 0 9 0))) n (σ (8 + 2 * d)) (0, 0) (List.range N)).2, uI μ 0 9 0, ?_, ?_, hR1⟩
    · rw [f_X11_old, g1', b1s, if_pos rfl, atS hd, b1s, if_pos (show d < 9 by omega)]
      exact hx
    · rw [f_X12_old, bnds, g2', b1s, if_pos (Int32.le_refl 0)]
      exact hm _
