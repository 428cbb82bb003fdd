/-! PURE, 1: a dress of the class, and what its methods compute -/
theorem ds_q {q : Nat → Int32} {v : Nat → Nat → Int32} {j : Nat} (h : j < 5) : (mkDS q v).1 j = q j := if_pos h
theorem ds_v {q : Nat → Int32} {v : Nat → Nat → Int32} {r w : Nat} (hr : r < 6) (hw : w < 4) : (mkDS q v).2 r w = v r w := if_pos ⟨hr, hw⟩
theorem ds_ext {q q' : Nat → Int32} {v v' : Nat → Nat → Int32} (h1 : ∀ j, j < 5 → q j = q' j) (h2 : ∀ r w, r < 6 → w < 4 → v r w = v' r w) : mkDS q v = mkDS q' v' := by
  have a : (fun j => if j < 5 then q j else 0) = (fun j => if j < 5 then q' j else 0) := funext fun j => by
    by_cases h : j < 5
    · rw [if_pos h, if_pos h, h1 j h]
    · rw [if_neg h, if_neg h]
  have b : (fun r w => if r < 6 ∧ w < 4 then v r w else 0) = (fun r w => if r < 6 ∧ w < 4 then v' r w else 0) := funext fun r => funext fun w => by
    by_cases h : r < 6 ∧ w < 4
    · rw [if_pos h, if_pos h, h2 r w h.1 h.2]
    · rw [if_neg h, if_neg h]
  exact Prod.ext a b
def setQ (d : DS) (j : Nat) (x : Int32) : DS := (fun i => if i = j then x else d.1 i, d.2)
def setV (d : DS) (r w : Nat) (x : Int32) : DS := (d.1, fun r' w' => if r' = r ∧ w' = w then x else d.2 r' w')
theorem setV_q {d : DS} {r w j : Nat} {x : Int32} : (setV d r w x).1 j = d.1 j := rfl
theorem setQ_v {d : DS} {r w j : Nat} {x : Int32} : (setQ d j x).2 r w = d.2 r w := rfl
theorem setQ_same {d : DS} {j : Nat} {x : Int32} : (setQ d j x).1 j = x := if_pos rfl
theorem setQ_ne {d : DS} {i j : Nat} {x : Int32} (h : i ≠ j) : (setQ d j x).1 i = d.1 i := if_neg h
theorem setV_same {d : DS} {r w : Nat} {x : Int32} : (setV d r w x).2 r w = x := if_pos ⟨rfl, rfl⟩
theorem setV_ne {d : DS} {r w r' w' : Nat} {x : Int32} (h : ¬ (r' = r ∧ w' = w)) : (setV d r w x).2 r' w' = d.2 r' w' := if_neg h
theorem setV_id {d : DS} {r w : Nat} : setV d r w (d.2 r w) = d := by
  refine Prod.ext rfl (funext fun r' => funext fun w' => ?_)
  by_cases h : r' = r ∧ w' = w
  · rw [h.1, h.2]; exact setV_same
  · exact setV_ne h
theorem setQ_id {d : DS} {j : Nat} : setQ d j (d.1 j) = d := by
  refine Prod.ext (funext fun i => ?_) rfl
  by_cases h : i = j
  · rw [h]; exact setQ_same
  · exact setQ_ne h
theorem uX_same {σ : Mem} {i j : Nat} {v : Int32} : uX σ i j v i = upd (σ i) j v := if_pos rfl
theorem uX_ne {σ : Mem} {i j i' : Nat} {v : Int32} (h : i' ≠ i) : uX σ i j v i' = σ i' := if_neg h
theorem X_q {σ : Mem} {k j : Nat} (h : j < 5) : (dsX σ k).1 j = σ (1 + 2 * k) (j + 1) := ds_q h
theorem X_v {σ : Mem} {k r w : Nat} (hr : r < 6) (hw : w < 4) : (dsX σ k).2 r w = σ (2 + 2 * k) (4 * r + w) := ds_v hr hw
theorem ds_setV {σ : Mem} {k r w : Nat} {v : Int32} (hr : r < 6) (hw : w < 4) : dsX (uX σ (2 + 2 * k) (4 * r + w) v) k = setV (dsX σ k) r w v := by
  refine Prod.ext (funext fun j => ?_) (funext fun r' => funext fun w' => ?_)
  · show (if j < 5 then _ else _) = (if j < 5 then _ else _)
    rw [uX_ne (by omega)]
  · show (if r' < 6 ∧ w' < 4 then _ else _) = (if r' = r ∧ w' = w then v else if r' < 6 ∧ w' < 4 then _ else _)
    rw [uX_same]
    by_cases h : r' = r ∧ w' = w
    · obtain ⟨rfl, rfl⟩ := h
      rw [if_pos ⟨hr, hw⟩, if_pos ⟨rfl, rfl⟩]
      exact if_pos rfl
    · rw [if_neg h]
      by_cases h2 : r' < 6 ∧ w' < 4
      · rw [if_pos h2, if_pos h2]
        exact if_neg (by omega)
      · rw [if_neg h2, if_neg h2]
theorem ds_setQ {σ : Mem} {k j : Nat} {v : Int32} (hj : j < 5) : dsX (uX σ (1 + 2 * k) (j + 1) v) k = setQ (dsX σ k) j v := by
  refine Prod.ext (funext fun i => ?_) (funext fun r' => funext fun w' => ?_)
  · show (if i < 5 then _ else _) = (if i = j then v else if i < 5 then _ else _)
    rw [uX_same]
    by_cases h : i = j
    · subst h
      rw [if_pos hj, if_pos rfl]
      exact if_pos rfl
    · rw [if_neg h]
      by_cases h2 : i < 5
      · rw [if_pos h2, if_pos h2]
        exact if_neg (by omega)
      · rw [if_neg h2, if_neg h2]
  · show (if r' < 6 ∧ w' < 4 then _ else _) = (if r' < 6 ∧ w' < 4 then _ else _)
    rw [uX_ne (by omega)]
/-- dress k becomes d, all else stays -/
def DX (σ σ' : Mem) (k : Nat) (d : DS) : Prop := dsX σ' k = d ∧ ∀ i, i ≠ 1 + 2 * k → i ≠ 2 + 2 * k → σ' i = σ i
theorem DX.rf {σ : Mem} {k : Nat} : DX σ σ k (dsX σ k) := ⟨rfl, fun _ _ _ => rfl⟩
theorem DX.tr {σ σ1 σ2 : Mem} {k : Nat} {d1 d2 : DS} (h1 : DX σ σ1 k d1) (h2 : DX σ1 σ2 k d2) : DX σ σ2 k d2 := ⟨h2.1, fun i a b => (h2.2 i a b).trans (h1.2 i a b)⟩
theorem DX.v {σ : Mem} {k r w : Nat} {x : Int32} (hr : r < 6) (hw : w < 4) : DX σ (uX σ (2 + 2 * k) (4 * r + w) x) k (setV (dsX σ k) r w x) := ⟨ds_setV hr hw, fun i _ b => uX_ne b⟩
theorem DX.q {σ : Mem} {k j : Nat} {x : Int32} (hj : j < 5) : DX σ (uX σ (1 + 2 * k) (j + 1) x) k (setQ (dsX σ k) j x) := ⟨ds_setQ hj, fun i a _ => uX_ne a⟩
theorem DX.other {σ σ' : Mem} {k : Nat} {d : DS} (h : DX σ σ' k d) {k' : Nat} (hk : k' ≠ k) : dsX σ' k' = dsX σ k' := by
  unfold dsX
  rw [h.2 (1 + 2 * k') (by omega) (by omega), h.2 (2 + 2 * k') (by omega) (by omega)]
theorem get_s {σ : Mem} {k r w : Nat} (hr : r < 6) (hw : w < 4) : f_X0_get k (nI r) (nI w) σ = some ((dsX σ k).2 r w) := by
  have e : (4 : Int32) * nI r + nI w = nI (4 * r + w) := by rw [show (4 : Int32) = nI 4 from rfl, pk_mul, nI_add]
  have hlt : 4 * r + w < 24 := by omega
  have h24 : ¬ (24 : Int32) ≤ nI (4 * r + w) := fun h => nI_ge hlt (by decide) (show nI 24 ≤ _ from h)
  simp only [f_X0_get, bnd, e]
  rw [if_neg (nI_pos (by omega)), if_neg h24, if_neg (nI_in hlt (by decide)), nI_clamp (by omega), X_v hr hw]
theorem set_s {σ : Mem} {k r w : Nat} {v : Int32} (hr : r < 6) (hw : w < 4) : f_X0_set k (nI r) (nI w) v σ = some (uX σ (2 + 2 * k) (4 * r + w) v) := by
  have e : (4 : Int32) * nI r + nI w = nI (4 * r + w) := by rw [show (4 : Int32) = nI 4 from rfl, pk_mul, nI_add]
  have hlt : 4 * r + w < 24 := by omega
  have h24 : ¬ (24 : Int32) ≤ nI (4 * r + w) := fun h => nI_ge hlt (by decide) (show nI 24 ≤ _ from h)
  simp only [f_X0_set, bnd, e]
  rw [if_neg (nI_pos (by omega)), if_neg h24, if_neg (nI_in hlt (by decide)), nI_clamp (by omega)]
theorem get0 {σ : Mem} {k r : Nat} (hr : r < 6) : f_X0_get k (nI r) 0 σ = some ((dsX σ k).2 r 0) := get_s (w := 0) hr (by decide)
theorem get1 {σ : Mem} {k r : Nat} (hr : r < 6) : f_X0_get k (nI r) 1 σ = some ((dsX σ k).2 r 1) := get_s (w := 1) hr (by decide)
theorem get2 {σ : Mem} {k r : Nat} (hr : r < 6) : f_X0_get k (nI r) 2 σ = some ((dsX σ k).2 r 2) := get_s (w := 2) hr (by decide)
theorem get3 {σ : Mem} {k r : Nat} (hr : r < 6) : f_X0_get k (nI r) 3 σ = some ((dsX σ k).2 r 3) := get_s (w := 3) hr (by decide)
theorem set0 {σ : Mem} {k r : Nat} {v : Int32} (hr : r < 6) : f_X0_set k (nI r) 0 v σ = some (uX σ (2 + 2 * k) (4 * r + 0) v) := set_s (w := 0) hr (by decide)
theorem set1 {σ : Mem} {k r : Nat} {v : Int32} (hr : r < 6) : f_X0_set k (nI r) 1 v σ = some (uX σ (2 + 2 * k) (4 * r + 1) v) := set_s (w := 1) hr (by decide)
theorem set2 {σ : Mem} {k r : Nat} {v : Int32} (hr : r < 6) : f_X0_set k (nI r) 2 v σ = some (uX σ (2 + 2 * k) (4 * r + 2) v) := set_s (w := 2) hr (by decide)
theorem set3 {σ : Mem} {k r : Nat} {v : Int32} (hr : r < 6) : f_X0_set k (nI r) 3 v σ = some (uX σ (2 + 2 * k) (4 * r + 3) v) := set_s (w := 3) hr (by decide)
/-- between lo and hi -/
def cl (lo hi x : Int32) : Int32 := if lo < (if x < hi then x else hi) then (if x < hi then x else hi) else lo
def opW (d : DS) (r : Nat) (z : Int32) : DS := setV d r 1 (cl 1 99 (d.2 r 1 + z))
def opK (d : DS) (r : Nat) (z : Int32) : DS := setV d r 2 (cl 0 9 (d.2 r 2 + z))
def opH (d : DS) (z : Int32) : DS := setQ d 3 (cl 0 99 (d.1 3 + z))
theorem widen_s {σ : Mem} {k r : Nat} {z : Int32} (hr : r < 6) : ∃ σ', f_X0_widen k (nI r) z σ = some σ' ∧ DX σ σ' k (opW (dsX σ k) r z) := by
  refine ⟨_, ?_, DX.v hr (by decide)⟩
  simp only [f_X0_widen, get1 hr, b1, bnd, set1 hr, cl]
theorem keepMore_s {σ : Mem} {k r : Nat} {z : Int32} (hr : r < 6) : ∃ σ', f_X0_keepMore k (nI r) z σ = some σ' ∧ DX σ σ' k (opK (dsX σ k) r z) := by
  refine ⟨_, ?_, DX.v hr (by decide)⟩
  simp only [f_X0_keepMore, get2 hr, b1, bnd, set2 hr, cl]
theorem pierce_s {σ : Mem} {k : Nat} {z : Int32} : ∃ σ', f_X0_pierce k z σ = some σ' ∧ DX σ σ' k (opH (dsX σ k) z) := by
  refine ⟨_, ?_, DX.q (by decide)⟩
  simp only [f_X0_pierce, bnd, cl, X_q (show 3 < 5 by decide)]
theorem has_yes {σ : Mem} {k n r : Nat} (hn : (dsX σ k).1 0 = nI n) (hr : r < n) (h6 : n ≤ 6) : f_X0_has k (nI r) σ = some 1 := by
  rw [X_q (by decide)] at hn
  simp only [f_X0_has, hn]
  rw [if_neg (nI_pos (by omega)), if_neg (nI_ge hr (by omega))]
theorem has_no {σ : Mem} {k n : Nat} {p : Int32} (hn : (dsX σ k).1 0 = nI n) (h : p < 0 ∨ nI n ≤ p) : f_X0_has k p σ = some 0 := by
  rw [X_q (by decide)] at hn
  simp only [f_X0_has, hn]
  rcases h with h | h
  · rw [if_pos h]
  · by_cases h2 : p < 0
    · rw [if_pos h2]
    · rw [if_neg h2, if_pos h]
-- ease and lack
def needS (d : DS) (r : Nat) (mv : Int32) : Int32 := if mv = 0 then 0 else if mv = 1 then d.2 r 3 else if mv = 2 then (if r = 0 then d.2 r 3 / 2 + 2 else d.2 r 3 / 2) else if r % 2 = 0 then 1 else 0
def easeS (d : DS) (r : Nat) (mv : Int32) : Int32 := d.2 r 1 - d.2 r 0 - needS d r mv
def posS (x : Int32) : Int32 := if 0 < x then x else 0
theorem rem2 {r : Nat} (hr : r < 2 ^ 31) : nI r - nI r / 2 * 2 = nI (r % 2) := pk_rem (d := 2) hr (by decide) (by decide)
theorem even_i {r : Nat} (hr : r < 6) : nI r - nI r / 2 * 2 = 0 ↔ r % 2 = 0 := by
  rw [rem2 (by omega), show (0 : Int32) = nI 0 from rfl]
  exact nI_eq (by omega) (by decide)
theorem zero_i {r : Nat} (hr : r < 6) : nI r = 0 ↔ r = 0 := by
  rw [show (0 : Int32) = nI 0 from rfl]
  exact nI_eq (by omega) (by decide)
theorem needOf_s {σ : Mem} {k r : Nat} {mv : Int32} (hr : r < 6) : f_X0_needOf k (nI r) mv σ = some (needS (dsX σ k) r mv) := by
  unfold f_X0_needOf needS
  by_cases h0 : mv = 0
  · rw [if_pos h0, if_pos h0]
  rw [if_neg h0, if_neg h0]
  by_cases h1 : mv = 1
  · rw [if_pos h1, if_pos h1, get3 hr]; rfl
  rw [if_neg h1, if_neg h1]
  by_cases h2 : mv = 2
  · rw [if_pos h2, if_pos h2, get3 hr]
    show (if nI r = 0 then _ else _) = _
    by_cases hz : r = 0
    · rw [if_pos ((zero_i hr).mpr hz), if_pos hz]
    · rw [if_neg (fun q => hz ((zero_i hr).mp q)), if_neg hz, Int32.add_zero]
  rw [if_neg h2, if_neg h2]
  by_cases he : r % 2 = 0
  · rw [if_pos ((even_i hr).mpr he), if_pos he]
  · rw [if_neg (fun q => he ((even_i hr).mp q)), if_neg he]
theorem easeAt_s {σ : Mem} {k r : Nat} {mv : Int32} (hr : r < 6) : f_X0_easeAt k (nI r) mv σ = some (easeS (dsX σ k) r mv) := by
  simp only [f_X0_easeAt, get1 hr, get0 hr, needOf_s hr, b1, easeS]
def fitS (d : DS) (r : Nat) (mv : Int32) : Int32 := if easeS d r mv < d.1 1 then 0 else if mv = 0 then (if d.1 2 < easeS d r mv then 0 else 1) else 1
theorem fits_s {σ : Mem} {k r : Nat} {mv : Int32} (hr : r < 6) : f_X0_fits k (nI r) mv σ = some (fitS (dsX σ k) r mv) := by
  simp only [f_X0_fits, easeAt_s hr, b1, fitS, X_q (show 1 < 5 by decide), X_q (show 2 < 5 by decide)]
  repeat' split
  all_goals rfl
/-- what a ring lacks in all moves, onto a -/
def lackRing (d : DS) (r : Nat) (a : Int32) : Int32 := a + posS (d.1 1 - easeS d r 0) + posS (d.1 1 - easeS d r 1) + posS (d.1 1 - easeS d r 2) + posS (d.1 1 - easeS d r 3) + posS (easeS d r 0 - d.1 2)
def lackTo (d : DS) : Nat → Int32
  | 0 => 0
  | n + 1 => lackRing d n (lackTo d n)
theorem lackIn_s {σ : Mem} {k r : Nat} (hr : r < 6) {a : Int32} {K : Int32 → Int32 → Option Int32} : f_X0_lacking_L14 k σ (nI r) 5000 a 0 K = K (a + posS ((dsX σ k).1 1 - easeS (dsX σ k) r 0) + posS ((dsX σ k).1 1 - easeS (dsX σ k) r 1) + posS ((dsX σ k).1 1 - easeS (dsX σ k) r 2) + posS ((dsX σ k).1 1 - easeS (dsX σ k) r 3)) 4 := by
  have stop : ∀ (n : Nat) (a : Int32), f_X0_lacking_L14 k σ (nI r) (n + 1) a 4 K = K a 4 := fun n a => by
    rw [f_X0_lacking_L14, if_pos (by decide)]
  have step : ∀ (n : Nat) (a mv mv' : Int32), ¬ 4 ≤ mv → mv + 1 = mv' → f_X0_lacking_L14 k σ (nI r) (n + 1) a mv K = f_X0_lacking_L14 k σ (nI r) n (a + posS ((dsX σ k).1 1 - easeS (dsX σ k) r mv)) mv' K := fun n a mv mv' h1 h2 => by
    rw [f_X0_lacking_L14, if_neg h1, easeAt_s hr]
    simp only [b1, bnd, h2, posS, X_q (show 1 < 5 by decide)]
  rw [step 4999 a 0 1 (by decide) (by decide), step 4998 _ 1 2 (by decide) (by decide), step 4997 _ 2 3 (by decide) (by decide), step 4996 _ 3 4 (by decide) (by decide), stop 4995]
theorem lackL_s {σ : Mem} {k N : Nat} (hN : (dsX σ k).1 0 = nI N) (h6 : N ≤ 6) {K : Int32 → Int32 → Option Int32} : ∀ (n i : Nat), i ≤ N → N < i + n → f_X0_lacking_L4 k σ n (lackTo (dsX σ k) i) (nI i) K = K (lackTo (dsX σ k) N) (nI N) := by
  have hN' := hN
  rw [X_q (by decide)] at hN'
  intro n
  induction n with
  | zero => intro i h1 h2; omega
  | succ n ih =>
    intro i h1 h2
    rw [f_X0_lacking_L4]
    by_cases hi : i = N
    · subst hi
      rw [if_pos (by rw [show (0 + 1 : Nat) = 1 from rfl] at hN'; rw [hN']; exact nI_le (Nat.le_refl _) (by omega))]
    · rw [if_neg (by rw [show (0 + 1 : Nat) = 1 from rfl] at hN'; rw [hN']; exact nI_ge (by omega) (by omega)), lackIn_s (by omega), easeAt_s (by omega)]
      simp only [b1, bnd]
      rw [nI_1, ← ih (i + 1) (by omega) (by omega)]
      simp only [lackTo, lackRing, posS, X_q (show 2 < 5 by decide)]
/-- LACKS -/
def lackS (d : DS) : Int32 := lackTo d (d.1 0).toNatClampNeg
theorem lacking_s {σ : Mem} {k N : Nat} (hN : (dsX σ k).1 0 = nI N) (h6 : N ≤ 6) : f_X0_lacking k σ = some (lackS (dsX σ k)) := by
  rw [f_X0_lacking]
  have := lackL_s (K := fun x _ => some x) hN h6 5000 0 (by omega) (by omega)
  simp only [lackS, hN, nI_clamp (show N < 2 ^ 31 by omega)]
  exact this
