/-! THE STATE, as numbers: a dress is five numbers (rings, tight, loose, holes, minutes) and what each ring has (girth, width, kept, give) -/
abbrev DS : Type := (Nat → Int32) × (Nat → Nat → Int32)
def mkDS (q : Nat → Int32) (v : Nat → Nat → Int32) : DS := (fun j => if j < 5 then q j else 0, fun r w => if r < 6 ∧ w < 4 then v r w else 0)
/-- dress k of the class -/
def dsX (σ : Mem) (k : Nat) : DS := mkDS (fun j => σ (1 + 2 * k) (j + 1)) (fun r w => σ (2 + 2 * k) (4 * r + w))
/-- the reference's own dress -/
def dsM (μ : MMem) : DS := mkDS (fun j => [(μ 0).1 0, (μ 0).1 3, (μ 0).1 4, (μ 0).1 1, (μ 0).1 2].getD j 0) (fun r w => (μ (1 + w)).1 r)
/-- a dress laid down in a row of 29 (rings, holes, minutes, tight, loose; four numbers a ring) -/
def dsR (f : Nat → Int32) : DS := mkDS (fun j => [f 0, f 3, f 4, f 1, f 2].getD j 0) (fun r w => f (5 + 4 * r + w))
def Ok (d : DS) : Prop := ∃ n t l h m : Nat, n ≤ 6 ∧ t ≤ 9 ∧ l ≤ 30 ∧ h ≤ 99 ∧ m ≤ 9999 ∧ d.1 0 = nI n ∧ d.1 1 = nI t ∧ d.1 2 = nI l ∧ d.1 3 = nI h ∧ d.1 4 = nI m ∧
  ∀ r, r < n → ∃ g w k v : Nat, 1 ≤ g ∧ g ≤ 99 ∧ 1 ≤ w ∧ w ≤ 99 ∧ k ≤ 9 ∧ v ≤ 9 ∧ d.2 r 0 = nI g ∧ d.2 r 1 = nI w ∧ d.2 r 2 = nI k ∧ d.2 r 3 = nI v
/-- what a row of a sort may hold -/
def InSort (s : Int32) (v : Int32) : Prop := (s = 0 → v.toInt8.toInt32 = v) ∧ (s = 1 → v.toInt16.toInt32 = v)
/-- shelf d of the class, and of the reference -/
def RelS (σ : Mem) (μ : MMem) (d : Nat) : Prop :=
  σ (7 + 2 * d) 1 = (μ 14).1 d ∧ ((μ 14).1 d = 0 ∨ (μ 14).1 d = 1 ∨ (μ 14).1 d = 2) ∧
  ((μ 14).1 d = 1 → ∃ k f : Nat, k < 8 ∧ f < 10 ∧ σ (7 + 2 * d) 2 = nI k ∧ (μ 15).1 d = nI k ∧ σ (7 + 2 * d) 3 = nI f ∧ (μ 16).1 d = nI f) ∧
  ((μ 14).1 d = 2 → ∃ s n : Nat, s < 3 ∧ n ≤ 100 ∧ σ (7 + 2 * d) 4 = nI s ∧ (μ 17).1 d = nI s ∧ σ (7 + 2 * d) 5 = nI n ∧ (μ 18).1 d = nI n ∧
    ∀ i, i < 100 → (μ 19).2 (100 * d + i) = (σ (8 + 2 * d) i).toInt64 ∧ InSort (nI s) (σ (8 + 2 * d) i))
def Rel (σ : Mem) (μ : MMem) : Prop :=
  dsX σ 0 = dsM μ ∧ Ok (dsM μ) ∧ (σ 0 9 = (μ 0).1 12 ∧ ((μ 0).1 12 = 0 ∨ (μ 0).1 12 = 1) ∧ ((μ 0).1 12 = 1 → dsX σ 1 = dsR (μ 5).1 ∧ Ok (dsR (μ 5).1))) ∧ ∀ d, d < 8 → RelS σ μ d
