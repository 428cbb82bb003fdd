/-! PURE, 26: how the reference reads -/
theorem byte_k {x : Int32} (h : x.toInt8.toInt32 = x) : ∃ k, k < 256 ∧ x = (Int8.ofNat k).toInt32 := by
  refine ⟨x.toInt8.toBitVec.toNat, x.toInt8.toBitVec.isLt, ?_⟩
  have e : Int8.ofNat x.toInt8.toBitVec.toNat = x.toInt8 := Int8.toBitVec_inj.mp (BitVec.eq_of_toNat_eq (by
    show x.toInt8.toBitVec.toNat % 2 ^ 8 = _
    exact Nat.mod_eq_of_lt x.toInt8.toBitVec.isLt))
  rw [e, h]
theorem fb1 : ∀ k, k < 256 → ∀ c, c ∈ [32, 59, 108, 112, 114, 116] → ((Int8.ofNat k).toInt32 &&& 255 = nI c ↔ (Int8.ofNat k).toInt32 = nI c) := by decide +kernel
theorem fb2 : ∀ k, k < 256 → ((48 ≤ ((Int8.ofNat k).toInt32 &&& 255).toInt ∧ ((Int8.ofNat k).toInt32 &&& 255).toInt ≤ 57) ↔ (48 ≤ (Int8.ofNat k).toInt32.toInt ∧ (Int8.ofNat k).toInt32.toInt ≤ 57)) := by decide +kernel
def HC (h x : Int32) : Prop := (∀ c, c ∈ [32, 59, 108, 112, 114, 116] → (h = nI c ↔ x = nI c)) ∧ f_X12_in h.toInt64 48 57 = f_X11_within x 48 57
theorem hc0 : ∀ c, c ∈ [32, 59, 108, 112, 114, 116] → ((-1 : Int32) = nI c ↔ (0 : Int32) = nI c) := by decide +kernel
/-- where the reference reads -/
def MB (ρ : Nat → Int32) (d N : Nat) (μ : MMem) : Prop := (μ 0).1 16 = nI (100 * d) ∧ (μ 0).1 17 = nI N ∧ ∀ i, i < 100 → (μ 19).2 (100 * d + i) = (ρ i).toInt64
def Byt (ρ : Nat → Int32) : Prop := ∀ i, i < 100 → (ρ i).toInt8.toInt32 = ρ i
def MC (μ μ' : MMem) : Prop := (∀ i, i ≠ 0 → μ' i = μ i) ∧ ∀ j, j ≠ 18 → j ≠ 19 → (μ' 0).1 j = (μ 0).1 j
theorem MC.rf {μ : MMem} : MC μ μ := ⟨fun _ _ => rfl, fun _ _ _ => rfl⟩
theorem MC.tr {μ μ1 μ2 : MMem} (h1 : MC μ μ1) (h2 : MC μ1 μ2) : MC μ μ2 := ⟨fun i a => (h2.1 i a).trans (h1.1 i a), fun j a b => (h2.2 j a b).trans (h1.2 j a b)⟩
theorem MC.u {μ μ1 : MMem} {j : Nat} {x : Int32} (h1 : MC μ μ1) (hj : j = 18 ∨ j = 19) : MC μ (uI μ1 0 j x) := ⟨fun i a => (uI_ne a).trans (h1.1 i a), fun k a b => (uI_f (by omega)).trans (h1.2 k a b)⟩
theorem MB.c {ρ : Nat → Int32} {d N : Nat} {μ μ' : MMem} (h : MB ρ d N μ) (hc : MC μ μ') : MB ρ d N μ' := ⟨(hc.2 16 (by decide) (by decide)).trans h.1, (hc.2 17 (by decide) (by decide)).trans h.2.1, fun i hi => by rw [hc.1 19 (by decide)]; exact h.2.2 i hi⟩
theorem here_m {ρ : Nat → Int32} {d N p : Nat} {μ : MMem} (hd : d < 8) (hN : N ≤ 100) (hB : Byt ρ) (hb : MB ρ d N μ) (h18 : (μ 0).1 18 = nI p) (hp : p ≤ N) : ∃ h, f_X12_here μ = some h ∧ HC h (bt ρ N p) := by
  unfold bt
  by_cases c : p < N
  · obtain ⟨k, hk, ek⟩ := byte_k (hB p (by omega))
    refine ⟨ρ p &&& 255, ?_, ?_⟩
    · rw [f_X12_here, h18, hb.2.1, if_pos (nI_lt c (by omega)), hb.1, bnds, nI_add, if_neg (nI_in (show 100 * d + p < 800 by omega) (by decide)), nI_clamp (show 100 * d + p < 2 ^ 31 by omega), hb.2.2 p (by omega), Int32.toInt32_toInt64]
    · rw [if_pos c, ek]
      refine ⟨fb1 k hk, ?_⟩
      rw [in_i, within_i, show (48 : Int64).toInt = 48 by decide, show (57 : Int64).toInt = 57 by decide, show (48 : Int32).toInt = 48 by decide, show (57 : Int32).toInt = 57 by decide]
      simp only [fb2 k hk]
  · refine ⟨-1, ?_, ?_⟩
    · rw [f_X12_here, h18, hb.2.1, if_neg (nI_nlt (by omega) (by omega))]
    · rw [if_neg c]
      exact ⟨hc0, by decide +kernel⟩
section RDD
variable {ρ : Nat → Int32} {d N p : Nat} {μ : MMem}
theorem rdD_y (hd : d < 8) (hN : N ≤ 100) (hB : Byt ρ) (hb : MB ρ d N μ) (h18 : (μ 0).1 18 = nI p) (hp : p ≤ N) (h19 : (μ 0).1 19 = 0) {v : Nat} (hv : dgt (bt ρ N) p = some v) : f_X12_readDigit μ = some (nI v, uI (uI μ 0 19 0) 0 18 (nI (p + 1))) := by
  obtain ⟨h, eh, hc⟩ := here_m hd hN hB hb h18 hp
  have hpN := dgt_in hv
  obtain ⟨v9, ev, ew⟩ := dgt_y hv
  have eb : ρ p = nI (48 + v) := by
    rw [← ev]
    unfold bt
    rw [if_pos hpN]
  have idx : nI (100 * d) + nI (p + 1) - 1 = nI (100 * d + p) := by
    rw [nI_add, nI_p _ (by omega)]
    congr 1
  have q16 : ((uI (uI μ 0 19 0) 0 18 (nI (p + 1))) 0).1 16 = nI (100 * d) := by rw [uI_f (by decide), uI_f (by decide)]; exact hb.1
  have q18 : ((uI (uI μ 0 19 0) 0 18 (nI (p + 1))) 0).1 18 = nI (p + 1) := uI_s
  have q19 : (uI (uI μ 0 19 0) 0 18 (nI (p + 1))) 19 = μ 19 := by rw [uI_ne (by decide), uI_ne (by decide)]
  have r18 : ((uI μ 0 19 0) 0).1 18 = nI p := by rw [uI_f (by decide)]; exact h18
  have r19 : ((uI μ 0 19 0) 0).1 19 = 0 := uI_s
  rw [f_X12_readDigit, jns]
  dsimp only
  rw [jns]
  dsimp only
  rw [if_pos h19, eh, b1s, hc.2, ew, b1s, if_neg ne10, if_pos (Or.inl rfl), bnds, if_pos r19, r18, nI_1, bnds, bnds, q16, q18, idx, bnds, if_neg (nI_in (show 100 * d + p < 800 by omega) (by decide)), nI_clamp (show 100 * d + p < 2 ^ 31 by omega), q19, hb.2.2 p (by omega), Int32.toInt32_toInt64, eb, show (48 : Int32) = nI 48 from rfl, pk_sub (by omega), show 48 + v - 48 = v by omega]
theorem rdD_n (hd : d < 8) (hN : N ≤ 100) (hB : Byt ρ) (hb : MB ρ d N μ) (h18 : (μ 0).1 18 = nI p) (hp : p ≤ N) (h19 : (μ 0).1 19 = 0) (hv : dgt (bt ρ N) p = none) : f_X12_readDigit μ = some (0, uI μ 0 19 1) := by
  obtain ⟨h, eh, hc⟩ := here_m hd hN hB hb h18 hp
  have r19 : ((uI μ 0 19 1) 0).1 19 = 1 := uI_s
  rw [f_X12_readDigit, jns]
  dsimp only
  rw [jns]
  dsimp only
  rw [if_pos h19, eh, b1s, hc.2, dgt_n hv, b1s, if_pos rfl, if_pos (Or.inr rfl), bnds, r19, if_neg ne10]
theorem rdD_b {μ : MMem} (h19 : (μ 0).1 19 = 1) : f_X12_readDigit μ = some (0, uI μ 0 19 1) := by
  have r19 : ((uI μ 0 19 1) 0).1 19 = 1 := uI_s
  rw [f_X12_readDigit, jns]
  dsimp only
  rw [jns]
  dsimp only
  rw [h19, if_neg ne10, if_pos (Or.inr rfl), bnds, r19, if_neg ne10]
end RDD
/-- a part, behind what went before -/
def stepP (b : Nat → Int32) (s : Bool × Nat × List Nat) (k : Nat) : Bool × Nat × List Nat := if s.1 = true then (match part b k s.2.1 with
  | none => (false, s.2.1, s.2.2)
  | some (o, q) => (true, q, s.2.2 ++ o.toList)) else s
theorem stp_bad {b : Nat → Int32} {s : Bool × Nat × List Nat} {k : Nat} (h : ¬ s.1 = true) : stepP b s k = s := if_neg h
theorem stp_no {b : Nat → Int32} {s : Bool × Nat × List Nat} {k : Nat} (h : s.1 = true) (hp : part b k s.2.1 = none) : stepP b s k = (false, s.2.1, s.2.2) := by
  unfold stepP
  rw [if_pos h, hp]
theorem stp_yes {b : Nat → Int32} {s : Bool × Nat × List Nat} {k q : Nat} {o : Option Nat} (h : s.1 = true) (hp : part b k s.2.1 = some (o, q)) : stepP b s k = (true, q, s.2.2 ++ o.toList) := by
  unfold stepP
  rw [if_pos h, hp]
theorem stp_ok {b : Nat → Int32} {s : Bool × Nat × List Nat} {k : Nat} (h : (stepP b s k).1 = true) : s.1 = true := by
  by_cases c : s.1 = true
  · exact c
  · rw [stp_bad c] at h; exact h
theorem run_fold {b : Nat → Int32} : ∀ (ks : List Nat) (p : Nat) (l : List Nat), run b ks p l = ks.foldl (stepP b) (true, p, l) := by
  have bad : ∀ (ks : List Nat) (s : Bool × Nat × List Nat), ¬ s.1 = true → ks.foldl (stepP b) s = s := by
    intro ks
    induction ks with
    | nil => intro s _; rfl
    | cons k ks ih =>
      intro s h
      show ks.foldl (stepP b) (stepP b s k) = s
      rw [stp_bad h]
      exact ih s h
  intro ks
  induction ks with
  | nil => intro p l; rfl
  | cons k ks ih =>
    intro p l
    have e : run b (k :: ks) p l = match part b k p with
      | none => (false, p, l)
      | some (o, q) => run b ks q (l ++ o.toList) := rfl
    show run b (k :: ks) p l = ks.foldl (stepP b) (stepP b (true, p, l) k)
    cases h : part b k p with
    | none =>
      rw [h] at e
      rw [stp_no (s := (true, p, l)) rfl h, bad _ _ (fun z => (by cases z))]
      exact e
    | some w =>
      obtain ⟨o, q⟩ := w
      rw [h] at e
      rw [stp_yes (s := (true, p, l)) rfl h]
      exact e.trans (ih q (l ++ o.toList))
def MS (ρ : Nat → Int32) (d N : Nat) (μ : MMem) (s : Bool × Nat × List Nat) : Prop := MB ρ d N μ ∧ (μ 0).1 18 = nI s.2.1 ∧ (μ 0).1 19 = (if s.1 = true then 0 else 1) ∧ s.2.1 ≤ N
theorem MS.w {ρ : Nat → Int32} {d N i k : Nat} {v : Int32} {μ : MMem} {s : Bool × Nat × List Nat} (h : MS ρ d N μ s) (h1 : i ≠ 0) (h2 : i ≠ 19) : MS ρ d N (uI μ i k v) s := by
  obtain ⟨⟨a1, a2, a3⟩, a4, a5, a6⟩ := h
  have e0 : (uI μ i k v) 0 = μ 0 := uI_ne (Ne.symm h1)
  have e19 : (uI μ i k v) 19 = μ 19 := uI_ne (Ne.symm h2)
  unfold MS MB
  rw [e0, e19]
  exact ⟨⟨a1, a2, a3⟩, a4, a5, a6⟩
theorem pt1_n {b : Nat → Int32} {p : Nat} (h : dgt b p = none) : part b 1 p = none := by
  unfold part
  rw [if_neg (by decide), if_pos rfl, h]
theorem pt1_y {b : Nat → Int32} {p v : Nat} (h : dgt b p = some v) : part b 1 p = some (some v, p + 1) := by
  unfold part
  rw [if_neg (by decide), if_pos rfl, h]
theorem pt0_n {b : Nat → Int32} {p : Nat} (h : nmb b p = none) : part b 0 p = none := by
  unfold part
  rw [if_pos rfl, h]
theorem pt0_y {b : Nat → Int32} {p v q : Nat} (h : nmb b p = some (v, q)) : part b 0 p = some (some v, q) := by
  unfold part
  rw [if_pos rfl, h]
theorem ptc {b : Nat → Int32} {p k : Nat} (h : 2 ≤ k) : part b k p = if b p = nI k then some (none, p + 1) else none := by
  unfold part
  rw [if_neg (by omega), if_neg (by omega)]
/-- the memory behind a part that failed, and behind one that came -/
theorem ms_no {ρ : Nat → Int32} {d N : Nat} {μ : MMem} {s : Bool × Nat × List Nat} (h : MS ρ d N μ s) : MC μ (uI μ 0 19 1) ∧ MS ρ d N (uI μ 0 19 1) (false, s.2.1, s.2.2) := by
  have c : MC μ (uI μ 0 19 1) := MC.rf.u (Or.inr rfl)
  exact ⟨c, h.1.c c, by rw [uI_f (by decide)]; exact h.2.1, uI_s, h.2.2.2⟩
theorem ms_yes {ρ : Nat → Int32} {d N q : Nat} {μ : MMem} {s : Bool × Nat × List Nat} {l : List Nat} (h : MS ρ d N μ s) (hq : q ≤ N) : MC μ (uI (uI μ 0 19 0) 0 18 (nI q)) ∧ MS ρ d N (uI (uI μ 0 19 0) 0 18 (nI q)) (true, q, l) := by
  have c : MC μ (uI (uI μ 0 19 0) 0 18 (nI q)) := (MC.rf.u (Or.inr rfl)).u (Or.inl rfl)
  exact ⟨c, h.1.c c, uI_s, by rw [uI_f (by decide), uI_s]; rfl, hq⟩
theorem ms_bad {ρ : Nat → Int32} {d N : Nat} {μ : MMem} {s : Bool × Nat × List Nat} (h : MS ρ d N μ s) (hs : ¬ s.1 = true) : MC μ (uI μ 0 19 1) ∧ MS ρ d N (uI μ 0 19 1) s := by
  have c : MC μ (uI μ 0 19 1) := MC.rf.u (Or.inr rfl)
  exact ⟨c, h.1.c c, by rw [uI_f (by decide)]; exact h.2.1, by rw [uI_s, if_neg hs], h.2.2.2⟩
section OPS
variable {ρ : Nat → Int32} {d N : Nat} {μ : MMem} {s : Bool × Nat × List Nat}
theorem opD (hd : d < 8) (hN : N ≤ 100) (hB : Byt ρ) (h : MS ρ d N μ s) : ∃ v μ', f_X12_readDigit μ = some (v, μ') ∧ MC μ μ' ∧ MS ρ d N μ' (stepP (bt ρ N) s 1) ∧ ((stepP (bt ρ N) s 1).1 = true → ∃ w, v = nI w ∧ (stepP (bt ρ N) s 1).2.2 = s.2.2 ++ [w]) := by
  by_cases c : s.1 = true
  · have h19 : (μ 0).1 19 = 0 := by rw [h.2.2.1, if_pos c]
    cases hv : dgt (bt ρ N) s.2.1 with
    | none =>
      have m := ms_no h
      rw [stp_no c (pt1_n hv)]
      exact ⟨0, _, rdD_n hd hN hB h.1 h.2.1 h.2.2.2 h19 hv, m.1, m.2, fun z => by cases z⟩
    | some v =>
      have hi := dgt_in hv
      have m := ms_yes (l := s.2.2 ++ [v]) h (show s.2.1 + 1 ≤ N by omega)
      rw [stp_yes c (pt1_y hv)]
      exact ⟨nI v, _, rdD_y hd hN hB h.1 h.2.1 h.2.2.2 h19 hv, m.1, m.2, fun _ => ⟨v, rfl, rfl⟩⟩
  · have h19 : (μ 0).1 19 = 1 := by rw [h.2.2.1, if_neg c]
    have m := ms_bad h c
    rw [stp_bad c]
    exact ⟨0, _, rdD_b h19, m.1, m.2, fun z => absurd z c⟩
theorem opN (hd : d < 8) (hN : N ≤ 100) (hB : Byt ρ) (h : MS ρ d N μ s) : ∃ v μ', f_X12_readNumber μ = some (v, μ') ∧ MC μ μ' ∧ MS ρ d N μ' (stepP (bt ρ N) s 0) ∧ ((stepP (bt ρ N) s 0).1 = true → ∃ w, v = nI w ∧ (stepP (bt ρ N) s 0).2.2 = s.2.2 ++ [w]) := by
  have r19 : ((uI μ 0 19 1) 0).1 19 = 1 := uI_s
  by_cases c : s.1 = true
  · have h19 : (μ 0).1 19 = 0 := by rw [h.2.2.1, if_pos c]
    cases hv : dgt (bt ρ N) s.2.1 with
    | none =>
      have m := ms_no h
      have hn : nmb (bt ρ N) s.2.1 = none := by
        unfold nmb
        rw [hv]
      rw [stp_no c (pt0_n hn)]
      refine ⟨0, _, ?_, m.1, m.2, fun z => by cases z⟩
      rw [f_X12_readNumber, rdD_n hd hN hB h.1 h.2.1 h.2.2.2 h19 hv, b2s, r19, if_neg ne10]
    | some v =>
      have hi := dgt_in hv
      obtain ⟨v9, _, _⟩ := dgt_y hv
      obtain ⟨m1, m2⟩ := ms_yes (l := s.2.2 ++ [v]) h (show s.2.1 + 1 ≤ N by omega)
      have m219 : ((uI (uI μ 0 19 0) 0 18 (nI (s.2.1 + 1))) 0).1 19 = 0 := m2.2.2.1
      have hR : f_X12_readNumber μ = if nI v ≤ 0 then some (nI v, uI (uI μ 0 19 0) 0 18 (nI (s.2.1 + 1))) else b1 (f_X12_here (uI (uI μ 0 19 0) 0 18 (nI (s.2.1 + 1)))) fun r_7 => b1 (f_X12_in r_7.toInt64 48 57) fun r_9 => if r_9 = 0 then some (nI v, uI (uI μ 0 19 0) 0 18 (nI (s.2.1 + 1))) else b2 (f_X12_readDigit (uI (uI μ 0 19 0) 0 18 (nI (s.2.1 + 1)))) fun r_12 σ_13 => some ((10 * nI v) + r_12, σ_13) := by
        rw [f_X12_readNumber, rdD_y hd hN hB h.1 h.2.1 h.2.2.2 h19 hv, b2s, if_pos m219]
      by_cases c0 : v = 0
      · have hn : nmb (bt ρ N) s.2.1 = some (v, s.2.1 + 1) := by
          unfold nmb
          rw [hv]
          dsimp only
          rw [if_neg (by omega)]
        rw [stp_yes c (pt0_y hn)]
        exact ⟨nI v, _, hR.trans (if_pos (by rw [c0]; decide)), m1, m2, fun _ => ⟨v, rfl, rfl⟩⟩
      · obtain ⟨x, ex, hx⟩ := here_m hd hN hB m2.1 m2.2.1 m2.2.2.2
        have hx2 : f_X12_in x.toInt64 48 57 = f_X11_within (bt ρ N (s.2.1 + 1)) 48 57 := hx.2
        rw [if_neg (nI_nle (show 0 < v by omega) (by omega)), ex, b1s, hx2] at hR
        cases hw : dgt (bt ρ N) (s.2.1 + 1) with
        | none =>
          have hn : nmb (bt ρ N) s.2.1 = some (v, s.2.1 + 1) := by
            unfold nmb
            rw [hv]
            dsimp only
            rw [if_pos (by omega), hw]
          rw [dgt_n hw, b1s, if_pos rfl] at hR
          rw [stp_yes c (pt0_y hn)]
          exact ⟨nI v, _, hR, m1, m2, fun _ => ⟨v, rfl, rfl⟩⟩
        | some w =>
          have hi2 := dgt_in hw
          have hn : nmb (bt ρ N) s.2.1 = some (10 * v + w, s.2.1 + 2) := by
            unfold nmb
            rw [hv]
            dsimp only
            rw [if_pos (by omega), hw]
          obtain ⟨_, _, e3⟩ := dgt_y hw
          obtain ⟨n1, n2⟩ := ms_yes (l := s.2.2 ++ [10 * v + w]) m2 (show s.2.1 + 2 ≤ N by omega)
          rw [e3, b1s, if_neg ne10, rdD_y hd hN hB m2.1 m2.2.1 m2.2.2.2 m219 hw, b2s, show (10 : Int32) * nI v + nI w = nI (10 * v + w) by rw [show (10 : Int32) = nI 10 from rfl, pk_mul, nI_add]] at hR
          rw [stp_yes c (pt0_y hn)]
          exact ⟨nI (10 * v + w), _, hR, m1.tr n1, n2, fun _ => ⟨_, rfl, rfl⟩⟩
  · have h19 : (μ 0).1 19 = 1 := by rw [h.2.2.1, if_neg c]
    have m := ms_bad h c
    rw [stp_bad c]
    refine ⟨0, _, ?_, m.1, m.2, fun z => absurd z c⟩
    rw [f_X12_readNumber, rdD_b h19, b2s, r19, if_neg ne10]
theorem opT {k : Nat} (hk : k = 32 ∨ k = 59) (hd : d < 8) (hN : N ≤ 100) (hB : Byt ρ) (h : MS ρ d N μ s) : ∃ μ', f_X12_take (nI k) μ = some μ' ∧ MC μ μ' ∧ MS ρ d N μ' (stepP (bt ρ N) s k) ∧ ((stepP (bt ρ N) s k).1 = true → (stepP (bt ρ N) s k).2.2 = s.2.2) := by
  have hk2 : 2 ≤ k := by omega
  have r19 : ((uI μ 0 19 1) 0).1 19 = 1 := uI_s
  have q19 : ((uI μ 0 19 0) 0).1 19 = 0 := uI_s
  have r18 : ((uI μ 0 19 1) 0).1 18 = nI s.2.1 := by rw [uI_f (by decide)]; exact h.2.1
  have q18 : ((uI μ 0 19 0) 0).1 18 = nI s.2.1 := by rw [uI_f (by decide)]; exact h.2.1
  have cb : MC μ (uI (uI μ 0 19 1) 0 18 (nI s.2.1)) := (MC.rf.u (Or.inr rfl)).u (Or.inl rfl)
  by_cases c : s.1 = true
  · have h19 : (μ 0).1 19 = 0 := by rw [h.2.2.1, if_pos c]
    obtain ⟨x, ex, hx⟩ := here_m hd hN hB h.1 h.2.1 h.2.2.2
    have hx1 := hx.1 k (by rcases hk with rfl | rfl <;> decide)
    by_cases hb : bt ρ N s.2.1 = nI k
    · have hi : s.2.1 < N := bt_in (ρ := ρ) (by rw [hb]; exact nI_ne0 (by omega) (by omega))
      obtain ⟨m1, m2⟩ := ms_yes (l := s.2.2) h (show s.2.1 + 1 ≤ N by omega)
      rw [stp_yes c (by rw [ptc hk2, if_pos hb])]
      refine ⟨_, ?_, m1, ?_, fun _ => List.append_nil _⟩
      · rw [f_X12_take, jns]
        dsimp only
        rw [jns]
        dsimp only
        rw [if_pos h19, ex, b1s, if_pos (hx1.mpr hb), if_pos (Or.inl rfl), bnds, if_pos q19, q18, nI_1, bnds, bnds]
      · rw [show (none : Option Nat).toList = [] from rfl, List.append_nil]
        exact m2
    · rw [stp_no c (by rw [ptc hk2, if_neg hb])]
      refine ⟨uI (uI μ 0 19 1) 0 18 (nI s.2.1), ?_, cb, ⟨h.1.c cb, uI_s, by rw [uI_f (by decide), uI_s]; rfl, h.2.2.2⟩, fun z => by cases z⟩
      rw [f_X12_take, jns]
      dsimp only
      rw [jns]
      dsimp only
      rw [if_pos h19, ex, b1s, if_neg (fun z => hb (hx1.mp z)), if_pos (Or.inr rfl), bnds, r19, if_neg ne10, r18, Int32.add_zero, bnds, bnds]
  · have h19 : (μ 0).1 19 = 1 := by rw [h.2.2.1, if_neg c]
    rw [stp_bad c]
    refine ⟨uI (uI μ 0 19 1) 0 18 (nI s.2.1), ?_, cb, ⟨h.1.c cb, uI_s, by rw [uI_f (by decide), uI_s, if_neg c], h.2.2.2⟩, fun _ => rfl⟩
    rw [f_X12_take, jns]
    dsimp only
    rw [jns]
    dsimp only
    rw [h19, if_neg ne10, if_pos (Or.inr rfl), bnds, r19, if_neg ne10, r18, Int32.add_zero, bnds, bnds]
end OPS
