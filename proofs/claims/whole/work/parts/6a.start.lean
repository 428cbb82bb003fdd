/-! THE START: what the tables and the given of the start say -/
theorem te85 : Cond.classLink RL 8 RX11 ∈ TBL := tb_of 84 (by decide +kernel) rfl
theorem te86 : Cond.instantiable RX11 9 ∈ TBL := tb_of 85 (by decide +kernel) rfl
theorem te87 : Cond.methodLink RL 17 yX11_init ∈ TBL := tb_of 86 (by decide +kernel) rfl
theorem te948 : Cond.classLink RL 18 RX12 ∈ TBL := tb_of 936 (by decide +kernel) rfl
theorem te949 : Cond.instantiable RX12 38 ∈ TBL := tb_of 937 (by decide +kernel) rfl
theorem te950 : Cond.methodLink RL 20 yX12_init ∈ TBL := tb_of 938 (by decide +kernel) rfl
theorem lw_of {w : Cond} (i : Nat) (h : lw_tbl[i]? = some w) : w ∈ lw_tbl := List.mem_of_getElem? h
section SU
variable {args : Array Value} {s : State}
theorem arr_k {ty : FieldType} (hp : ∀ (U : State) (cA : ClassId), U.vm.findClass ("[" ++ ty.toString) = some cA → va_RA U cA ty) (h : (Cond.arrayClass ty).before args s = true) : ∃ cA, ArrOfT s cA ty ∧ va_RA s cA ty := by
  obtain ⟨cA, kA, comp, h1, h2, h3⟩ := Cond.arrayClass_spec h
  exact ⟨cA, fun n z => ⟨fun k h => (by cases h), kA, h2, comp, h3⟩, hp s cA h1⟩
theorem arr_q {C : String} (h : (Cond.arrayOver (.object C)).before args s = true) : ∃ cA, ArrOfT s cA (.object C) ∧ va_RA s cA (.object C) := by
  obtain ⟨comp, cA, kA, h1, h2, h3, h4, h5⟩ := Cond.arrayOver_spec h
  exact ⟨cA, fun n z => ⟨fun k h => (by cases h), kA, h3, comp, h4⟩, kA, comp, h3, h4, h1, h5⟩
theorem su_D (hts : ∀ w ∈ TBL, w.before args s = true) : ∃ D : va_G, ∀ (c : Nat) (q : vw_C), vwCl[c]? = some q → u_Kn s q.1 q.2.1 q.2.2 (D.1 c) (D.2 c) := by
  have h0 : ∀ c : Nat, ∃ z : ClassId × (Nat → Nat), ∀ q : vw_C, vwCl[c]? = some q → u_Kn s q.1 q.2.1 q.2.2 z.1 z.2 := by
    intro c
    match c with
    | 0 =>
      obtain ⟨x, y, h⟩ := u_known hts in_X0 (hts _ tw93)
      exact ⟨(x, y), fun q hq => by cases hq; exact h⟩
    | 1 =>
      obtain ⟨x, y, h⟩ := u_known hts in_X1 (hts _ tw227)
      exact ⟨(x, y), fun q hq => by cases hq; exact h⟩
    | 2 =>
      obtain ⟨x, y, h⟩ := u_known hts in_X2 (hts _ tw192)
      exact ⟨(x, y), fun q hq => by cases hq; exact h⟩
    | 3 =>
      obtain ⟨x, y, h⟩ := u_known hts in_X3 (hts _ tw157)
      exact ⟨(x, y), fun q hq => by cases hq; exact h⟩
    | 4 =>
      obtain ⟨x, y, h⟩ := u_known hts in_X4 (hts _ tw206)
      exact ⟨(x, y), fun q hq => by cases hq; exact h⟩
    | 5 =>
      obtain ⟨x, y, h⟩ := u_known hts in_X5 (hts _ tw126)
      exact ⟨(x, y), fun q hq => by cases hq; exact h⟩
    | 6 =>
      obtain ⟨x, y, h⟩ := u_known hts in_X6 (hts _ tw220)
      exact ⟨(x, y), fun q hq => by cases hq; exact h⟩
    | 7 =>
      obtain ⟨x, y, h⟩ := u_known hts in_X7 (hts _ tw185)
      exact ⟨(x, y), fun q hq => by cases hq; exact h⟩
    | 8 =>
      obtain ⟨x, y, h⟩ := u_known hts in_X8 (hts _ tw164)
      exact ⟨(x, y), fun q hq => by cases hq; exact h⟩
    | 9 =>
      obtain ⟨x, y, h⟩ := u_known hts in_X9 (hts _ tw199)
      exact ⟨(x, y), fun q hq => by cases hq; exact h⟩
    | 10 =>
      obtain ⟨x, y, h⟩ := u_known hts in_X10 (hts _ tw213)
      exact ⟨(x, y), fun q hq => by cases hq; exact h⟩
    | 11 =>
      obtain ⟨x, y, h⟩ := u_known hts in_X11 (hts _ te86)
      exact ⟨(x, y), fun q hq => by cases hq; exact h⟩
    | 12 =>
      obtain ⟨x, y, h⟩ := u_known hts in_X12 (hts _ te949)
      exact ⟨(x, y), fun q hq => by cases hq; exact h⟩
    | c + 13 =>
      obtain ⟨x, y, -⟩ := u_known hts in_X0 (hts _ tw93)
      exact ⟨(x, y), fun q hq => absurd (List.getElem?_eq_some_iff.mp hq).1 (by show ¬ c + 13 < 13; omega)⟩
  obtain ⟨f, hf⟩ := Classical.axiomOfChoice h0
  exact ⟨(fun c => (f c).1, fun c => (f c).2), fun c q hq => hf c q hq⟩
theorem su_K (hts : ∀ w ∈ lw_tbl, w.before args s = true) : ∃ (D : va_G) (ca : Nat → ClassId), KX D vwCl (tysE ca) s := by
  obtain ⟨D, hD⟩ := su_D (args := args) (s := s) (fun w hw => hts w (List.mem_filter.mp hw).1)
  obtain ⟨c0, a0, b0⟩ := arr_k (args := args) (s := s) (ty := .int) (fun _ _ h => h) (hts _ (lw_of 123 (by decide +kernel)))
  obtain ⟨c1, a1, b1⟩ := arr_k (args := args) (s := s) (ty := .long) (fun _ _ h => h) (hts _ (lw_of 1057 (by decide +kernel)))
  obtain ⟨c2, a2, b2⟩ := arr_q (args := args) (s := s) (C := "PinnedToFit$Pin") (hts _ (lw_of 156 (by decide +kernel)))
  obtain ⟨c3, a3, b3⟩ := arr_q (args := args) (s := s) (C := "PinnedToFit$Shelf") (hts _ (lw_of 125 (by decide +kernel)))
  refine ⟨D, fun k => match k with | 0 => c0 | 1 => c1 | 2 => c2 | _ => c3, ⟨hD, fun k q hk => ?_⟩, fun w hw => ?_⟩
  · match k, hk with
    | 0, hk => cases hk; exact ⟨a0, b0⟩
    | 1, hk => cases hk; exact ⟨a1, b1⟩
    | 2, hk => cases hk; exact ⟨a2, b2⟩
    | 3, hk => cases hk; exact ⟨a3, b3⟩
    | k + 4, hk => exact absurd (List.getElem?_eq_some_iff.mp hk).1 (by show ¬ k + 4 < 4; omega)
  · obtain ⟨h1, h2⟩ := List.mem_filter.mp hw
    have h3 := hts w h1
    cases w <;> first | exact va_Nw.of rfl h3 | cases h2
theorem su_BA (hts : ∀ w ∈ lw_tbl, w.before args s = true) : BA s := ⟨va_AO.of (hts _ (lw_of 125 (by decide +kernel))), va_AO.of (hts _ (lw_of 156 (by decide +kernel)))⟩
abbrev gvC : List Cond := flatC (Jvm.Cond.and given_1 narrow_1)
def tmS (i : Nat) : Term := Term.string RX8 ([15, 17, 19, 21, 23].getD i 15)
set_option maxRecDepth 100000 in
theorem gs_ex : ∀ i, i < 5 → Cond.exactly (tmS i) "java/lang/String" ∈ gvC := by decide +kernel
set_option maxRecDepth 100000 in
theorem gs_co : ∀ i, i < 5 → Cond.eq (.field (tmS i) "java/lang/String" "coder" "B") (.int 0) ∈ gvC := by decide +kernel
set_option maxRecDepth 100000 in
theorem gs_ar : ∀ i, i < 5 → Cond.arrayOf (.field (tmS i) "java/lang/String" "value" "[B") .byte ∈ gvC := by decide +kernel
set_option maxRecDepth 100000 in
theorem gs_le : ∀ i, i < 5 → Cond.eq (.length (.field (tmS i) "java/lang/String" "value" "[B")) (.int (Int32.ofNat (sLen.getD i 0))) ∈ gvC := by decide +kernel
set_option maxRecDepth 100000 in
theorem gs_el : ∀ i, i < 5 → ∀ j, j < sLen.getD i 0 → Cond.eq (.elem (.field (tmS i) "java/lang/String" "value" "[B") (.int (Int32.ofNat j))) (.int ((sByt.getD i []).getD j 0)) ∈ gvC := by decide +kernel
set_option maxRecDepth 100000 in
theorem gs_ne : ∀ i, i < 5 → ∀ j, j < 5 → i ≠ j → (Cond.not (Cond.eq (tmS i) (tmS j)) ∈ gvC ∨ Cond.not (Cond.eq (tmS j) (tmS i)) ∈ gvC) := by decide +kernel
set_option maxRecDepth 100000 in
theorem gs_cs : Cond.eq (.static "java/lang/String" "COMPACT_STRINGS" "Z") (.int 1) ∈ gvC := by decide +kernel
set_option maxRecDepth 100000 in
theorem gs_si : Cond.isRef (.static "jdk/internal/util/Preconditions" "SIOOBE_FORMATTER" "Ljava/util/function/BiFunction;") ∈ gvC := by decide +kernel
set_option maxRecDepth 100000 in
theorem gs_us : Cond.isRef (.static Bundle.tN "UNASSIGNED_STACK" Bundle.steD) ∈ gvC := by decide +kernel
set_option maxRecDepth 100000 in
theorem gs_ss : Cond.isRef (.static Bundle.tN "SUPPRESSED_SENTINEL" Bundle.listD) ∈ gvC := by decide +kernel
set_option maxRecDepth 100000 in
theorem gs_n1 : Cond.not (.castable nISE nUOE) ∈ gvC := by decide +kernel
set_option maxRecDepth 100000 in
theorem gs_n2 : Cond.not (.castable nISE nIAE) ∈ gvC := by decide +kernel
set_option maxRecDepth 100000 in
theorem gs_n3 : Cond.not (.castable nIAE nUOE) ∈ gvC := by decide +kernel
def ownE (i : Nat) : String := [RX3, RX4, RX9, RX11, RX11, RX11].getD i RX3
def idxE (i : Nat) : Nat := [9, 19, 31, 259, 266, 269].getD i 9
set_option maxRecDepth 100000 in
theorem gs_xe : ∀ i, i < 6 → Cond.exactly (Term.string (ownE i) (idxE i)) "java/lang/String" ∈ gvC := by decide +kernel
theorem su_A : ∀ a : Nat, a < s.heap.size → ¬ (fun q : Nat => s.heap.size ≤ q) a := fun _ h => Nat.not_le.mpr h
theorem su_BS (hts : ∀ w ∈ lw_tbl, w.before args s = true) (hgv : (Jvm.Cond.and given_1 narrow_1).before args s = true) : ∃ adK adV : Nat → Nat, BS (fun q : Nat => s.heap.size ≤ q) adK adV s := by
  have hs : ∀ w ∈ gvC, w.before args s = true := flat_of_before _ hgv
  obtain ⟨adK, adV, h1, h2⟩ := vk_Sof (args := args) (s := s) (N := 5) (tm := tmS) (len := sLen) (byt := sByt) (A := fun q : Nat => s.heap.size ≤ q) (by decide) (fun i hi => hs _ (gs_ex i hi)) (fun i hi => hs _ (gs_co i hi)) (fun i hi => hs _ (gs_ar i hi)) (fun i hi => hs _ (gs_le i hi)) (fun i hi j hj => hs _ (gs_el i hi j hj)) (fun i j hi hj hne => (gs_ne i hi j hj hne).imp (hs _) (hs _)) su_A
  exact ⟨adK, adV, h1, ⟨vk_R.of (hts _ (lw_of 298 (by decide +kernel))) (h2 0 (by decide)), vk_R.of (hts _ (lw_of 299 (by decide +kernel))) (h2 1 (by decide)), vk_R.of (hts _ (lw_of 300 (by decide +kernel))) (h2 2 (by decide)), vk_R.of (hts _ (lw_of 301 (by decide +kernel))) (h2 3 (by decide)), vk_R.of (hts _ (lw_of 302 (by decide +kernel))) (h2 4 (by decide))⟩,
    va_Zof (hts _ (lw_of 316 (by decide +kernel))) (hts _ (lw_of 72 (by decide +kernel))) (va_eqt (hs _ gs_cs)) su_A, va_Zqof (hts _ (lw_of 332 (by decide +kernel))) (hts _ (lw_of 74 (by decide +kernel))) (hs _ gs_si) su_A⟩
theorem su_ES (hts : ∀ w ∈ lw_tbl, w.before args s = true) (hgv : (Jvm.Cond.and given_1 narrow_1).before args s = true) : ∃ adE : Nat → Nat, ES (fun q : Nat => s.heap.size ≤ q) adE s := by
  have hs : ∀ w ∈ gvC, w.before args s = true := flat_of_before _ hgv
  have h0 : ∀ i : Nat, ∃ a : Nat, i < 6 → (Term.string (ownE i) (idxE i)).eval args s none [] s = some (.ref a) := by
    intro i
    by_cases hi : i < 6
    · obtain ⟨a, c, cA, kA, q1, -⟩ := Cond.exactly_spec (args := args) (first := s) (o := none) (s := s) (idx := []) (t := Term.string (ownE i) (idxE i)) (cls := "java/lang/String") (hs _ (gs_xe i hi))
      exact ⟨a, fun _ => q1⟩
    · exact ⟨0, fun h => absurd h hi⟩
  obtain ⟨ad, had⟩ := Classical.axiomOfChoice h0
  exact ⟨ad, ⟨vk_R.of (hts _ (lw_of 915 (by decide +kernel))) (had 0 (by decide)), vk_R.of (hts _ (lw_of 855 (by decide +kernel))) (had 1 (by decide)), vk_R.of (hts _ (lw_of 895 (by decide +kernel))) (had 2 (by decide)), vk_R.of (hts _ (lw_of 931 (by decide +kernel))) (had 3 (by decide)), vk_R.of (hts _ (lw_of 933 (by decide +kernel))) (had 4 (by decide)), vk_R.of (hts _ (lw_of 935 (by decide +kernel))) (had 5 (by decide))⟩,
    vx_Zqof (hts _ (lw_of 841 (by decide +kernel))) (hts _ (lw_of 78 (by decide +kernel))) (hs _ gs_us) su_A, vx_Zqof (hts _ (lw_of 843 (by decide +kernel))) (hts _ (lw_of 78 (by decide +kernel))) (hs _ gs_ss) su_A, va_Nc.of (hs _ gs_n1), va_Nc.of (hs _ gs_n2), va_Nc.of (hs _ gs_n3)⟩
end SU
theorem rel_ini : Rel iniX iniM := by
  refine ⟨ds_ext (fun j hj => ?_) (fun r w _ _ => ?_), ?_, ⟨rfl, Or.inl rfl, fun h => absurd (show (0 : Int32) = 1 from h) (by decide)⟩, fun d hd => ?_⟩
  · rcases (show j = 0 ∨ j = 1 ∨ j = 2 ∨ j = 3 ∨ j = 4 by omega) with rfl | rfl | rfl | rfl | rfl <;> rfl
  · have h1 : iniX (2 + 2 * 0) (4 * r + w) = 0 := if_neg (by decide)
    have h2 : (iniM (1 + w)).1 r = 0 := if_neg (by omega)
    exact h1.trans h2.symm
  · exact ⟨0, 1, 8, 0, 0, by decide, by decide, by decide, by decide, by decide, rfl, rfl, rfl, rfl, rfl, fun r hr => absurd hr (Nat.not_lt_zero r)⟩
  · have m0 : (iniM 14).1 d = 0 := rfl
    have x0 : iniX (7 + 2 * d) 1 = 0 := if_neg (by omega)
    exact ⟨x0.trans m0.symm, Or.inl m0, fun h => absurd (m0.symm.trans h) (by decide), fun h => absurd (m0.symm.trans h) (by decide)⟩
theorem P_left {D : va_G} {cl : List vw_C} {w1 w2 : va_W} {H : Heap} (h : va_P D cl (w1 ++ w2) H) : va_P D cl w1 H := fun k q hk => h k q (by rw [List.getElem?_append_left (List.getElem?_eq_some_iff.mp hk).1]; exact hk)
theorem at_last {ws : va_W} {x : Nat × va_E} : (ws ++ [x])[ws.length]? = some x := by simp
theorem P_last {D : va_G} {cl : List vw_C} {ws : va_W} {x : Nat × va_E} {H : Heap} (h : va_P D cl (ws ++ [x]) H) : va_P D cl [x] H := fun k q hk => by
  match k, hk with
  | 0, hk =>
    have hk : some x = some q := hk
    cases hk
    exact h ws.length _ at_last
  | k + 1, hk => simp at hk
theorem D_ne {A : Nat → Prop} {ws : va_W} {x q : Nat × va_E} {k : Nat} (h : va_D A (ws ++ [x])) (hk : ws[k]? = some q) : q.1 ≠ x.1 := fun e => by
  have hl := (List.getElem?_eq_some_iff.mp hk).1
  have h1 := h.1 k ws.length q x (by rw [List.getElem?_append_left hl]; exact hk) at_last e
  omega
theorem A_one {x : Nat × va_E} {sz q : Nat} (h : va_A [x] sz q) : q = x.1 ∨ sz ≤ q := by
  rcases h with ⟨k, e, h⟩ | h
  · match k, h with
    | 0, h =>
      have h : some x = some (q, e) := h
      cases h
      exact Or.inl rfl
    | k + 1, h => simp at h
  · exact Or.inr h
