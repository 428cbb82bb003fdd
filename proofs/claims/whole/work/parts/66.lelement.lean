/-! THE LAW'S OWN element: it calls the class's element, catches, and writes what came into its row of one long -/
section RH
variable {p : Program} {l : Launch} {e : Env} {R : Room} {s : State} {m : MethodId} {args : Array Value} {below : List Frame} {meth : Method} {c : Code} {H H0 : Heap} {locs : List Loc} {cells slots mc ms : Nat} {Q : State → Prop}
variable {own : String} {cc cc2 : ByteArray} {nL nL2 idx pc : Nat} {ret ret2 : Option FieldType} {ls : Array Slot} {rest st0 As : List Value} {b : Nat} {y : MethodName} {rm : Room} {Pc : Array Value → State → Prop} {Qc : Array Value → State → Outcome → State → Prop} {XC : String → State → State → Prop} {free : Addr → Prop} {hh : List (Nat × Nat × Nat × Nat)}
theorem rVH (C0 : Cx p s m args meth c own cc nL ret) (hn : ls.size = nL) (hBs : ∀ U : State, U.heap = H → s.WarmedH U.vm → Pc (Value.ref b :: As).toArray U) (hB : FrameBlind Pc) (hM : vx_Met l y (.codeWith y cc2 nL2 ret2 hh :: TBL) rm Pc Qc XC mc ms free)
    (cv : Cond.instanceMethod y ∈ TBL ∧ Cond.selects y.cls y y ∈ TBL ∧ Cond.initialized y.cls ∈ TBL ∧ Cond.codeWith y cc2 nL2 ret2 hh ∈ TBL ∧ y.cls ≠ "java/lang/invoke/MethodHandle" ∧ y.cls ≠ "java/lang/invoke/VarHandle" ∧ (parseMethodDescriptor y.desc).map (fun d => d.parameters.length) = some As.length) (hlink : Cond.methodLink own idx y ∈ TBL)
    (hrec : ∃ cell : Cell, H[b]? = some cell ∧ cell.vm.isStatics = false ∧ s.vm.findClass y.cls = some cell.cls) (hst : st0 = As.reverse ++ .ref b :: rest) (hcat : (rest.map fun v => v.category).sum ≤ 8) (hrm : RMe R rm nL2 mc ms) (hcs : cells + mc ≤ R.cells ∧ slots + ms ≤ R.slots) (hdg : decode cc pc = .ok (.invokevirtual idx, 3)) :
    vx_Run p l e R s m args below meth c H locs cells slots mc ms (F0 m pc ls st0) rest (Qc (Value.ref b :: As).toArray) XC free := by
  obtain ⟨hx, hb, hml, hown, hts, -⟩ := C0
  obtain ⟨w1, w2, w3, w4, w5⟩ := cv
  exact vx_runVX (As := As) (rest := rest) ⟨hx, hb, hml, hown, hts⟩ hM
    (vx_cwVW As.length hts (tb_gs (ws := [.methodLink own idx y, .instanceMethod y, .selects y.cls y y, .initialized y.cls]) w4 (fun w hw => by
      simp only [List.mem_cons, List.not_mem_nil, or_false] at hw
      rcases hw with rfl | rfl | rfl | rfl <;> assumption)) rfl hrm.1 hrm.2.1 ⟨rfl, w5⟩ hrm.2.2)
    ⟨hB, hrec, hBs⟩ rfl rfl hn hst (lv_room hcat) hdg hcs
theorem rSH (C0 : Cx p s m args meth c own cc nL ret) (hn : ls.size = nL) (hBs : ∀ U : State, U.heap = H → s.WarmedH U.vm → Pc As.toArray U) (hB : FrameBlind Pc) (hM : vx_Met l y (.codeWith y cc2 nL2 ret2 hh :: TBL) rm Pc Qc XC mc ms free)
    (cv : Cond.static y ∈ TBL ∧ Cond.initialized y.cls ∈ TBL ∧ Cond.codeWith y cc2 nL2 ret2 hh ∈ TBL ∧ y.cls ≠ "java/lang/invoke/MethodHandle" ∧ y.cls ≠ "java/lang/invoke/VarHandle" ∧ (parseMethodDescriptor y.desc).map (fun d => d.parameters.length) = some As.length) (hlink : Cond.methodLink own idx y ∈ TBL)
    (hst : st0 = As.reverse ++ rest) (hcat : (rest.map fun v => v.category).sum ≤ 8) (hrm : RMe R rm nL2 mc ms) (hcs : cells + mc ≤ R.cells ∧ slots + ms ≤ R.slots) (hdg : decode cc pc = .ok (.invokestatic idx, 3)) :
    vx_Run p l e R s m args below meth c H locs cells slots mc ms (F0 m pc ls st0) rest (Qc As.toArray) XC free := by
  obtain ⟨hx, hb, hml, hown, hts, -⟩ := C0
  obtain ⟨w1, w3, w4, w5⟩ := cv
  exact vx_runSX (As := As) (rest := rest) ⟨hx, hb, hml, hown, hts⟩ hM
    (vx_cwSW As.length hts (tb_gs (ws := [.methodLink own idx y, .static y, .initialized y.cls]) w4 (fun w hw => by
      simp only [List.mem_cons, List.not_mem_nil, or_false] at hw
      rcases hw with rfl | rfl | rfl <;> assumption)) rfl hrm.1 hrm.2.1 w5 hrm.2.2)
    ⟨hB, hBs⟩ rfl rfl hn hst (lv_room hcat) hdg hcs
end RH
theorem D_cons {A A' : Nat → Prop} {x : Nat × va_E} {ws : va_W} (h : va_D A ws) (hx : A' x.1) (hA : ∀ q, A q → A' q) (hne : ∀ (k : Nat) (q : Nat × va_E), ws[k]? = some q → q.1 ≠ x.1) : va_D A' (x :: ws) := by
  refine ⟨fun i j p q hi hj hpq => ?_, fun k q hk => ?_⟩
  · match i, j, hi, hj with
    | 0, 0, _, _ => rfl
    | 0, j + 1, hi, hj =>
      have hi : some x = some p := hi
      cases hi
      exact absurd hpq.symm (hne j q hj)
    | i + 1, 0, hi, hj =>
      have hj : some x = some q := hj
      cases hj
      exact absurd hpq (hne i p hi)
    | i + 1, j + 1, hi, hj => exact congrArg Nat.succ (h.1 i j p q hi hj hpq)
  · match k, hk with
    | 0, hk =>
      have hk : some x = some q := hk
      cases hk
      exact hx
    | k + 1, hk => exact hA _ (h.2 k q hk)
theorem P_head {D : va_G} {cl : List vw_C} {x : Nat × va_E} {ws : va_W} {H : Heap} (h : va_P D cl (x :: ws) H) : va_P D cl [x] H := fun k q hk => by
  match k, hk with
  | 0, hk => exact h 0 q hk
  | k + 1, hk => simp at hk
theorem P_tail {D : va_G} {cl : List vw_C} {x : Nat × va_E} {ws : va_W} {H : Heap} (h : va_P D cl (x :: ws) H) : va_P D cl ws H := fun k q hk => h (k + 1) q hk
def AQ (a : Nat → Nat) (q3 : Nat) : Nat → Prop := fun q => AW 37 a q ∨ q = q3
abbrev rowQ (ca : Nat → ClassId) (q3 : Nat) (f : Nat → Int64) : va_W := [(q3, .inl (ca 1, 1, .inr (.inl f)))]
def PEl (D : va_G) (ca : Nat → ClassId) (a : Nat → Nat) (q3 : Nat) (adE : Nat → Nat) (σ : Mem) (f : Nat → Int64) : State → Prop := fun U => va_P D vwCl (wX ca a σ) U.heap ∧ va_P D vwCl (rowQ ca q3 f) U.heap ∧ KX D vwCl (tysE ca) U ∧ ES (AQ a q3) adE U
def QEl (D : va_G) (ca : Nat → ClassId) (a : Nat → Nat) (q3 : Nat) (σ : Mem) (k : Int32) (v : Int64) : Array Value → State → Outcome → State → Prop := fun _ st oc t => oc = .returned (some (.int k)) ∧ va_P D vwCl (wX ca a σ) t.heap ∧ (∃ f1 : Nat → Int64, va_P D vwCl (rowQ ca q3 f1) t.heap ∧ (k = 0 → f1 0 = v)) ∧ va_F (AQ a q3) st t
theorem PEl.blind {D : va_G} {ca : Nat → ClassId} {a : Nat → Nat} {q3 : Nat} {adE : Nat → Nat} {σ : Mem} {f : Nat → Int64} {av : List Value} : FrameBlind (va_Pc av (PEl D ca a q3 adE σ f)) := fun a9 U g mk q => by
  obtain ⟨q0, q1, q2, q3, q4⟩ := q
  exact ⟨q0, q1, q2, KX.same (u := U) (U := U.calling g mk a9) rfl q3, ES_b _ _ _ _ q4⟩
theorem cv_X11_element : CV yX11_element cX11_element 4 (some .long) 2 := ⟨te940, te941, tw59, te942, by decide, by decide, by decide +kernel⟩
def rm_Lel : Room := { frames := 7, cells := 1, slots := 6, locals := 124 }
set_option maxHeartbeats 4000000 in
set_option maxRecDepth 100000 in
theorem c_L_element {l : Launch} {D : va_G} {ca : Nat → ClassId} {a : Nat → Nat} {q3 : Nat} {adE : Nat → Nat} (hst9 : l.stackTraces = false) (hI : InjN 37 a) (hq3 : ∀ i, i < 37 → a i ≠ q3) {p1 p2 : Int32} {σ : Mem} {f : Nat → Int64} {k : Int32} {v : Int64} (h : f_X11_element p1 p2 σ = some (k, v)) : vx_Met l yL_element (.codeWith yL_element cL_element 5 (some .int) hT_el :: TBL) rm_Lel (va_Pc [.ref (a 0), .int p1, .int p2, .ref q3] (PEl D ca a q3 adE σ f)) (QEl D ca a q3 σ k v) (fun _ _ _ => False) 1 6 (AQ a q3) := by
  refine XE.ofH pn_L (Nat.le_of_ble_eq_true rfl) ?_
  intro p e s m args below meth c ls C0 htab hv hl
  obtain ⟨hP, hf, hK, hB⟩ := hv
  have C0 : Cx p s m args meth c RL cL_element 5 (some .int) := C0
  have hx := C0.1
  have hb := C0.2.1
  have hS : va_S (AQ a q3) s.heap s.heap [] := va_S.rf
  have hl : lv_has ls 5 [(0, .ref (a 0)), (1, .int p1), (2, .int p2), (3, .ref q3)] := hl
  have hend : ∀ {H : Heap} {locs : List Loc} {cells slots pc : Nat} {ls : Array Slot} {w : Int32} {f1 : Nat → Int64}, va_P D vwCl (wX ca a σ) H → va_P D vwCl (rowQ ca q3 f1) H → (k = 0 → f1 0 = v) → va_S (AQ a q3) s.heap H locs → cells ≤ 1 → slots ≤ 6 → w = k → decode cL_element pc = .ok (.ireturn, 1) → W p l e rm_Lel s m args below meth c H locs cells slots (vx_MQ below (QEl D ca a q3 σ k v) (fun _ _ _ => False) args s 1 6 (AQ a q3)) (F0 m pc ls [.int w]) := by
    intro H locs cells slots pc ls w f1 hP hf hv hS h1 h2 he hd
    subst he
    exact vx_ret (W.widen h1 h2 (W.zret hx hb C0.2.2.2.2.2.1 rfl (fun t ht hW => ⟨rfl, by rw [ht]; exact hP, ⟨f1, by rw [ht]; exact hf, hv⟩, hS.F ht⟩) hS.2.2 hd C0.2.2.2.2.2.2))
  refine lv_aload_n hx hb dL_element_0 rfl (lv_at hl 3 rfl) ?_
  refine lv_iconst (v := 0) hx hb dL_element_1 (by decide) ?_
  refine lv_aload_n hx hb dL_element_2 rfl (lv_at hl 0 rfl) ?_
  refine lv_iload_n hx hb dL_element_3 rfl (lv_at hl 1 rfl) ?_
  refine lv_iload_n hx hb dL_element_4 rfl (lv_at hl 2 rfl) ?_
  have hpre : ∀ U : State, U.heap = s.heap → s.WarmedH U.vm → XP D vwCl (tysE ca) (ES (AW 37 a) adE) (wX ca a σ) [.ref (a 0), .int p1, .int p2] (Value.ref (a 0) :: [.int p1, .int p2]).toArray U := fun U hU hW => ⟨rfl, by rw [hU]; exact hP, KX.warm hW hK, (ES.narrow hB (fun q h => Or.inl h)).at (locs := []) va_S.rf U hU hW⟩
  have hrow : ∀ H1 : Heap, (∀ q : Nat, q < s.heap.size → ¬ AW 37 a q → H1[q]? = s.heap[q]?) → va_P D vwCl (rowQ ca q3 f) H1 := fun H1 hk9 => hf.kept fun k q hq => hk9 _ (P_lt hf hq) (fun z => by
    obtain ⟨i, hi, e⟩ := z
    match k, hq with
    | 0, hq => cases hq; exact hq3 i hi e.symm
    | k + 1, hq => simp at hq)
  refine xcallG (rVE C0 hl.1 hpre ESP.blind (c_X11_element hst9 hI h) cv_X11_element te939 (rcX11 hK hP) (rest := [.int 0, .ref q3]) rfl (Nat.le_of_ble_eq_true rfl) ⟨rfl, rfl, Nat.le_of_ble_eq_true rfl, Nat.le_of_ble_eq_true rfl⟩ ⟨Nat.le_refl _, Nat.le_refl _⟩ dL_element_5) hS (fun _ z => Or.inl z) (fun E ce q9 H1 locs1 hψ hP hk9 hS hce hcv hcl => ?_) (fun H1 locs1 hφ hP hk9 hS => ?_)
  · have hf := hrow H1 hk9
    rcases hψ with ⟨hk, hE⟩ | ⟨hk, hE⟩
    · subst hE
      refine vx_catch C0.2.2.2.1 [] ⟨0, 9, 12, 13⟩ [⟨0, 9, 16, 15⟩] htab (fun z hz => by cases hz) (by decide) (by decide) (C0.2.2.2.2.1 _ te937) (va_Nw.use rfl (hK.2 _ te900)) hce hcv hcl ?_
      refine lv_astore (lv' := [(4, .ref q9), (0, .ref (a 0)), (1, .int p1), (2, .int p2), (3, .ref q3)]) hx hb dL_element_12 hl (by decide) rfl (fun ls hl => ?_)
      refine lv_iconst (v := 1) hx hb dL_element_14 (by decide) ?_
      exact hend hP hf (fun z => by rw [hk] at z; exact absurd z (by decide)) hS (Nat.le_refl _) (Nat.le_refl _) hk.symm dL_element_15
    · subst hE
      refine vx_catch C0.2.2.2.1 [⟨0, 9, 12, 13⟩] ⟨0, 9, 16, 15⟩ [] htab (fun z hz => Or.inr ?_) (by decide) (by decide) (C0.2.2.2.2.1 _ te938) (va_Nw.use rfl (hK.2 _ te920)) hce hcv hcl ?_
      · cases List.mem_singleton.mp hz
        exact ⟨by decide, nIAE, C0.2.2.2.2.1 _ te937, hB.2.2.2.2.1⟩
      refine lv_astore (lv' := [(4, .ref q9), (0, .ref (a 0)), (1, .int p1), (2, .int p2), (3, .ref q3)]) hx hb dL_element_16 hl (by decide) rfl (fun ls hl => ?_)
      refine lv_iconst (v := 2) hx hb dL_element_18 (by decide) ?_
      exact hend hP hf (fun z => by rw [hk] at z; exact absurd z (by decide)) hS (Nat.le_refl _) (Nat.le_refl _) hk.symm dL_element_19
  · have hf := hrow H1 hk9
    have hPP : va_P D vwCl ((q3, .inl (ca 1, 1, .inr (.inl f))) :: wX ca a σ) H1 := va_P.app hf hP
    have hDD : va_D (AQ a q3) (((q3, .inl (ca 1, 1, .inr (.inl f))) : Nat × va_E) :: wX ca a σ) := D_cons (wd_D hI) (Or.inr rfl) (fun _ z => Or.inl z) (fun k q hk e => by
      obtain ⟨h1, rfl⟩ := wd_is hk
      exact hq3 k h1 e)
    refine va_last hx hb hK.1 hPP hDD hS 0 1 rfl rfl (i := 0) (x := v) (ix_ok (by decide)) dL_element_8 (fun H locs hP9 hD9 hS => ?_)
    refine lv_goto (tgt := 20) hx hb dL_element_9 (by decide) ?_
    refine lv_iconst (v := 0) hx hb dL_element_20 (by decide) ?_
    exact hend (P_tail hP9) (P_head hP9) (fun _ => by simp [vp_updL]) hS (Nat.le_refl _) (Nat.le_refl _) hφ.symm dL_element_21
