/-! THE LAW: its cases toss and element -/
theorem te59 : Cond.initialized RL ∈ TBL := tb_of 58 (by decide +kernel) rfl
theorem te1070 : Cond.methodLink RL 140 yX12_thrown ∈ TBL := tb_of 1058 (by decide +kernel) rfl
theorem te1071 : Cond.instanceMethod yX12_thrown ∈ TBL := tb_of 1059 (by decide +kernel) rfl
theorem te1072 : Cond.selects RX12 yX12_thrown yX12_thrown ∈ TBL := tb_of 1060 (by decide +kernel) rfl
theorem te1073 : Cond.code yX12_thrown cX12_thrown 1 (some .int) ∈ TBL := tb_of 1061 (by decide +kernel) rfl
theorem te1328 : Cond.methodLink RL 139 yX12_element ∈ TBL := tb_of 1316 (by decide +kernel) rfl
theorem te1329 : Cond.instanceMethod yX12_element ∈ TBL := tb_of 1317 (by decide +kernel) rfl
theorem te1330 : Cond.selects RX12 yX12_element yX12_element ∈ TBL := tb_of 1318 (by decide +kernel) rfl
theorem te1331 : Cond.code yX12_element cX12_element 4 (some .long) ∈ TBL := tb_of 1319 (by decide +kernel) rfl
theorem te1340 : Cond.methodLink RL 155 yX12_toss ∈ TBL := tb_of 1328 (by decide +kernel) rfl
theorem te1341 : Cond.instanceMethod yX12_toss ∈ TBL := tb_of 1329 (by decide +kernel) rfl
theorem te1342 : Cond.selects RX12 yX12_toss yX12_toss ∈ TBL := tb_of 1330 (by decide +kernel) rfl
theorem te1343 : Cond.code yX12_toss cX12_toss 4 (some .int) ∈ TBL := tb_of 1331 (by decide +kernel) rfl
theorem cv_X12_thrown : CV yX12_thrown cX12_thrown 1 (some .int) 0 := ⟨te1071, te1072, tw71, te1073, by decide, by decide, by decide +kernel⟩
theorem cv_X12_element : CV yX12_element cX12_element 4 (some .long) 2 := ⟨te1329, te1330, tw71, te1331, by decide, by decide, by decide +kernel⟩
theorem cv_X12_toss : CV yX12_toss cX12_toss 4 (some .int) 1 := ⟨te1341, te1342, tw71, te1343, by decide, by decide, by decide +kernel⟩
theorem ar_toss : (parseMethodDescriptor yX11_toss.desc).map (fun d => d.parameters.length) = some 1 := by decide +kernel
theorem ar_Lel : (parseMethodDescriptor yL_element.desc).map (fun d => d.parameters.length) = some 4 := by decide +kernel
def LY (p : Program) (s : State) (m : MethodId) (meth : Method) (c : Code) (b L : Nat) (xs : Nat → Int32) (D : va_G) (ca : Nat → ClassId) (ax am : Nat → Nat) (q3 : Nat) (adK adV adE : Nat → Nat) (l : Launch) : Prop := LX p s m meth c b L xs D ca ax am q3 adK adV ∧ ES (fun q => s.heap.size ≤ q) adE s ∧ l.stackTraces = false
def LWf (D : va_G) (ca : Nat → ClassId) (ax am : Nat → Nat) (q3 : Nat) (σ : Mem) (μ : MMem) (f : Nat → Int64) (H : Heap) : Prop := va_P D vwCl (wX ca ax σ) H ∧ va_P D vwCl (wM ca am μ) H ∧ va_P D vwCl (rowQ ca q3 f) H
section LWE
variable {p : Program} {l : Launch} {e : Env} {R : Room} {s : State} {m : MethodId} {args : Array Value} {below : List Frame} {meth : Method} {c : Code} {H H0 : Heap} {locs : List Loc} {cells slots : Nat} {Q : State → Prop}
variable {D : va_G} {ca : Nat → ClassId} {ax am : Nat → Nat} {q3 : Nat} {pc : Nat} {ls : Array Slot} {rest st0 : List Value} {σ σ' : Mem} {μ μ' : MMem} {o : Option Value} {aa : Array Value}
theorem lcXE (hF : LF ax am q3 H0.size) (hW : LW D ca ax am q3 σ μ H) (hr : vx_Run p l e R s m args below meth c H locs cells slots 1 6 (F0 m pc ls st0) rest (XQp True D vwCl (AW 37 ax) (wX ca ax σ') o aa) (XCp (fun _ => False) D vwCl (AW 37 ax) (wX ca ax σ')) (AW 37 ax)) (hS : va_S (fun q => H0.size ≤ q) H0 H locs)
    (kk : ∀ (H1 : Heap) (locs1 : List Loc), LW D ca ax am q3 σ' μ H1 → va_S (fun q => H0.size ≤ q) H0 H1 locs1 → W p l e R s m args below meth c H1 locs1 (cells + 1) (slots + 6) Q (F0 m (pc + 3) ls (o.toList ++ rest))) : W p l e R s m args below meth c H locs cells slots Q (F0 m pc ls st0) := by
  obtain ⟨i1, i2, a1, a2, a3, d1, d2, d3⟩ := hF
  refine xcallG hr hS (fun q hq => by obtain ⟨i, hi, rfl⟩ := hq; exact a1 i hi) (fun E ce q9 H1 locs1 hψ => hψ.elim) (fun H1 locs1 _ hP hk hS1 => kk H1 locs1 ⟨hP, ?_, ?_⟩ hS1)
  · exact wd_keep hW.2.1 fun j hj => hk _ (P_lt hW.2.1 (wd_at hj)) (fun z => by obtain ⟨i, hi, e⟩ := z; exact d1 i j hi hj e.symm)
  · obtain ⟨f, hf⟩ := hW.2.2
    exact ⟨f, hf.kept fun k q hq => hk _ (P_lt hf hq) (fun z => by
      obtain ⟨i, hi, e⟩ := z
      match k, hq with
      | 0, hq => cases hq; exact d2 i hi e.symm
      | k + 1, hq => simp at hq)⟩
theorem lcMf {f : Nat → Int64} (hF : LF ax am q3 H0.size) (hW : LWf D ca ax am q3 σ μ f H) (hr : va_Run p l e R s m args below meth c H locs cells slots 0 0 (F0 m pc ls st0) rest (XQ D vwCl (AW 21 am) (wM ca am μ') o aa) (AW 21 am)) (hS : va_S (fun q => H0.size ≤ q) H0 H locs)
    (kk : ∀ (H1 : Heap) (locs1 : List Loc), LWf D ca ax am q3 σ μ' f H1 → va_S (fun q => H0.size ≤ q) H0 H1 locs1 → W p l e R s m args below meth c H1 locs1 cells slots Q (F0 m (pc + 3) ls (o.toList ++ rest))) : W p l e R s m args below meth c H locs cells slots Q (F0 m pc ls st0) := by
  obtain ⟨i1, i2, a1, a2, a3, d1, d2, d3⟩ := hF
  refine xcallL hr hS (fun q hq => by obtain ⟨i, hi, rfl⟩ := hq; exact a2 i hi) (fun H1 locs1 hP hk hS1 => kk H1 locs1 ⟨?_, hP, ?_⟩ hS1)
  · exact wd_keep hW.1 fun j hj => hk _ (P_lt hW.1 (wd_at hj)) (fun z => by obtain ⟨i, hi, e⟩ := z; exact d1 j i hj hi e)
  · exact hW.2.2.kept fun k q hq => hk _ (P_lt hW.2.2 hq) (fun z => by
      obtain ⟨i, hi, e⟩ := z
      match k, hq with
      | 0, hq => cases hq; exact d3 i hi e.symm
      | k + 1, hq => simp at hq)
theorem lcL {f : Nat → Int64} {k : Int32} {v : Int64} (hF : LF ax am q3 H0.size) (hW : LWf D ca ax am q3 σ μ f H) (hr : vx_Run p l e R s m args below meth c H locs cells slots 1 6 (F0 m pc ls st0) rest (QEl D ca ax q3 σ k v aa) (fun _ _ _ => False) (AQ ax q3)) (hS : va_S (fun q => H0.size ≤ q) H0 H locs)
    (kk : ∀ (H1 : Heap) (locs1 : List Loc) (f1 : Nat → Int64), LWf D ca ax am q3 σ μ f1 H1 → (k = 0 → f1 0 = v) → va_S (fun q => H0.size ≤ q) H0 H1 locs1 → W p l e R s m args below meth c H1 locs1 (cells + 1) (slots + 6) Q (F0 m (pc + 3) ls (.int k :: rest))) : W p l e R s m args below meth c H locs cells slots Q (F0 m pc ls st0) := by
  obtain ⟨i1, i2, a1, a2, a3, d1, d2, d3⟩ := hF
  have hA : ∀ q, AQ ax q3 q → H0.size ≤ q := fun q hq => by
    rcases hq with ⟨i, hi, rfl⟩ | rfl
    · exact a1 i hi
    · exact a3
  intro T hT X
  rcases hr T hT X with ⟨v9, st₀, t, T', L, h0, X', hL, e1, e2, ⟨hv, hP', ⟨f1, hf1, hkv⟩, hFm⟩, st⟩ | ⟨q, st₀, t, T', L, E, ce, h0, X', hL, e1, e2, hq, -⟩
  · cases hv
    obtain ⟨k1, k2, k3⟩ := vx_keep h0 e1 hS (fun q _ h => hA q h) hA hL hFm
    obtain ⟨t2, b1, b2⟩ := kk T'.heap (locs ++ L) f1 ⟨by rw [e1]; exact hP', wd_keep hW.2.1 fun j hj => k2 _ (P_lt hW.2.1 (wd_at hj)) (fun z => by
      rcases z with ⟨i, hi, e⟩ | e
      · exact d1 i j hi hj e.symm
      · exact d3 j hj e), by rw [e1]; exact hf1⟩ hkv k3 T' rfl X'
    exact ⟨t2, st t2 b1, b2⟩
  · exact hq.elim
end LWE
theorem cmp_self (x : Int64) : lg_cmp x x = 0 := by
  unfold lg_cmp
  simp
set_option maxHeartbeats 4000000 in
set_option maxRecDepth 100000 in
theorem law_toss {p : Program} {l : Launch} {e : Env} {s : State} {m : MethodId} {below : List Frame} {meth : Method} {c : Code} {b L : Nat} {xs : Nat → Int32} {D : va_G} {ca : Nat → ClassId} {ax am : Nat → Nat} {q3 : Nat} {adK adV adE : Nat → Nat} {cells slots : Nat} {Q : State → Prop} (hY : LY p s m meth c b L xs D ca ax am q3 adK adV adE l) (hcs : cells + 1 ≤ room_1.cells ∧ slots + 6 ≤ room_1.slots) {σ : Mem} {μ : MMem} (hR : Rel σ μ) {i : Nat} (hi : i + 6 ≤ L) {x4 : Int32} (ex4 : x4 = nI i) {H : Heap} {locs : List Loc} {ls : Array Slot} (hW : LW D ca ax am q3 σ μ H) (hS : va_S (fun q => s.heap.size ≤ q) s.heap H locs) (hl : lv_has ls 8 [(4, .int x4), (3, .ref q3), (2, .ref (am 0)), (1, .ref (ax 0)), (0, .ref b)])
    (kn : ∀ (σ : Mem) (μ : MMem) (H : Heap) (locs : List Loc) (ls : Array Slot), Rel σ μ → LW D ca ax am q3 σ μ H → va_S (fun q => s.heap.size ≤ q) s.heap H locs → lv_has ls 8 [(4, .int x4), (3, .ref q3), (2, .ref (am 0)), (1, .ref (ax 0)), (0, .ref b)] → W p l e room_1 s m #[Value.ref b] below meth c H locs (cells + 1) (slots + 6) Q (F0 m 1369 ls [])) : W p l e room_1 s m #[Value.ref b] below meth c H locs cells slots Q (F0 m 1344 ls []) := by
  obtain ⟨⟨C0, hK, hF, hB, hX, hbl, hL⟩, hE, hst⟩ := hY
  have hx := C0.1
  have hb := C0.2.1
  have hbA : ¬ (fun q : Nat => s.heap.size ≤ q) b := Nat.not_le.mpr hbl
  obtain ⟨r, μ', h1, h2, hR⟩ := eq_toss hR (xs (x4 + 1).toNatClampNeg)
  refine lv_aload_n hx hb dL_law_1344 rfl (lv_at hl 3 rfl) ?_
  refine lv_aload_n hx hb dL_law_1345 rfl (lv_at hl 4 rfl) ?_
  refine lv_iload hx hb dL_law_1346 (lv_at hl 0 rfl) ?_
  refine lv_iconst (v := 1) hx hb dL_law_1348 (by decide) ?_
  refine lv_iadd hx hb dL_law_1349 ?_
  refine va_sld hx hb hX hbl hbA hS (ix_law (k := 1) ex4 hi hL (by decide)) dL_law_1350 ?_
  have hS9 : va_S (AW 37 ax) s.heap H [] := ⟨hS.1, fun q h1 h2 => hS.2.1 q h1 (fun z => by exact absurd h1 (Nat.not_lt.mpr z)), fun _ h => by cases h⟩
  have hE9 : ES (AW 37 ax) adE s := hE.narrow (fun q hq => by obtain ⟨i, hi, rfl⟩ := hq; exact hF.2.2.1 i hi)
  have hpre : ∀ U : State, U.heap = H → s.WarmedH U.vm → XP D vwCl (tysE ca) (ES (AW 37 ax) adE) (wX ca ax σ) [.ref (ax 0), .int (xs (x4 + 1).toNatClampNeg)] (Value.ref (ax 0) :: [.int (xs (x4 + 1).toNatClampNeg)]).toArray U := fun U hU hW9 => ⟨rfl, by rw [hU]; exact hW.1, KX.warm hW9 hK, hE9.at hS9 U hU hW9⟩
  refine lcXE hF hW (rVH C0 hl.1 hpre ESP.blind (c_X11_toss hst hF.1 h1) ⟨te811, te812, tw59, te813, by decide, by decide, ar_toss⟩ te810 (rcX11 hK hW.1) (rest := []) rfl (Nat.le_of_ble_eq_true rfl) ⟨rfl, rfl, Nat.le_of_ble_eq_true rfl, Nat.le_of_ble_eq_true rfl⟩ hcs dL_law_1351) hS (fun H locs hW hS => ?_)
  refine lv_aload_n hx hb dL_law_1354 rfl (lv_at hl 2 rfl) ?_
  refine lv_aload_n hx hb dL_law_1355 rfl (lv_at hl 4 rfl) ?_
  refine lv_iload hx hb dL_law_1356 (lv_at hl 0 rfl) ?_
  refine lv_iconst (v := 1) hx hb dL_law_1358 (by decide) ?_
  refine lv_iadd hx hb dL_law_1359 ?_
  refine va_sld hx hb hX hbl hbA hS (ix_law (k := 1) ex4 hi hL (by decide)) dL_law_1360 ?_
  refine lcM hF hW (rV C0 hK hW.2.1 hl.1 (fun _ _ _ => trivial) Bt_b (c_X12_toss hF.2.1 h2) cv_X12_toss te1340 (rcX12 hK hW.2.1) (rest := [.int r]) rfl (Nat.le_of_ble_eq_true rfl) ⟨rfl, rfl, Nat.le_of_ble_eq_true rfl, Nat.le_of_ble_eq_true rfl⟩ hcs dL_law_1361) hS (fun H locs hW hS => ?_)
  refine lv_icmp_eq (tgt := 1369) hx hb dL_law_1364 (by decide) (fun _ => ?_) (fun c => absurd rfl c)
  exact kn σ μ' _ _ ls hR hW hS hl
set_option maxHeartbeats 4000000 in
set_option maxRecDepth 100000 in
theorem law_element {p : Program} {l : Launch} {e : Env} {s : State} {m : MethodId} {below : List Frame} {meth : Method} {c : Code} {b L : Nat} {xs : Nat → Int32} {D : va_G} {ca : Nat → ClassId} {ax am : Nat → Nat} {q3 : Nat} {adK adV adE : Nat → Nat} {cells slots : Nat} {Q : State → Prop} (hY : LY p s m meth c b L xs D ca ax am q3 adK adV adE l) (hcs : cells + 1 ≤ room_1.cells ∧ slots + 6 ≤ room_1.slots) {σ : Mem} {μ : MMem} (hR : Rel σ μ) {i : Nat} (hi : i + 6 ≤ L) {x4 : Int32} (ex4 : x4 = nI i) {H : Heap} {locs : List Loc} {ls : Array Slot} (hW : LW D ca ax am q3 σ μ H) (hS : va_S (fun q => s.heap.size ≤ q) s.heap H locs) (hl : lv_has ls 8 [(4, .int x4), (3, .ref q3), (2, .ref (am 0)), (1, .ref (ax 0)), (0, .ref b)])
    (kn : ∀ (σ : Mem) (μ : MMem) (H : Heap) (locs : List Loc) (ls : Array Slot), Rel σ μ → LW D ca ax am q3 σ μ H → va_S (fun q => s.heap.size ≤ q) s.heap H locs → lv_has ls 8 [(4, .int x4), (3, .ref q3), (2, .ref (am 0)), (1, .ref (ax 0)), (0, .ref b)] → W p l e room_1 s m #[Value.ref b] below meth c H locs (cells + 1) (slots + 6) Q (F0 m 1369 ls [])) : W p l e room_1 s m #[Value.ref b] below meth c H locs cells slots Q (F0 m 1179 ls []) := by
  obtain ⟨⟨C0, hK, hF, hB, hX, hbl, hL⟩, hE, hst⟩ := hY
  have hx := C0.1
  have hb := C0.2.1
  have hbA : ¬ (fun q : Nat => s.heap.size ≤ q) b := Nat.not_le.mpr hbl
  obtain ⟨k, v, w, μ', h1, h2, hR, h3, hwv⟩ := eq_element hR (xs (x4 + 1).toNatClampNeg) (xs (x4 + 2).toNatClampNeg)
  refine lv_aload_n hx hb dL_law_1179 rfl (lv_at hl 3 rfl) ?_
  refine lv_aload_n hx hb dL_law_1180 rfl (lv_at hl 4 rfl) ?_
  refine lv_iload hx hb dL_law_1181 (lv_at hl 0 rfl) ?_
  refine lv_iconst (v := 1) hx hb dL_law_1183 (by decide) ?_
  refine lv_iadd hx hb dL_law_1184 ?_
  refine va_sld hx hb hX hbl hbA hS (ix_law (k := 1) ex4 hi hL (by decide)) dL_law_1185 ?_
  refine lv_aload_n hx hb dL_law_1186 rfl (lv_at hl 4 rfl) ?_
  refine lv_iload hx hb dL_law_1187 (lv_at hl 0 rfl) ?_
  refine lv_iconst (v := 2) hx hb dL_law_1189 (by decide) ?_
  refine lv_iadd hx hb dL_law_1190 ?_
  refine va_sld hx hb hX hbl hbA hS (ix_law (k := 2) ex4 hi hL (by decide)) dL_law_1191 ?_
  refine lv_aload_n hx hb dL_law_1192 rfl (lv_at hl 1 rfl) ?_
  obtain ⟨w1, w2, f, w3⟩ := hW
  have hA : ∀ q, AQ ax q3 q → s.heap.size ≤ q := fun q hq => by
    rcases hq with ⟨i, hi, rfl⟩ | rfl
    · exact hF.2.2.1 i hi
    · exact hF.2.2.2.2.1
  have hS9 : va_S (AQ ax q3) s.heap H [] := ⟨hS.1, fun q h1 h2 => hS.2.1 q h1 (fun z => by exact absurd h1 (Nat.not_lt.mpr z)), fun _ h => by cases h⟩
  have hE9 : ES (AQ ax q3) adE s := hE.narrow hA
  have hpre : ∀ U : State, U.heap = H → s.WarmedH U.vm → va_Pc [.ref (ax 0), .int (xs (x4 + 1).toNatClampNeg), .int (xs (x4 + 2).toNatClampNeg), .ref q3] (PEl D ca ax q3 adE σ f) ([.ref (ax 0), .int (xs (x4 + 1).toNatClampNeg), .int (xs (x4 + 2).toNatClampNeg), .ref q3] : List Value).toArray U := fun U hU hW9 => ⟨rfl, by rw [hU]; exact w1, by rw [hU]; exact w3, KX.warm hW9 hK, hE9.at hS9 U hU hW9⟩
  refine lcL (f := f) hF ⟨w1, w2, w3⟩ (rSH (As := [.ref (ax 0), .int (xs (x4 + 1).toNatClampNeg), .int (xs (x4 + 2).toNatClampNeg), .ref q3]) C0 hl.1 hpre PEl.blind (c_L_element hst hF.1 hF.2.2.2.2.2.2.1 h1) ⟨te935, te59, te936, by decide, by decide, ar_Lel⟩ te934 (rest := []) rfl (Nat.le_of_ble_eq_true rfl) ⟨rfl, rfl, Nat.le_of_ble_eq_true rfl, Nat.le_of_ble_eq_true rfl⟩ hcs dL_law_1193) hS (fun H locs f1 hW hkv hS => ?_)
  refine lv_istore (lv' := [(5, .int k), (4, .int x4), (3, .ref q3), (2, .ref (am 0)), (1, .ref (ax 0)), (0, .ref b)]) hx hb dL_law_1196 hl (by decide) rfl (fun ls hl => ?_)
  refine lv_aload_n hx hb dL_law_1198 rfl (lv_at hl 3 rfl) ?_
  refine lv_aload_n hx hb dL_law_1199 rfl (lv_at hl 5 rfl) ?_
  refine lv_iload hx hb dL_law_1200 (lv_at hl 1 rfl) ?_
  refine lv_iconst (v := 1) hx hb dL_law_1202 (by decide) ?_
  refine lv_iadd hx hb dL_law_1203 ?_
  refine va_sld hx hb hX hbl hbA hS (ix_law (k := 1) ex4 hi hL (by decide)) dL_law_1204 ?_
  refine lv_aload_n hx hb dL_law_1205 rfl (lv_at hl 5 rfl) ?_
  refine lv_iload hx hb dL_law_1206 (lv_at hl 1 rfl) ?_
  refine lv_iconst (v := 2) hx hb dL_law_1208 (by decide) ?_
  refine lv_iadd hx hb dL_law_1209 ?_
  refine va_sld hx hb hX hbl hbA hS (ix_law (k := 2) ex4 hi hL (by decide)) dL_law_1210 ?_
  refine lcMf hF hW (rV C0 hK hW.2.1 hl.1 (fun _ _ _ => trivial) Bt_b (c_X12_element hF.2.1 h2) cv_X12_element te1328 (rcX12 hK hW.2.1) (rest := []) rfl (Nat.le_of_ble_eq_true rfl) ⟨rfl, rfl, Nat.le_of_ble_eq_true rfl, Nat.le_of_ble_eq_true rfl⟩ hcs dL_law_1211) hS (fun H locs hW hS => ?_)
  refine lv_lstore (lv' := [(6, .long w), (5, .int k), (4, .int x4), (3, .ref q3), (2, .ref (am 0)), (1, .ref (ax 0)), (0, .ref b)]) hx hb dL_law_1214 hl (by decide) rfl (fun ls hl => ?_)
  refine lv_aload_n hx hb dL_law_1216 rfl (lv_at hl 4 rfl) ?_
  refine lcMf hF hW (rV C0 hK hW.2.1 hl.1 (fun _ _ _ => trivial) Bt_b (c_X12_thrown hF.2.1 h3) cv_X12_thrown te1070 (rcX12 hK hW.2.1) (rest := []) rfl (Nat.le_of_ble_eq_true rfl) ⟨rfl, rfl, Nat.le_of_ble_eq_true rfl, Nat.le_of_ble_eq_true rfl⟩ hcs dL_law_1217) hS (fun H locs hW hS => ?_)
  have hl5 : lv_has ls 8 [(4, .int x4), (3, .ref q3), (2, .ref (am 0)), (1, .ref (ax 0)), (0, .ref b)] := lv_sub hl [2, 3, 4, 5, 6] rfl
  refine lv_iload hx hb dL_law_1220 (lv_at hl 1 rfl) ?_
  refine lv_icmp_eq (tgt := 1227) hx hb dL_law_1222 (by decide) (fun _ => ?_) (fun c => absurd rfl c)
  refine lv_iload hx hb dL_law_1227 (lv_at hl 1 rfl) ?_
  refine lv_if_ne (tgt := 1243) hx hb dL_law_1229 (by decide) (fun _ => ?_) (fun c9 => ?_)
  · refine lv_goto (tgt := 1369) hx hb dL_law_1243 (by decide) ?_
    exact kn σ μ' _ _ ls hR ⟨hW.1, hW.2.1, f1, hW.2.2⟩ hS hl5
  · refine lv_aload_n hx hb dL_law_1232 rfl (lv_at hl 3 rfl) ?_
    refine lv_iconst (v := 0) hx hb dL_law_1233 (by decide) ?_
    refine va_lald hx hb hK.1 hW.2.2 0 1 rfl rfl (i := 0) (ix_ok (by decide)) dL_law_1234 ?_
    refine lv_lload hx hb dL_law_1235 (lv_at hl 0 rfl) ?_
    have hfw : f1 0 = w := (hkv c9).trans (hwv c9).symm
    refine W.lcmp hx hb dL_law_1237 ?_
    have hz : lg_cmp (f1 (0 : Int32).toNatClampNeg) w = 0 := by
      rw [show f1 (0 : Int32).toNatClampNeg = w from hfw]
      exact cmp_self w
    refine lv_if_eq (tgt := 1243) hx hb dL_law_1238 (by decide) (fun _ => ?_) (fun c8 => absurd hz c8)
    refine lv_goto (tgt := 1369) hx hb dL_law_1243 (by decide) ?_
    exact kn σ μ' _ _ ls hR ⟨hW.1, hW.2.1, f1, hW.2.2⟩ hS hl5
