set_option maxHeartbeats 4000000 in
set_option maxRecDepth 100000 in
theorem law_dress {p : Program} {l : Launch} {e : Env} {s : State} {m : MethodId} {below : List Frame} {meth : Method} {c : Code} {b L : Nat} {xs : Nat → Int32} {D : va_G} {ca : Nat → ClassId} {ax am : Nat → Nat} {q3 : Nat} {adK adV : Nat → Nat} {cells slots : Nat} {Q : State → Prop} (hC : LX p s m meth c b L xs D ca ax am q3 adK adV) (hcs : cells ≤ room_1.cells ∧ slots ≤ room_1.slots) {σ : Mem} {μ : MMem} (hR : Rel σ μ) {i : Nat} (hi : i + 6 ≤ L) {x4 : Int32} (ex4 : x4 = nI i) {H : Heap} {locs : List Loc} {ls : Array Slot} (hW : LW D ca ax am q3 σ μ H) (hS : va_S (fun q => s.heap.size ≤ q) s.heap H locs) (hl : lv_has ls 8 [(4, .int x4), (3, .ref q3), (2, .ref (am 0)), (1, .ref (ax 0)), (0, .ref b)])
    (kn : ∀ (σ : Mem) (μ : MMem) (H : Heap) (locs : List Loc) (ls : Array Slot), Rel σ μ → LW D ca ax am q3 σ μ H → va_S (fun q => s.heap.size ≤ q) s.heap H locs → lv_has ls 8 [(4, .int x4), (3, .ref q3), (2, .ref (am 0)), (1, .ref (ax 0)), (0, .ref b)] → W p l e room_1 s m #[Value.ref b] below meth c H locs cells slots Q (F0 m 1369 ls [])) : W p l e room_1 s m #[Value.ref b] below meth c H locs cells slots Q (F0 m 180 ls []) := by
  obtain ⟨C0, hK, hF, hB, hX, hbl, hL⟩ := hC
  have hx := C0.1
  have hb := C0.2.1
  have hbA : ¬ (fun q : Nat => s.heap.size ≤ q) b := Nat.not_le.mpr hbl
  obtain ⟨r, σ', μ', h1, h2, hR⟩ := eq_dress hR (xs (x4 + 1).toNatClampNeg)
  refine lv_aload_n hx hb dL_law_180 rfl (lv_at hl 3 rfl) ?_
  refine lv_aload_n hx hb dL_law_181 rfl (lv_at hl 4 rfl) ?_
  refine lv_iload hx hb dL_law_182 (lv_at hl 0 rfl) ?_
  refine lv_iconst (v := 1) hx hb dL_law_184 (by decide) ?_
  refine lv_iadd hx hb dL_law_185 ?_
  refine va_sld hx hb hX hbl hbA hS (ix_law (k := 1) ex4 hi hL (by decide)) dL_law_186 ?_
  refine lcX hF hW (rV C0 hK hW.1 hl.1 (BS.at (locs := []) (hB.narrow (fun q hq => by obtain ⟨i, hi, rfl⟩ := hq; exact hF.2.2.1 i hi)) ⟨hS.1, fun q h1 h2 => hS.2.1 q h1 (fun z => by exact absurd h1 (Nat.not_lt.mpr z)), fun _ h => by cases h⟩) BS_b (c_X11_dress hF.1 h1) cv_X11_dress tw261 (rcX11 hK hW.1) (rest := []) rfl (Nat.le_of_ble_eq_true rfl) ⟨rfl, rfl, Nat.le_of_ble_eq_true rfl, Nat.le_of_ble_eq_true rfl⟩ hcs dL_law_187) hS (fun H locs hW hS => ?_)
  refine lv_aload_n hx hb dL_law_190 rfl (lv_at hl 2 rfl) ?_
  refine lv_aload_n hx hb dL_law_191 rfl (lv_at hl 4 rfl) ?_
  refine lv_iload hx hb dL_law_192 (lv_at hl 0 rfl) ?_
  refine lv_iconst (v := 1) hx hb dL_law_194 (by decide) ?_
  refine lv_iadd hx hb dL_law_195 ?_
  refine va_sld hx hb hX hbl hbA hS (ix_law (k := 1) ex4 hi hL (by decide)) dL_law_196 ?_
  refine lcM hF hW (rV C0 hK hW.2.1 hl.1 (fun _ _ _ => trivial) Bt_b (c_X12_dress hF.2.1 h2) cv_X12_dress tw1078 (rcX12 hK hW.2.1) (rest := [.int r]) rfl (Nat.le_of_ble_eq_true rfl) ⟨rfl, rfl, Nat.le_of_ble_eq_true rfl, Nat.le_of_ble_eq_true rfl⟩ hcs dL_law_197) hS (fun H locs hW hS => ?_)
  refine lv_icmp_eq (tgt := 1369) hx hb dL_law_200 (by decide) (fun _ => ?_) (fun c => absurd rfl c)
  exact kn σ' μ' _ _ ls hR hW hS hl
set_option maxHeartbeats 4000000 in
set_option maxRecDepth 100000 in
theorem law_ring {p : Program} {l : Launch} {e : Env} {s : State} {m : MethodId} {below : List Frame} {meth : Method} {c : Code} {b L : Nat} {xs : Nat → Int32} {D : va_G} {ca : Nat → ClassId} {ax am : Nat → Nat} {q3 : Nat} {adK adV : Nat → Nat} {cells slots : Nat} {Q : State → Prop} (hC : LX p s m meth c b L xs D ca ax am q3 adK adV) (hcs : cells ≤ room_1.cells ∧ slots ≤ room_1.slots) {σ : Mem} {μ : MMem} (hR : Rel σ μ) {i : Nat} (hi : i + 6 ≤ L) {x4 : Int32} (ex4 : x4 = nI i) {H : Heap} {locs : List Loc} {ls : Array Slot} (hW : LW D ca ax am q3 σ μ H) (hS : va_S (fun q => s.heap.size ≤ q) s.heap H locs) (hl : lv_has ls 8 [(4, .int x4), (3, .ref q3), (2, .ref (am 0)), (1, .ref (ax 0)), (0, .ref b)])
    (kn : ∀ (σ : Mem) (μ : MMem) (H : Heap) (locs : List Loc) (ls : Array Slot), Rel σ μ → LW D ca ax am q3 σ μ H → va_S (fun q => s.heap.size ≤ q) s.heap H locs → lv_has ls 8 [(4, .int x4), (3, .ref q3), (2, .ref (am 0)), (1, .ref (ax 0)), (0, .ref b)] → W p l e room_1 s m #[Value.ref b] below meth c H locs cells slots Q (F0 m 1369 ls [])) : W p l e room_1 s m #[Value.ref b] below meth c H locs cells slots Q (F0 m 205 ls []) := by
  obtain ⟨C0, hK, hF, hB, hX, hbl, hL⟩ := hC
  have hx := C0.1
  have hb := C0.2.1
  have hbA : ¬ (fun q : Nat => s.heap.size ≤ q) b := Nat.not_le.mpr hbl
  obtain ⟨r, μ', h1, h2, hR⟩ := eq_ring hR (xs (x4 + 1).toNatClampNeg) (xs (x4 + 2).toNatClampNeg)
  refine lv_aload_n hx hb dL_law_205 rfl (lv_at hl 3 rfl) ?_
  refine lv_aload_n hx hb dL_law_206 rfl (lv_at hl 4 rfl) ?_
  refine lv_iload hx hb dL_law_207 (lv_at hl 0 rfl) ?_
  refine lv_iconst (v := 1) hx hb dL_law_209 (by decide) ?_
  refine lv_iadd hx hb dL_law_210 ?_
  refine va_sld hx hb hX hbl hbA hS (ix_law (k := 1) ex4 hi hL (by decide)) dL_law_211 ?_
  refine lv_aload_n hx hb dL_law_212 rfl (lv_at hl 4 rfl) ?_
  refine lv_iload hx hb dL_law_213 (lv_at hl 0 rfl) ?_
  refine lv_iconst (v := 2) hx hb dL_law_215 (by decide) ?_
  refine lv_iadd hx hb dL_law_216 ?_
  refine va_sld hx hb hX hbl hbA hS (ix_law (k := 2) ex4 hi hL (by decide)) dL_law_217 ?_
  refine lcX hF hW (rV C0 hK hW.1 hl.1 (fun _ _ _ => trivial) Bt_b (c_X11_ring hF.1 h1) cv_X11_ring tw529 (rcX11 hK hW.1) (rest := []) rfl (Nat.le_of_ble_eq_true rfl) ⟨rfl, rfl, Nat.le_of_ble_eq_true rfl, Nat.le_of_ble_eq_true rfl⟩ hcs dL_law_218) hS (fun H locs hW hS => ?_)
  refine lv_aload_n hx hb dL_law_221 rfl (lv_at hl 2 rfl) ?_
  refine lv_aload_n hx hb dL_law_222 rfl (lv_at hl 4 rfl) ?_
  refine lv_iload hx hb dL_law_223 (lv_at hl 0 rfl) ?_
  refine lv_iconst (v := 1) hx hb dL_law_225 (by decide) ?_
  refine lv_iadd hx hb dL_law_226 ?_
  refine va_sld hx hb hX hbl hbA hS (ix_law (k := 1) ex4 hi hL (by decide)) dL_law_227 ?_
  refine lv_aload_n hx hb dL_law_228 rfl (lv_at hl 4 rfl) ?_
  refine lv_iload hx hb dL_law_229 (lv_at hl 0 rfl) ?_
  refine lv_iconst (v := 2) hx hb dL_law_231 (by decide) ?_
  refine lv_iadd hx hb dL_law_232 ?_
  refine va_sld hx hb hX hbl hbA hS (ix_law (k := 2) ex4 hi hL (by decide)) dL_law_233 ?_
  refine lcM hF hW (rV C0 hK hW.2.1 hl.1 (fun _ _ _ => trivial) Bt_b (c_X12_ring hF.2.1 h2) cv_X12_ring tw1154 (rcX12 hK hW.2.1) (rest := [.int r]) rfl (Nat.le_of_ble_eq_true rfl) ⟨rfl, rfl, Nat.le_of_ble_eq_true rfl, Nat.le_of_ble_eq_true rfl⟩ hcs dL_law_234) hS (fun H locs hW hS => ?_)
  refine lv_icmp_eq (tgt := 1369) hx hb dL_law_237 (by decide) (fun _ => ?_) (fun c => absurd rfl c)
  exact kn σ μ' _ _ ls hR hW hS hl
set_option maxHeartbeats 4000000 in
set_option maxRecDepth 100000 in
theorem law_line {p : Program} {l : Launch} {e : Env} {s : State} {m : MethodId} {below : List Frame} {meth : Method} {c : Code} {b L : Nat} {xs : Nat → Int32} {D : va_G} {ca : Nat → ClassId} {ax am : Nat → Nat} {q3 : Nat} {adK adV : Nat → Nat} {cells slots : Nat} {Q : State → Prop} (hC : LX p s m meth c b L xs D ca ax am q3 adK adV) (hcs : cells ≤ room_1.cells ∧ slots ≤ room_1.slots) {σ : Mem} {μ : MMem} (hR : Rel σ μ) {i : Nat} (hi : i + 6 ≤ L) {x4 : Int32} (ex4 : x4 = nI i) {H : Heap} {locs : List Loc} {ls : Array Slot} (hW : LW D ca ax am q3 σ μ H) (hS : va_S (fun q => s.heap.size ≤ q) s.heap H locs) (hl : lv_has ls 8 [(4, .int x4), (3, .ref q3), (2, .ref (am 0)), (1, .ref (ax 0)), (0, .ref b)])
    (kn : ∀ (σ : Mem) (μ : MMem) (H : Heap) (locs : List Loc) (ls : Array Slot), Rel σ μ → LW D ca ax am q3 σ μ H → va_S (fun q => s.heap.size ≤ q) s.heap H locs → lv_has ls 8 [(4, .int x4), (3, .ref q3), (2, .ref (am 0)), (1, .ref (ax 0)), (0, .ref b)] → W p l e room_1 s m #[Value.ref b] below meth c H locs cells slots Q (F0 m 1369 ls [])) : W p l e room_1 s m #[Value.ref b] below meth c H locs cells slots Q (F0 m 242 ls []) := by
  obtain ⟨C0, hK, hF, hB, hX, hbl, hL⟩ := hC
  have hx := C0.1
  have hb := C0.2.1
  have hbA : ¬ (fun q : Nat => s.heap.size ≤ q) b := Nat.not_le.mpr hbl
  obtain ⟨r, σ', μ', h1, h2, hR⟩ := eq_line hR (xs (x4 + 1).toNatClampNeg) (xs (x4 + 2).toNatClampNeg)
  refine lv_aload_n hx hb dL_law_242 rfl (lv_at hl 3 rfl) ?_
  refine lv_aload_n hx hb dL_law_243 rfl (lv_at hl 4 rfl) ?_
  refine lv_iload hx hb dL_law_244 (lv_at hl 0 rfl) ?_
  refine lv_iconst (v := 1) hx hb dL_law_246 (by decide) ?_
  refine lv_iadd hx hb dL_law_247 ?_
  refine va_sld hx hb hX hbl hbA hS (ix_law (k := 1) ex4 hi hL (by decide)) dL_law_248 ?_
  refine lv_aload_n hx hb dL_law_249 rfl (lv_at hl 4 rfl) ?_
  refine lv_iload hx hb dL_law_250 (lv_at hl 0 rfl) ?_
  refine lv_iconst (v := 2) hx hb dL_law_252 (by decide) ?_
  refine lv_iadd hx hb dL_law_253 ?_
  refine va_sld hx hb hX hbl hbA hS (ix_law (k := 2) ex4 hi hL (by decide)) dL_law_254 ?_
  refine lcX hF hW (rV C0 hK hW.1 hl.1 (fun _ _ _ => trivial) Bt_b (c_X11_line hF.1 h1) cv_X11_line tw535 (rcX11 hK hW.1) (rest := []) rfl (Nat.le_of_ble_eq_true rfl) ⟨rfl, rfl, Nat.le_of_ble_eq_true rfl, Nat.le_of_ble_eq_true rfl⟩ hcs dL_law_255) hS (fun H locs hW hS => ?_)
  refine lv_aload_n hx hb dL_law_258 rfl (lv_at hl 2 rfl) ?_
  refine lv_aload_n hx hb dL_law_259 rfl (lv_at hl 4 rfl) ?_
  refine lv_iload hx hb dL_law_260 (lv_at hl 0 rfl) ?_
  refine lv_iconst (v := 1) hx hb dL_law_262 (by decide) ?_
  refine lv_iadd hx hb dL_law_263 ?_
  refine va_sld hx hb hX hbl hbA hS (ix_law (k := 1) ex4 hi hL (by decide)) dL_law_264 ?_
  refine lv_aload_n hx hb dL_law_265 rfl (lv_at hl 4 rfl) ?_
  refine lv_iload hx hb dL_law_266 (lv_at hl 0 rfl) ?_
  refine lv_iconst (v := 2) hx hb dL_law_268 (by decide) ?_
  refine lv_iadd hx hb dL_law_269 ?_
  refine va_sld hx hb hX hbl hbA hS (ix_law (k := 2) ex4 hi hL (by decide)) dL_law_270 ?_
  refine lcM hF hW (rV C0 hK hW.2.1 hl.1 (fun _ _ _ => trivial) Bt_b (c_X12_line hF.2.1 h2) cv_X12_line tw1159 (rcX12 hK hW.2.1) (rest := [.int r]) rfl (Nat.le_of_ble_eq_true rfl) ⟨rfl, rfl, Nat.le_of_ble_eq_true rfl, Nat.le_of_ble_eq_true rfl⟩ hcs dL_law_271) hS (fun H locs hW hS => ?_)
  refine lv_icmp_eq (tgt := 1369) hx hb dL_law_274 (by decide) (fun _ => ?_) (fun c => absurd rfl c)
  exact kn σ' μ' _ _ ls hR hW hS hl
set_option maxHeartbeats 4000000 in
set_option maxRecDepth 100000 in
theorem law_may {p : Program} {l : Launch} {e : Env} {s : State} {m : MethodId} {below : List Frame} {meth : Method} {c : Code} {b L : Nat} {xs : Nat → Int32} {D : va_G} {ca : Nat → ClassId} {ax am : Nat → Nat} {q3 : Nat} {adK adV : Nat → Nat} {cells slots : Nat} {Q : State → Prop} (hC : LX p s m meth c b L xs D ca ax am q3 adK adV) (hcs : cells ≤ room_1.cells ∧ slots ≤ room_1.slots) {σ : Mem} {μ : MMem} (hR : Rel σ μ) {i : Nat} (hi : i + 6 ≤ L) {x4 : Int32} (ex4 : x4 = nI i) {H : Heap} {locs : List Loc} {ls : Array Slot} (hW : LW D ca ax am q3 σ μ H) (hS : va_S (fun q => s.heap.size ≤ q) s.heap H locs) (hl : lv_has ls 8 [(4, .int x4), (3, .ref q3), (2, .ref (am 0)), (1, .ref (ax 0)), (0, .ref b)])
    (kn : ∀ (σ : Mem) (μ : MMem) (H : Heap) (locs : List Loc) (ls : Array Slot), Rel σ μ → LW D ca ax am q3 σ μ H → va_S (fun q => s.heap.size ≤ q) s.heap H locs → lv_has ls 8 [(4, .int x4), (3, .ref q3), (2, .ref (am 0)), (1, .ref (ax 0)), (0, .ref b)] → W p l e room_1 s m #[Value.ref b] below meth c H locs cells slots Q (F0 m 1369 ls [])) : W p l e room_1 s m #[Value.ref b] below meth c H locs cells slots Q (F0 m 279 ls []) := by
  obtain ⟨C0, hK, hF, hB, hX, hbl, hL⟩ := hC
  have hx := C0.1
  have hb := C0.2.1
  have hbA : ¬ (fun q : Nat => s.heap.size ≤ q) b := Nat.not_le.mpr hbl
  obtain ⟨r, μ', h1, h2, hR⟩ := eq_may hR (xs (x4 + 1).toNatClampNeg) (xs (x4 + 2).toNatClampNeg)
  refine lv_aload_n hx hb dL_law_279 rfl (lv_at hl 3 rfl) ?_
  refine lv_aload_n hx hb dL_law_280 rfl (lv_at hl 4 rfl) ?_
  refine lv_iload hx hb dL_law_281 (lv_at hl 0 rfl) ?_
  refine lv_iconst (v := 1) hx hb dL_law_283 (by decide) ?_
  refine lv_iadd hx hb dL_law_284 ?_
  refine va_sld hx hb hX hbl hbA hS (ix_law (k := 1) ex4 hi hL (by decide)) dL_law_285 ?_
  refine lv_aload_n hx hb dL_law_286 rfl (lv_at hl 4 rfl) ?_
  refine lv_iload hx hb dL_law_287 (lv_at hl 0 rfl) ?_
  refine lv_iconst (v := 2) hx hb dL_law_289 (by decide) ?_
  refine lv_iadd hx hb dL_law_290 ?_
  refine va_sld hx hb hX hbl hbA hS (ix_law (k := 2) ex4 hi hL (by decide)) dL_law_291 ?_
  refine lcX hF hW (rV C0 hK hW.1 hl.1 (fun _ _ _ => trivial) Bt_b (c_X11_may hF.1 h1) cv_X11_may tw539 (rcX11 hK hW.1) (rest := []) rfl (Nat.le_of_ble_eq_true rfl) ⟨rfl, rfl, Nat.le_of_ble_eq_true rfl, Nat.le_of_ble_eq_true rfl⟩ hcs dL_law_292) hS (fun H locs hW hS => ?_)
  refine lv_aload_n hx hb dL_law_295 rfl (lv_at hl 2 rfl) ?_
  refine lv_aload_n hx hb dL_law_296 rfl (lv_at hl 4 rfl) ?_
  refine lv_iload hx hb dL_law_297 (lv_at hl 0 rfl) ?_
  refine lv_iconst (v := 1) hx hb dL_law_299 (by decide) ?_
  refine lv_iadd hx hb dL_law_300 ?_
  refine va_sld hx hb hX hbl hbA hS (ix_law (k := 1) ex4 hi hL (by decide)) dL_law_301 ?_
  refine lv_aload_n hx hb dL_law_302 rfl (lv_at hl 4 rfl) ?_
  refine lv_iload hx hb dL_law_303 (lv_at hl 0 rfl) ?_
  refine lv_iconst (v := 2) hx hb dL_law_305 (by decide) ?_
  refine lv_iadd hx hb dL_law_306 ?_
  refine va_sld hx hb hX hbl hbA hS (ix_law (k := 2) ex4 hi hL (by decide)) dL_law_307 ?_
  refine lcM hF hW (rV C0 hK hW.2.1 hl.1 (fun _ _ _ => trivial) Bt_b (c_X12_may hF.2.1 h2) cv_X12_may tw1165 (rcX12 hK hW.2.1) (rest := [.int r]) rfl (Nat.le_of_ble_eq_true rfl) ⟨rfl, rfl, Nat.le_of_ble_eq_true rfl, Nat.le_of_ble_eq_true rfl⟩ hcs dL_law_308) hS (fun H locs hW hS => ?_)
  refine lv_icmp_eq (tgt := 1369) hx hb dL_law_311 (by decide) (fun _ => ?_) (fun c => absurd rfl c)
  exact kn σ μ' _ _ ls hR hW hS hl
set_option maxHeartbeats 4000000 in
set_option maxRecDepth 100000 in
theorem law_pin {p : Program} {l : Launch} {e : Env} {s : State} {m : MethodId} {below : List Frame} {meth : Method} {c : Code} {b L : Nat} {xs : Nat → Int32} {D : va_G} {ca : Nat → ClassId} {ax am : Nat → Nat} {q3 : Nat} {adK adV : Nat → Nat} {cells slots : Nat} {Q : State → Prop} (hC : LX p s m meth c b L xs D ca ax am q3 adK adV) (hcs : cells ≤ room_1.cells ∧ slots ≤ room_1.slots) {σ : Mem} {μ : MMem} (hR : Rel σ μ) {i : Nat} (hi : i + 6 ≤ L) {x4 : Int32} (ex4 : x4 = nI i) {H : Heap} {locs : List Loc} {ls : Array Slot} (hW : LW D ca ax am q3 σ μ H) (hS : va_S (fun q => s.heap.size ≤ q) s.heap H locs) (hl : lv_has ls 8 [(4, .int x4), (3, .ref q3), (2, .ref (am 0)), (1, .ref (ax 0)), (0, .ref b)])
    (kn : ∀ (σ : Mem) (μ : MMem) (H : Heap) (locs : List Loc) (ls : Array Slot), Rel σ μ → LW D ca ax am q3 σ μ H → va_S (fun q => s.heap.size ≤ q) s.heap H locs → lv_has ls 8 [(4, .int x4), (3, .ref q3), (2, .ref (am 0)), (1, .ref (ax 0)), (0, .ref b)] → W p l e room_1 s m #[Value.ref b] below meth c H locs cells slots Q (F0 m 1369 ls [])) : W p l e room_1 s m #[Value.ref b] below meth c H locs cells slots Q (F0 m 316 ls []) := by
  obtain ⟨C0, hK, hF, hB, hX, hbl, hL⟩ := hC
  have hx := C0.1
  have hb := C0.2.1
  have hbA : ¬ (fun q : Nat => s.heap.size ≤ q) b := Nat.not_le.mpr hbl
  obtain ⟨r, σ', μ', h1, h2, hR⟩ := eq_pin hR (xs (x4 + 1).toNatClampNeg) (xs (x4 + 2).toNatClampNeg)
  refine lv_aload_n hx hb dL_law_316 rfl (lv_at hl 3 rfl) ?_
  refine lv_aload_n hx hb dL_law_317 rfl (lv_at hl 4 rfl) ?_
  refine lv_iload hx hb dL_law_318 (lv_at hl 0 rfl) ?_
  refine lv_iconst (v := 1) hx hb dL_law_320 (by decide) ?_
  refine lv_iadd hx hb dL_law_321 ?_
  refine va_sld hx hb hX hbl hbA hS (ix_law (k := 1) ex4 hi hL (by decide)) dL_law_322 ?_
  refine lv_aload_n hx hb dL_law_323 rfl (lv_at hl 4 rfl) ?_
  refine lv_iload hx hb dL_law_324 (lv_at hl 0 rfl) ?_
  refine lv_iconst (v := 2) hx hb dL_law_326 (by decide) ?_
  refine lv_iadd hx hb dL_law_327 ?_
  refine va_sld hx hb hX hbl hbA hS (ix_law (k := 2) ex4 hi hL (by decide)) dL_law_328 ?_
  refine lcX hF hW (rV C0 hK hW.1 hl.1 (fun _ _ _ => trivial) Bt_b (c_X11_pin hF.1 h1) cv_X11_pin tw552 (rcX11 hK hW.1) (rest := []) rfl (Nat.le_of_ble_eq_true rfl) ⟨rfl, rfl, Nat.le_of_ble_eq_true rfl, Nat.le_of_ble_eq_true rfl⟩ hcs dL_law_329) hS (fun H locs hW hS => ?_)
  refine lv_aload_n hx hb dL_law_332 rfl (lv_at hl 2 rfl) ?_
  refine lv_aload_n hx hb dL_law_333 rfl (lv_at hl 4 rfl) ?_
  refine lv_iload hx hb dL_law_334 (lv_at hl 0 rfl) ?_
  refine lv_iconst (v := 1) hx hb dL_law_336 (by decide) ?_
  refine lv_iadd hx hb dL_law_337 ?_
  refine va_sld hx hb hX hbl hbA hS (ix_law (k := 1) ex4 hi hL (by decide)) dL_law_338 ?_
  refine lv_aload_n hx hb dL_law_339 rfl (lv_at hl 4 rfl) ?_
  refine lv_iload hx hb dL_law_340 (lv_at hl 0 rfl) ?_
  refine lv_iconst (v := 2) hx hb dL_law_342 (by decide) ?_
  refine lv_iadd hx hb dL_law_343 ?_
  refine va_sld hx hb hX hbl hbA hS (ix_law (k := 2) ex4 hi hL (by decide)) dL_law_344 ?_
  refine lcM hF hW (rV C0 hK hW.2.1 hl.1 (fun _ _ _ => trivial) Bt_b (c_X12_pin hF.2.1 h2) cv_X12_pin tw1173 (rcX12 hK hW.2.1) (rest := [.int r]) rfl (Nat.le_of_ble_eq_true rfl) ⟨rfl, rfl, Nat.le_of_ble_eq_true rfl, Nat.le_of_ble_eq_true rfl⟩ hcs dL_law_345) hS (fun H locs hW hS => ?_)
  refine lv_icmp_eq (tgt := 1369) hx hb dL_law_348 (by decide) (fun _ => ?_) (fun c => absurd rfl c)
  exact kn σ' μ' _ _ ls hR hW hS hl
set_option maxHeartbeats 4000000 in
set_option maxRecDepth 100000 in
theorem law_ease {p : Program} {l : Launch} {e : Env} {s : State} {m : MethodId} {below : List Frame} {meth : Method} {c : Code} {b L : Nat} {xs : Nat → Int32} {D : va_G} {ca : Nat → ClassId} {ax am : Nat → Nat} {q3 : Nat} {adK adV : Nat → Nat} {cells slots : Nat} {Q : State → Prop} (hC : LX p s m meth c b L xs D ca ax am q3 adK adV) (hcs : cells ≤ room_1.cells ∧ slots ≤ room_1.slots) {σ : Mem} {μ : MMem} (hR : Rel σ μ) {i : Nat} (hi : i + 6 ≤ L) {x4 : Int32} (ex4 : x4 = nI i) {H : Heap} {locs : List Loc} {ls : Array Slot} (hW : LW D ca ax am q3 σ μ H) (hS : va_S (fun q => s.heap.size ≤ q) s.heap H locs) (hl : lv_has ls 8 [(4, .int x4), (3, .ref q3), (2, .ref (am 0)), (1, .ref (ax 0)), (0, .ref b)])
    (kn : ∀ (σ : Mem) (μ : MMem) (H : Heap) (locs : List Loc) (ls : Array Slot), Rel σ μ → LW D ca ax am q3 σ μ H → va_S (fun q => s.heap.size ≤ q) s.heap H locs → lv_has ls 8 [(4, .int x4), (3, .ref q3), (2, .ref (am 0)), (1, .ref (ax 0)), (0, .ref b)] → W p l e room_1 s m #[Value.ref b] below meth c H locs cells slots Q (F0 m 1369 ls [])) : W p l e room_1 s m #[Value.ref b] below meth c H locs cells slots Q (F0 m 353 ls []) := by
  obtain ⟨C0, hK, hF, hB, hX, hbl, hL⟩ := hC
  have hx := C0.1
  have hb := C0.2.1
  have hbA : ¬ (fun q : Nat => s.heap.size ≤ q) b := Nat.not_le.mpr hbl
  obtain ⟨r, μ', h1, h2, hR⟩ := eq_ease hR (xs (x4 + 1).toNatClampNeg) (xs (x4 + 2).toNatClampNeg)
  refine lv_aload_n hx hb dL_law_353 rfl (lv_at hl 3 rfl) ?_
  refine lv_aload_n hx hb dL_law_354 rfl (lv_at hl 4 rfl) ?_
  refine lv_iload hx hb dL_law_355 (lv_at hl 0 rfl) ?_
  refine lv_iconst (v := 1) hx hb dL_law_357 (by decide) ?_
  refine lv_iadd hx hb dL_law_358 ?_
  refine va_sld hx hb hX hbl hbA hS (ix_law (k := 1) ex4 hi hL (by decide)) dL_law_359 ?_
  refine lv_aload_n hx hb dL_law_360 rfl (lv_at hl 4 rfl) ?_
  refine lv_iload hx hb dL_law_361 (lv_at hl 0 rfl) ?_
  refine lv_iconst (v := 2) hx hb dL_law_363 (by decide) ?_
  refine lv_iadd hx hb dL_law_364 ?_
  refine va_sld hx hb hX hbl hbA hS (ix_law (k := 2) ex4 hi hL (by decide)) dL_law_365 ?_
  refine lcX hF hW (rV C0 hK hW.1 hl.1 (fun _ _ _ => trivial) Bt_b (c_X11_ease hF.1 h1) cv_X11_ease tw568 (rcX11 hK hW.1) (rest := []) rfl (Nat.le_of_ble_eq_true rfl) ⟨rfl, rfl, Nat.le_of_ble_eq_true rfl, Nat.le_of_ble_eq_true rfl⟩ hcs dL_law_366) hS (fun H locs hW hS => ?_)
  refine lv_aload_n hx hb dL_law_369 rfl (lv_at hl 2 rfl) ?_
  refine lv_aload_n hx hb dL_law_370 rfl (lv_at hl 4 rfl) ?_
  refine lv_iload hx hb dL_law_371 (lv_at hl 0 rfl) ?_
  refine lv_iconst (v := 1) hx hb dL_law_373 (by decide) ?_
  refine lv_iadd hx hb dL_law_374 ?_
  refine va_sld hx hb hX hbl hbA hS (ix_law (k := 1) ex4 hi hL (by decide)) dL_law_375 ?_
  refine lv_aload_n hx hb dL_law_376 rfl (lv_at hl 4 rfl) ?_
  refine lv_iload hx hb dL_law_377 (lv_at hl 0 rfl) ?_
  refine lv_iconst (v := 2) hx hb dL_law_379 (by decide) ?_
  refine lv_iadd hx hb dL_law_380 ?_
  refine va_sld hx hb hX hbl hbA hS (ix_law (k := 2) ex4 hi hL (by decide)) dL_law_381 ?_
  refine lcM hF hW (rV C0 hK hW.2.1 hl.1 (fun _ _ _ => trivial) Bt_b (c_X12_ease hF.2.1 h2) cv_X12_ease tw1185 (rcX12 hK hW.2.1) (rest := [.int r]) rfl (Nat.le_of_ble_eq_true rfl) ⟨rfl, rfl, Nat.le_of_ble_eq_true rfl, Nat.le_of_ble_eq_true rfl⟩ hcs dL_law_382) hS (fun H locs hW hS => ?_)
  refine lv_icmp_eq (tgt := 1369) hx hb dL_law_385 (by decide) (fun _ => ?_) (fun c => absurd rfl c)
  exact kn σ μ' _ _ ls hR hW hS hl
set_option maxHeartbeats 4000000 in
set_option maxRecDepth 100000 in
theorem law_fit {p : Program} {l : Launch} {e : Env} {s : State} {m : MethodId} {below : List Frame} {meth : Method} {c : Code} {b L : Nat} {xs : Nat → Int32} {D : va_G} {ca : Nat → ClassId} {ax am : Nat → Nat} {q3 : Nat} {adK adV : Nat → Nat} {cells slots : Nat} {Q : State → Prop} (hC : LX p s m meth c b L xs D ca ax am q3 adK adV) (hcs : cells ≤ room_1.cells ∧ slots ≤ room_1.slots) {σ : Mem} {μ : MMem} (hR : Rel σ μ) {i : Nat} (hi : i + 6 ≤ L) {x4 : Int32} (ex4 : x4 = nI i) {H : Heap} {locs : List Loc} {ls : Array Slot} (hW : LW D ca ax am q3 σ μ H) (hS : va_S (fun q => s.heap.size ≤ q) s.heap H locs) (hl : lv_has ls 8 [(4, .int x4), (3, .ref q3), (2, .ref (am 0)), (1, .ref (ax 0)), (0, .ref b)])
    (kn : ∀ (σ : Mem) (μ : MMem) (H : Heap) (locs : List Loc) (ls : Array Slot), Rel σ μ → LW D ca ax am q3 σ μ H → va_S (fun q => s.heap.size ≤ q) s.heap H locs → lv_has ls 8 [(4, .int x4), (3, .ref q3), (2, .ref (am 0)), (1, .ref (ax 0)), (0, .ref b)] → W p l e room_1 s m #[Value.ref b] below meth c H locs cells slots Q (F0 m 1369 ls [])) : W p l e room_1 s m #[Value.ref b] below meth c H locs cells slots Q (F0 m 390 ls []) := by
  obtain ⟨C0, hK, hF, hB, hX, hbl, hL⟩ := hC
  have hx := C0.1
  have hb := C0.2.1
  have hbA : ¬ (fun q : Nat => s.heap.size ≤ q) b := Nat.not_le.mpr hbl
  obtain ⟨r, μ', h1, h2, hR⟩ := eq_fit hR (xs (x4 + 1).toNatClampNeg)
  refine lv_aload_n hx hb dL_law_390 rfl (lv_at hl 3 rfl) ?_
  refine lv_aload_n hx hb dL_law_391 rfl (lv_at hl 4 rfl) ?_
  refine lv_iload hx hb dL_law_392 (lv_at hl 0 rfl) ?_
  refine lv_iconst (v := 1) hx hb dL_law_394 (by decide) ?_
  refine lv_iadd hx hb dL_law_395 ?_
  refine va_sld hx hb hX hbl hbA hS (ix_law (k := 1) ex4 hi hL (by decide)) dL_law_396 ?_
  refine lcX hF hW (rV C0 hK hW.1 hl.1 (fun _ _ _ => trivial) Bt_b (c_X11_fit hF.1 h1) cv_X11_fit tw574 (rcX11 hK hW.1) (rest := []) rfl (Nat.le_of_ble_eq_true rfl) ⟨rfl, rfl, Nat.le_of_ble_eq_true rfl, Nat.le_of_ble_eq_true rfl⟩ hcs dL_law_397) hS (fun H locs hW hS => ?_)
  refine lv_aload_n hx hb dL_law_400 rfl (lv_at hl 2 rfl) ?_
  refine lv_aload_n hx hb dL_law_401 rfl (lv_at hl 4 rfl) ?_
  refine lv_iload hx hb dL_law_402 (lv_at hl 0 rfl) ?_
  refine lv_iconst (v := 1) hx hb dL_law_404 (by decide) ?_
  refine lv_iadd hx hb dL_law_405 ?_
  refine va_sld hx hb hX hbl hbA hS (ix_law (k := 1) ex4 hi hL (by decide)) dL_law_406 ?_
  refine lcM hF hW (rV C0 hK hW.2.1 hl.1 (fun _ _ _ => trivial) Bt_b (c_X12_fit hF.2.1 h2) cv_X12_fit tw1190 (rcX12 hK hW.2.1) (rest := [.int r]) rfl (Nat.le_of_ble_eq_true rfl) ⟨rfl, rfl, Nat.le_of_ble_eq_true rfl, Nat.le_of_ble_eq_true rfl⟩ hcs dL_law_407) hS (fun H locs hW hS => ?_)
  refine lv_icmp_eq (tgt := 1369) hx hb dL_law_410 (by decide) (fun _ => ?_) (fun c => absurd rfl c)
  exact kn σ μ' _ _ ls hR hW hS hl
set_option maxHeartbeats 4000000 in
set_option maxRecDepth 100000 in
theorem law_lacks {p : Program} {l : Launch} {e : Env} {s : State} {m : MethodId} {below : List Frame} {meth : Method} {c : Code} {b L : Nat} {xs : Nat → Int32} {D : va_G} {ca : Nat → ClassId} {ax am : Nat → Nat} {q3 : Nat} {adK adV : Nat → Nat} {cells slots : Nat} {Q : State → Prop} (hC : LX p s m meth c b L xs D ca ax am q3 adK adV) (hcs : cells ≤ room_1.cells ∧ slots ≤ room_1.slots) {σ : Mem} {μ : MMem} (hR : Rel σ μ) {i : Nat} (hi : i + 6 ≤ L) {x4 : Int32} (ex4 : x4 = nI i) {H : Heap} {locs : List Loc} {ls : Array Slot} (hW : LW D ca ax am q3 σ μ H) (hS : va_S (fun q => s.heap.size ≤ q) s.heap H locs) (hl : lv_has ls 8 [(4, .int x4), (3, .ref q3), (2, .ref (am 0)), (1, .ref (ax 0)), (0, .ref b)])
    (kn : ∀ (σ : Mem) (μ : MMem) (H : Heap) (locs : List Loc) (ls : Array Slot), Rel σ μ → LW D ca ax am q3 σ μ H → va_S (fun q => s.heap.size ≤ q) s.heap H locs → lv_has ls 8 [(4, .int x4), (3, .ref q3), (2, .ref (am 0)), (1, .ref (ax 0)), (0, .ref b)] → W p l e room_1 s m #[Value.ref b] below meth c H locs cells slots Q (F0 m 1369 ls [])) : W p l e room_1 s m #[Value.ref b] below meth c H locs cells slots Q (F0 m 415 ls []) := by
  obtain ⟨C0, hK, hF, hB, hX, hbl, hL⟩ := hC
  have hx := C0.1
  have hb := C0.2.1
  have hbA : ¬ (fun q : Nat => s.heap.size ≤ q) b := Nat.not_le.mpr hbl
  obtain ⟨r, μ', h1, h2, hR⟩ := eq_lacks hR 
  refine lv_aload_n hx hb dL_law_415 rfl (lv_at hl 3 rfl) ?_
  refine lcX hF hW (rV C0 hK hW.1 hl.1 (fun _ _ _ => trivial) Bt_b (c_X11_lacks hF.1 h1) cv_X11_lacks tw586 (rcX11 hK hW.1) (rest := []) rfl (Nat.le_of_ble_eq_true rfl) ⟨rfl, rfl, Nat.le_of_ble_eq_true rfl, Nat.le_of_ble_eq_true rfl⟩ hcs dL_law_416) hS (fun H locs hW hS => ?_)
  refine lv_aload_n hx hb dL_law_419 rfl (lv_at hl 2 rfl) ?_
  refine lcM hF hW (rV C0 hK hW.2.1 hl.1 (fun _ _ _ => trivial) Bt_b (c_X12_lacks hF.2.1 h2) cv_X12_lacks tw1199 (rcX12 hK hW.2.1) (rest := [.int r]) rfl (Nat.le_of_ble_eq_true rfl) ⟨rfl, rfl, Nat.le_of_ble_eq_true rfl, Nat.le_of_ble_eq_true rfl⟩ hcs dL_law_420) hS (fun H locs hW hS => ?_)
  refine lv_icmp_eq (tgt := 1369) hx hb dL_law_423 (by decide) (fun _ => ?_) (fun c => absurd rfl c)
  exact kn σ μ' _ _ ls hR hW hS hl
set_option maxHeartbeats 4000000 in
set_option maxRecDepth 100000 in
theorem law_bestPin {p : Program} {l : Launch} {e : Env} {s : State} {m : MethodId} {below : List Frame} {meth : Method} {c : Code} {b L : Nat} {xs : Nat → Int32} {D : va_G} {ca : Nat → ClassId} {ax am : Nat → Nat} {q3 : Nat} {adK adV : Nat → Nat} {cells slots : Nat} {Q : State → Prop} (hC : LX p s m meth c b L xs D ca ax am q3 adK adV) (hcs : cells ≤ room_1.cells ∧ slots ≤ room_1.slots) {σ : Mem} {μ : MMem} (hR : Rel σ μ) {i : Nat} (hi : i + 6 ≤ L) {x4 : Int32} (ex4 : x4 = nI i) {H : Heap} {locs : List Loc} {ls : Array Slot} (hW : LW D ca ax am q3 σ μ H) (hS : va_S (fun q => s.heap.size ≤ q) s.heap H locs) (hl : lv_has ls 8 [(4, .int x4), (3, .ref q3), (2, .ref (am 0)), (1, .ref (ax 0)), (0, .ref b)])
    (kn : ∀ (σ : Mem) (μ : MMem) (H : Heap) (locs : List Loc) (ls : Array Slot), Rel σ μ → LW D ca ax am q3 σ μ H → va_S (fun q => s.heap.size ≤ q) s.heap H locs → lv_has ls 8 [(4, .int x4), (3, .ref q3), (2, .ref (am 0)), (1, .ref (ax 0)), (0, .ref b)] → W p l e room_1 s m #[Value.ref b] below meth c H locs cells slots Q (F0 m 1369 ls [])) : W p l e room_1 s m #[Value.ref b] below meth c H locs cells slots Q (F0 m 428 ls []) := by
  obtain ⟨C0, hK, hF, hB, hX, hbl, hL⟩ := hC
  have hx := C0.1
  have hb := C0.2.1
  have hbA : ¬ (fun q : Nat => s.heap.size ≤ q) b := Nat.not_le.mpr hbl
  obtain ⟨r, σ', μ', h1, h2, hR⟩ := eq_bestPin hR (xs (x4 + 1).toNatClampNeg) (xs (x4 + 2).toNatClampNeg)
  refine lv_aload_n hx hb dL_law_428 rfl (lv_at hl 3 rfl) ?_
  refine lv_aload_n hx hb dL_law_429 rfl (lv_at hl 4 rfl) ?_
  refine lv_iload hx hb dL_law_430 (lv_at hl 0 rfl) ?_
  refine lv_iconst (v := 1) hx hb dL_law_432 (by decide) ?_
  refine lv_iadd hx hb dL_law_433 ?_
  refine va_sld hx hb hX hbl hbA hS (ix_law (k := 1) ex4 hi hL (by decide)) dL_law_434 ?_
  refine lv_aload_n hx hb dL_law_435 rfl (lv_at hl 4 rfl) ?_
  refine lv_iload hx hb dL_law_436 (lv_at hl 0 rfl) ?_
  refine lv_iconst (v := 2) hx hb dL_law_438 (by decide) ?_
  refine lv_iadd hx hb dL_law_439 ?_
  refine va_sld hx hb hX hbl hbA hS (ix_law (k := 2) ex4 hi hL (by decide)) dL_law_440 ?_
  refine lcX hF hW (rV C0 hK hW.1 hl.1 (fun _ _ _ => trivial) Bt_b (c_X11_bestPin hF.1 h1) cv_X11_bestPin tw590 (rcX11 hK hW.1) (rest := []) rfl (Nat.le_of_ble_eq_true rfl) ⟨rfl, rfl, Nat.le_of_ble_eq_true rfl, Nat.le_of_ble_eq_true rfl⟩ hcs dL_law_441) hS (fun H locs hW hS => ?_)
  refine lv_aload_n hx hb dL_law_444 rfl (lv_at hl 2 rfl) ?_
  refine lv_aload_n hx hb dL_law_445 rfl (lv_at hl 4 rfl) ?_
  refine lv_iload hx hb dL_law_446 (lv_at hl 0 rfl) ?_
  refine lv_iconst (v := 1) hx hb dL_law_448 (by decide) ?_
  refine lv_iadd hx hb dL_law_449 ?_
  refine va_sld hx hb hX hbl hbA hS (ix_law (k := 1) ex4 hi hL (by decide)) dL_law_450 ?_
  refine lv_aload_n hx hb dL_law_451 rfl (lv_at hl 4 rfl) ?_
  refine lv_iload hx hb dL_law_452 (lv_at hl 0 rfl) ?_
  refine lv_iconst (v := 2) hx hb dL_law_454 (by decide) ?_
  refine lv_iadd hx hb dL_law_455 ?_
  refine va_sld hx hb hX hbl hbA hS (ix_law (k := 2) ex4 hi hL (by decide)) dL_law_456 ?_
  refine lcM hF hW (rV C0 hK hW.2.1 hl.1 (fun _ _ _ => trivial) Bt_b (c_X12_bestPin hF.2.1 h2) cv_X12_bestPin tw1203 (rcX12 hK hW.2.1) (rest := [.int r]) rfl (Nat.le_of_ble_eq_true rfl) ⟨rfl, rfl, Nat.le_of_ble_eq_true rfl, Nat.le_of_ble_eq_true rfl⟩ hcs dL_law_457) hS (fun H locs hW hS => ?_)
  refine lv_icmp_eq (tgt := 1369) hx hb dL_law_460 (by decide) (fun _ => ?_) (fun c => absurd rfl c)
  exact kn σ' μ' _ _ ls hR hW hS hl
set_option maxHeartbeats 4000000 in
set_option maxRecDepth 100000 in
theorem law_least {p : Program} {l : Launch} {e : Env} {s : State} {m : MethodId} {below : List Frame} {meth : Method} {c : Code} {b L : Nat} {xs : Nat → Int32} {D : va_G} {ca : Nat → ClassId} {ax am : Nat → Nat} {q3 : Nat} {adK adV : Nat → Nat} {cells slots : Nat} {Q : State → Prop} (hC : LX p s m meth c b L xs D ca ax am q3 adK adV) (hcs : cells ≤ room_1.cells ∧ slots ≤ room_1.slots) {σ : Mem} {μ : MMem} (hR : Rel σ μ) {i : Nat} (hi : i + 6 ≤ L) {x4 : Int32} (ex4 : x4 = nI i) {H : Heap} {locs : List Loc} {ls : Array Slot} (hW : LW D ca ax am q3 σ μ H) (hS : va_S (fun q => s.heap.size ≤ q) s.heap H locs) (hl : lv_has ls 8 [(4, .int x4), (3, .ref q3), (2, .ref (am 0)), (1, .ref (ax 0)), (0, .ref b)])
    (kn : ∀ (σ : Mem) (μ : MMem) (H : Heap) (locs : List Loc) (ls : Array Slot), Rel σ μ → LW D ca ax am q3 σ μ H → va_S (fun q => s.heap.size ≤ q) s.heap H locs → lv_has ls 8 [(4, .int x4), (3, .ref q3), (2, .ref (am 0)), (1, .ref (ax 0)), (0, .ref b)] → W p l e room_1 s m #[Value.ref b] below meth c H locs cells slots Q (F0 m 1369 ls [])) : W p l e room_1 s m #[Value.ref b] below meth c H locs cells slots Q (F0 m 465 ls []) := by
  obtain ⟨C0, hK, hF, hB, hX, hbl, hL⟩ := hC
  have hx := C0.1
  have hb := C0.2.1
  have hbA : ¬ (fun q : Nat => s.heap.size ≤ q) b := Nat.not_le.mpr hbl
  obtain ⟨r, σ', μ', h1, h2, hR⟩ := eq_least hR (xs (x4 + 1).toNatClampNeg) (xs (x4 + 2).toNatClampNeg)
  refine lv_aload_n hx hb dL_law_465 rfl (lv_at hl 3 rfl) ?_
  refine lv_aload_n hx hb dL_law_466 rfl (lv_at hl 4 rfl) ?_
  refine lv_iload hx hb dL_law_467 (lv_at hl 0 rfl) ?_
  refine lv_iconst (v := 1) hx hb dL_law_469 (by decide) ?_
  refine lv_iadd hx hb dL_law_470 ?_
  refine va_sld hx hb hX hbl hbA hS (ix_law (k := 1) ex4 hi hL (by decide)) dL_law_471 ?_
  refine lv_aload_n hx hb dL_law_472 rfl (lv_at hl 4 rfl) ?_
  refine lv_iload hx hb dL_law_473 (lv_at hl 0 rfl) ?_
  refine lv_iconst (v := 2) hx hb dL_law_475 (by decide) ?_
  refine lv_iadd hx hb dL_law_476 ?_
  refine va_sld hx hb hX hbl hbA hS (ix_law (k := 2) ex4 hi hL (by decide)) dL_law_477 ?_
  refine lcX hF hW (rV C0 hK hW.1 hl.1 (fun _ _ _ => trivial) Bt_b (c_X11_least hF.1 h1) cv_X11_least tw595 (rcX11 hK hW.1) (rest := []) rfl (Nat.le_of_ble_eq_true rfl) ⟨rfl, rfl, Nat.le_of_ble_eq_true rfl, Nat.le_of_ble_eq_true rfl⟩ hcs dL_law_478) hS (fun H locs hW hS => ?_)
  refine lv_aload_n hx hb dL_law_481 rfl (lv_at hl 2 rfl) ?_
  refine lv_aload_n hx hb dL_law_482 rfl (lv_at hl 4 rfl) ?_
  refine lv_iload hx hb dL_law_483 (lv_at hl 0 rfl) ?_
  refine lv_iconst (v := 1) hx hb dL_law_485 (by decide) ?_
  refine lv_iadd hx hb dL_law_486 ?_
  refine va_sld hx hb hX hbl hbA hS (ix_law (k := 1) ex4 hi hL (by decide)) dL_law_487 ?_
  refine lv_aload_n hx hb dL_law_488 rfl (lv_at hl 4 rfl) ?_
  refine lv_iload hx hb dL_law_489 (lv_at hl 0 rfl) ?_
  refine lv_iconst (v := 2) hx hb dL_law_491 (by decide) ?_
  refine lv_iadd hx hb dL_law_492 ?_
  refine va_sld hx hb hX hbl hbA hS (ix_law (k := 2) ex4 hi hL (by decide)) dL_law_493 ?_
  refine lcM hF hW (rV C0 hK hW.2.1 hl.1 (fun _ _ _ => trivial) Bt_b (c_X12_least hF.2.1 h2) cv_X12_least tw1207 (rcX12 hK hW.2.1) (rest := [.int r]) rfl (Nat.le_of_ble_eq_true rfl) ⟨rfl, rfl, Nat.le_of_ble_eq_true rfl, Nat.le_of_ble_eq_true rfl⟩ hcs dL_law_494) hS (fun H locs hW hS => ?_)
  refine lv_icmp_eq (tgt := 1369) hx hb dL_law_497 (by decide) (fun _ => ?_) (fun c => absurd rfl c)
  exact kn σ' μ' _ _ ls hR hW hS hl
set_option maxHeartbeats 4000000 in
set_option maxRecDepth 100000 in
theorem law_first {p : Program} {l : Launch} {e : Env} {s : State} {m : MethodId} {below : List Frame} {meth : Method} {c : Code} {b L : Nat} {xs : Nat → Int32} {D : va_G} {ca : Nat → ClassId} {ax am : Nat → Nat} {q3 : Nat} {adK adV : Nat → Nat} {cells slots : Nat} {Q : State → Prop} (hC : LX p s m meth c b L xs D ca ax am q3 adK adV) (hcs : cells ≤ room_1.cells ∧ slots ≤ room_1.slots) {σ : Mem} {μ : MMem} (hR : Rel σ μ) {i : Nat} (hi : i + 6 ≤ L) {x4 : Int32} (ex4 : x4 = nI i) {H : Heap} {locs : List Loc} {ls : Array Slot} (hW : LW D ca ax am q3 σ μ H) (hS : va_S (fun q => s.heap.size ≤ q) s.heap H locs) (hl : lv_has ls 8 [(4, .int x4), (3, .ref q3), (2, .ref (am 0)), (1, .ref (ax 0)), (0, .ref b)])
    (kn : ∀ (σ : Mem) (μ : MMem) (H : Heap) (locs : List Loc) (ls : Array Slot), Rel σ μ → LW D ca ax am q3 σ μ H → va_S (fun q => s.heap.size ≤ q) s.heap H locs → lv_has ls 8 [(4, .int x4), (3, .ref q3), (2, .ref (am 0)), (1, .ref (ax 0)), (0, .ref b)] → W p l e room_1 s m #[Value.ref b] below meth c H locs cells slots Q (F0 m 1369 ls [])) : W p l e room_1 s m #[Value.ref b] below meth c H locs cells slots Q (F0 m 502 ls []) := by
  obtain ⟨C0, hK, hF, hB, hX, hbl, hL⟩ := hC
  have hx := C0.1
  have hb := C0.2.1
  have hbA : ¬ (fun q : Nat => s.heap.size ≤ q) b := Nat.not_le.mpr hbl
  obtain ⟨r, σ', μ', h1, h2, hR⟩ := eq_first hR (xs (x4 + 1).toNatClampNeg)
  refine lv_aload_n hx hb dL_law_502 rfl (lv_at hl 3 rfl) ?_
  refine lv_aload_n hx hb dL_law_503 rfl (lv_at hl 4 rfl) ?_
  refine lv_iload hx hb dL_law_504 (lv_at hl 0 rfl) ?_
  refine lv_iconst (v := 1) hx hb dL_law_506 (by decide) ?_
  refine lv_iadd hx hb dL_law_507 ?_
  refine va_sld hx hb hX hbl hbA hS (ix_law (k := 1) ex4 hi hL (by decide)) dL_law_508 ?_
  refine lcX hF hW (rV C0 hK hW.1 hl.1 (fun _ _ _ => trivial) Bt_b (c_X11_first hF.1 h1) cv_X11_first tw623 (rcX11 hK hW.1) (rest := []) rfl (Nat.le_of_ble_eq_true rfl) ⟨rfl, rfl, Nat.le_of_ble_eq_true rfl, Nat.le_of_ble_eq_true rfl⟩ hcs dL_law_509) hS (fun H locs hW hS => ?_)
  refine lv_aload_n hx hb dL_law_512 rfl (lv_at hl 2 rfl) ?_
  refine lv_aload_n hx hb dL_law_513 rfl (lv_at hl 4 rfl) ?_
  refine lv_iload hx hb dL_law_514 (lv_at hl 0 rfl) ?_
  refine lv_iconst (v := 1) hx hb dL_law_516 (by decide) ?_
  refine lv_iadd hx hb dL_law_517 ?_
  refine va_sld hx hb hX hbl hbA hS (ix_law (k := 1) ex4 hi hL (by decide)) dL_law_518 ?_
  refine lcM hF hW (rV C0 hK hW.2.1 hl.1 (fun _ _ _ => trivial) Bt_b (c_X12_first hF.2.1 h2) cv_X12_first tw1223 (rcX12 hK hW.2.1) (rest := [.int r]) rfl (Nat.le_of_ble_eq_true rfl) ⟨rfl, rfl, Nat.le_of_ble_eq_true rfl, Nat.le_of_ble_eq_true rfl⟩ hcs dL_law_519) hS (fun H locs hW hS => ?_)
  refine lv_icmp_eq (tgt := 1369) hx hb dL_law_522 (by decide) (fun _ => ?_) (fun c => absurd rfl c)
  exact kn σ' μ' _ _ ls hR hW hS hl
set_option maxHeartbeats 4000000 in
set_option maxRecDepth 100000 in
theorem law_orders {p : Program} {l : Launch} {e : Env} {s : State} {m : MethodId} {below : List Frame} {meth : Method} {c : Code} {b L : Nat} {xs : Nat → Int32} {D : va_G} {ca : Nat → ClassId} {ax am : Nat → Nat} {q3 : Nat} {adK adV : Nat → Nat} {cells slots : Nat} {Q : State → Prop} (hC : LX p s m meth c b L xs D ca ax am q3 adK adV) (hcs : cells ≤ room_1.cells ∧ slots ≤ room_1.slots) {σ : Mem} {μ : MMem} (hR : Rel σ μ) {i : Nat} (hi : i + 6 ≤ L) {x4 : Int32} (ex4 : x4 = nI i) {H : Heap} {locs : List Loc} {ls : Array Slot} (hW : LW D ca ax am q3 σ μ H) (hS : va_S (fun q => s.heap.size ≤ q) s.heap H locs) (hl : lv_has ls 8 [(4, .int x4), (3, .ref q3), (2, .ref (am 0)), (1, .ref (ax 0)), (0, .ref b)])
    (kn : ∀ (σ : Mem) (μ : MMem) (H : Heap) (locs : List Loc) (ls : Array Slot), Rel σ μ → LW D ca ax am q3 σ μ H → va_S (fun q => s.heap.size ≤ q) s.heap H locs → lv_has ls 8 [(4, .int x4), (3, .ref q3), (2, .ref (am 0)), (1, .ref (ax 0)), (0, .ref b)] → W p l e room_1 s m #[Value.ref b] below meth c H locs cells slots Q (F0 m 1369 ls [])) : W p l e room_1 s m #[Value.ref b] below meth c H locs cells slots Q (F0 m 527 ls []) := by
  obtain ⟨C0, hK, hF, hB, hX, hbl, hL⟩ := hC
  have hx := C0.1
  have hb := C0.2.1
  have hbA : ¬ (fun q : Nat => s.heap.size ≤ q) b := Nat.not_le.mpr hbl
  obtain ⟨r, σ', μ', h1, h2, hR⟩ := eq_orders hR (xs (x4 + 1).toNatClampNeg) (xs (x4 + 2).toNatClampNeg)
  refine lv_aload_n hx hb dL_law_527 rfl (lv_at hl 3 rfl) ?_
  refine lv_aload_n hx hb dL_law_528 rfl (lv_at hl 4 rfl) ?_
  refine lv_iload hx hb dL_law_529 (lv_at hl 0 rfl) ?_
  refine lv_iconst (v := 1) hx hb dL_law_531 (by decide) ?_
  refine lv_iadd hx hb dL_law_532 ?_
  refine va_sld hx hb hX hbl hbA hS (ix_law (k := 1) ex4 hi hL (by decide)) dL_law_533 ?_
  refine lv_aload_n hx hb dL_law_534 rfl (lv_at hl 4 rfl) ?_
  refine lv_iload hx hb dL_law_535 (lv_at hl 0 rfl) ?_
  refine lv_iconst (v := 2) hx hb dL_law_537 (by decide) ?_
  refine lv_iadd hx hb dL_law_538 ?_
  refine va_sld hx hb hX hbl hbA hS (ix_law (k := 2) ex4 hi hL (by decide)) dL_law_539 ?_
  refine lcX hF hW (rV C0 hK hW.1 hl.1 (fun _ _ _ => trivial) Bt_b (c_X11_orders hF.1 h1) cv_X11_orders tw627 (rcX11 hK hW.1) (rest := []) rfl (Nat.le_of_ble_eq_true rfl) ⟨rfl, rfl, Nat.le_of_ble_eq_true rfl, Nat.le_of_ble_eq_true rfl⟩ hcs dL_law_540) hS (fun H locs hW hS => ?_)
  refine lv_aload_n hx hb dL_law_543 rfl (lv_at hl 2 rfl) ?_
  refine lv_aload_n hx hb dL_law_544 rfl (lv_at hl 4 rfl) ?_
  refine lv_iload hx hb dL_law_545 (lv_at hl 0 rfl) ?_
  refine lv_iconst (v := 1) hx hb dL_law_547 (by decide) ?_
  refine lv_iadd hx hb dL_law_548 ?_
  refine va_sld hx hb hX hbl hbA hS (ix_law (k := 1) ex4 hi hL (by decide)) dL_law_549 ?_
  refine lv_aload_n hx hb dL_law_550 rfl (lv_at hl 4 rfl) ?_
  refine lv_iload hx hb dL_law_551 (lv_at hl 0 rfl) ?_
  refine lv_iconst (v := 2) hx hb dL_law_553 (by decide) ?_
  refine lv_iadd hx hb dL_law_554 ?_
  refine va_sld hx hb hX hbl hbA hS (ix_law (k := 2) ex4 hi hL (by decide)) dL_law_555 ?_
  refine lcM hF hW (rV C0 hK hW.2.1 hl.1 (fun _ _ _ => trivial) Bt_b (c_X12_orders hF.2.1 h2) cv_X12_orders tw1227 (rcX12 hK hW.2.1) (rest := [.int r]) rfl (Nat.le_of_ble_eq_true rfl) ⟨rfl, rfl, Nat.le_of_ble_eq_true rfl, Nat.le_of_ble_eq_true rfl⟩ hcs dL_law_556) hS (fun H locs hW hS => ?_)
  refine lv_icmp_eq (tgt := 1369) hx hb dL_law_559 (by decide) (fun _ => ?_) (fun c => absurd rfl c)
  exact kn σ' μ' _ _ ls hR hW hS hl
set_option maxHeartbeats 4000000 in
set_option maxRecDepth 100000 in
theorem law_hem {p : Program} {l : Launch} {e : Env} {s : State} {m : MethodId} {below : List Frame} {meth : Method} {c : Code} {b L : Nat} {xs : Nat → Int32} {D : va_G} {ca : Nat → ClassId} {ax am : Nat → Nat} {q3 : Nat} {adK adV : Nat → Nat} {cells slots : Nat} {Q : State → Prop} (hC : LX p s m meth c b L xs D ca ax am q3 adK adV) (hcs : cells ≤ room_1.cells ∧ slots ≤ room_1.slots) {σ : Mem} {μ : MMem} (hR : Rel σ μ) {i : Nat} (hi : i + 6 ≤ L) {x4 : Int32} (ex4 : x4 = nI i) {H : Heap} {locs : List Loc} {ls : Array Slot} (hW : LW D ca ax am q3 σ μ H) (hS : va_S (fun q => s.heap.size ≤ q) s.heap H locs) (hl : lv_has ls 8 [(4, .int x4), (3, .ref q3), (2, .ref (am 0)), (1, .ref (ax 0)), (0, .ref b)])
    (kn : ∀ (σ : Mem) (μ : MMem) (H : Heap) (locs : List Loc) (ls : Array Slot), Rel σ μ → LW D ca ax am q3 σ μ H → va_S (fun q => s.heap.size ≤ q) s.heap H locs → lv_has ls 8 [(4, .int x4), (3, .ref q3), (2, .ref (am 0)), (1, .ref (ax 0)), (0, .ref b)] → W p l e room_1 s m #[Value.ref b] below meth c H locs cells slots Q (F0 m 1369 ls [])) : W p l e room_1 s m #[Value.ref b] below meth c H locs cells slots Q (F0 m 564 ls []) := by
  obtain ⟨C0, hK, hF, hB, hX, hbl, hL⟩ := hC
  have hx := C0.1
  have hb := C0.2.1
  have hbA : ¬ (fun q : Nat => s.heap.size ≤ q) b := Nat.not_le.mpr hbl
  obtain ⟨r, μ', h1, h2, hR⟩ := eq_hem hR (xs (x4 + 1).toNatClampNeg) (xs (x4 + 2).toNatClampNeg) (xs (x4 + 3).toNatClampNeg)
  refine lv_aload_n hx hb dL_law_564 rfl (lv_at hl 3 rfl) ?_
  refine lv_aload_n hx hb dL_law_565 rfl (lv_at hl 4 rfl) ?_
  refine lv_iload hx hb dL_law_566 (lv_at hl 0 rfl) ?_
  refine lv_iconst (v := 1) hx hb dL_law_568 (by decide) ?_
  refine lv_iadd hx hb dL_law_569 ?_
  refine va_sld hx hb hX hbl hbA hS (ix_law (k := 1) ex4 hi hL (by decide)) dL_law_570 ?_
  refine lv_aload_n hx hb dL_law_571 rfl (lv_at hl 4 rfl) ?_
  refine lv_iload hx hb dL_law_572 (lv_at hl 0 rfl) ?_
  refine lv_iconst (v := 2) hx hb dL_law_574 (by decide) ?_
  refine lv_iadd hx hb dL_law_575 ?_
  refine va_sld hx hb hX hbl hbA hS (ix_law (k := 2) ex4 hi hL (by decide)) dL_law_576 ?_
  refine lv_aload_n hx hb dL_law_577 rfl (lv_at hl 4 rfl) ?_
  refine lv_iload hx hb dL_law_578 (lv_at hl 0 rfl) ?_
  refine lv_iconst (v := 3) hx hb dL_law_580 (by decide) ?_
  refine lv_iadd hx hb dL_law_581 ?_
  refine va_sld hx hb hX hbl hbA hS (ix_law (k := 3) ex4 hi hL (by decide)) dL_law_582 ?_
  refine lcX hF hW (rV C0 hK hW.1 hl.1 (fun _ _ _ => trivial) Bt_b (c_X11_hem hF.1 h1) cv_X11_hem tw639 (rcX11 hK hW.1) (rest := []) rfl (Nat.le_of_ble_eq_true rfl) ⟨rfl, rfl, Nat.le_of_ble_eq_true rfl, Nat.le_of_ble_eq_true rfl⟩ hcs dL_law_583) hS (fun H locs hW hS => ?_)
  refine lv_aload_n hx hb dL_law_586 rfl (lv_at hl 2 rfl) ?_
  refine lv_aload_n hx hb dL_law_587 rfl (lv_at hl 4 rfl) ?_
  refine lv_iload hx hb dL_law_588 (lv_at hl 0 rfl) ?_
  refine lv_iconst (v := 1) hx hb dL_law_590 (by decide) ?_
  refine lv_iadd hx hb dL_law_591 ?_
  refine va_sld hx hb hX hbl hbA hS (ix_law (k := 1) ex4 hi hL (by decide)) dL_law_592 ?_
  refine lv_aload_n hx hb dL_law_593 rfl (lv_at hl 4 rfl) ?_
  refine lv_iload hx hb dL_law_594 (lv_at hl 0 rfl) ?_
  refine lv_iconst (v := 2) hx hb dL_law_596 (by decide) ?_
  refine lv_iadd hx hb dL_law_597 ?_
  refine va_sld hx hb hX hbl hbA hS (ix_law (k := 2) ex4 hi hL (by decide)) dL_law_598 ?_
  refine lv_aload_n hx hb dL_law_599 rfl (lv_at hl 4 rfl) ?_
  refine lv_iload hx hb dL_law_600 (lv_at hl 0 rfl) ?_
  refine lv_iconst (v := 3) hx hb dL_law_602 (by decide) ?_
  refine lv_iadd hx hb dL_law_603 ?_
  refine va_sld hx hb hX hbl hbA hS (ix_law (k := 3) ex4 hi hL (by decide)) dL_law_604 ?_
  refine lcM hF hW (rV C0 hK hW.2.1 hl.1 (fun _ _ _ => trivial) Bt_b (c_X12_hem hF.2.1 h2) cv_X12_hem tw1235 (rcX12 hK hW.2.1) (rest := [.int r]) rfl (Nat.le_of_ble_eq_true rfl) ⟨rfl, rfl, Nat.le_of_ble_eq_true rfl, Nat.le_of_ble_eq_true rfl⟩ hcs dL_law_605) hS (fun H locs hW hS => ?_)
  refine lv_icmp_eq (tgt := 1369) hx hb dL_law_608 (by decide) (fun _ => ?_) (fun c => absurd rfl c)
  exact kn σ μ' _ _ ls hR hW hS hl
set_option maxHeartbeats 4000000 in
set_option maxRecDepth 100000 in
theorem law_darts {p : Program} {l : Launch} {e : Env} {s : State} {m : MethodId} {below : List Frame} {meth : Method} {c : Code} {b L : Nat} {xs : Nat → Int32} {D : va_G} {ca : Nat → ClassId} {ax am : Nat → Nat} {q3 : Nat} {adK adV : Nat → Nat} {cells slots : Nat} {Q : State → Prop} (hC : LX p s m meth c b L xs D ca ax am q3 adK adV) (hcs : cells ≤ room_1.cells ∧ slots ≤ room_1.slots) {σ : Mem} {μ : MMem} (hR : Rel σ μ) {i : Nat} (hi : i + 6 ≤ L) {x4 : Int32} (ex4 : x4 = nI i) {H : Heap} {locs : List Loc} {ls : Array Slot} (hW : LW D ca ax am q3 σ μ H) (hS : va_S (fun q => s.heap.size ≤ q) s.heap H locs) (hl : lv_has ls 8 [(4, .int x4), (3, .ref q3), (2, .ref (am 0)), (1, .ref (ax 0)), (0, .ref b)])
    (kn : ∀ (σ : Mem) (μ : MMem) (H : Heap) (locs : List Loc) (ls : Array Slot), Rel σ μ → LW D ca ax am q3 σ μ H → va_S (fun q => s.heap.size ≤ q) s.heap H locs → lv_has ls 8 [(4, .int x4), (3, .ref q3), (2, .ref (am 0)), (1, .ref (ax 0)), (0, .ref b)] → W p l e room_1 s m #[Value.ref b] below meth c H locs cells slots Q (F0 m 1369 ls [])) : W p l e room_1 s m #[Value.ref b] below meth c H locs cells slots Q (F0 m 613 ls []) := by
  obtain ⟨C0, hK, hF, hB, hX, hbl, hL⟩ := hC
  have hx := C0.1
  have hb := C0.2.1
  have hbA : ¬ (fun q : Nat => s.heap.size ≤ q) b := Nat.not_le.mpr hbl
  obtain ⟨r, μ', h1, h2, hR⟩ := eq_darts hR (xs (x4 + 1).toNatClampNeg) (xs (x4 + 2).toNatClampNeg) (xs (x4 + 3).toNatClampNeg) (xs (x4 + 4).toNatClampNeg)
  refine lv_aload_n hx hb dL_law_613 rfl (lv_at hl 3 rfl) ?_
  refine lv_aload_n hx hb dL_law_614 rfl (lv_at hl 4 rfl) ?_
  refine lv_iload hx hb dL_law_615 (lv_at hl 0 rfl) ?_
  refine lv_iconst (v := 1) hx hb dL_law_617 (by decide) ?_
  refine lv_iadd hx hb dL_law_618 ?_
  refine va_sld hx hb hX hbl hbA hS (ix_law (k := 1) ex4 hi hL (by decide)) dL_law_619 ?_
  refine lv_aload_n hx hb dL_law_620 rfl (lv_at hl 4 rfl) ?_
  refine lv_iload hx hb dL_law_621 (lv_at hl 0 rfl) ?_
  refine lv_iconst (v := 2) hx hb dL_law_623 (by decide) ?_
  refine lv_iadd hx hb dL_law_624 ?_
  refine va_sld hx hb hX hbl hbA hS (ix_law (k := 2) ex4 hi hL (by decide)) dL_law_625 ?_
  refine lv_aload_n hx hb dL_law_626 rfl (lv_at hl 4 rfl) ?_
  refine lv_iload hx hb dL_law_627 (lv_at hl 0 rfl) ?_
  refine lv_iconst (v := 3) hx hb dL_law_629 (by decide) ?_
  refine lv_iadd hx hb dL_law_630 ?_
  refine va_sld hx hb hX hbl hbA hS (ix_law (k := 3) ex4 hi hL (by decide)) dL_law_631 ?_
  refine lv_aload_n hx hb dL_law_632 rfl (lv_at hl 4 rfl) ?_
  refine lv_iload hx hb dL_law_633 (lv_at hl 0 rfl) ?_
  refine lv_iconst (v := 4) hx hb dL_law_635 (by decide) ?_
  refine lv_iadd hx hb dL_law_636 ?_
  refine va_sld hx hb hX hbl hbA hS (ix_law (k := 4) ex4 hi hL (by decide)) dL_law_637 ?_
  refine lcX hF hW (rV C0 hK hW.1 hl.1 (fun _ _ _ => trivial) Bt_b (c_X11_darts hF.1 h1) cv_X11_darts tw643 (rcX11 hK hW.1) (rest := []) rfl (Nat.le_of_ble_eq_true rfl) ⟨rfl, rfl, Nat.le_of_ble_eq_true rfl, Nat.le_of_ble_eq_true rfl⟩ hcs dL_law_638) hS (fun H locs hW hS => ?_)
  refine lv_aload_n hx hb dL_law_641 rfl (lv_at hl 2 rfl) ?_
  refine lv_aload_n hx hb dL_law_642 rfl (lv_at hl 4 rfl) ?_
  refine lv_iload hx hb dL_law_643 (lv_at hl 0 rfl) ?_
  refine lv_iconst (v := 1) hx hb dL_law_645 (by decide) ?_
  refine lv_iadd hx hb dL_law_646 ?_
  refine va_sld hx hb hX hbl hbA hS (ix_law (k := 1) ex4 hi hL (by decide)) dL_law_647 ?_
  refine lv_aload_n hx hb dL_law_648 rfl (lv_at hl 4 rfl) ?_
  refine lv_iload hx hb dL_law_649 (lv_at hl 0 rfl) ?_
  refine lv_iconst (v := 2) hx hb dL_law_651 (by decide) ?_
  refine lv_iadd hx hb dL_law_652 ?_
  refine va_sld hx hb hX hbl hbA hS (ix_law (k := 2) ex4 hi hL (by decide)) dL_law_653 ?_
  refine lv_aload_n hx hb dL_law_654 rfl (lv_at hl 4 rfl) ?_
  refine lv_iload hx hb dL_law_655 (lv_at hl 0 rfl) ?_
  refine lv_iconst (v := 3) hx hb dL_law_657 (by decide) ?_
  refine lv_iadd hx hb dL_law_658 ?_
  refine va_sld hx hb hX hbl hbA hS (ix_law (k := 3) ex4 hi hL (by decide)) dL_law_659 ?_
  refine lv_aload_n hx hb dL_law_660 rfl (lv_at hl 4 rfl) ?_
  refine lv_iload hx hb dL_law_661 (lv_at hl 0 rfl) ?_
  refine lv_iconst (v := 4) hx hb dL_law_663 (by decide) ?_
  refine lv_iadd hx hb dL_law_664 ?_
  refine va_sld hx hb hX hbl hbA hS (ix_law (k := 4) ex4 hi hL (by decide)) dL_law_665 ?_
  refine lcM hF hW (rV C0 hK hW.2.1 hl.1 (fun _ _ _ => trivial) Bt_b (c_X12_darts hF.2.1 h2) cv_X12_darts tw1241 (rcX12 hK hW.2.1) (rest := [.int r]) rfl (Nat.le_of_ble_eq_true rfl) ⟨rfl, rfl, Nat.le_of_ble_eq_true rfl, Nat.le_of_ble_eq_true rfl⟩ hcs dL_law_666) hS (fun H locs hW hS => ?_)
  refine lv_icmp_eq (tgt := 1369) hx hb dL_law_669 (by decide) (fun _ => ?_) (fun c => absurd rfl c)
  exact kn σ μ' _ _ ls hR hW hS hl
set_option maxHeartbeats 4000000 in
set_option maxRecDepth 100000 in
theorem law_stripes {p : Program} {l : Launch} {e : Env} {s : State} {m : MethodId} {below : List Frame} {meth : Method} {c : Code} {b L : Nat} {xs : Nat → Int32} {D : va_G} {ca : Nat → ClassId} {ax am : Nat → Nat} {q3 : Nat} {adK adV : Nat → Nat} {cells slots : Nat} {Q : State → Prop} (hC : LX p s m meth c b L xs D ca ax am q3 adK adV) (hcs : cells ≤ room_1.cells ∧ slots ≤ room_1.slots) {σ : Mem} {μ : MMem} (hR : Rel σ μ) {i : Nat} (hi : i + 6 ≤ L) {x4 : Int32} (ex4 : x4 = nI i) {H : Heap} {locs : List Loc} {ls : Array Slot} (hW : LW D ca ax am q3 σ μ H) (hS : va_S (fun q => s.heap.size ≤ q) s.heap H locs) (hl : lv_has ls 8 [(4, .int x4), (3, .ref q3), (2, .ref (am 0)), (1, .ref (ax 0)), (0, .ref b)])
    (kn : ∀ (σ : Mem) (μ : MMem) (H : Heap) (locs : List Loc) (ls : Array Slot), Rel σ μ → LW D ca ax am q3 σ μ H → va_S (fun q => s.heap.size ≤ q) s.heap H locs → lv_has ls 8 [(4, .int x4), (3, .ref q3), (2, .ref (am 0)), (1, .ref (ax 0)), (0, .ref b)] → W p l e room_1 s m #[Value.ref b] below meth c H locs cells slots Q (F0 m 1369 ls [])) : W p l e room_1 s m #[Value.ref b] below meth c H locs cells slots Q (F0 m 674 ls []) := by
  obtain ⟨C0, hK, hF, hB, hX, hbl, hL⟩ := hC
  have hx := C0.1
  have hb := C0.2.1
  have hbA : ¬ (fun q : Nat => s.heap.size ≤ q) b := Nat.not_le.mpr hbl
  obtain ⟨r, μ', h1, h2, hR⟩ := eq_stripes hR (xs (x4 + 1).toNatClampNeg) (xs (x4 + 2).toNatClampNeg) (xs (x4 + 3).toNatClampNeg) (xs (x4 + 4).toNatClampNeg)
  refine lv_aload_n hx hb dL_law_674 rfl (lv_at hl 3 rfl) ?_
  refine lv_aload_n hx hb dL_law_675 rfl (lv_at hl 4 rfl) ?_
  refine lv_iload hx hb dL_law_676 (lv_at hl 0 rfl) ?_
  refine lv_iconst (v := 1) hx hb dL_law_678 (by decide) ?_
  refine lv_iadd hx hb dL_law_679 ?_
  refine va_sld hx hb hX hbl hbA hS (ix_law (k := 1) ex4 hi hL (by decide)) dL_law_680 ?_
  refine lv_aload_n hx hb dL_law_681 rfl (lv_at hl 4 rfl) ?_
  refine lv_iload hx hb dL_law_682 (lv_at hl 0 rfl) ?_
  refine lv_iconst (v := 2) hx hb dL_law_684 (by decide) ?_
  refine lv_iadd hx hb dL_law_685 ?_
  refine va_sld hx hb hX hbl hbA hS (ix_law (k := 2) ex4 hi hL (by decide)) dL_law_686 ?_
  refine lv_aload_n hx hb dL_law_687 rfl (lv_at hl 4 rfl) ?_
  refine lv_iload hx hb dL_law_688 (lv_at hl 0 rfl) ?_
  refine lv_iconst (v := 3) hx hb dL_law_690 (by decide) ?_
  refine lv_iadd hx hb dL_law_691 ?_
  refine va_sld hx hb hX hbl hbA hS (ix_law (k := 3) ex4 hi hL (by decide)) dL_law_692 ?_
  refine lv_aload_n hx hb dL_law_693 rfl (lv_at hl 4 rfl) ?_
  refine lv_iload hx hb dL_law_694 (lv_at hl 0 rfl) ?_
  refine lv_iconst (v := 4) hx hb dL_law_696 (by decide) ?_
  refine lv_iadd hx hb dL_law_697 ?_
  refine va_sld hx hb hX hbl hbA hS (ix_law (k := 4) ex4 hi hL (by decide)) dL_law_698 ?_
  refine lcX hF hW (rV C0 hK hW.1 hl.1 (fun _ _ _ => trivial) Bt_b (c_X11_stripes hF.1 h1) cv_X11_stripes tw647 (rcX11 hK hW.1) (rest := []) rfl (Nat.le_of_ble_eq_true rfl) ⟨rfl, rfl, Nat.le_of_ble_eq_true rfl, Nat.le_of_ble_eq_true rfl⟩ hcs dL_law_699) hS (fun H locs hW hS => ?_)
  refine lv_aload_n hx hb dL_law_702 rfl (lv_at hl 2 rfl) ?_
  refine lv_aload_n hx hb dL_law_703 rfl (lv_at hl 4 rfl) ?_
  refine lv_iload hx hb dL_law_704 (lv_at hl 0 rfl) ?_
  refine lv_iconst (v := 1) hx hb dL_law_706 (by decide) ?_
  refine lv_iadd hx hb dL_law_707 ?_
  refine va_sld hx hb hX hbl hbA hS (ix_law (k := 1) ex4 hi hL (by decide)) dL_law_708 ?_
  refine lv_aload_n hx hb dL_law_709 rfl (lv_at hl 4 rfl) ?_
  refine lv_iload hx hb dL_law_710 (lv_at hl 0 rfl) ?_
  refine lv_iconst (v := 2) hx hb dL_law_712 (by decide) ?_
  refine lv_iadd hx hb dL_law_713 ?_
  refine va_sld hx hb hX hbl hbA hS (ix_law (k := 2) ex4 hi hL (by decide)) dL_law_714 ?_
  refine lv_aload_n hx hb dL_law_715 rfl (lv_at hl 4 rfl) ?_
  refine lv_iload hx hb dL_law_716 (lv_at hl 0 rfl) ?_
  refine lv_iconst (v := 3) hx hb dL_law_718 (by decide) ?_
  refine lv_iadd hx hb dL_law_719 ?_
  refine va_sld hx hb hX hbl hbA hS (ix_law (k := 3) ex4 hi hL (by decide)) dL_law_720 ?_
  refine lv_aload_n hx hb dL_law_721 rfl (lv_at hl 4 rfl) ?_
  refine lv_iload hx hb dL_law_722 (lv_at hl 0 rfl) ?_
  refine lv_iconst (v := 4) hx hb dL_law_724 (by decide) ?_
  refine lv_iadd hx hb dL_law_725 ?_
  refine va_sld hx hb hX hbl hbA hS (ix_law (k := 4) ex4 hi hL (by decide)) dL_law_726 ?_
  refine lcM hF hW (rV C0 hK hW.2.1 hl.1 (fun _ _ _ => trivial) Bt_b (c_X12_stripes hF.2.1 h2) cv_X12_stripes tw1245 (rcX12 hK hW.2.1) (rest := [.int r]) rfl (Nat.le_of_ble_eq_true rfl) ⟨rfl, rfl, Nat.le_of_ble_eq_true rfl, Nat.le_of_ble_eq_true rfl⟩ hcs dL_law_727) hS (fun H locs hW hS => ?_)
  refine lv_icmp_eq (tgt := 1369) hx hb dL_law_730 (by decide) (fun _ => ?_) (fun c => absurd rfl c)
  exact kn σ μ' _ _ ls hR hW hS hl
set_option maxHeartbeats 4000000 in
set_option maxRecDepth 100000 in
theorem law_measures {p : Program} {l : Launch} {e : Env} {s : State} {m : MethodId} {below : List Frame} {meth : Method} {c : Code} {b L : Nat} {xs : Nat → Int32} {D : va_G} {ca : Nat → ClassId} {ax am : Nat → Nat} {q3 : Nat} {adK adV : Nat → Nat} {cells slots : Nat} {Q : State → Prop} (hC : LX p s m meth c b L xs D ca ax am q3 adK adV) (hcs : cells ≤ room_1.cells ∧ slots ≤ room_1.slots) {σ : Mem} {μ : MMem} (hR : Rel σ μ) {i : Nat} (hi : i + 6 ≤ L) {x4 : Int32} (ex4 : x4 = nI i) {H : Heap} {locs : List Loc} {ls : Array Slot} (hW : LW D ca ax am q3 σ μ H) (hS : va_S (fun q => s.heap.size ≤ q) s.heap H locs) (hl : lv_has ls 8 [(4, .int x4), (3, .ref q3), (2, .ref (am 0)), (1, .ref (ax 0)), (0, .ref b)])
    (kn : ∀ (σ : Mem) (μ : MMem) (H : Heap) (locs : List Loc) (ls : Array Slot), Rel σ μ → LW D ca ax am q3 σ μ H → va_S (fun q => s.heap.size ≤ q) s.heap H locs → lv_has ls 8 [(4, .int x4), (3, .ref q3), (2, .ref (am 0)), (1, .ref (ax 0)), (0, .ref b)] → W p l e room_1 s m #[Value.ref b] below meth c H locs cells slots Q (F0 m 1369 ls [])) : W p l e room_1 s m #[Value.ref b] below meth c H locs cells slots Q (F0 m 735 ls []) := by
  obtain ⟨C0, hK, hF, hB, hX, hbl, hL⟩ := hC
  have hx := C0.1
  have hb := C0.2.1
  have hbA : ¬ (fun q : Nat => s.heap.size ≤ q) b := Nat.not_le.mpr hbl
  obtain ⟨r, μ', h1, h2, hR⟩ := eq_measures hR (xs (x4 + 1).toNatClampNeg) (xs (x4 + 2).toNatClampNeg)
  refine lv_aload_n hx hb dL_law_735 rfl (lv_at hl 3 rfl) ?_
  refine lv_aload_n hx hb dL_law_736 rfl (lv_at hl 4 rfl) ?_
  refine lv_iload hx hb dL_law_737 (lv_at hl 0 rfl) ?_
  refine lv_iconst (v := 1) hx hb dL_law_739 (by decide) ?_
  refine lv_iadd hx hb dL_law_740 ?_
  refine va_sld hx hb hX hbl hbA hS (ix_law (k := 1) ex4 hi hL (by decide)) dL_law_741 ?_
  refine lv_aload_n hx hb dL_law_742 rfl (lv_at hl 4 rfl) ?_
  refine lv_iload hx hb dL_law_743 (lv_at hl 0 rfl) ?_
  refine lv_iconst (v := 2) hx hb dL_law_745 (by decide) ?_
  refine lv_iadd hx hb dL_law_746 ?_
  refine va_sld hx hb hX hbl hbA hS (ix_law (k := 2) ex4 hi hL (by decide)) dL_law_747 ?_
  refine lcX hF hW (rV C0 hK hW.1 hl.1 (fun _ _ _ => trivial) Bt_b (c_X11_measures hF.1 h1) cv_X11_measures tw651 (rcX11 hK hW.1) (rest := []) rfl (Nat.le_of_ble_eq_true rfl) ⟨rfl, rfl, Nat.le_of_ble_eq_true rfl, Nat.le_of_ble_eq_true rfl⟩ hcs dL_law_748) hS (fun H locs hW hS => ?_)
  refine lv_aload_n hx hb dL_law_751 rfl (lv_at hl 2 rfl) ?_
  refine lv_aload_n hx hb dL_law_752 rfl (lv_at hl 4 rfl) ?_
  refine lv_iload hx hb dL_law_753 (lv_at hl 0 rfl) ?_
  refine lv_iconst (v := 1) hx hb dL_law_755 (by decide) ?_
  refine lv_iadd hx hb dL_law_756 ?_
  refine va_sld hx hb hX hbl hbA hS (ix_law (k := 1) ex4 hi hL (by decide)) dL_law_757 ?_
  refine lv_aload_n hx hb dL_law_758 rfl (lv_at hl 4 rfl) ?_
  refine lv_iload hx hb dL_law_759 (lv_at hl 0 rfl) ?_
  refine lv_iconst (v := 2) hx hb dL_law_761 (by decide) ?_
  refine lv_iadd hx hb dL_law_762 ?_
  refine va_sld hx hb hX hbl hbA hS (ix_law (k := 2) ex4 hi hL (by decide)) dL_law_763 ?_
  refine lcM hF hW (rV C0 hK hW.2.1 hl.1 (fun _ _ _ => trivial) Bt_b (c_X12_measures hF.2.1 h2) cv_X12_measures tw1250 (rcX12 hK hW.2.1) (rest := [.int r]) rfl (Nat.le_of_ble_eq_true rfl) ⟨rfl, rfl, Nat.le_of_ble_eq_true rfl, Nat.le_of_ble_eq_true rfl⟩ hcs dL_law_764) hS (fun H locs hW hS => ?_)
  refine lv_icmp_eq (tgt := 1369) hx hb dL_law_767 (by decide) (fun _ => ?_) (fun c => absurd rfl c)
  exact kn σ μ' _ _ ls hR hW hS hl
set_option maxHeartbeats 4000000 in
set_option maxRecDepth 100000 in
theorem law_sizes {p : Program} {l : Launch} {e : Env} {s : State} {m : MethodId} {below : List Frame} {meth : Method} {c : Code} {b L : Nat} {xs : Nat → Int32} {D : va_G} {ca : Nat → ClassId} {ax am : Nat → Nat} {q3 : Nat} {adK adV : Nat → Nat} {cells slots : Nat} {Q : State → Prop} (hC : LX p s m meth c b L xs D ca ax am q3 adK adV) (hcs : cells ≤ room_1.cells ∧ slots ≤ room_1.slots) {σ : Mem} {μ : MMem} (hR : Rel σ μ) {i : Nat} (hi : i + 6 ≤ L) {x4 : Int32} (ex4 : x4 = nI i) {H : Heap} {locs : List Loc} {ls : Array Slot} (hW : LW D ca ax am q3 σ μ H) (hS : va_S (fun q => s.heap.size ≤ q) s.heap H locs) (hl : lv_has ls 8 [(4, .int x4), (3, .ref q3), (2, .ref (am 0)), (1, .ref (ax 0)), (0, .ref b)])
    (kn : ∀ (σ : Mem) (μ : MMem) (H : Heap) (locs : List Loc) (ls : Array Slot), Rel σ μ → LW D ca ax am q3 σ μ H → va_S (fun q => s.heap.size ≤ q) s.heap H locs → lv_has ls 8 [(4, .int x4), (3, .ref q3), (2, .ref (am 0)), (1, .ref (ax 0)), (0, .ref b)] → W p l e room_1 s m #[Value.ref b] below meth c H locs cells slots Q (F0 m 1369 ls [])) : W p l e room_1 s m #[Value.ref b] below meth c H locs cells slots Q (F0 m 772 ls []) := by
  obtain ⟨C0, hK, hF, hB, hX, hbl, hL⟩ := hC
  have hx := C0.1
  have hb := C0.2.1
  have hbA : ¬ (fun q : Nat => s.heap.size ≤ q) b := Nat.not_le.mpr hbl
  obtain ⟨r, μ', h1, h2, hR⟩ := eq_sizes hR (xs (x4 + 1).toNatClampNeg) (xs (x4 + 2).toNatClampNeg) (xs (x4 + 3).toNatClampNeg)
  refine lv_aload_n hx hb dL_law_772 rfl (lv_at hl 3 rfl) ?_
  refine lv_aload_n hx hb dL_law_773 rfl (lv_at hl 4 rfl) ?_
  refine lv_iload hx hb dL_law_774 (lv_at hl 0 rfl) ?_
  refine lv_iconst (v := 1) hx hb dL_law_776 (by decide) ?_
  refine lv_iadd hx hb dL_law_777 ?_
  refine va_sld hx hb hX hbl hbA hS (ix_law (k := 1) ex4 hi hL (by decide)) dL_law_778 ?_
  refine lv_aload_n hx hb dL_law_779 rfl (lv_at hl 4 rfl) ?_
  refine lv_iload hx hb dL_law_780 (lv_at hl 0 rfl) ?_
  refine lv_iconst (v := 2) hx hb dL_law_782 (by decide) ?_
  refine lv_iadd hx hb dL_law_783 ?_
  refine va_sld hx hb hX hbl hbA hS (ix_law (k := 2) ex4 hi hL (by decide)) dL_law_784 ?_
  refine lv_aload_n hx hb dL_law_785 rfl (lv_at hl 4 rfl) ?_
  refine lv_iload hx hb dL_law_786 (lv_at hl 0 rfl) ?_
  refine lv_iconst (v := 3) hx hb dL_law_788 (by decide) ?_
  refine lv_iadd hx hb dL_law_789 ?_
  refine va_sld hx hb hX hbl hbA hS (ix_law (k := 3) ex4 hi hL (by decide)) dL_law_790 ?_
  refine lcX hF hW (rV C0 hK hW.1 hl.1 (fun _ _ _ => trivial) Bt_b (c_X11_sizes hF.1 h1) cv_X11_sizes tw675 (rcX11 hK hW.1) (rest := []) rfl (Nat.le_of_ble_eq_true rfl) ⟨rfl, rfl, Nat.le_of_ble_eq_true rfl, Nat.le_of_ble_eq_true rfl⟩ hcs dL_law_791) hS (fun H locs hW hS => ?_)
  refine lv_aload_n hx hb dL_law_794 rfl (lv_at hl 2 rfl) ?_
  refine lv_aload_n hx hb dL_law_795 rfl (lv_at hl 4 rfl) ?_
  refine lv_iload hx hb dL_law_796 (lv_at hl 0 rfl) ?_
  refine lv_iconst (v := 1) hx hb dL_law_798 (by decide) ?_
  refine lv_iadd hx hb dL_law_799 ?_
  refine va_sld hx hb hX hbl hbA hS (ix_law (k := 1) ex4 hi hL (by decide)) dL_law_800 ?_
  refine lv_aload_n hx hb dL_law_801 rfl (lv_at hl 4 rfl) ?_
  refine lv_iload hx hb dL_law_802 (lv_at hl 0 rfl) ?_
  refine lv_iconst (v := 2) hx hb dL_law_804 (by decide) ?_
  refine lv_iadd hx hb dL_law_805 ?_
  refine va_sld hx hb hX hbl hbA hS (ix_law (k := 2) ex4 hi hL (by decide)) dL_law_806 ?_
  refine lv_aload_n hx hb dL_law_807 rfl (lv_at hl 4 rfl) ?_
  refine lv_iload hx hb dL_law_808 (lv_at hl 0 rfl) ?_
  refine lv_iconst (v := 3) hx hb dL_law_810 (by decide) ?_
  refine lv_iadd hx hb dL_law_811 ?_
  refine va_sld hx hb hX hbl hbA hS (ix_law (k := 3) ex4 hi hL (by decide)) dL_law_812 ?_
  refine lcM hF hW (rV C0 hK hW.2.1 hl.1 (fun _ _ _ => trivial) Bt_b (c_X12_sizes hF.2.1 h2) cv_X12_sizes tw1254 (rcX12 hK hW.2.1) (rest := [.int r]) rfl (Nat.le_of_ble_eq_true rfl) ⟨rfl, rfl, Nat.le_of_ble_eq_true rfl, Nat.le_of_ble_eq_true rfl⟩ hcs dL_law_813) hS (fun H locs hW hS => ?_)
  refine lv_icmp_eq (tgt := 1369) hx hb dL_law_816 (by decide) (fun _ => ?_) (fun c => absurd rfl c)
  exact kn σ μ' _ _ ls hR hW hS hl
set_option maxHeartbeats 4000000 in
set_option maxRecDepth 100000 in
theorem law_old {p : Program} {l : Launch} {e : Env} {s : State} {m : MethodId} {below : List Frame} {meth : Method} {c : Code} {b L : Nat} {xs : Nat → Int32} {D : va_G} {ca : Nat → ClassId} {ax am : Nat → Nat} {q3 : Nat} {adK adV : Nat → Nat} {cells slots : Nat} {Q : State → Prop} (hC : LX p s m meth c b L xs D ca ax am q3 adK adV) (hcs : cells ≤ room_1.cells ∧ slots ≤ room_1.slots) {σ : Mem} {μ : MMem} (hR : Rel σ μ) {i : Nat} (hi : i + 6 ≤ L) {x4 : Int32} (ex4 : x4 = nI i) {H : Heap} {locs : List Loc} {ls : Array Slot} (hW : LW D ca ax am q3 σ μ H) (hS : va_S (fun q => s.heap.size ≤ q) s.heap H locs) (hl : lv_has ls 8 [(4, .int x4), (3, .ref q3), (2, .ref (am 0)), (1, .ref (ax 0)), (0, .ref b)])
    (kn : ∀ (σ : Mem) (μ : MMem) (H : Heap) (locs : List Loc) (ls : Array Slot), Rel σ μ → LW D ca ax am q3 σ μ H → va_S (fun q => s.heap.size ≤ q) s.heap H locs → lv_has ls 8 [(4, .int x4), (3, .ref q3), (2, .ref (am 0)), (1, .ref (ax 0)), (0, .ref b)] → W p l e room_1 s m #[Value.ref b] below meth c H locs cells slots Q (F0 m 1369 ls [])) : W p l e room_1 s m #[Value.ref b] below meth c H locs cells slots Q (F0 m 821 ls []) := by
  obtain ⟨C0, hK, hF, hB, hX, hbl, hL⟩ := hC
  have hx := C0.1
  have hb := C0.2.1
  have hbA : ¬ (fun q : Nat => s.heap.size ≤ q) b := Nat.not_le.mpr hbl
  obtain ⟨r, μ', h1, h2, hR⟩ := eq_old hR (xs (x4 + 1).toNatClampNeg)
  refine lv_aload_n hx hb dL_law_821 rfl (lv_at hl 3 rfl) ?_
  refine lv_aload_n hx hb dL_law_822 rfl (lv_at hl 4 rfl) ?_
  refine lv_iload hx hb dL_law_823 (lv_at hl 0 rfl) ?_
  refine lv_iconst (v := 1) hx hb dL_law_825 (by decide) ?_
  refine lv_iadd hx hb dL_law_826 ?_
  refine va_sld hx hb hX hbl hbA hS (ix_law (k := 1) ex4 hi hL (by decide)) dL_law_827 ?_
  refine lcX hF hW (rV C0 hK hW.1 hl.1 (fun _ _ _ => trivial) Bt_b (c_X11_old hF.1 h1) cv_X11_old tw701 (rcX11 hK hW.1) (rest := []) rfl (Nat.le_of_ble_eq_true rfl) ⟨rfl, rfl, Nat.le_of_ble_eq_true rfl, Nat.le_of_ble_eq_true rfl⟩ hcs dL_law_828) hS (fun H locs hW hS => ?_)
  refine lv_aload_n hx hb dL_law_831 rfl (lv_at hl 2 rfl) ?_
  refine lv_aload_n hx hb dL_law_832 rfl (lv_at hl 4 rfl) ?_
  refine lv_iload hx hb dL_law_833 (lv_at hl 0 rfl) ?_
  refine lv_iconst (v := 1) hx hb dL_law_835 (by decide) ?_
  refine lv_iadd hx hb dL_law_836 ?_
  refine va_sld hx hb hX hbl hbA hS (ix_law (k := 1) ex4 hi hL (by decide)) dL_law_837 ?_
  refine lcM hF hW (rV C0 hK hW.2.1 hl.1 (fun _ _ _ => trivial) Bt_b (c_X12_old hF.2.1 h2) cv_X12_old tw1267 (rcX12 hK hW.2.1) (rest := [.int r]) rfl (Nat.le_of_ble_eq_true rfl) ⟨rfl, rfl, Nat.le_of_ble_eq_true rfl, Nat.le_of_ble_eq_true rfl⟩ hcs dL_law_838) hS (fun H locs hW hS => ?_)
  refine lv_icmp_eq (tgt := 1369) hx hb dL_law_841 (by decide) (fun _ => ?_) (fun c => absurd rfl c)
  exact kn σ μ' _ _ ls hR hW hS hl
set_option maxHeartbeats 4000000 in
set_option maxRecDepth 100000 in
theorem law_shape {p : Program} {l : Launch} {e : Env} {s : State} {m : MethodId} {below : List Frame} {meth : Method} {c : Code} {b L : Nat} {xs : Nat → Int32} {D : va_G} {ca : Nat → ClassId} {ax am : Nat → Nat} {q3 : Nat} {adK adV : Nat → Nat} {cells slots : Nat} {Q : State → Prop} (hC : LX p s m meth c b L xs D ca ax am q3 adK adV) (hcs : cells ≤ room_1.cells ∧ slots ≤ room_1.slots) {σ : Mem} {μ : MMem} (hR : Rel σ μ) {i : Nat} (hi : i + 6 ≤ L) {x4 : Int32} (ex4 : x4 = nI i) {H : Heap} {locs : List Loc} {ls : Array Slot} (hW : LW D ca ax am q3 σ μ H) (hS : va_S (fun q => s.heap.size ≤ q) s.heap H locs) (hl : lv_has ls 8 [(4, .int x4), (3, .ref q3), (2, .ref (am 0)), (1, .ref (ax 0)), (0, .ref b)])
    (kn : ∀ (σ : Mem) (μ : MMem) (H : Heap) (locs : List Loc) (ls : Array Slot), Rel σ μ → LW D ca ax am q3 σ μ H → va_S (fun q => s.heap.size ≤ q) s.heap H locs → lv_has ls 8 [(4, .int x4), (3, .ref q3), (2, .ref (am 0)), (1, .ref (ax 0)), (0, .ref b)] → W p l e room_1 s m #[Value.ref b] below meth c H locs cells slots Q (F0 m 1369 ls [])) : W p l e room_1 s m #[Value.ref b] below meth c H locs cells slots Q (F0 m 846 ls []) := by
  obtain ⟨C0, hK, hF, hB, hX, hbl, hL⟩ := hC
  have hx := C0.1
  have hb := C0.2.1
  have hbA : ¬ (fun q : Nat => s.heap.size ≤ q) b := Nat.not_le.mpr hbl
  obtain ⟨r, μ', h1, h2, hR⟩ := eq_shape hR (xs (x4 + 1).toNatClampNeg) (xs (x4 + 2).toNatClampNeg)
  refine lv_aload_n hx hb dL_law_846 rfl (lv_at hl 3 rfl) ?_
  refine lv_aload_n hx hb dL_law_847 rfl (lv_at hl 4 rfl) ?_
  refine lv_iload hx hb dL_law_848 (lv_at hl 0 rfl) ?_
  refine lv_iconst (v := 1) hx hb dL_law_850 (by decide) ?_
  refine lv_iadd hx hb dL_law_851 ?_
  refine va_sld hx hb hX hbl hbA hS (ix_law (k := 1) ex4 hi hL (by decide)) dL_law_852 ?_
  refine lv_aload_n hx hb dL_law_853 rfl (lv_at hl 4 rfl) ?_
  refine lv_iload hx hb dL_law_854 (lv_at hl 0 rfl) ?_
  refine lv_iconst (v := 2) hx hb dL_law_856 (by decide) ?_
  refine lv_iadd hx hb dL_law_857 ?_
  refine va_sld hx hb hX hbl hbA hS (ix_law (k := 2) ex4 hi hL (by decide)) dL_law_858 ?_
  refine lcX hF hW (rV C0 hK hW.1 hl.1 (fun _ _ _ => trivial) Bt_b (c_X11_shape hF.1 h1) cv_X11_shape tw709 (rcX11 hK hW.1) (rest := []) rfl (Nat.le_of_ble_eq_true rfl) ⟨rfl, rfl, Nat.le_of_ble_eq_true rfl, Nat.le_of_ble_eq_true rfl⟩ hcs dL_law_859) hS (fun H locs hW hS => ?_)
  refine lv_aload_n hx hb dL_law_862 rfl (lv_at hl 2 rfl) ?_
  refine lv_aload_n hx hb dL_law_863 rfl (lv_at hl 4 rfl) ?_
  refine lv_iload hx hb dL_law_864 (lv_at hl 0 rfl) ?_
  refine lv_iconst (v := 1) hx hb dL_law_866 (by decide) ?_
  refine lv_iadd hx hb dL_law_867 ?_
  refine va_sld hx hb hX hbl hbA hS (ix_law (k := 1) ex4 hi hL (by decide)) dL_law_868 ?_
  refine lv_aload_n hx hb dL_law_869 rfl (lv_at hl 4 rfl) ?_
  refine lv_iload hx hb dL_law_870 (lv_at hl 0 rfl) ?_
  refine lv_iconst (v := 2) hx hb dL_law_872 (by decide) ?_
  refine lv_iadd hx hb dL_law_873 ?_
  refine va_sld hx hb hX hbl hbA hS (ix_law (k := 2) ex4 hi hL (by decide)) dL_law_874 ?_
  refine lcM hF hW (rV C0 hK hW.2.1 hl.1 (fun _ _ _ => trivial) Bt_b (c_X12_shape hF.2.1 h2) cv_X12_shape tw1271 (rcX12 hK hW.2.1) (rest := [.int r]) rfl (Nat.le_of_ble_eq_true rfl) ⟨rfl, rfl, Nat.le_of_ble_eq_true rfl, Nat.le_of_ble_eq_true rfl⟩ hcs dL_law_875) hS (fun H locs hW hS => ?_)
  refine lv_icmp_eq (tgt := 1369) hx hb dL_law_878 (by decide) (fun _ => ?_) (fun c => absurd rfl c)
  exact kn σ μ' _ _ ls hR hW hS hl
set_option maxHeartbeats 4000000 in
set_option maxRecDepth 100000 in
theorem law_seeded {p : Program} {l : Launch} {e : Env} {s : State} {m : MethodId} {below : List Frame} {meth : Method} {c : Code} {b L : Nat} {xs : Nat → Int32} {D : va_G} {ca : Nat → ClassId} {ax am : Nat → Nat} {q3 : Nat} {adK adV : Nat → Nat} {cells slots : Nat} {Q : State → Prop} (hC : LX p s m meth c b L xs D ca ax am q3 adK adV) (hcs : cells ≤ room_1.cells ∧ slots ≤ room_1.slots) {σ : Mem} {μ : MMem} (hR : Rel σ μ) {i : Nat} (hi : i + 6 ≤ L) {x4 : Int32} (ex4 : x4 = nI i) {H : Heap} {locs : List Loc} {ls : Array Slot} (hW : LW D ca ax am q3 σ μ H) (hS : va_S (fun q => s.heap.size ≤ q) s.heap H locs) (hl : lv_has ls 8 [(4, .int x4), (3, .ref q3), (2, .ref (am 0)), (1, .ref (ax 0)), (0, .ref b)])
    (kn : ∀ (σ : Mem) (μ : MMem) (H : Heap) (locs : List Loc) (ls : Array Slot), Rel σ μ → LW D ca ax am q3 σ μ H → va_S (fun q => s.heap.size ≤ q) s.heap H locs → lv_has ls 8 [(4, .int x4), (3, .ref q3), (2, .ref (am 0)), (1, .ref (ax 0)), (0, .ref b)] → W p l e room_1 s m #[Value.ref b] below meth c H locs cells slots Q (F0 m 1369 ls [])) : W p l e room_1 s m #[Value.ref b] below meth c H locs cells slots Q (F0 m 883 ls []) := by
  obtain ⟨C0, hK, hF, hB, hX, hbl, hL⟩ := hC
  have hx := C0.1
  have hb := C0.2.1
  have hbA : ¬ (fun q : Nat => s.heap.size ≤ q) b := Nat.not_le.mpr hbl
  obtain ⟨r, σ', μ', h1, h2, hR⟩ := eq_seeded hR (xs (x4 + 1).toNatClampNeg) (xs (x4 + 2).toNatClampNeg) (xs (x4 + 3).toNatClampNeg)
  refine lv_aload_n hx hb dL_law_883 rfl (lv_at hl 3 rfl) ?_
  refine lv_aload_n hx hb dL_law_884 rfl (lv_at hl 4 rfl) ?_
  refine lv_iload hx hb dL_law_885 (lv_at hl 0 rfl) ?_
  refine lv_iconst (v := 1) hx hb dL_law_887 (by decide) ?_
  refine lv_iadd hx hb dL_law_888 ?_
  refine va_sld hx hb hX hbl hbA hS (ix_law (k := 1) ex4 hi hL (by decide)) dL_law_889 ?_
  refine lv_aload_n hx hb dL_law_890 rfl (lv_at hl 4 rfl) ?_
  refine lv_iload hx hb dL_law_891 (lv_at hl 0 rfl) ?_
  refine lv_iconst (v := 2) hx hb dL_law_893 (by decide) ?_
  refine lv_iadd hx hb dL_law_894 ?_
  refine va_sld hx hb hX hbl hbA hS (ix_law (k := 2) ex4 hi hL (by decide)) dL_law_895 ?_
  refine lv_aload_n hx hb dL_law_896 rfl (lv_at hl 4 rfl) ?_
  refine lv_iload hx hb dL_law_897 (lv_at hl 0 rfl) ?_
  refine lv_iconst (v := 3) hx hb dL_law_899 (by decide) ?_
  refine lv_iadd hx hb dL_law_900 ?_
  refine va_sld hx hb hX hbl hbA hS (ix_law (k := 3) ex4 hi hL (by decide)) dL_law_901 ?_
  refine lcX hF hW (rV C0 hK hW.1 hl.1 (fun _ _ _ => trivial) Bt_b (c_X11_seeded hF.1 h1) cv_X11_seeded tw713 (rcX11 hK hW.1) (rest := []) rfl (Nat.le_of_ble_eq_true rfl) ⟨rfl, rfl, Nat.le_of_ble_eq_true rfl, Nat.le_of_ble_eq_true rfl⟩ hcs dL_law_902) hS (fun H locs hW hS => ?_)
  refine lv_aload_n hx hb dL_law_905 rfl (lv_at hl 2 rfl) ?_
  refine lv_aload_n hx hb dL_law_906 rfl (lv_at hl 4 rfl) ?_
  refine lv_iload hx hb dL_law_907 (lv_at hl 0 rfl) ?_
  refine lv_iconst (v := 1) hx hb dL_law_909 (by decide) ?_
  refine lv_iadd hx hb dL_law_910 ?_
  refine va_sld hx hb hX hbl hbA hS (ix_law (k := 1) ex4 hi hL (by decide)) dL_law_911 ?_
  refine lv_aload_n hx hb dL_law_912 rfl (lv_at hl 4 rfl) ?_
  refine lv_iload hx hb dL_law_913 (lv_at hl 0 rfl) ?_
  refine lv_iconst (v := 2) hx hb dL_law_915 (by decide) ?_
  refine lv_iadd hx hb dL_law_916 ?_
  refine va_sld hx hb hX hbl hbA hS (ix_law (k := 2) ex4 hi hL (by decide)) dL_law_917 ?_
  refine lv_aload_n hx hb dL_law_918 rfl (lv_at hl 4 rfl) ?_
  refine lv_iload hx hb dL_law_919 (lv_at hl 0 rfl) ?_
  refine lv_iconst (v := 3) hx hb dL_law_921 (by decide) ?_
  refine lv_iadd hx hb dL_law_922 ?_
  refine va_sld hx hb hX hbl hbA hS (ix_law (k := 3) ex4 hi hL (by decide)) dL_law_923 ?_
  refine lcM hF hW (rV C0 hK hW.2.1 hl.1 (fun _ _ _ => trivial) Bt_b (c_X12_seeded hF.2.1 h2) cv_X12_seeded tw1275 (rcX12 hK hW.2.1) (rest := [.int r]) rfl (Nat.le_of_ble_eq_true rfl) ⟨rfl, rfl, Nat.le_of_ble_eq_true rfl, Nat.le_of_ble_eq_true rfl⟩ hcs dL_law_924) hS (fun H locs hW hS => ?_)
  refine lv_icmp_eq (tgt := 1369) hx hb dL_law_927 (by decide) (fun _ => ?_) (fun c => absurd rfl c)
  exact kn σ' μ' _ _ ls hR hW hS hl
set_option maxHeartbeats 4000000 in
set_option maxRecDepth 100000 in
theorem law_judge {p : Program} {l : Launch} {e : Env} {s : State} {m : MethodId} {below : List Frame} {meth : Method} {c : Code} {b L : Nat} {xs : Nat → Int32} {D : va_G} {ca : Nat → ClassId} {ax am : Nat → Nat} {q3 : Nat} {adK adV : Nat → Nat} {cells slots : Nat} {Q : State → Prop} (hC : LX p s m meth c b L xs D ca ax am q3 adK adV) (hcs : cells ≤ room_1.cells ∧ slots ≤ room_1.slots) {σ : Mem} {μ : MMem} (hR : Rel σ μ) {i : Nat} (hi : i + 6 ≤ L) {x4 : Int32} (ex4 : x4 = nI i) {H : Heap} {locs : List Loc} {ls : Array Slot} (hW : LW D ca ax am q3 σ μ H) (hS : va_S (fun q => s.heap.size ≤ q) s.heap H locs) (hl : lv_has ls 8 [(4, .int x4), (3, .ref q3), (2, .ref (am 0)), (1, .ref (ax 0)), (0, .ref b)])
    (kn : ∀ (σ : Mem) (μ : MMem) (H : Heap) (locs : List Loc) (ls : Array Slot), Rel σ μ → LW D ca ax am q3 σ μ H → va_S (fun q => s.heap.size ≤ q) s.heap H locs → lv_has ls 8 [(4, .int x4), (3, .ref q3), (2, .ref (am 0)), (1, .ref (ax 0)), (0, .ref b)] → W p l e room_1 s m #[Value.ref b] below meth c H locs cells slots Q (F0 m 1369 ls [])) : W p l e room_1 s m #[Value.ref b] below meth c H locs cells slots Q (F0 m 932 ls []) := by
  obtain ⟨C0, hK, hF, hB, hX, hbl, hL⟩ := hC
  have hx := C0.1
  have hb := C0.2.1
  have hbA : ¬ (fun q : Nat => s.heap.size ≤ q) b := Nat.not_le.mpr hbl
  obtain ⟨r, μ', h1, h2, hR⟩ := eq_judge hR (xs (x4 + 1).toNatClampNeg) (xs (x4 + 2).toNatClampNeg)
  refine lv_aload_n hx hb dL_law_932 rfl (lv_at hl 3 rfl) ?_
  refine lv_aload_n hx hb dL_law_933 rfl (lv_at hl 4 rfl) ?_
  refine lv_iload hx hb dL_law_934 (lv_at hl 0 rfl) ?_
  refine lv_iconst (v := 1) hx hb dL_law_936 (by decide) ?_
  refine lv_iadd hx hb dL_law_937 ?_
  refine va_sld hx hb hX hbl hbA hS (ix_law (k := 1) ex4 hi hL (by decide)) dL_law_938 ?_
  refine lv_aload_n hx hb dL_law_939 rfl (lv_at hl 4 rfl) ?_
  refine lv_iload hx hb dL_law_940 (lv_at hl 0 rfl) ?_
  refine lv_iconst (v := 2) hx hb dL_law_942 (by decide) ?_
  refine lv_iadd hx hb dL_law_943 ?_
  refine va_sld hx hb hX hbl hbA hS (ix_law (k := 2) ex4 hi hL (by decide)) dL_law_944 ?_
  refine lcX hF hW (rV C0 hK hW.1 hl.1 (fun _ _ _ => trivial) Bt_b (c_X11_judge hF.1 h1) cv_X11_judge tw725 (rcX11 hK hW.1) (rest := []) rfl (Nat.le_of_ble_eq_true rfl) ⟨rfl, rfl, Nat.le_of_ble_eq_true rfl, Nat.le_of_ble_eq_true rfl⟩ hcs dL_law_945) hS (fun H locs hW hS => ?_)
  refine lv_aload_n hx hb dL_law_948 rfl (lv_at hl 2 rfl) ?_
  refine lv_aload_n hx hb dL_law_949 rfl (lv_at hl 4 rfl) ?_
  refine lv_iload hx hb dL_law_950 (lv_at hl 0 rfl) ?_
  refine lv_iconst (v := 1) hx hb dL_law_952 (by decide) ?_
  refine lv_iadd hx hb dL_law_953 ?_
  refine va_sld hx hb hX hbl hbA hS (ix_law (k := 1) ex4 hi hL (by decide)) dL_law_954 ?_
  refine lv_aload_n hx hb dL_law_955 rfl (lv_at hl 4 rfl) ?_
  refine lv_iload hx hb dL_law_956 (lv_at hl 0 rfl) ?_
  refine lv_iconst (v := 2) hx hb dL_law_958 (by decide) ?_
  refine lv_iadd hx hb dL_law_959 ?_
  refine va_sld hx hb hX hbl hbA hS (ix_law (k := 2) ex4 hi hL (by decide)) dL_law_960 ?_
  refine lcM hF hW (rV C0 hK hW.2.1 hl.1 (fun _ _ _ => trivial) Bt_b (c_X12_judge hF.2.1 h2) cv_X12_judge tw1286 (rcX12 hK hW.2.1) (rest := [.int r]) rfl (Nat.le_of_ble_eq_true rfl) ⟨rfl, rfl, Nat.le_of_ble_eq_true rfl, Nat.le_of_ble_eq_true rfl⟩ hcs dL_law_961) hS (fun H locs hW hS => ?_)
  refine lv_icmp_eq (tgt := 1369) hx hb dL_law_964 (by decide) (fun _ => ?_) (fun c => absurd rfl c)
  exact kn σ μ' _ _ ls hR hW hS hl
set_option maxHeartbeats 4000000 in
set_option maxRecDepth 100000 in
theorem law_image {p : Program} {l : Launch} {e : Env} {s : State} {m : MethodId} {below : List Frame} {meth : Method} {c : Code} {b L : Nat} {xs : Nat → Int32} {D : va_G} {ca : Nat → ClassId} {ax am : Nat → Nat} {q3 : Nat} {adK adV : Nat → Nat} {cells slots : Nat} {Q : State → Prop} (hC : LX p s m meth c b L xs D ca ax am q3 adK adV) (hcs : cells ≤ room_1.cells ∧ slots ≤ room_1.slots) {σ : Mem} {μ : MMem} (hR : Rel σ μ) {i : Nat} (hi : i + 6 ≤ L) {x4 : Int32} (ex4 : x4 = nI i) {H : Heap} {locs : List Loc} {ls : Array Slot} (hW : LW D ca ax am q3 σ μ H) (hS : va_S (fun q => s.heap.size ≤ q) s.heap H locs) (hl : lv_has ls 8 [(4, .int x4), (3, .ref q3), (2, .ref (am 0)), (1, .ref (ax 0)), (0, .ref b)])
    (kn : ∀ (σ : Mem) (μ : MMem) (H : Heap) (locs : List Loc) (ls : Array Slot), Rel σ μ → LW D ca ax am q3 σ μ H → va_S (fun q => s.heap.size ≤ q) s.heap H locs → lv_has ls 8 [(4, .int x4), (3, .ref q3), (2, .ref (am 0)), (1, .ref (ax 0)), (0, .ref b)] → W p l e room_1 s m #[Value.ref b] below meth c H locs cells slots Q (F0 m 1369 ls [])) : W p l e room_1 s m #[Value.ref b] below meth c H locs cells slots Q (F0 m 969 ls []) := by
  obtain ⟨C0, hK, hF, hB, hX, hbl, hL⟩ := hC
  have hx := C0.1
  have hb := C0.2.1
  have hbA : ¬ (fun q : Nat => s.heap.size ≤ q) b := Nat.not_le.mpr hbl
  obtain ⟨r, σ', μ', h1, h2, hR⟩ := eq_image hR 
  refine lv_aload_n hx hb dL_law_969 rfl (lv_at hl 3 rfl) ?_
  refine lcX hF hW (rV C0 hK hW.1 hl.1 (fun _ _ _ => trivial) Bt_b (c_X11_image hF.1 h1) cv_X11_image tw734 (rcX11 hK hW.1) (rest := []) rfl (Nat.le_of_ble_eq_true rfl) ⟨rfl, rfl, Nat.le_of_ble_eq_true rfl, Nat.le_of_ble_eq_true rfl⟩ hcs dL_law_970) hS (fun H locs hW hS => ?_)
  refine lv_aload_n hx hb dL_law_973 rfl (lv_at hl 2 rfl) ?_
  refine lcM hF hW (rV C0 hK hW.2.1 hl.1 (fun _ _ _ => trivial) Bt_b (c_X12_image hF.2.1 h2) cv_X12_image tw1062 (rcX12 hK hW.2.1) (rest := [.int r]) rfl (Nat.le_of_ble_eq_true rfl) ⟨rfl, rfl, Nat.le_of_ble_eq_true rfl, Nat.le_of_ble_eq_true rfl⟩ hcs dL_law_974) hS (fun H locs hW hS => ?_)
  refine lv_icmp_eq (tgt := 1369) hx hb dL_law_977 (by decide) (fun _ => ?_) (fun c => absurd rfl c)
  exact kn σ' μ' _ _ ls hR hW hS hl
set_option maxHeartbeats 4000000 in
set_option maxRecDepth 100000 in
theorem law_restore {p : Program} {l : Launch} {e : Env} {s : State} {m : MethodId} {below : List Frame} {meth : Method} {c : Code} {b L : Nat} {xs : Nat → Int32} {D : va_G} {ca : Nat → ClassId} {ax am : Nat → Nat} {q3 : Nat} {adK adV : Nat → Nat} {cells slots : Nat} {Q : State → Prop} (hC : LX p s m meth c b L xs D ca ax am q3 adK adV) (hcs : cells ≤ room_1.cells ∧ slots ≤ room_1.slots) {σ : Mem} {μ : MMem} (hR : Rel σ μ) {i : Nat} (hi : i + 6 ≤ L) {x4 : Int32} (ex4 : x4 = nI i) {H : Heap} {locs : List Loc} {ls : Array Slot} (hW : LW D ca ax am q3 σ μ H) (hS : va_S (fun q => s.heap.size ≤ q) s.heap H locs) (hl : lv_has ls 8 [(4, .int x4), (3, .ref q3), (2, .ref (am 0)), (1, .ref (ax 0)), (0, .ref b)])
    (kn : ∀ (σ : Mem) (μ : MMem) (H : Heap) (locs : List Loc) (ls : Array Slot), Rel σ μ → LW D ca ax am q3 σ μ H → va_S (fun q => s.heap.size ≤ q) s.heap H locs → lv_has ls 8 [(4, .int x4), (3, .ref q3), (2, .ref (am 0)), (1, .ref (ax 0)), (0, .ref b)] → W p l e room_1 s m #[Value.ref b] below meth c H locs cells slots Q (F0 m 1369 ls [])) : W p l e room_1 s m #[Value.ref b] below meth c H locs cells slots Q (F0 m 982 ls []) := by
  obtain ⟨C0, hK, hF, hB, hX, hbl, hL⟩ := hC
  have hx := C0.1
  have hb := C0.2.1
  have hbA : ¬ (fun q : Nat => s.heap.size ≤ q) b := Nat.not_le.mpr hbl
  obtain ⟨r, σ', μ', h1, h2, hR⟩ := eq_restore hR 
  refine lv_aload_n hx hb dL_law_982 rfl (lv_at hl 3 rfl) ?_
  refine lcX hF hW (rV C0 hK hW.1 hl.1 (fun _ _ _ => trivial) Bt_b (c_X11_restore hF.1 h1) cv_X11_restore tw738 (rcX11 hK hW.1) (rest := []) rfl (Nat.le_of_ble_eq_true rfl) ⟨rfl, rfl, Nat.le_of_ble_eq_true rfl, Nat.le_of_ble_eq_true rfl⟩ hcs dL_law_983) hS (fun H locs hW hS => ?_)
  refine lv_aload_n hx hb dL_law_986 rfl (lv_at hl 2 rfl) ?_
  refine lcM hF hW (rV C0 hK hW.2.1 hl.1 (fun _ _ _ => trivial) Bt_b (c_X12_restore hF.2.1 h2) cv_X12_restore tw1074 (rcX12 hK hW.2.1) (rest := [.int r]) rfl (Nat.le_of_ble_eq_true rfl) ⟨rfl, rfl, Nat.le_of_ble_eq_true rfl, Nat.le_of_ble_eq_true rfl⟩ hcs dL_law_987) hS (fun H locs hW hS => ?_)
  refine lv_icmp_eq (tgt := 1369) hx hb dL_law_990 (by decide) (fun _ => ?_) (fun c => absurd rfl c)
  exact kn σ' μ' _ _ ls hR hW hS hl
set_option maxHeartbeats 4000000 in
set_option maxRecDepth 100000 in
theorem law_count {p : Program} {l : Launch} {e : Env} {s : State} {m : MethodId} {below : List Frame} {meth : Method} {c : Code} {b L : Nat} {xs : Nat → Int32} {D : va_G} {ca : Nat → ClassId} {ax am : Nat → Nat} {q3 : Nat} {adK adV : Nat → Nat} {cells slots : Nat} {Q : State → Prop} (hC : LX p s m meth c b L xs D ca ax am q3 adK adV) (hcs : cells ≤ room_1.cells ∧ slots ≤ room_1.slots) {σ : Mem} {μ : MMem} (hR : Rel σ μ) {i : Nat} (hi : i + 6 ≤ L) {x4 : Int32} (ex4 : x4 = nI i) {H : Heap} {locs : List Loc} {ls : Array Slot} (hW : LW D ca ax am q3 σ μ H) (hS : va_S (fun q => s.heap.size ≤ q) s.heap H locs) (hl : lv_has ls 8 [(4, .int x4), (3, .ref q3), (2, .ref (am 0)), (1, .ref (ax 0)), (0, .ref b)])
    (kn : ∀ (σ : Mem) (μ : MMem) (H : Heap) (locs : List Loc) (ls : Array Slot), Rel σ μ → LW D ca ax am q3 σ μ H → va_S (fun q => s.heap.size ≤ q) s.heap H locs → lv_has ls 8 [(4, .int x4), (3, .ref q3), (2, .ref (am 0)), (1, .ref (ax 0)), (0, .ref b)] → W p l e room_1 s m #[Value.ref b] below meth c H locs cells slots Q (F0 m 1369 ls [])) : W p l e room_1 s m #[Value.ref b] below meth c H locs cells slots Q (F0 m 995 ls []) := by
  obtain ⟨C0, hK, hF, hB, hX, hbl, hL⟩ := hC
  have hx := C0.1
  have hb := C0.2.1
  have hbA : ¬ (fun q : Nat => s.heap.size ≤ q) b := Nat.not_le.mpr hbl
  obtain ⟨r, μ', h1, h2, hR⟩ := eq_count hR (xs (x4 + 1).toNatClampNeg)
  refine lv_aload_n hx hb dL_law_995 rfl (lv_at hl 3 rfl) ?_
  refine lv_aload_n hx hb dL_law_996 rfl (lv_at hl 4 rfl) ?_
  refine lv_iload hx hb dL_law_997 (lv_at hl 0 rfl) ?_
  refine lv_iconst (v := 1) hx hb dL_law_999 (by decide) ?_
  refine lv_iadd hx hb dL_law_1000 ?_
  refine va_sld hx hb hX hbl hbA hS (ix_law (k := 1) ex4 hi hL (by decide)) dL_law_1001 ?_
  refine lcX hF hW (rV C0 hK hW.1 hl.1 (fun _ _ _ => trivial) Bt_b (c_X11_count hF.1 h1) cv_X11_count tw742 (rcX11 hK hW.1) (rest := []) rfl (Nat.le_of_ble_eq_true rfl) ⟨rfl, rfl, Nat.le_of_ble_eq_true rfl, Nat.le_of_ble_eq_true rfl⟩ hcs dL_law_1002) hS (fun H locs hW hS => ?_)
  refine lv_aload_n hx hb dL_law_1005 rfl (lv_at hl 2 rfl) ?_
  refine lv_aload_n hx hb dL_law_1006 rfl (lv_at hl 4 rfl) ?_
  refine lv_iload hx hb dL_law_1007 (lv_at hl 0 rfl) ?_
  refine lv_iconst (v := 1) hx hb dL_law_1009 (by decide) ?_
  refine lv_iadd hx hb dL_law_1010 ?_
  refine va_sld hx hb hX hbl hbA hS (ix_law (k := 1) ex4 hi hL (by decide)) dL_law_1011 ?_
  refine lcM hF hW (rV C0 hK hW.2.1 hl.1 (fun _ _ _ => trivial) Bt_b (c_X12_count hF.2.1 h2) cv_X12_count tw1297 (rcX12 hK hW.2.1) (rest := [.int r]) rfl (Nat.le_of_ble_eq_true rfl) ⟨rfl, rfl, Nat.le_of_ble_eq_true rfl, Nat.le_of_ble_eq_true rfl⟩ hcs dL_law_1012) hS (fun H locs hW hS => ?_)
  refine lv_icmp_eq (tgt := 1369) hx hb dL_law_1015 (by decide) (fun _ => ?_) (fun c => absurd rfl c)
  exact kn σ μ' _ _ ls hR hW hS hl
set_option maxHeartbeats 4000000 in
set_option maxRecDepth 100000 in
theorem law_keep {p : Program} {l : Launch} {e : Env} {s : State} {m : MethodId} {below : List Frame} {meth : Method} {c : Code} {b L : Nat} {xs : Nat → Int32} {D : va_G} {ca : Nat → ClassId} {ax am : Nat → Nat} {q3 : Nat} {adK adV : Nat → Nat} {cells slots : Nat} {Q : State → Prop} (hC : LX p s m meth c b L xs D ca ax am q3 adK adV) (hcs : cells ≤ room_1.cells ∧ slots ≤ room_1.slots) {σ : Mem} {μ : MMem} (hR : Rel σ μ) {i : Nat} (hi : i + 6 ≤ L) {x4 : Int32} (ex4 : x4 = nI i) {H : Heap} {locs : List Loc} {ls : Array Slot} (hW : LW D ca ax am q3 σ μ H) (hS : va_S (fun q => s.heap.size ≤ q) s.heap H locs) (hl : lv_has ls 8 [(4, .int x4), (3, .ref q3), (2, .ref (am 0)), (1, .ref (ax 0)), (0, .ref b)])
    (kn : ∀ (σ : Mem) (μ : MMem) (H : Heap) (locs : List Loc) (ls : Array Slot), Rel σ μ → LW D ca ax am q3 σ μ H → va_S (fun q => s.heap.size ≤ q) s.heap H locs → lv_has ls 8 [(4, .int x4), (3, .ref q3), (2, .ref (am 0)), (1, .ref (ax 0)), (0, .ref b)] → W p l e room_1 s m #[Value.ref b] below meth c H locs cells slots Q (F0 m 1369 ls [])) : W p l e room_1 s m #[Value.ref b] below meth c H locs cells slots Q (F0 m 1020 ls []) := by
  obtain ⟨C0, hK, hF, hB, hX, hbl, hL⟩ := hC
  have hx := C0.1
  have hb := C0.2.1
  have hbA : ¬ (fun q : Nat => s.heap.size ≤ q) b := Nat.not_le.mpr hbl
  obtain ⟨r, σ', μ', h1, h2, hR⟩ := eq_keep hR (xs (x4 + 1).toNatClampNeg) (xs (x4 + 2).toNatClampNeg) (xs (x4 + 3).toNatClampNeg) (xs (x4 + 4).toNatClampNeg)
  refine lv_aload_n hx hb dL_law_1020 rfl (lv_at hl 3 rfl) ?_
  refine lv_aload_n hx hb dL_law_1021 rfl (lv_at hl 4 rfl) ?_
  refine lv_iload hx hb dL_law_1022 (lv_at hl 0 rfl) ?_
  refine lv_iconst (v := 1) hx hb dL_law_1024 (by decide) ?_
  refine lv_iadd hx hb dL_law_1025 ?_
  refine va_sld hx hb hX hbl hbA hS (ix_law (k := 1) ex4 hi hL (by decide)) dL_law_1026 ?_
  refine lv_aload_n hx hb dL_law_1027 rfl (lv_at hl 4 rfl) ?_
  refine lv_iload hx hb dL_law_1028 (lv_at hl 0 rfl) ?_
  refine lv_iconst (v := 2) hx hb dL_law_1030 (by decide) ?_
  refine lv_iadd hx hb dL_law_1031 ?_
  refine va_sld hx hb hX hbl hbA hS (ix_law (k := 2) ex4 hi hL (by decide)) dL_law_1032 ?_
  refine lv_aload_n hx hb dL_law_1033 rfl (lv_at hl 4 rfl) ?_
  refine lv_iload hx hb dL_law_1034 (lv_at hl 0 rfl) ?_
  refine lv_iconst (v := 3) hx hb dL_law_1036 (by decide) ?_
  refine lv_iadd hx hb dL_law_1037 ?_
  refine va_sld hx hb hX hbl hbA hS (ix_law (k := 3) ex4 hi hL (by decide)) dL_law_1038 ?_
  refine lv_aload_n hx hb dL_law_1039 rfl (lv_at hl 4 rfl) ?_
  refine lv_iload hx hb dL_law_1040 (lv_at hl 0 rfl) ?_
  refine lv_iconst (v := 4) hx hb dL_law_1042 (by decide) ?_
  refine lv_iadd hx hb dL_law_1043 ?_
  refine va_sld hx hb hX hbl hbA hS (ix_law (k := 4) ex4 hi hL (by decide)) dL_law_1044 ?_
  refine lcX hF hW (rV C0 hK hW.1 hl.1 (fun _ _ _ => trivial) Bt_b (c_X11_keep hF.1 h1) cv_X11_keep tw750 (rcX11 hK hW.1) (rest := []) rfl (Nat.le_of_ble_eq_true rfl) ⟨rfl, rfl, Nat.le_of_ble_eq_true rfl, Nat.le_of_ble_eq_true rfl⟩ hcs dL_law_1045) hS (fun H locs hW hS => ?_)
  refine lv_aload_n hx hb dL_law_1048 rfl (lv_at hl 2 rfl) ?_
  refine lv_aload_n hx hb dL_law_1049 rfl (lv_at hl 4 rfl) ?_
  refine lv_iload hx hb dL_law_1050 (lv_at hl 0 rfl) ?_
  refine lv_iconst (v := 1) hx hb dL_law_1052 (by decide) ?_
  refine lv_iadd hx hb dL_law_1053 ?_
  refine va_sld hx hb hX hbl hbA hS (ix_law (k := 1) ex4 hi hL (by decide)) dL_law_1054 ?_
  refine lv_aload_n hx hb dL_law_1055 rfl (lv_at hl 4 rfl) ?_
  refine lv_iload hx hb dL_law_1056 (lv_at hl 0 rfl) ?_
  refine lv_iconst (v := 2) hx hb dL_law_1058 (by decide) ?_
  refine lv_iadd hx hb dL_law_1059 ?_
  refine va_sld hx hb hX hbl hbA hS (ix_law (k := 2) ex4 hi hL (by decide)) dL_law_1060 ?_
  refine lv_aload_n hx hb dL_law_1061 rfl (lv_at hl 4 rfl) ?_
  refine lv_iload hx hb dL_law_1062 (lv_at hl 0 rfl) ?_
  refine lv_iconst (v := 3) hx hb dL_law_1064 (by decide) ?_
  refine lv_iadd hx hb dL_law_1065 ?_
  refine va_sld hx hb hX hbl hbA hS (ix_law (k := 3) ex4 hi hL (by decide)) dL_law_1066 ?_
  refine lv_aload_n hx hb dL_law_1067 rfl (lv_at hl 4 rfl) ?_
  refine lv_iload hx hb dL_law_1068 (lv_at hl 0 rfl) ?_
  refine lv_iconst (v := 4) hx hb dL_law_1070 (by decide) ?_
  refine lv_iadd hx hb dL_law_1071 ?_
  refine va_sld hx hb hX hbl hbA hS (ix_law (k := 4) ex4 hi hL (by decide)) dL_law_1072 ?_
  refine lcM hF hW (rV C0 hK hW.2.1 hl.1 (fun _ _ _ => trivial) Bt_b (c_X12_keep hF.2.1 h2) cv_X12_keep tw1301 (rcX12 hK hW.2.1) (rest := [.int r]) rfl (Nat.le_of_ble_eq_true rfl) ⟨rfl, rfl, Nat.le_of_ble_eq_true rfl, Nat.le_of_ble_eq_true rfl⟩ hcs dL_law_1073) hS (fun H locs hW hS => ?_)
  refine lv_icmp_eq (tgt := 1369) hx hb dL_law_1076 (by decide) (fun _ => ?_) (fun c => absurd rfl c)
  exact kn σ' μ' _ _ ls hR hW hS hl
set_option maxHeartbeats 4000000 in
set_option maxRecDepth 100000 in
theorem law_row {p : Program} {l : Launch} {e : Env} {s : State} {m : MethodId} {below : List Frame} {meth : Method} {c : Code} {b L : Nat} {xs : Nat → Int32} {D : va_G} {ca : Nat → ClassId} {ax am : Nat → Nat} {q3 : Nat} {adK adV : Nat → Nat} {cells slots : Nat} {Q : State → Prop} (hC : LX p s m meth c b L xs D ca ax am q3 adK adV) (hcs : cells ≤ room_1.cells ∧ slots ≤ room_1.slots) {σ : Mem} {μ : MMem} (hR : Rel σ μ) {i : Nat} (hi : i + 6 ≤ L) {x4 : Int32} (ex4 : x4 = nI i) {H : Heap} {locs : List Loc} {ls : Array Slot} (hW : LW D ca ax am q3 σ μ H) (hS : va_S (fun q => s.heap.size ≤ q) s.heap H locs) (hl : lv_has ls 8 [(4, .int x4), (3, .ref q3), (2, .ref (am 0)), (1, .ref (ax 0)), (0, .ref b)])
    (kn : ∀ (σ : Mem) (μ : MMem) (H : Heap) (locs : List Loc) (ls : Array Slot), Rel σ μ → LW D ca ax am q3 σ μ H → va_S (fun q => s.heap.size ≤ q) s.heap H locs → lv_has ls 8 [(4, .int x4), (3, .ref q3), (2, .ref (am 0)), (1, .ref (ax 0)), (0, .ref b)] → W p l e room_1 s m #[Value.ref b] below meth c H locs cells slots Q (F0 m 1369 ls [])) : W p l e room_1 s m #[Value.ref b] below meth c H locs cells slots Q (F0 m 1081 ls []) := by
  obtain ⟨C0, hK, hF, hB, hX, hbl, hL⟩ := hC
  have hx := C0.1
  have hb := C0.2.1
  have hbA : ¬ (fun q : Nat => s.heap.size ≤ q) b := Nat.not_le.mpr hbl
  obtain ⟨r, σ', μ', h1, h2, hR⟩ := eq_row hR (xs (x4 + 1).toNatClampNeg) (xs (x4 + 2).toNatClampNeg) (xs (x4 + 3).toNatClampNeg)
  refine lv_aload_n hx hb dL_law_1081 rfl (lv_at hl 3 rfl) ?_
  refine lv_aload_n hx hb dL_law_1082 rfl (lv_at hl 4 rfl) ?_
  refine lv_iload hx hb dL_law_1083 (lv_at hl 0 rfl) ?_
  refine lv_iconst (v := 1) hx hb dL_law_1085 (by decide) ?_
  refine lv_iadd hx hb dL_law_1086 ?_
  refine va_sld hx hb hX hbl hbA hS (ix_law (k := 1) ex4 hi hL (by decide)) dL_law_1087 ?_
  refine lv_aload_n hx hb dL_law_1088 rfl (lv_at hl 4 rfl) ?_
  refine lv_iload hx hb dL_law_1089 (lv_at hl 0 rfl) ?_
  refine lv_iconst (v := 2) hx hb dL_law_1091 (by decide) ?_
  refine lv_iadd hx hb dL_law_1092 ?_
  refine va_sld hx hb hX hbl hbA hS (ix_law (k := 2) ex4 hi hL (by decide)) dL_law_1093 ?_
  refine lv_aload_n hx hb dL_law_1094 rfl (lv_at hl 4 rfl) ?_
  refine lv_iload hx hb dL_law_1095 (lv_at hl 0 rfl) ?_
  refine lv_iconst (v := 3) hx hb dL_law_1097 (by decide) ?_
  refine lv_iadd hx hb dL_law_1098 ?_
  refine va_sld hx hb hX hbl hbA hS (ix_law (k := 3) ex4 hi hL (by decide)) dL_law_1099 ?_
  refine lcX hF hW (rV C0 hK hW.1 hl.1 (fun _ _ _ => trivial) Bt_b (c_X11_row hF.1 h1) cv_X11_row tw762 (rcX11 hK hW.1) (rest := []) rfl (Nat.le_of_ble_eq_true rfl) ⟨rfl, rfl, Nat.le_of_ble_eq_true rfl, Nat.le_of_ble_eq_true rfl⟩ hcs dL_law_1100) hS (fun H locs hW hS => ?_)
  refine lv_aload_n hx hb dL_law_1103 rfl (lv_at hl 2 rfl) ?_
  refine lv_aload_n hx hb dL_law_1104 rfl (lv_at hl 4 rfl) ?_
  refine lv_iload hx hb dL_law_1105 (lv_at hl 0 rfl) ?_
  refine lv_iconst (v := 1) hx hb dL_law_1107 (by decide) ?_
  refine lv_iadd hx hb dL_law_1108 ?_
  refine va_sld hx hb hX hbl hbA hS (ix_law (k := 1) ex4 hi hL (by decide)) dL_law_1109 ?_
  refine lv_aload_n hx hb dL_law_1110 rfl (lv_at hl 4 rfl) ?_
  refine lv_iload hx hb dL_law_1111 (lv_at hl 0 rfl) ?_
  refine lv_iconst (v := 2) hx hb dL_law_1113 (by decide) ?_
  refine lv_iadd hx hb dL_law_1114 ?_
  refine va_sld hx hb hX hbl hbA hS (ix_law (k := 2) ex4 hi hL (by decide)) dL_law_1115 ?_
  refine lv_aload_n hx hb dL_law_1116 rfl (lv_at hl 4 rfl) ?_
  refine lv_iload hx hb dL_law_1117 (lv_at hl 0 rfl) ?_
  refine lv_iconst (v := 3) hx hb dL_law_1119 (by decide) ?_
  refine lv_iadd hx hb dL_law_1120 ?_
  refine va_sld hx hb hX hbl hbA hS (ix_law (k := 3) ex4 hi hL (by decide)) dL_law_1121 ?_
  refine lcM hF hW (rV C0 hK hW.2.1 hl.1 (fun _ _ _ => trivial) Bt_b (c_X12_row hF.2.1 h2) cv_X12_row tw1305 (rcX12 hK hW.2.1) (rest := [.int r]) rfl (Nat.le_of_ble_eq_true rfl) ⟨rfl, rfl, Nat.le_of_ble_eq_true rfl, Nat.le_of_ble_eq_true rfl⟩ hcs dL_law_1122) hS (fun H locs hW hS => ?_)
  refine lv_icmp_eq (tgt := 1369) hx hb dL_law_1125 (by decide) (fun _ => ?_) (fun c => absurd rfl c)
  exact kn σ' μ' _ _ ls hR hW hS hl
set_option maxHeartbeats 4000000 in
set_option maxRecDepth 100000 in
theorem law_put {p : Program} {l : Launch} {e : Env} {s : State} {m : MethodId} {below : List Frame} {meth : Method} {c : Code} {b L : Nat} {xs : Nat → Int32} {D : va_G} {ca : Nat → ClassId} {ax am : Nat → Nat} {q3 : Nat} {adK adV : Nat → Nat} {cells slots : Nat} {Q : State → Prop} (hC : LX p s m meth c b L xs D ca ax am q3 adK adV) (hcs : cells ≤ room_1.cells ∧ slots ≤ room_1.slots) {σ : Mem} {μ : MMem} (hR : Rel σ μ) {i : Nat} (hi : i + 6 ≤ L) {x4 : Int32} (ex4 : x4 = nI i) {H : Heap} {locs : List Loc} {ls : Array Slot} (hW : LW D ca ax am q3 σ μ H) (hS : va_S (fun q => s.heap.size ≤ q) s.heap H locs) (hl : lv_has ls 8 [(4, .int x4), (3, .ref q3), (2, .ref (am 0)), (1, .ref (ax 0)), (0, .ref b)])
    (kn : ∀ (σ : Mem) (μ : MMem) (H : Heap) (locs : List Loc) (ls : Array Slot), Rel σ μ → LW D ca ax am q3 σ μ H → va_S (fun q => s.heap.size ≤ q) s.heap H locs → lv_has ls 8 [(4, .int x4), (3, .ref q3), (2, .ref (am 0)), (1, .ref (ax 0)), (0, .ref b)] → W p l e room_1 s m #[Value.ref b] below meth c H locs cells slots Q (F0 m 1369 ls [])) : W p l e room_1 s m #[Value.ref b] below meth c H locs cells slots Q (F0 m 1130 ls []) := by
  obtain ⟨C0, hK, hF, hB, hX, hbl, hL⟩ := hC
  have hx := C0.1
  have hb := C0.2.1
  have hbA : ¬ (fun q : Nat => s.heap.size ≤ q) b := Nat.not_le.mpr hbl
  obtain ⟨r, σ', μ', h1, h2, hR⟩ := eq_put hR (xs (x4 + 1).toNatClampNeg) (xs (x4 + 2).toNatClampNeg) (xs (x4 + 3).toNatClampNeg)
  refine lv_aload_n hx hb dL_law_1130 rfl (lv_at hl 3 rfl) ?_
  refine lv_aload_n hx hb dL_law_1131 rfl (lv_at hl 4 rfl) ?_
  refine lv_iload hx hb dL_law_1132 (lv_at hl 0 rfl) ?_
  refine lv_iconst (v := 1) hx hb dL_law_1134 (by decide) ?_
  refine lv_iadd hx hb dL_law_1135 ?_
  refine va_sld hx hb hX hbl hbA hS (ix_law (k := 1) ex4 hi hL (by decide)) dL_law_1136 ?_
  refine lv_aload_n hx hb dL_law_1137 rfl (lv_at hl 4 rfl) ?_
  refine lv_iload hx hb dL_law_1138 (lv_at hl 0 rfl) ?_
  refine lv_iconst (v := 2) hx hb dL_law_1140 (by decide) ?_
  refine lv_iadd hx hb dL_law_1141 ?_
  refine va_sld hx hb hX hbl hbA hS (ix_law (k := 2) ex4 hi hL (by decide)) dL_law_1142 ?_
  refine lv_aload_n hx hb dL_law_1143 rfl (lv_at hl 4 rfl) ?_
  refine lv_iload hx hb dL_law_1144 (lv_at hl 0 rfl) ?_
  refine lv_iconst (v := 3) hx hb dL_law_1146 (by decide) ?_
  refine lv_iadd hx hb dL_law_1147 ?_
  refine va_sld hx hb hX hbl hbA hS (ix_law (k := 3) ex4 hi hL (by decide)) dL_law_1148 ?_
  refine lcX hF hW (rV C0 hK hW.1 hl.1 (fun _ _ _ => trivial) Bt_b (c_X11_put hF.1 h1) cv_X11_put tw772 (rcX11 hK hW.1) (rest := []) rfl (Nat.le_of_ble_eq_true rfl) ⟨rfl, rfl, Nat.le_of_ble_eq_true rfl, Nat.le_of_ble_eq_true rfl⟩ hcs dL_law_1149) hS (fun H locs hW hS => ?_)
  refine lv_aload_n hx hb dL_law_1152 rfl (lv_at hl 2 rfl) ?_
  refine lv_aload_n hx hb dL_law_1153 rfl (lv_at hl 4 rfl) ?_
  refine lv_iload hx hb dL_law_1154 (lv_at hl 0 rfl) ?_
  refine lv_iconst (v := 1) hx hb dL_law_1156 (by decide) ?_
  refine lv_iadd hx hb dL_law_1157 ?_
  refine va_sld hx hb hX hbl hbA hS (ix_law (k := 1) ex4 hi hL (by decide)) dL_law_1158 ?_
  refine lv_aload_n hx hb dL_law_1159 rfl (lv_at hl 4 rfl) ?_
  refine lv_iload hx hb dL_law_1160 (lv_at hl 0 rfl) ?_
  refine lv_iconst (v := 2) hx hb dL_law_1162 (by decide) ?_
  refine lv_iadd hx hb dL_law_1163 ?_
  refine va_sld hx hb hX hbl hbA hS (ix_law (k := 2) ex4 hi hL (by decide)) dL_law_1164 ?_
  refine lv_aload_n hx hb dL_law_1165 rfl (lv_at hl 4 rfl) ?_
  refine lv_iload hx hb dL_law_1166 (lv_at hl 0 rfl) ?_
  refine lv_iconst (v := 3) hx hb dL_law_1168 (by decide) ?_
  refine lv_iadd hx hb dL_law_1169 ?_
  refine va_sld hx hb hX hbl hbA hS (ix_law (k := 3) ex4 hi hL (by decide)) dL_law_1170 ?_
  refine lcM hF hW (rV C0 hK hW.2.1 hl.1 (fun _ _ _ => trivial) Bt_b (c_X12_put hF.2.1 h2) cv_X12_put tw1309 (rcX12 hK hW.2.1) (rest := [.int r]) rfl (Nat.le_of_ble_eq_true rfl) ⟨rfl, rfl, Nat.le_of_ble_eq_true rfl, Nat.le_of_ble_eq_true rfl⟩ hcs dL_law_1171) hS (fun H locs hW hS => ?_)
  refine lv_icmp_eq (tgt := 1369) hx hb dL_law_1174 (by decide) (fun _ => ?_) (fun c => absurd rfl c)
  exact kn σ' μ' _ _ ls hR hW hS hl
set_option maxHeartbeats 4000000 in
set_option maxRecDepth 100000 in
theorem law_copy {p : Program} {l : Launch} {e : Env} {s : State} {m : MethodId} {below : List Frame} {meth : Method} {c : Code} {b L : Nat} {xs : Nat → Int32} {D : va_G} {ca : Nat → ClassId} {ax am : Nat → Nat} {q3 : Nat} {adK adV : Nat → Nat} {cells slots : Nat} {Q : State → Prop} (hC : LX p s m meth c b L xs D ca ax am q3 adK adV) (hcs : cells ≤ room_1.cells ∧ slots ≤ room_1.slots) {σ : Mem} {μ : MMem} (hR : Rel σ μ) {i : Nat} (hi : i + 6 ≤ L) {x4 : Int32} (ex4 : x4 = nI i) {H : Heap} {locs : List Loc} {ls : Array Slot} (hW : LW D ca ax am q3 σ μ H) (hS : va_S (fun q => s.heap.size ≤ q) s.heap H locs) (hl : lv_has ls 8 [(4, .int x4), (3, .ref q3), (2, .ref (am 0)), (1, .ref (ax 0)), (0, .ref b)])
    (kn : ∀ (σ : Mem) (μ : MMem) (H : Heap) (locs : List Loc) (ls : Array Slot), Rel σ μ → LW D ca ax am q3 σ μ H → va_S (fun q => s.heap.size ≤ q) s.heap H locs → lv_has ls 8 [(4, .int x4), (3, .ref q3), (2, .ref (am 0)), (1, .ref (ax 0)), (0, .ref b)] → W p l e room_1 s m #[Value.ref b] below meth c H locs cells slots Q (F0 m 1369 ls [])) : W p l e room_1 s m #[Value.ref b] below meth c H locs cells slots Q (F0 m 1246 ls []) := by
  obtain ⟨C0, hK, hF, hB, hX, hbl, hL⟩ := hC
  have hx := C0.1
  have hb := C0.2.1
  have hbA : ¬ (fun q : Nat => s.heap.size ≤ q) b := Nat.not_le.mpr hbl
  obtain ⟨r, σ', μ', h1, h2, hR⟩ := eq_copy hR (xs (x4 + 1).toNatClampNeg) (xs (x4 + 2).toNatClampNeg) (xs (x4 + 3).toNatClampNeg) (xs (x4 + 4).toNatClampNeg) (xs (x4 + 5).toNatClampNeg)
  refine lv_aload_n hx hb dL_law_1246 rfl (lv_at hl 3 rfl) ?_
  refine lv_aload_n hx hb dL_law_1247 rfl (lv_at hl 4 rfl) ?_
  refine lv_iload hx hb dL_law_1248 (lv_at hl 0 rfl) ?_
  refine lv_iconst (v := 1) hx hb dL_law_1250 (by decide) ?_
  refine lv_iadd hx hb dL_law_1251 ?_
  refine va_sld hx hb hX hbl hbA hS (ix_law (k := 1) ex4 hi hL (by decide)) dL_law_1252 ?_
  refine lv_aload_n hx hb dL_law_1253 rfl (lv_at hl 4 rfl) ?_
  refine lv_iload hx hb dL_law_1254 (lv_at hl 0 rfl) ?_
  refine lv_iconst (v := 2) hx hb dL_law_1256 (by decide) ?_
  refine lv_iadd hx hb dL_law_1257 ?_
  refine va_sld hx hb hX hbl hbA hS (ix_law (k := 2) ex4 hi hL (by decide)) dL_law_1258 ?_
  refine lv_aload_n hx hb dL_law_1259 rfl (lv_at hl 4 rfl) ?_
  refine lv_iload hx hb dL_law_1260 (lv_at hl 0 rfl) ?_
  refine lv_iconst (v := 3) hx hb dL_law_1262 (by decide) ?_
  refine lv_iadd hx hb dL_law_1263 ?_
  refine va_sld hx hb hX hbl hbA hS (ix_law (k := 3) ex4 hi hL (by decide)) dL_law_1264 ?_
  refine lv_aload_n hx hb dL_law_1265 rfl (lv_at hl 4 rfl) ?_
  refine lv_iload hx hb dL_law_1266 (lv_at hl 0 rfl) ?_
  refine lv_iconst (v := 4) hx hb dL_law_1268 (by decide) ?_
  refine lv_iadd hx hb dL_law_1269 ?_
  refine va_sld hx hb hX hbl hbA hS (ix_law (k := 4) ex4 hi hL (by decide)) dL_law_1270 ?_
  refine lv_aload_n hx hb dL_law_1271 rfl (lv_at hl 4 rfl) ?_
  refine lv_iload hx hb dL_law_1272 (lv_at hl 0 rfl) ?_
  refine lv_iconst (v := 5) hx hb dL_law_1274 (by decide) ?_
  refine lv_iadd hx hb dL_law_1275 ?_
  refine va_sld hx hb hX hbl hbA hS (ix_law (k := 5) ex4 hi hL (by decide)) dL_law_1276 ?_
  refine lcX hF hW (rV C0 hK hW.1 hl.1 (fun _ _ _ => trivial) Bt_b (c_X11_copy hF.1 h1) cv_X11_copy tw784 (rcX11 hK hW.1) (rest := []) rfl (Nat.le_of_ble_eq_true rfl) ⟨rfl, rfl, Nat.le_of_ble_eq_true rfl, Nat.le_of_ble_eq_true rfl⟩ hcs dL_law_1277) hS (fun H locs hW hS => ?_)
  refine lv_aload_n hx hb dL_law_1280 rfl (lv_at hl 2 rfl) ?_
  refine lv_aload_n hx hb dL_law_1281 rfl (lv_at hl 4 rfl) ?_
  refine lv_iload hx hb dL_law_1282 (lv_at hl 0 rfl) ?_
  refine lv_iconst (v := 1) hx hb dL_law_1284 (by decide) ?_
  refine lv_iadd hx hb dL_law_1285 ?_
  refine va_sld hx hb hX hbl hbA hS (ix_law (k := 1) ex4 hi hL (by decide)) dL_law_1286 ?_
  refine lv_aload_n hx hb dL_law_1287 rfl (lv_at hl 4 rfl) ?_
  refine lv_iload hx hb dL_law_1288 (lv_at hl 0 rfl) ?_
  refine lv_iconst (v := 2) hx hb dL_law_1290 (by decide) ?_
  refine lv_iadd hx hb dL_law_1291 ?_
  refine va_sld hx hb hX hbl hbA hS (ix_law (k := 2) ex4 hi hL (by decide)) dL_law_1292 ?_
  refine lv_aload_n hx hb dL_law_1293 rfl (lv_at hl 4 rfl) ?_
  refine lv_iload hx hb dL_law_1294 (lv_at hl 0 rfl) ?_
  refine lv_iconst (v := 3) hx hb dL_law_1296 (by decide) ?_
  refine lv_iadd hx hb dL_law_1297 ?_
  refine va_sld hx hb hX hbl hbA hS (ix_law (k := 3) ex4 hi hL (by decide)) dL_law_1298 ?_
  refine lv_aload_n hx hb dL_law_1299 rfl (lv_at hl 4 rfl) ?_
  refine lv_iload hx hb dL_law_1300 (lv_at hl 0 rfl) ?_
  refine lv_iconst (v := 4) hx hb dL_law_1302 (by decide) ?_
  refine lv_iadd hx hb dL_law_1303 ?_
  refine va_sld hx hb hX hbl hbA hS (ix_law (k := 4) ex4 hi hL (by decide)) dL_law_1304 ?_
  refine lv_aload_n hx hb dL_law_1305 rfl (lv_at hl 4 rfl) ?_
  refine lv_iload hx hb dL_law_1306 (lv_at hl 0 rfl) ?_
  refine lv_iconst (v := 5) hx hb dL_law_1308 (by decide) ?_
  refine lv_iadd hx hb dL_law_1309 ?_
  refine va_sld hx hb hX hbl hbA hS (ix_law (k := 5) ex4 hi hL (by decide)) dL_law_1310 ?_
  refine lcM hF hW (rV C0 hK hW.2.1 hl.1 (fun _ _ _ => trivial) Bt_b (c_X12_copy hF.2.1 h2) cv_X12_copy tw1320 (rcX12 hK hW.2.1) (rest := [.int r]) rfl (Nat.le_of_ble_eq_true rfl) ⟨rfl, rfl, Nat.le_of_ble_eq_true rfl, Nat.le_of_ble_eq_true rfl⟩ hcs dL_law_1311) hS (fun H locs hW hS => ?_)
  refine lv_icmp_eq (tgt := 1369) hx hb dL_law_1314 (by decide) (fun _ => ?_) (fun c => absurd rfl c)
  exact kn σ' μ' _ _ ls hR hW hS hl
set_option maxHeartbeats 4000000 in
set_option maxRecDepth 100000 in
theorem law_minutes {p : Program} {l : Launch} {e : Env} {s : State} {m : MethodId} {below : List Frame} {meth : Method} {c : Code} {b L : Nat} {xs : Nat → Int32} {D : va_G} {ca : Nat → ClassId} {ax am : Nat → Nat} {q3 : Nat} {adK adV : Nat → Nat} {cells slots : Nat} {Q : State → Prop} (hC : LX p s m meth c b L xs D ca ax am q3 adK adV) (hcs : cells ≤ room_1.cells ∧ slots ≤ room_1.slots) {σ : Mem} {μ : MMem} (hR : Rel σ μ) {i : Nat} (hi : i + 6 ≤ L) {x4 : Int32} (ex4 : x4 = nI i) {H : Heap} {locs : List Loc} {ls : Array Slot} (hW : LW D ca ax am q3 σ μ H) (hS : va_S (fun q => s.heap.size ≤ q) s.heap H locs) (hl : lv_has ls 8 [(4, .int x4), (3, .ref q3), (2, .ref (am 0)), (1, .ref (ax 0)), (0, .ref b)])
    (kn : ∀ (σ : Mem) (μ : MMem) (H : Heap) (locs : List Loc) (ls : Array Slot), Rel σ μ → LW D ca ax am q3 σ μ H → va_S (fun q => s.heap.size ≤ q) s.heap H locs → lv_has ls 8 [(4, .int x4), (3, .ref q3), (2, .ref (am 0)), (1, .ref (ax 0)), (0, .ref b)] → W p l e room_1 s m #[Value.ref b] below meth c H locs cells slots Q (F0 m 1369 ls [])) : W p l e room_1 s m #[Value.ref b] below meth c H locs cells slots Q (F0 m 1319 ls []) := by
  obtain ⟨C0, hK, hF, hB, hX, hbl, hL⟩ := hC
  have hx := C0.1
  have hb := C0.2.1
  have hbA : ¬ (fun q : Nat => s.heap.size ≤ q) b := Nat.not_le.mpr hbl
  obtain ⟨r, μ', h1, h2, hR⟩ := eq_minutes hR (xs (x4 + 1).toNatClampNeg)
  refine lv_aload_n hx hb dL_law_1319 rfl (lv_at hl 3 rfl) ?_
  refine lv_aload_n hx hb dL_law_1320 rfl (lv_at hl 4 rfl) ?_
  refine lv_iload hx hb dL_law_1321 (lv_at hl 0 rfl) ?_
  refine lv_iconst (v := 1) hx hb dL_law_1323 (by decide) ?_
  refine lv_iadd hx hb dL_law_1324 ?_
  refine va_sld hx hb hX hbl hbA hS (ix_law (k := 1) ex4 hi hL (by decide)) dL_law_1325 ?_
  refine lcX hF hW (rV C0 hK hW.1 hl.1 (fun _ _ _ => trivial) Bt_b (c_X11_minutes hF.1 h1) cv_X11_minutes tw794 (rcX11 hK hW.1) (rest := []) rfl (Nat.le_of_ble_eq_true rfl) ⟨rfl, rfl, Nat.le_of_ble_eq_true rfl, Nat.le_of_ble_eq_true rfl⟩ hcs dL_law_1326) hS (fun H locs hW hS => ?_)
  refine lv_aload_n hx hb dL_law_1329 rfl (lv_at hl 2 rfl) ?_
  refine lv_aload_n hx hb dL_law_1330 rfl (lv_at hl 4 rfl) ?_
  refine lv_iload hx hb dL_law_1331 (lv_at hl 0 rfl) ?_
  refine lv_iconst (v := 1) hx hb dL_law_1333 (by decide) ?_
  refine lv_iadd hx hb dL_law_1334 ?_
  refine va_sld hx hb hX hbl hbA hS (ix_law (k := 1) ex4 hi hL (by decide)) dL_law_1335 ?_
  refine lcM hF hW (rV C0 hK hW.2.1 hl.1 (fun _ _ _ => trivial) Bt_b (c_X12_minutes hF.2.1 h2) cv_X12_minutes tw1324 (rcX12 hK hW.2.1) (rest := [.int r]) rfl (Nat.le_of_ble_eq_true rfl) ⟨rfl, rfl, Nat.le_of_ble_eq_true rfl, Nat.le_of_ble_eq_true rfl⟩ hcs dL_law_1336) hS (fun H locs hW hS => ?_)
  refine lv_icmp_eq (tgt := 1369) hx hb dL_law_1339 (by decide) (fun _ => ?_) (fun c => absurd rfl c)
  exact kn σ μ' _ _ ls hR hW hS hl
