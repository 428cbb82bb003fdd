/-! THE LAW: one turn of its loop, and the loop -/
theorem and31 (x : Int32) : ∃ k, k < 32 ∧ x &&& 31 = nI k := by
  have nx : ∀ a b : Nat, nI a &&& nI b = nI (a &&& b) := by
    intro a b
    apply Int32.toBitVec_inj.1
    show BitVec.ofNat 32 a &&& BitVec.ofNat 32 b = BitVec.ofNat 32 (a &&& b)
    apply BitVec.eq_of_getLsbD_eq
    intro i hi
    simp [hi]
  have e : x = nI x.toBitVec.toNat := by
    apply Int32.toBitVec_inj.1
    show x.toBitVec = BitVec.ofNat 32 x.toBitVec.toNat
    simp
  refine ⟨x.toBitVec.toNat % 32, Nat.mod_lt _ (by omega), ?_⟩
  have h1 : nI x.toBitVec.toNat &&& 31 = nI (x.toBitVec.toNat % 32) := by
    show nI x.toBitVec.toNat &&& nI 31 = _
    rw [nx, show (31 : Nat) = 2 ^ 5 - 1 from rfl, Nat.and_two_pow_sub_one_eq_mod]
  rw [← h1, ← e]
theorem sub6 {L : Nat} (h : L ≤ 384) : (Int32.ofNat L - 6).toInt = (L : Int) - 6 := by
  have h9 : ∀ L, L < 385 → (Int32.ofNat L - 6).toInt = (L : Int) - 6 := by decide +kernel
  exact h9 L (by omega)
theorem law_head {p : Program} {l : Launch} {e : Env} {s : State} {m : MethodId} {below : List Frame} {meth : Method} {c : Code} {b L : Nat} {xs : Nat → Int32} {D : va_G} {ca : Nat → ClassId} {ax am : Nat → Nat} {q3 : Nat} {adK adV adE : Nat → Nat} {Q : State → Prop} (hY : LY p s m meth c b L xs D ca ax am q3 adK adV adE l) {i : Nat} (hi : i ≤ 384) {cells slots : Nat} {H : Heap} {locs : List Loc} {ls : Array Slot} (hS : va_S (fun q => s.heap.size ≤ q) s.heap H locs) (hl : lv_has ls 8 [(4, .int (nI i)), (3, .ref q3), (2, .ref (am 0)), (1, .ref (ax 0)), (0, .ref b)]) (kt : W p l e room_1 s m #[Value.ref b] below meth c H locs cells slots Q (F0 m 1375 ls [])) (kf : i + 6 ≤ L → W p l e room_1 s m #[Value.ref b] below meth c H locs cells slots Q (F0 m 33 ls [])) : W p l e room_1 s m #[Value.ref b] below meth c H locs cells slots Q (F0 m 23 ls []) := by
  obtain ⟨⟨C0, hK, hF, hB, hX, hbl, hL⟩, hE, hst⟩ := hY
  have hx := C0.1
  have hb := C0.2.1
  have hbA : ¬ (fun q : Nat => s.heap.size ≤ q) b := Nat.not_le.mpr hbl
  refine lv_iload hx hb dL_law_23 (lv_at hl 0 rfl) ?_
  refine lv_aload_n hx hb dL_law_25 rfl (lv_at hl 4 rfl) ?_
  refine va_slen hx hb hX hbl hbA hS dL_law_26 ?_
  refine lv_bipush (v := 6) hx hb dL_law_27 (by decide) ?_
  refine lv_isub hx hb dL_law_29 ?_
  refine lv_icmp_gt (tgt := 1375) hx hb dL_law_30 (by decide) (fun _ => kt) (fun h => kf ?_)
  rw [Int32.lt_iff_toInt_lt, sub6 hL, nI_toInt (by omega)] at h
  omega
set_option maxHeartbeats 4000000 in
set_option maxRecDepth 100000 in
theorem law_body {p : Program} {l : Launch} {e : Env} {s : State} {m : MethodId} {below : List Frame} {meth : Method} {c : Code} {b L : Nat} {xs : Nat → Int32} {D : va_G} {ca : Nat → ClassId} {ax am : Nat → Nat} {q3 : Nat} {adK adV adE : Nat → Nat} {Q : State → Prop} (hY : LY p s m meth c b L xs D ca ax am q3 adK adV adE l) {cells slots : Nat} (hcs : cells + 1 ≤ room_1.cells ∧ slots + 6 ≤ room_1.slots) {σ : Mem} {μ : MMem} (hR : Rel σ μ) {i : Nat} (hi : i + 6 ≤ L) {H : Heap} {locs : List Loc} {ls : Array Slot} (hW : LW D ca ax am q3 σ μ H) (hS : va_S (fun q => s.heap.size ≤ q) s.heap H locs) (hl : lv_has ls 8 [(4, .int (nI i)), (3, .ref q3), (2, .ref (am 0)), (1, .ref (ax 0)), (0, .ref b)])
    (kn : ∀ (σ : Mem) (μ : MMem) (H : Heap) (locs : List Loc) (ls : Array Slot), Rel σ μ → LW D ca ax am q3 σ μ H → va_S (fun q => s.heap.size ≤ q) s.heap H locs → lv_has ls 8 [(4, .int (nI i)), (3, .ref q3), (2, .ref (am 0)), (1, .ref (ax 0)), (0, .ref b)] → W p l e room_1 s m #[Value.ref b] below meth c H locs (cells + 1) (slots + 6) Q (F0 m 1369 ls [])) : W p l e room_1 s m #[Value.ref b] below meth c H locs cells slots Q (F0 m 33 ls []) := by
  have hY0 := hY
  obtain ⟨⟨C0, hK, hF, hB, hX, hbl, hL⟩, hE, hst⟩ := hY
  have hx := C0.1
  have hb := C0.2.1
  have hbA : ¬ (fun q : Nat => s.heap.size ≤ q) b := Nat.not_le.mpr hbl
  have hcs0 : cells ≤ room_1.cells ∧ slots ≤ room_1.slots := ⟨Nat.le_trans (Nat.le_succ _) hcs.1, Nat.le_trans (Nat.le_add_right _ _) hcs.2⟩
  have kn0 : ∀ (σ : Mem) (μ : MMem) (H : Heap) (locs : List Loc) (ls : Array Slot), Rel σ μ → LW D ca ax am q3 σ μ H → va_S (fun q => s.heap.size ≤ q) s.heap H locs → lv_has ls 8 [(4, .int (nI i)), (3, .ref q3), (2, .ref (am 0)), (1, .ref (ax 0)), (0, .ref b)] → W p l e room_1 s m #[Value.ref b] below meth c H locs cells slots Q (F0 m 1369 ls []) := fun σ μ H locs ls h1 h2 h3 h4 => W.widen (Nat.le_succ _) (Nat.le_add_right _ _) (kn σ μ H locs ls h1 h2 h3 h4)
  refine lv_aload_n hx hb dL_law_33 rfl (lv_at hl 4 rfl) ?_
  refine lv_iload hx hb dL_law_34 (lv_at hl 0 rfl) ?_
  refine va_sld hx hb hX hbl hbA hS (vp_in_nI (by omega) (by omega)) dL_law_36 ?_
  refine lv_bipush (v := 31) hx hb dL_law_37 (by decide) ?_
  refine lv_iand hx hb dL_law_39 ?_
  obtain ⟨n, hn, en⟩ := and31 (xs (nI i).toNatClampNeg)
  refine nm_i en.symm ?_
  match n, hn with
  | 0, _ => exact lv_tableIn (off := 140) (tgt := 180) hx hb dL_law_40 (by decide) (by decide) rfl (by decide) (law_dress hY0.1 hcs0 hR hi rfl hW hS hl kn0)
  | 1, _ => exact lv_tableIn (off := 165) (tgt := 205) hx hb dL_law_40 (by decide) (by decide) rfl (by decide) (law_ring hY0.1 hcs0 hR hi rfl hW hS hl kn0)
  | 2, _ => exact lv_tableIn (off := 202) (tgt := 242) hx hb dL_law_40 (by decide) (by decide) rfl (by decide) (law_line hY0.1 hcs0 hR hi rfl hW hS hl kn0)
  | 3, _ => exact lv_tableIn (off := 239) (tgt := 279) hx hb dL_law_40 (by decide) (by decide) rfl (by decide) (law_may hY0.1 hcs0 hR hi rfl hW hS hl kn0)
  | 4, _ => exact lv_tableIn (off := 276) (tgt := 316) hx hb dL_law_40 (by decide) (by decide) rfl (by decide) (law_pin hY0.1 hcs0 hR hi rfl hW hS hl kn0)
  | 5, _ => exact lv_tableIn (off := 313) (tgt := 353) hx hb dL_law_40 (by decide) (by decide) rfl (by decide) (law_ease hY0.1 hcs0 hR hi rfl hW hS hl kn0)
  | 6, _ => exact lv_tableIn (off := 350) (tgt := 390) hx hb dL_law_40 (by decide) (by decide) rfl (by decide) (law_fit hY0.1 hcs0 hR hi rfl hW hS hl kn0)
  | 7, _ => exact lv_tableIn (off := 375) (tgt := 415) hx hb dL_law_40 (by decide) (by decide) rfl (by decide) (law_lacks hY0.1 hcs0 hR hi rfl hW hS hl kn0)
  | 8, _ => exact lv_tableIn (off := 388) (tgt := 428) hx hb dL_law_40 (by decide) (by decide) rfl (by decide) (law_bestPin hY0.1 hcs0 hR hi rfl hW hS hl kn0)
  | 9, _ => exact lv_tableIn (off := 425) (tgt := 465) hx hb dL_law_40 (by decide) (by decide) rfl (by decide) (law_least hY0.1 hcs0 hR hi rfl hW hS hl kn0)
  | 10, _ => exact lv_tableIn (off := 462) (tgt := 502) hx hb dL_law_40 (by decide) (by decide) rfl (by decide) (law_first hY0.1 hcs0 hR hi rfl hW hS hl kn0)
  | 11, _ => exact lv_tableIn (off := 487) (tgt := 527) hx hb dL_law_40 (by decide) (by decide) rfl (by decide) (law_orders hY0.1 hcs0 hR hi rfl hW hS hl kn0)
  | 12, _ => exact lv_tableIn (off := 524) (tgt := 564) hx hb dL_law_40 (by decide) (by decide) rfl (by decide) (law_hem hY0.1 hcs0 hR hi rfl hW hS hl kn0)
  | 13, _ => exact lv_tableIn (off := 573) (tgt := 613) hx hb dL_law_40 (by decide) (by decide) rfl (by decide) (law_darts hY0.1 hcs0 hR hi rfl hW hS hl kn0)
  | 14, _ => exact lv_tableIn (off := 634) (tgt := 674) hx hb dL_law_40 (by decide) (by decide) rfl (by decide) (law_stripes hY0.1 hcs0 hR hi rfl hW hS hl kn0)
  | 15, _ => exact lv_tableIn (off := 695) (tgt := 735) hx hb dL_law_40 (by decide) (by decide) rfl (by decide) (law_measures hY0.1 hcs0 hR hi rfl hW hS hl kn0)
  | 16, _ => exact lv_tableIn (off := 732) (tgt := 772) hx hb dL_law_40 (by decide) (by decide) rfl (by decide) (law_sizes hY0.1 hcs0 hR hi rfl hW hS hl kn0)
  | 17, _ => exact lv_tableIn (off := 781) (tgt := 821) hx hb dL_law_40 (by decide) (by decide) rfl (by decide) (law_old hY0.1 hcs0 hR hi rfl hW hS hl kn0)
  | 18, _ => exact lv_tableIn (off := 806) (tgt := 846) hx hb dL_law_40 (by decide) (by decide) rfl (by decide) (law_shape hY0.1 hcs0 hR hi rfl hW hS hl kn0)
  | 19, _ => exact lv_tableIn (off := 843) (tgt := 883) hx hb dL_law_40 (by decide) (by decide) rfl (by decide) (law_seeded hY0.1 hcs0 hR hi rfl hW hS hl kn0)
  | 20, _ => exact lv_tableIn (off := 892) (tgt := 932) hx hb dL_law_40 (by decide) (by decide) rfl (by decide) (law_judge hY0.1 hcs0 hR hi rfl hW hS hl kn0)
  | 21, _ => exact lv_tableIn (off := 929) (tgt := 969) hx hb dL_law_40 (by decide) (by decide) rfl (by decide) (law_image hY0.1 hcs0 hR hi rfl hW hS hl kn0)
  | 22, _ => exact lv_tableIn (off := 942) (tgt := 982) hx hb dL_law_40 (by decide) (by decide) rfl (by decide) (law_restore hY0.1 hcs0 hR hi rfl hW hS hl kn0)
  | 23, _ => exact lv_tableIn (off := 955) (tgt := 995) hx hb dL_law_40 (by decide) (by decide) rfl (by decide) (law_count hY0.1 hcs0 hR hi rfl hW hS hl kn0)
  | 24, _ => exact lv_tableIn (off := 980) (tgt := 1020) hx hb dL_law_40 (by decide) (by decide) rfl (by decide) (law_keep hY0.1 hcs0 hR hi rfl hW hS hl kn0)
  | 25, _ => exact lv_tableIn (off := 1041) (tgt := 1081) hx hb dL_law_40 (by decide) (by decide) rfl (by decide) (law_row hY0.1 hcs0 hR hi rfl hW hS hl kn0)
  | 26, _ => exact lv_tableIn (off := 1090) (tgt := 1130) hx hb dL_law_40 (by decide) (by decide) rfl (by decide) (law_put hY0.1 hcs0 hR hi rfl hW hS hl kn0)
  | 27, _ => exact lv_tableIn (off := 1139) (tgt := 1179) hx hb dL_law_40 (by decide) (by decide) rfl (by decide) (law_element hY0 hcs hR hi rfl hW hS hl kn)
  | 28, _ => exact lv_tableIn (off := 1206) (tgt := 1246) hx hb dL_law_40 (by decide) (by decide) rfl (by decide) (law_copy hY0.1 hcs0 hR hi rfl hW hS hl kn0)
  | 29, _ => exact lv_tableIn (off := 1279) (tgt := 1319) hx hb dL_law_40 (by decide) (by decide) rfl (by decide) (law_minutes hY0.1 hcs0 hR hi rfl hW hS hl kn0)
  | 30, _ => exact lv_tableIn (off := 1304) (tgt := 1344) hx hb dL_law_40 (by decide) (by decide) rfl (by decide) (law_toss hY0 hcs hR hi rfl hW hS hl kn)
  | 31, _ => exact lv_tableOut (tgt := 1369) hx hb dL_law_40 (Or.inr (by decide)) (by decide) (kn0 σ μ H locs ls hR hW hS hl)
  | n + 32, h => exact absurd h (by omega)
theorem law_loop {p : Program} {l : Launch} {e : Env} {s : State} {m : MethodId} {below : List Frame} {meth : Method} {c : Code} {b L : Nat} {xs : Nat → Int32} {D : va_G} {ca : Nat → ClassId} {ax am : Nat → Nat} {q3 : Nat} {adK adV adE : Nat → Nat} {Q : State → Prop} (hY : LY p s m meth c b L xs D ca ax am q3 adK adV adE l) {c0 s0 : Nat} (hcs : c0 + 64 ≤ room_1.cells ∧ s0 + 6 * 64 ≤ room_1.slots)
    (kE : ∀ (H : Heap) (locs : List Loc) (ls : Array Slot), va_S (fun q => s.heap.size ≤ q) s.heap H locs → W p l e room_1 s m #[Value.ref b] below meth c H locs (c0 + 64) (s0 + 6 * 64) Q (F0 m 1375 ls [])) : ∀ (n k : Nat), k + n = 64 → ∀ (σ : Mem) (μ : MMem) (H : Heap) (locs : List Loc) (ls : Array Slot), Rel σ μ → LW D ca ax am q3 σ μ H → va_S (fun q => s.heap.size ≤ q) s.heap H locs → lv_has ls 8 [(4, .int (nI (6 * k))), (3, .ref q3), (2, .ref (am 0)), (1, .ref (ax 0)), (0, .ref b)] → W p l e room_1 s m #[Value.ref b] below meth c H locs (c0 + k) (s0 + 6 * k) Q (F0 m 23 ls []) := by
  intro n
  induction n with
  | zero =>
    intro k hk σ μ H locs ls hR hW hS hl
    refine law_head hY (by omega) hS hl (W.widen (by omega) (by omega) (kE H locs ls hS)) (fun hi => ?_)
    have hL := hY.1.2.2.2.2.2.2
    omega
  | succ n ih =>
    intro k hk σ μ H locs ls hR hW hS hl
    refine law_head hY (by omega) hS hl (W.widen (by omega) (by omega) (kE H locs ls hS)) (fun hi => ?_)
    refine law_body hY ⟨by omega, by omega⟩ hR hi hW hS hl (fun σ μ H locs ls hR hW hS hl => ?_)
    have hx := hY.1.1.1
    have hb := hY.1.1.2.1
    refine lv_iinc (k := 0) (v := nI (6 * (k + 1))) (lv' := [(4, .int (nI (6 * (k + 1)))), (3, .ref q3), (2, .ref (am 0)), (1, .ref (ax 0)), (0, .ref b)]) hx hb dL_law_1369 hl rfl (nI_add (6 * k) 6) (by decide) rfl (fun ls hl => ?_)
    refine lv_goto (tgt := 23) hx hb dL_law_1372 (by decide) ?_
    exact W.widen (by omega) (by omega) (ih (k + 1) (by omega) σ μ H locs ls hR hW hS hl)
