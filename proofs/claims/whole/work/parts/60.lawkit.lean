/-! THE LAW: its two systems side by side, and the row of one long -/
def LF (ax am : Nat → Nat) (q3 sz : Nat) : Prop := InjN 37 ax ∧ InjN 21 am ∧ (∀ i, i < 37 → sz ≤ ax i) ∧ (∀ i, i < 21 → sz ≤ am i) ∧ sz ≤ q3 ∧ (∀ i j, i < 37 → j < 21 → ax i ≠ am j) ∧ (∀ i, i < 37 → ax i ≠ q3) ∧ ∀ i, i < 21 → am i ≠ q3
def LW (D : va_G) (ca : Nat → ClassId) (ax am : Nat → Nat) (q3 : Nat) (σ : Mem) (μ : MMem) (H : Heap) : Prop := va_P D vwCl (wX ca ax σ) H ∧ va_P D vwCl (wM ca am μ) H ∧ ∃ f : Nat → Int64, va_P D vwCl [(q3, .inl (ca 1, 1, .inr (.inl f)))] H
/-- what stands fast in the law -/
def LX (p : Program) (s : State) (m : MethodId) (meth : Method) (c : Code) (b L : Nat) (xs : Nat → Int32) (D : va_G) (ca : Nat → ClassId) (ax am : Nat → Nat) (q3 : Nat) (adK adV : Nat → Nat) : Prop :=
  Cx p s m #[Value.ref b] meth c RL cL_law 8 (some .boolean) ∧ KX D vwCl (tysE ca) s ∧ LF ax am q3 s.heap.size ∧ BS (fun q => s.heap.size ≤ q) adK adV s ∧ va_X b L xs s s.heap ∧ b < s.heap.size ∧ L ≤ 384
theorem wd_keep {ρ : Type} {D : va_G} {cl : List vw_C} {n : Nat} {a : Nat → Nat} {sh : Nat → ρ → va_E} {σ : Nat → ρ} {H H1 : Heap} (h : va_P D cl (wd n a sh σ) H) (hq : ∀ i, i < n → H1[a i]? = H[a i]?) : va_P D cl (wd n a sh σ) H1 := va_P.kept h fun k q hk => by
  obtain ⟨h1, rfl⟩ := wd_is hk
  exact hq k h1
theorem BS.narrow {A B : Nat → Prop} {adK adV : Nat → Nat} {s : State} (h : BS A adK adV s) (hAB : ∀ q, B q → A q) : BS B adK adV s := ⟨vk_S.narrow h.1 hAB, h.2.1, va_Z.narrow h.2.2.1 hAB, va_Zq.narrow h.2.2.2 hAB⟩
section LWK
variable {p : Program} {l : Launch} {e : Env} {R : Room} {s : State} {m : MethodId} {args : Array Value} {below : List Frame} {meth : Method} {c : Code} {H H0 : Heap} {locs : List Loc} {cells slots : Nat} {Q : State → Prop}
variable {D : va_G} {ca : Nat → ClassId} {ax am : Nat → Nat} {q3 : Nat} {pc : Nat} {ls : Array Slot} {rest st0 : List Value} {σ σ' : Mem} {μ μ' : MMem} {o : Option Value} {aa : Array Value}
theorem xcallL {cl : List vw_C} {ws' : va_W} {A0 A1 : Nat → Prop} (hr : va_Run p l e R s m args below meth c H locs cells slots 0 0 (F0 m pc ls st0) rest (XQ D cl A1 ws' o aa) A1) (hS : va_S A0 H0 H locs) (hA : ∀ q, A1 q → A0 q)
    (kk : ∀ (H1 : Heap) (locs1 : List Loc), va_P D cl ws' H1 → (∀ q : Nat, q < H.size → ¬ A1 q → H1[q]? = H[q]?) → va_S A0 H0 H1 locs1 → W p l e R s m args below meth c H1 locs1 cells slots Q (F0 m (pc + 3) ls (o.toList ++ rest))) : W p l e R s m args below meth c H locs cells slots Q (F0 m pc ls st0) := by
  intro T hT X
  obtain ⟨v, st₀, t, T', L, h0, X', hL, e1, e2, ⟨hv, hP', hz, hk⟩, st⟩ := hr T hT X
  cases hv
  rw [h0] at hz hk
  obtain ⟨t2, a1, b1⟩ := kk T'.heap (locs ++ L) (by rw [e1]; exact hP') (fun q h1 h2 => by rw [e1]; exact hk q h1 h2) ⟨Nat.le_trans hS.1 (by rw [e1]; exact hz), fun q h1 h2 => by rw [e1, hk q (Nat.lt_of_lt_of_le h1 hS.1) (fun z => h2 (hA q z))]; exact hS.2.1 q h1 h2, fun q hq => by
      rcases List.mem_append.mp hq with h | h
      · exact hS.2.2 q h
      · exact hA _ (hL q h)⟩ T' rfl X'
  exact ⟨t2, st t2 a1, b1⟩
theorem P_lt {D : va_G} {cl : List vw_C} {ws : va_W} {H : Heap} (h : va_P D cl ws H) {k : Nat} {q : Nat × va_E} (hk : ws[k]? = some q) : q.1 < H.size := (h k q hk).lt
/-- a call of the class -/
theorem lcX (hF : LF ax am q3 H0.size) (hW : LW D ca ax am q3 σ μ H) (hr : va_Run p l e R s m args below meth c H locs cells slots 0 0 (F0 m pc ls st0) rest (XQ D vwCl (AW 37 ax) (wX ca ax σ') o aa) (AW 37 ax)) (hS : va_S (fun q => H0.size ≤ q) H0 H locs)
    (kk : ∀ (H1 : Heap) (locs1 : List Loc), LW D ca ax am q3 σ' μ H1 → va_S (fun q => H0.size ≤ q) H0 H1 locs1 → W p l e R s m args below meth c H1 locs1 cells slots Q (F0 m (pc + 3) ls (o.toList ++ rest))) : W p l e R s m args below meth c H locs cells slots Q (F0 m pc ls st0) := by
  obtain ⟨i1, i2, a1, a2, a3, d1, d2, d3⟩ := hF
  refine xcallL hr hS (fun q hq => by obtain ⟨i, hi, rfl⟩ := hq; exact a1 i hi) (fun H1 locs1 hP hk hS1 => kk H1 locs1 ⟨hP, ?_, ?_⟩ hS1)
  · exact wd_keep hW.2.1 fun j hj => hk _ (P_lt hW.2.1 (wd_at hj)) (fun z => by obtain ⟨i, hi, e⟩ := z; exact d1 i j hi hj e.symm)
  · obtain ⟨f, hf⟩ := hW.2.2
    exact ⟨f, hf.kept fun k q hq => hk _ (P_lt hf hq) (fun z => by
      obtain ⟨i, hi, e⟩ := z
      match k, hq with
      | 0, hq => cases hq; exact d2 i hi e.symm
      | k + 1, hq => simp at hq)⟩
/-- a call of the reference -/
theorem lcM (hF : LF ax am q3 H0.size) (hW : LW D ca ax am q3 σ μ H) (hr : va_Run p l e R s m args below meth c H locs cells slots 0 0 (F0 m pc ls st0) rest (XQ D vwCl (AW 21 am) (wM ca am μ') o aa) (AW 21 am)) (hS : va_S (fun q => H0.size ≤ q) H0 H locs)
    (kk : ∀ (H1 : Heap) (locs1 : List Loc), LW D ca ax am q3 σ μ' H1 → va_S (fun q => H0.size ≤ q) H0 H1 locs1 → W p l e R s m args below meth c H1 locs1 cells slots Q (F0 m (pc + 3) ls (o.toList ++ rest))) : W p l e R s m args below meth c H locs cells slots Q (F0 m pc ls st0) := by
  obtain ⟨i1, i2, a1, a2, a3, d1, d2, d3⟩ := hF
  refine xcallL hr hS (fun q hq => by obtain ⟨i, hi, rfl⟩ := hq; exact a2 i hi) (fun H1 locs1 hP hk hS1 => kk H1 locs1 ⟨?_, hP, ?_⟩ hS1)
  · exact wd_keep hW.1 fun j hj => hk _ (P_lt hW.1 (wd_at hj)) (fun z => by obtain ⟨i, hi, e⟩ := z; exact d1 j i hj hi e)
  · obtain ⟨f, hf⟩ := hW.2.2
    exact ⟨f, hf.kept fun k q hq => hk _ (P_lt hf hq) (fun z => by
      obtain ⟨i, hi, e⟩ := z
      match k, hq with
      | 0, hq => cases hq; exact d3 i hi e.symm
      | k + 1, hq => simp at hq)⟩
end LWK
theorem ix_law {x4 : Int32} {i k L : Nat} (e : x4 = nI i) (hi : i + 6 ≤ L) (hL : L ≤ 384) (hk : k < 6) : vp_in (x4 + nI k) L := by
  rw [e, nI_add]
  exact vp_in_nI (by omega) (by omega)
theorem tw261 : Cond.methodLink RL 21 yX11_dress ∈ TBL := tb_of 261 (by decide +kernel) rfl
theorem tw1078 : Cond.methodLink RL 25 yX12_dress ∈ TBL := tb_of 1078 (by decide +kernel) rfl
theorem tw529 : Cond.methodLink RL 26 yX11_ring ∈ TBL := tb_of 529 (by decide +kernel) rfl
theorem tw1154 : Cond.methodLink RL 30 yX12_ring ∈ TBL := tb_of 1154 (by decide +kernel) rfl
theorem tw535 : Cond.methodLink RL 31 yX11_line ∈ TBL := tb_of 535 (by decide +kernel) rfl
theorem tw1159 : Cond.methodLink RL 34 yX12_line ∈ TBL := tb_of 1159 (by decide +kernel) rfl
theorem tw539 : Cond.methodLink RL 35 yX11_may ∈ TBL := tb_of 539 (by decide +kernel) rfl
theorem tw1165 : Cond.methodLink RL 38 yX12_may ∈ TBL := tb_of 1165 (by decide +kernel) rfl
theorem tw552 : Cond.methodLink RL 39 yX11_pin ∈ TBL := tb_of 552 (by decide +kernel) rfl
theorem tw1173 : Cond.methodLink RL 42 yX12_pin ∈ TBL := tb_of 1173 (by decide +kernel) rfl
theorem tw568 : Cond.methodLink RL 43 yX11_ease ∈ TBL := tb_of 568 (by decide +kernel) rfl
theorem tw1185 : Cond.methodLink RL 46 yX12_ease ∈ TBL := tb_of 1185 (by decide +kernel) rfl
theorem tw574 : Cond.methodLink RL 47 yX11_fit ∈ TBL := tb_of 574 (by decide +kernel) rfl
theorem tw1190 : Cond.methodLink RL 50 yX12_fit ∈ TBL := tb_of 1190 (by decide +kernel) rfl
theorem tw586 : Cond.methodLink RL 51 yX11_lacks ∈ TBL := tb_of 586 (by decide +kernel) rfl
theorem tw1199 : Cond.methodLink RL 55 yX12_lacks ∈ TBL := tb_of 1199 (by decide +kernel) rfl
theorem tw590 : Cond.methodLink RL 56 yX11_bestPin ∈ TBL := tb_of 590 (by decide +kernel) rfl
theorem tw1203 : Cond.methodLink RL 59 yX12_bestPin ∈ TBL := tb_of 1203 (by decide +kernel) rfl
theorem tw595 : Cond.methodLink RL 60 yX11_least ∈ TBL := tb_of 595 (by decide +kernel) rfl
theorem tw1207 : Cond.methodLink RL 63 yX12_least ∈ TBL := tb_of 1207 (by decide +kernel) rfl
theorem tw623 : Cond.methodLink RL 64 yX11_first ∈ TBL := tb_of 623 (by decide +kernel) rfl
theorem tw1223 : Cond.methodLink RL 67 yX12_first ∈ TBL := tb_of 1223 (by decide +kernel) rfl
theorem tw627 : Cond.methodLink RL 68 yX11_orders ∈ TBL := tb_of 627 (by decide +kernel) rfl
theorem tw1227 : Cond.methodLink RL 71 yX12_orders ∈ TBL := tb_of 1227 (by decide +kernel) rfl
theorem tw639 : Cond.methodLink RL 72 yX11_hem ∈ TBL := tb_of 639 (by decide +kernel) rfl
theorem tw1235 : Cond.methodLink RL 76 yX12_hem ∈ TBL := tb_of 1235 (by decide +kernel) rfl
theorem tw643 : Cond.methodLink RL 77 yX11_darts ∈ TBL := tb_of 643 (by decide +kernel) rfl
theorem tw1241 : Cond.methodLink RL 81 yX12_darts ∈ TBL := tb_of 1241 (by decide +kernel) rfl
theorem tw647 : Cond.methodLink RL 82 yX11_stripes ∈ TBL := tb_of 647 (by decide +kernel) rfl
theorem tw1245 : Cond.methodLink RL 85 yX12_stripes ∈ TBL := tb_of 1245 (by decide +kernel) rfl
theorem tw651 : Cond.methodLink RL 86 yX11_measures ∈ TBL := tb_of 651 (by decide +kernel) rfl
theorem tw1250 : Cond.methodLink RL 89 yX12_measures ∈ TBL := tb_of 1250 (by decide +kernel) rfl
theorem tw675 : Cond.methodLink RL 90 yX11_sizes ∈ TBL := tb_of 675 (by decide +kernel) rfl
theorem tw1254 : Cond.methodLink RL 93 yX12_sizes ∈ TBL := tb_of 1254 (by decide +kernel) rfl
theorem tw701 : Cond.methodLink RL 94 yX11_old ∈ TBL := tb_of 701 (by decide +kernel) rfl
theorem tw1267 : Cond.methodLink RL 97 yX12_old ∈ TBL := tb_of 1267 (by decide +kernel) rfl
theorem tw709 : Cond.methodLink RL 98 yX11_shape ∈ TBL := tb_of 709 (by decide +kernel) rfl
theorem tw1271 : Cond.methodLink RL 101 yX12_shape ∈ TBL := tb_of 1271 (by decide +kernel) rfl
theorem tw713 : Cond.methodLink RL 102 yX11_seeded ∈ TBL := tb_of 713 (by decide +kernel) rfl
theorem tw1275 : Cond.methodLink RL 105 yX12_seeded ∈ TBL := tb_of 1275 (by decide +kernel) rfl
theorem tw725 : Cond.methodLink RL 106 yX11_judge ∈ TBL := tb_of 725 (by decide +kernel) rfl
theorem tw1286 : Cond.methodLink RL 109 yX12_judge ∈ TBL := tb_of 1286 (by decide +kernel) rfl
theorem tw734 : Cond.methodLink RL 110 yX11_image ∈ TBL := tb_of 734 (by decide +kernel) rfl
theorem tw1062 : Cond.methodLink RL 113 yX12_image ∈ TBL := tb_of 1062 (by decide +kernel) rfl
theorem tw738 : Cond.methodLink RL 114 yX11_restore ∈ TBL := tb_of 738 (by decide +kernel) rfl
theorem tw1074 : Cond.methodLink RL 117 yX12_restore ∈ TBL := tb_of 1074 (by decide +kernel) rfl
theorem tw742 : Cond.methodLink RL 118 yX11_count ∈ TBL := tb_of 742 (by decide +kernel) rfl
theorem tw1297 : Cond.methodLink RL 121 yX12_count ∈ TBL := tb_of 1297 (by decide +kernel) rfl
theorem tw750 : Cond.methodLink RL 122 yX11_keep ∈ TBL := tb_of 750 (by decide +kernel) rfl
theorem tw1301 : Cond.methodLink RL 125 yX12_keep ∈ TBL := tb_of 1301 (by decide +kernel) rfl
theorem tw762 : Cond.methodLink RL 126 yX11_row ∈ TBL := tb_of 762 (by decide +kernel) rfl
theorem tw1305 : Cond.methodLink RL 129 yX12_row ∈ TBL := tb_of 1305 (by decide +kernel) rfl
theorem tw772 : Cond.methodLink RL 130 yX11_put ∈ TBL := tb_of 772 (by decide +kernel) rfl
theorem tw1309 : Cond.methodLink RL 133 yX12_put ∈ TBL := tb_of 1309 (by decide +kernel) rfl
theorem tw784 : Cond.methodLink RL 143 yX11_copy ∈ TBL := tb_of 784 (by decide +kernel) rfl
theorem tw1320 : Cond.methodLink RL 147 yX12_copy ∈ TBL := tb_of 1320 (by decide +kernel) rfl
theorem tw794 : Cond.methodLink RL 148 yX11_minutes ∈ TBL := tb_of 794 (by decide +kernel) rfl
theorem tw1324 : Cond.methodLink RL 151 yX12_minutes ∈ TBL := tb_of 1324 (by decide +kernel) rfl
theorem tw591 : Cond.instanceMethod yX11_bestPin ∈ TBL := tb_of 591 (by decide +kernel) rfl
theorem tw592 : Cond.selects RX11 yX11_bestPin yX11_bestPin ∈ TBL := tb_of 592 (by decide +kernel) rfl
theorem tw593 : Cond.code yX11_bestPin cX11_bestPin 11 (some .int) ∈ TBL := tb_of 593 (by decide +kernel) rfl
theorem tw785 : Cond.instanceMethod yX11_copy ∈ TBL := tb_of 785 (by decide +kernel) rfl
theorem tw786 : Cond.selects RX11 yX11_copy yX11_copy ∈ TBL := tb_of 786 (by decide +kernel) rfl
theorem tw787 : Cond.code yX11_copy cX11_copy 8 (some .int) ∈ TBL := tb_of 787 (by decide +kernel) rfl
theorem tw743 : Cond.instanceMethod yX11_count ∈ TBL := tb_of 743 (by decide +kernel) rfl
theorem tw744 : Cond.selects RX11 yX11_count yX11_count ∈ TBL := tb_of 744 (by decide +kernel) rfl
theorem tw745 : Cond.code yX11_count cX11_count 2 (some .int) ∈ TBL := tb_of 745 (by decide +kernel) rfl
theorem tw644 : Cond.instanceMethod yX11_darts ∈ TBL := tb_of 644 (by decide +kernel) rfl
theorem tw645 : Cond.selects RX11 yX11_darts yX11_darts ∈ TBL := tb_of 645 (by decide +kernel) rfl
theorem tw646 : Cond.code yX11_darts cX11_darts 7 (some .int) ∈ TBL := tb_of 646 (by decide +kernel) rfl
theorem tw262 : Cond.instanceMethod yX11_dress ∈ TBL := tb_of 262 (by decide +kernel) rfl
theorem tw263 : Cond.selects RX11 yX11_dress yX11_dress ∈ TBL := tb_of 263 (by decide +kernel) rfl
theorem tw264 : Cond.code yX11_dress cX11_dress 7 (some .int) ∈ TBL := tb_of 264 (by decide +kernel) rfl
theorem tw569 : Cond.instanceMethod yX11_ease ∈ TBL := tb_of 569 (by decide +kernel) rfl
theorem tw570 : Cond.selects RX11 yX11_ease yX11_ease ∈ TBL := tb_of 570 (by decide +kernel) rfl
theorem tw571 : Cond.code yX11_ease cX11_ease 4 (some .int) ∈ TBL := tb_of 571 (by decide +kernel) rfl
theorem tw624 : Cond.instanceMethod yX11_first ∈ TBL := tb_of 624 (by decide +kernel) rfl
theorem tw625 : Cond.selects RX11 yX11_first yX11_first ∈ TBL := tb_of 625 (by decide +kernel) rfl
theorem tw626 : Cond.code yX11_first cX11_first 6 (some .int) ∈ TBL := tb_of 626 (by decide +kernel) rfl
theorem tw575 : Cond.instanceMethod yX11_fit ∈ TBL := tb_of 575 (by decide +kernel) rfl
theorem tw576 : Cond.selects RX11 yX11_fit yX11_fit ∈ TBL := tb_of 576 (by decide +kernel) rfl
theorem tw577 : Cond.code yX11_fit cX11_fit 4 (some .int) ∈ TBL := tb_of 577 (by decide +kernel) rfl
theorem tw640 : Cond.instanceMethod yX11_hem ∈ TBL := tb_of 640 (by decide +kernel) rfl
theorem tw641 : Cond.selects RX11 yX11_hem yX11_hem ∈ TBL := tb_of 641 (by decide +kernel) rfl
theorem tw642 : Cond.code yX11_hem cX11_hem 6 (some .int) ∈ TBL := tb_of 642 (by decide +kernel) rfl
theorem tw735 : Cond.instanceMethod yX11_image ∈ TBL := tb_of 735 (by decide +kernel) rfl
theorem tw736 : Cond.selects RX11 yX11_image yX11_image ∈ TBL := tb_of 736 (by decide +kernel) rfl
theorem tw737 : Cond.code yX11_image cX11_image 1 (some .int) ∈ TBL := tb_of 737 (by decide +kernel) rfl
theorem tw726 : Cond.instanceMethod yX11_judge ∈ TBL := tb_of 726 (by decide +kernel) rfl
theorem tw727 : Cond.selects RX11 yX11_judge yX11_judge ∈ TBL := tb_of 727 (by decide +kernel) rfl
theorem tw728 : Cond.code yX11_judge cX11_judge 9 (some .int) ∈ TBL := tb_of 728 (by decide +kernel) rfl
theorem tw751 : Cond.instanceMethod yX11_keep ∈ TBL := tb_of 751 (by decide +kernel) rfl
theorem tw752 : Cond.selects RX11 yX11_keep yX11_keep ∈ TBL := tb_of 752 (by decide +kernel) rfl
theorem tw753 : Cond.code yX11_keep cX11_keep 5 (some .int) ∈ TBL := tb_of 753 (by decide +kernel) rfl
theorem tw587 : Cond.instanceMethod yX11_lacks ∈ TBL := tb_of 587 (by decide +kernel) rfl
theorem tw588 : Cond.selects RX11 yX11_lacks yX11_lacks ∈ TBL := tb_of 588 (by decide +kernel) rfl
theorem tw589 : Cond.code yX11_lacks cX11_lacks 1 (some .int) ∈ TBL := tb_of 589 (by decide +kernel) rfl
theorem tw596 : Cond.instanceMethod yX11_least ∈ TBL := tb_of 596 (by decide +kernel) rfl
theorem tw597 : Cond.selects RX11 yX11_least yX11_least ∈ TBL := tb_of 597 (by decide +kernel) rfl
theorem tw598 : Cond.code yX11_least cX11_least 12 (some .int) ∈ TBL := tb_of 598 (by decide +kernel) rfl
theorem tw536 : Cond.instanceMethod yX11_line ∈ TBL := tb_of 536 (by decide +kernel) rfl
theorem tw537 : Cond.selects RX11 yX11_line yX11_line ∈ TBL := tb_of 537 (by decide +kernel) rfl
theorem tw538 : Cond.code yX11_line cX11_line 4 (some .int) ∈ TBL := tb_of 538 (by decide +kernel) rfl
theorem tw540 : Cond.instanceMethod yX11_may ∈ TBL := tb_of 540 (by decide +kernel) rfl
theorem tw541 : Cond.selects RX11 yX11_may yX11_may ∈ TBL := tb_of 541 (by decide +kernel) rfl
theorem tw542 : Cond.code yX11_may cX11_may 5 (some .int) ∈ TBL := tb_of 542 (by decide +kernel) rfl
theorem tw652 : Cond.instanceMethod yX11_measures ∈ TBL := tb_of 652 (by decide +kernel) rfl
theorem tw653 : Cond.selects RX11 yX11_measures yX11_measures ∈ TBL := tb_of 653 (by decide +kernel) rfl
theorem tw654 : Cond.code yX11_measures cX11_measures 5 (some .int) ∈ TBL := tb_of 654 (by decide +kernel) rfl
theorem tw795 : Cond.instanceMethod yX11_minutes ∈ TBL := tb_of 795 (by decide +kernel) rfl
theorem tw796 : Cond.selects RX11 yX11_minutes yX11_minutes ∈ TBL := tb_of 796 (by decide +kernel) rfl
theorem tw797 : Cond.code yX11_minutes cX11_minutes 4 (some .int) ∈ TBL := tb_of 797 (by decide +kernel) rfl
theorem tw702 : Cond.instanceMethod yX11_old ∈ TBL := tb_of 702 (by decide +kernel) rfl
theorem tw703 : Cond.selects RX11 yX11_old yX11_old ∈ TBL := tb_of 703 (by decide +kernel) rfl
theorem tw704 : Cond.code yX11_old cX11_old 8 (some .int) ∈ TBL := tb_of 704 (by decide +kernel) rfl
theorem tw628 : Cond.instanceMethod yX11_orders ∈ TBL := tb_of 628 (by decide +kernel) rfl
theorem tw629 : Cond.selects RX11 yX11_orders yX11_orders ∈ TBL := tb_of 629 (by decide +kernel) rfl
theorem tw630 : Cond.code yX11_orders cX11_orders 11 (some .int) ∈ TBL := tb_of 630 (by decide +kernel) rfl
theorem tw553 : Cond.instanceMethod yX11_pin ∈ TBL := tb_of 553 (by decide +kernel) rfl
theorem tw554 : Cond.selects RX11 yX11_pin yX11_pin ∈ TBL := tb_of 554 (by decide +kernel) rfl
theorem tw555 : Cond.code yX11_pin cX11_pin 5 (some .int) ∈ TBL := tb_of 555 (by decide +kernel) rfl
theorem tw773 : Cond.instanceMethod yX11_put ∈ TBL := tb_of 773 (by decide +kernel) rfl
theorem tw774 : Cond.selects RX11 yX11_put yX11_put ∈ TBL := tb_of 774 (by decide +kernel) rfl
theorem tw775 : Cond.code yX11_put cX11_put 6 (some .int) ∈ TBL := tb_of 775 (by decide +kernel) rfl
theorem tw739 : Cond.instanceMethod yX11_restore ∈ TBL := tb_of 739 (by decide +kernel) rfl
theorem tw740 : Cond.selects RX11 yX11_restore yX11_restore ∈ TBL := tb_of 740 (by decide +kernel) rfl
theorem tw741 : Cond.code yX11_restore cX11_restore 1 (some .int) ∈ TBL := tb_of 741 (by decide +kernel) rfl
theorem tw530 : Cond.instanceMethod yX11_ring ∈ TBL := tb_of 530 (by decide +kernel) rfl
theorem tw531 : Cond.selects RX11 yX11_ring yX11_ring ∈ TBL := tb_of 531 (by decide +kernel) rfl
theorem tw532 : Cond.code yX11_ring cX11_ring 3 (some .int) ∈ TBL := tb_of 532 (by decide +kernel) rfl
theorem tw763 : Cond.instanceMethod yX11_row ∈ TBL := tb_of 763 (by decide +kernel) rfl
theorem tw764 : Cond.selects RX11 yX11_row yX11_row ∈ TBL := tb_of 764 (by decide +kernel) rfl
theorem tw765 : Cond.code yX11_row cX11_row 4 (some .int) ∈ TBL := tb_of 765 (by decide +kernel) rfl
theorem tw714 : Cond.instanceMethod yX11_seeded ∈ TBL := tb_of 714 (by decide +kernel) rfl
theorem tw715 : Cond.selects RX11 yX11_seeded yX11_seeded ∈ TBL := tb_of 715 (by decide +kernel) rfl
theorem tw716 : Cond.code yX11_seeded cX11_seeded 10 (some .int) ∈ TBL := tb_of 716 (by decide +kernel) rfl
theorem tw710 : Cond.instanceMethod yX11_shape ∈ TBL := tb_of 710 (by decide +kernel) rfl
theorem tw711 : Cond.selects RX11 yX11_shape yX11_shape ∈ TBL := tb_of 711 (by decide +kernel) rfl
theorem tw712 : Cond.code yX11_shape cX11_shape 3 (some .int) ∈ TBL := tb_of 712 (by decide +kernel) rfl
theorem tw676 : Cond.instanceMethod yX11_sizes ∈ TBL := tb_of 676 (by decide +kernel) rfl
theorem tw677 : Cond.selects RX11 yX11_sizes yX11_sizes ∈ TBL := tb_of 677 (by decide +kernel) rfl
theorem tw678 : Cond.code yX11_sizes cX11_sizes 7 (some .int) ∈ TBL := tb_of 678 (by decide +kernel) rfl
theorem tw648 : Cond.instanceMethod yX11_stripes ∈ TBL := tb_of 648 (by decide +kernel) rfl
theorem tw649 : Cond.selects RX11 yX11_stripes yX11_stripes ∈ TBL := tb_of 649 (by decide +kernel) rfl
theorem tw650 : Cond.code yX11_stripes cX11_stripes 7 (some .int) ∈ TBL := tb_of 650 (by decide +kernel) rfl
theorem tw1204 : Cond.instanceMethod yX12_bestPin ∈ TBL := tb_of 1204 (by decide +kernel) rfl
theorem tw1205 : Cond.selects RX12 yX12_bestPin yX12_bestPin ∈ TBL := tb_of 1205 (by decide +kernel) rfl
theorem tw1206 : Cond.code yX12_bestPin cX12_bestPin 11 (some .int) ∈ TBL := tb_of 1206 (by decide +kernel) rfl
theorem tw1321 : Cond.instanceMethod yX12_copy ∈ TBL := tb_of 1321 (by decide +kernel) rfl
theorem tw1322 : Cond.selects RX12 yX12_copy yX12_copy ∈ TBL := tb_of 1322 (by decide +kernel) rfl
theorem tw1323 : Cond.code yX12_copy cX12_copy 7 (some .int) ∈ TBL := tb_of 1323 (by decide +kernel) rfl
theorem tw1298 : Cond.instanceMethod yX12_count ∈ TBL := tb_of 1298 (by decide +kernel) rfl
theorem tw1299 : Cond.selects RX12 yX12_count yX12_count ∈ TBL := tb_of 1299 (by decide +kernel) rfl
theorem tw1300 : Cond.code yX12_count cX12_count 5 (some .int) ∈ TBL := tb_of 1300 (by decide +kernel) rfl
theorem tw1242 : Cond.instanceMethod yX12_darts ∈ TBL := tb_of 1242 (by decide +kernel) rfl
theorem tw1243 : Cond.selects RX12 yX12_darts yX12_darts ∈ TBL := tb_of 1243 (by decide +kernel) rfl
theorem tw1244 : Cond.code yX12_darts cX12_darts 5 (some .int) ∈ TBL := tb_of 1244 (by decide +kernel) rfl
theorem tw1079 : Cond.instanceMethod yX12_dress ∈ TBL := tb_of 1079 (by decide +kernel) rfl
theorem tw1080 : Cond.selects RX12 yX12_dress yX12_dress ∈ TBL := tb_of 1080 (by decide +kernel) rfl
theorem tw1081 : Cond.code yX12_dress cX12_dress 4 (some .int) ∈ TBL := tb_of 1081 (by decide +kernel) rfl
theorem tw1186 : Cond.instanceMethod yX12_ease ∈ TBL := tb_of 1186 (by decide +kernel) rfl
theorem tw1187 : Cond.selects RX12 yX12_ease yX12_ease ∈ TBL := tb_of 1187 (by decide +kernel) rfl
theorem tw1188 : Cond.code yX12_ease cX12_ease 3 (some .int) ∈ TBL := tb_of 1188 (by decide +kernel) rfl
theorem tw1224 : Cond.instanceMethod yX12_first ∈ TBL := tb_of 1224 (by decide +kernel) rfl
theorem tw1225 : Cond.selects RX12 yX12_first yX12_first ∈ TBL := tb_of 1225 (by decide +kernel) rfl
theorem tw1226 : Cond.code yX12_first cX12_first 5 (some .int) ∈ TBL := tb_of 1226 (by decide +kernel) rfl
theorem tw1191 : Cond.instanceMethod yX12_fit ∈ TBL := tb_of 1191 (by decide +kernel) rfl
theorem tw1192 : Cond.selects RX12 yX12_fit yX12_fit ∈ TBL := tb_of 1192 (by decide +kernel) rfl
theorem tw1193 : Cond.code yX12_fit cX12_fit 6 (some .int) ∈ TBL := tb_of 1193 (by decide +kernel) rfl
theorem tw1236 : Cond.instanceMethod yX12_hem ∈ TBL := tb_of 1236 (by decide +kernel) rfl
theorem tw1237 : Cond.selects RX12 yX12_hem yX12_hem ∈ TBL := tb_of 1237 (by decide +kernel) rfl
theorem tw1238 : Cond.code yX12_hem cX12_hem 6 (some .int) ∈ TBL := tb_of 1238 (by decide +kernel) rfl
theorem tw1063 : Cond.instanceMethod yX12_image ∈ TBL := tb_of 1063 (by decide +kernel) rfl
theorem tw1064 : Cond.selects RX12 yX12_image yX12_image ∈ TBL := tb_of 1064 (by decide +kernel) rfl
theorem tw1065 : Cond.code yX12_image cX12_image 1 (some .int) ∈ TBL := tb_of 1065 (by decide +kernel) rfl
theorem tw1287 : Cond.instanceMethod yX12_judge ∈ TBL := tb_of 1287 (by decide +kernel) rfl
theorem tw1288 : Cond.selects RX12 yX12_judge yX12_judge ∈ TBL := tb_of 1288 (by decide +kernel) rfl
theorem tw1289 : Cond.code yX12_judge cX12_judge 7 (some .int) ∈ TBL := tb_of 1289 (by decide +kernel) rfl
theorem tw1302 : Cond.instanceMethod yX12_keep ∈ TBL := tb_of 1302 (by decide +kernel) rfl
theorem tw1303 : Cond.selects RX12 yX12_keep yX12_keep ∈ TBL := tb_of 1303 (by decide +kernel) rfl
theorem tw1304 : Cond.code yX12_keep cX12_keep 5 (some .int) ∈ TBL := tb_of 1304 (by decide +kernel) rfl
theorem tw1200 : Cond.instanceMethod yX12_lacks ∈ TBL := tb_of 1200 (by decide +kernel) rfl
theorem tw1201 : Cond.selects RX12 yX12_lacks yX12_lacks ∈ TBL := tb_of 1201 (by decide +kernel) rfl
theorem tw1202 : Cond.code yX12_lacks cX12_lacks 1 (some .int) ∈ TBL := tb_of 1202 (by decide +kernel) rfl
theorem tw1208 : Cond.instanceMethod yX12_least ∈ TBL := tb_of 1208 (by decide +kernel) rfl
theorem tw1209 : Cond.selects RX12 yX12_least yX12_least ∈ TBL := tb_of 1209 (by decide +kernel) rfl
theorem tw1210 : Cond.code yX12_least cX12_least 12 (some .int) ∈ TBL := tb_of 1210 (by decide +kernel) rfl
theorem tw1160 : Cond.instanceMethod yX12_line ∈ TBL := tb_of 1160 (by decide +kernel) rfl
theorem tw1161 : Cond.selects RX12 yX12_line yX12_line ∈ TBL := tb_of 1161 (by decide +kernel) rfl
theorem tw1162 : Cond.code yX12_line cX12_line 4 (some .int) ∈ TBL := tb_of 1162 (by decide +kernel) rfl
theorem tw1166 : Cond.instanceMethod yX12_may ∈ TBL := tb_of 1166 (by decide +kernel) rfl
theorem tw1167 : Cond.selects RX12 yX12_may yX12_may ∈ TBL := tb_of 1167 (by decide +kernel) rfl
theorem tw1168 : Cond.code yX12_may cX12_may 4 (some .int) ∈ TBL := tb_of 1168 (by decide +kernel) rfl
theorem tw1251 : Cond.instanceMethod yX12_measures ∈ TBL := tb_of 1251 (by decide +kernel) rfl
theorem tw1252 : Cond.selects RX12 yX12_measures yX12_measures ∈ TBL := tb_of 1252 (by decide +kernel) rfl
theorem tw1253 : Cond.code yX12_measures cX12_measures 8 (some .int) ∈ TBL := tb_of 1253 (by decide +kernel) rfl
theorem tw1325 : Cond.instanceMethod yX12_minutes ∈ TBL := tb_of 1325 (by decide +kernel) rfl
theorem tw1326 : Cond.selects RX12 yX12_minutes yX12_minutes ∈ TBL := tb_of 1326 (by decide +kernel) rfl
theorem tw1327 : Cond.code yX12_minutes cX12_minutes 2 (some .int) ∈ TBL := tb_of 1327 (by decide +kernel) rfl
theorem tw1268 : Cond.instanceMethod yX12_old ∈ TBL := tb_of 1268 (by decide +kernel) rfl
theorem tw1269 : Cond.selects RX12 yX12_old yX12_old ∈ TBL := tb_of 1269 (by decide +kernel) rfl
theorem tw1270 : Cond.code yX12_old cX12_old 12 (some .int) ∈ TBL := tb_of 1270 (by decide +kernel) rfl
theorem tw1228 : Cond.instanceMethod yX12_orders ∈ TBL := tb_of 1228 (by decide +kernel) rfl
theorem tw1229 : Cond.selects RX12 yX12_orders yX12_orders ∈ TBL := tb_of 1229 (by decide +kernel) rfl
theorem tw1230 : Cond.code yX12_orders cX12_orders 13 (some .int) ∈ TBL := tb_of 1230 (by decide +kernel) rfl
theorem tw1174 : Cond.instanceMethod yX12_pin ∈ TBL := tb_of 1174 (by decide +kernel) rfl
theorem tw1175 : Cond.selects RX12 yX12_pin yX12_pin ∈ TBL := tb_of 1175 (by decide +kernel) rfl
theorem tw1176 : Cond.code yX12_pin cX12_pin 4 (some .int) ∈ TBL := tb_of 1176 (by decide +kernel) rfl
theorem tw1310 : Cond.instanceMethod yX12_put ∈ TBL := tb_of 1310 (by decide +kernel) rfl
theorem tw1311 : Cond.selects RX12 yX12_put yX12_put ∈ TBL := tb_of 1311 (by decide +kernel) rfl
theorem tw1312 : Cond.code yX12_put cX12_put 5 (some .int) ∈ TBL := tb_of 1312 (by decide +kernel) rfl
theorem tw1075 : Cond.instanceMethod yX12_restore ∈ TBL := tb_of 1075 (by decide +kernel) rfl
theorem tw1076 : Cond.selects RX12 yX12_restore yX12_restore ∈ TBL := tb_of 1076 (by decide +kernel) rfl
theorem tw1077 : Cond.code yX12_restore cX12_restore 1 (some .int) ∈ TBL := tb_of 1077 (by decide +kernel) rfl
theorem tw1155 : Cond.instanceMethod yX12_ring ∈ TBL := tb_of 1155 (by decide +kernel) rfl
theorem tw1156 : Cond.selects RX12 yX12_ring yX12_ring ∈ TBL := tb_of 1156 (by decide +kernel) rfl
theorem tw1157 : Cond.code yX12_ring cX12_ring 3 (some .int) ∈ TBL := tb_of 1157 (by decide +kernel) rfl
theorem tw1306 : Cond.instanceMethod yX12_row ∈ TBL := tb_of 1306 (by decide +kernel) rfl
theorem tw1307 : Cond.selects RX12 yX12_row yX12_row ∈ TBL := tb_of 1307 (by decide +kernel) rfl
theorem tw1308 : Cond.code yX12_row cX12_row 5 (some .int) ∈ TBL := tb_of 1308 (by decide +kernel) rfl
theorem tw1276 : Cond.instanceMethod yX12_seeded ∈ TBL := tb_of 1276 (by decide +kernel) rfl
theorem tw1277 : Cond.selects RX12 yX12_seeded yX12_seeded ∈ TBL := tb_of 1277 (by decide +kernel) rfl
theorem tw1278 : Cond.code yX12_seeded cX12_seeded 9 (some .int) ∈ TBL := tb_of 1278 (by decide +kernel) rfl
theorem tw1272 : Cond.instanceMethod yX12_shape ∈ TBL := tb_of 1272 (by decide +kernel) rfl
theorem tw1273 : Cond.selects RX12 yX12_shape yX12_shape ∈ TBL := tb_of 1273 (by decide +kernel) rfl
theorem tw1274 : Cond.code yX12_shape cX12_shape 3 (some .int) ∈ TBL := tb_of 1274 (by decide +kernel) rfl
theorem tw1255 : Cond.instanceMethod yX12_sizes ∈ TBL := tb_of 1255 (by decide +kernel) rfl
theorem tw1256 : Cond.selects RX12 yX12_sizes yX12_sizes ∈ TBL := tb_of 1256 (by decide +kernel) rfl
theorem tw1257 : Cond.code yX12_sizes cX12_sizes 9 (some .int) ∈ TBL := tb_of 1257 (by decide +kernel) rfl
theorem tw1246 : Cond.instanceMethod yX12_stripes ∈ TBL := tb_of 1246 (by decide +kernel) rfl
theorem tw1247 : Cond.selects RX12 yX12_stripes yX12_stripes ∈ TBL := tb_of 1247 (by decide +kernel) rfl
theorem tw1248 : Cond.code yX12_stripes cX12_stripes 6 (some .int) ∈ TBL := tb_of 1248 (by decide +kernel) rfl
theorem cv_X11_bestPin : CV yX11_bestPin cX11_bestPin 11 (some .int) 2 := ⟨tw591, tw592, tw59, tw593, by decide, by decide, by decide +kernel⟩
theorem cv_X11_copy : CV yX11_copy cX11_copy 8 (some .int) 5 := ⟨tw785, tw786, tw59, tw787, by decide, by decide, by decide +kernel⟩
theorem cv_X11_count : CV yX11_count cX11_count 2 (some .int) 1 := ⟨tw743, tw744, tw59, tw745, by decide, by decide, by decide +kernel⟩
theorem cv_X11_darts : CV yX11_darts cX11_darts 7 (some .int) 4 := ⟨tw644, tw645, tw59, tw646, by decide, by decide, by decide +kernel⟩
theorem cv_X11_dress : CV yX11_dress cX11_dress 7 (some .int) 1 := ⟨tw262, tw263, tw59, tw264, by decide, by decide, by decide +kernel⟩
theorem cv_X11_ease : CV yX11_ease cX11_ease 4 (some .int) 2 := ⟨tw569, tw570, tw59, tw571, by decide, by decide, by decide +kernel⟩
theorem cv_X11_first : CV yX11_first cX11_first 6 (some .int) 1 := ⟨tw624, tw625, tw59, tw626, by decide, by decide, by decide +kernel⟩
theorem cv_X11_fit : CV yX11_fit cX11_fit 4 (some .int) 1 := ⟨tw575, tw576, tw59, tw577, by decide, by decide, by decide +kernel⟩
theorem cv_X11_hem : CV yX11_hem cX11_hem 6 (some .int) 3 := ⟨tw640, tw641, tw59, tw642, by decide, by decide, by decide +kernel⟩
theorem cv_X11_image : CV yX11_image cX11_image 1 (some .int) 0 := ⟨tw735, tw736, tw59, tw737, by decide, by decide, by decide +kernel⟩
theorem cv_X11_judge : CV yX11_judge cX11_judge 9 (some .int) 2 := ⟨tw726, tw727, tw59, tw728, by decide, by decide, by decide +kernel⟩
theorem cv_X11_keep : CV yX11_keep cX11_keep 5 (some .int) 4 := ⟨tw751, tw752, tw59, tw753, by decide, by decide, by decide +kernel⟩
theorem cv_X11_lacks : CV yX11_lacks cX11_lacks 1 (some .int) 0 := ⟨tw587, tw588, tw59, tw589, by decide, by decide, by decide +kernel⟩
theorem cv_X11_least : CV yX11_least cX11_least 12 (some .int) 2 := ⟨tw596, tw597, tw59, tw598, by decide, by decide, by decide +kernel⟩
theorem cv_X11_line : CV yX11_line cX11_line 4 (some .int) 2 := ⟨tw536, tw537, tw59, tw538, by decide, by decide, by decide +kernel⟩
theorem cv_X11_may : CV yX11_may cX11_may 5 (some .int) 2 := ⟨tw540, tw541, tw59, tw542, by decide, by decide, by decide +kernel⟩
theorem cv_X11_measures : CV yX11_measures cX11_measures 5 (some .int) 2 := ⟨tw652, tw653, tw59, tw654, by decide, by decide, by decide +kernel⟩
theorem cv_X11_minutes : CV yX11_minutes cX11_minutes 4 (some .int) 1 := ⟨tw795, tw796, tw59, tw797, by decide, by decide, by decide +kernel⟩
theorem cv_X11_old : CV yX11_old cX11_old 8 (some .int) 1 := ⟨tw702, tw703, tw59, tw704, by decide, by decide, by decide +kernel⟩
theorem cv_X11_orders : CV yX11_orders cX11_orders 11 (some .int) 2 := ⟨tw628, tw629, tw59, tw630, by decide, by decide, by decide +kernel⟩
theorem cv_X11_pin : CV yX11_pin cX11_pin 5 (some .int) 2 := ⟨tw553, tw554, tw59, tw555, by decide, by decide, by decide +kernel⟩
theorem cv_X11_put : CV yX11_put cX11_put 6 (some .int) 3 := ⟨tw773, tw774, tw59, tw775, by decide, by decide, by decide +kernel⟩
theorem cv_X11_restore : CV yX11_restore cX11_restore 1 (some .int) 0 := ⟨tw739, tw740, tw59, tw741, by decide, by decide, by decide +kernel⟩
theorem cv_X11_ring : CV yX11_ring cX11_ring 3 (some .int) 2 := ⟨tw530, tw531, tw59, tw532, by decide, by decide, by decide +kernel⟩
theorem cv_X11_row : CV yX11_row cX11_row 4 (some .int) 3 := ⟨tw763, tw764, tw59, tw765, by decide, by decide, by decide +kernel⟩
theorem cv_X11_seeded : CV yX11_seeded cX11_seeded 10 (some .int) 3 := ⟨tw714, tw715, tw59, tw716, by decide, by decide, by decide +kernel⟩
theorem cv_X11_shape : CV yX11_shape cX11_shape 3 (some .int) 2 := ⟨tw710, tw711, tw59, tw712, by decide, by decide, by decide +kernel⟩
theorem cv_X11_sizes : CV yX11_sizes cX11_sizes 7 (some .int) 3 := ⟨tw676, tw677, tw59, tw678, by decide, by decide, by decide +kernel⟩
theorem cv_X11_stripes : CV yX11_stripes cX11_stripes 7 (some .int) 4 := ⟨tw648, tw649, tw59, tw650, by decide, by decide, by decide +kernel⟩
theorem cv_X12_bestPin : CV yX12_bestPin cX12_bestPin 11 (some .int) 2 := ⟨tw1204, tw1205, tw71, tw1206, by decide, by decide, by decide +kernel⟩
theorem cv_X12_copy : CV yX12_copy cX12_copy 7 (some .int) 5 := ⟨tw1321, tw1322, tw71, tw1323, by decide, by decide, by decide +kernel⟩
theorem cv_X12_count : CV yX12_count cX12_count 5 (some .int) 1 := ⟨tw1298, tw1299, tw71, tw1300, by decide, by decide, by decide +kernel⟩
theorem cv_X12_darts : CV yX12_darts cX12_darts 5 (some .int) 4 := ⟨tw1242, tw1243, tw71, tw1244, by decide, by decide, by decide +kernel⟩
theorem cv_X12_dress : CV yX12_dress cX12_dress 4 (some .int) 1 := ⟨tw1079, tw1080, tw71, tw1081, by decide, by decide, by decide +kernel⟩
theorem cv_X12_ease : CV yX12_ease cX12_ease 3 (some .int) 2 := ⟨tw1186, tw1187, tw71, tw1188, by decide, by decide, by decide +kernel⟩
theorem cv_X12_first : CV yX12_first cX12_first 5 (some .int) 1 := ⟨tw1224, tw1225, tw71, tw1226, by decide, by decide, by decide +kernel⟩
theorem cv_X12_fit : CV yX12_fit cX12_fit 6 (some .int) 1 := ⟨tw1191, tw1192, tw71, tw1193, by decide, by decide, by decide +kernel⟩
theorem cv_X12_hem : CV yX12_hem cX12_hem 6 (some .int) 3 := ⟨tw1236, tw1237, tw71, tw1238, by decide, by decide, by decide +kernel⟩
theorem cv_X12_image : CV yX12_image cX12_image 1 (some .int) 0 := ⟨tw1063, tw1064, tw71, tw1065, by decide, by decide, by decide +kernel⟩
theorem cv_X12_judge : CV yX12_judge cX12_judge 7 (some .int) 2 := ⟨tw1287, tw1288, tw71, tw1289, by decide, by decide, by decide +kernel⟩
theorem cv_X12_keep : CV yX12_keep cX12_keep 5 (some .int) 4 := ⟨tw1302, tw1303, tw71, tw1304, by decide, by decide, by decide +kernel⟩
theorem cv_X12_lacks : CV yX12_lacks cX12_lacks 1 (some .int) 0 := ⟨tw1200, tw1201, tw71, tw1202, by decide, by decide, by decide +kernel⟩
theorem cv_X12_least : CV yX12_least cX12_least 12 (some .int) 2 := ⟨tw1208, tw1209, tw71, tw1210, by decide, by decide, by decide +kernel⟩
theorem cv_X12_line : CV yX12_line cX12_line 4 (some .int) 2 := ⟨tw1160, tw1161, tw71, tw1162, by decide, by decide, by decide +kernel⟩
theorem cv_X12_may : CV yX12_may cX12_may 4 (some .int) 2 := ⟨tw1166, tw1167, tw71, tw1168, by decide, by decide, by decide +kernel⟩
theorem cv_X12_measures : CV yX12_measures cX12_measures 8 (some .int) 2 := ⟨tw1251, tw1252, tw71, tw1253, by decide, by decide, by decide +kernel⟩
theorem cv_X12_minutes : CV yX12_minutes cX12_minutes 2 (some .int) 1 := ⟨tw1325, tw1326, tw71, tw1327, by decide, by decide, by decide +kernel⟩
theorem cv_X12_old : CV yX12_old cX12_old 12 (some .int) 1 := ⟨tw1268, tw1269, tw71, tw1270, by decide, by decide, by decide +kernel⟩
theorem cv_X12_orders : CV yX12_orders cX12_orders 13 (some .int) 2 := ⟨tw1228, tw1229, tw71, tw1230, by decide, by decide, by decide +kernel⟩
theorem cv_X12_pin : CV yX12_pin cX12_pin 4 (some .int) 2 := ⟨tw1174, tw1175, tw71, tw1176, by decide, by decide, by decide +kernel⟩
theorem cv_X12_put : CV yX12_put cX12_put 5 (some .int) 3 := ⟨tw1310, tw1311, tw71, tw1312, by decide, by decide, by decide +kernel⟩
theorem cv_X12_restore : CV yX12_restore cX12_restore 1 (some .int) 0 := ⟨tw1075, tw1076, tw71, tw1077, by decide, by decide, by decide +kernel⟩
theorem cv_X12_ring : CV yX12_ring cX12_ring 3 (some .int) 2 := ⟨tw1155, tw1156, tw71, tw1157, by decide, by decide, by decide +kernel⟩
theorem cv_X12_row : CV yX12_row cX12_row 5 (some .int) 3 := ⟨tw1306, tw1307, tw71, tw1308, by decide, by decide, by decide +kernel⟩
theorem cv_X12_seeded : CV yX12_seeded cX12_seeded 9 (some .int) 3 := ⟨tw1276, tw1277, tw71, tw1278, by decide, by decide, by decide +kernel⟩
theorem cv_X12_shape : CV yX12_shape cX12_shape 3 (some .int) 2 := ⟨tw1272, tw1273, tw71, tw1274, by decide, by decide, by decide +kernel⟩
theorem cv_X12_sizes : CV yX12_sizes cX12_sizes 9 (some .int) 3 := ⟨tw1255, tw1256, tw71, tw1257, by decide, by decide, by decide +kernel⟩
theorem cv_X12_stripes : CV yX12_stripes cX12_stripes 6 (some .int) 4 := ⟨tw1246, tw1247, tw71, tw1248, by decide, by decide, by decide +kernel⟩
