/-! THE LAW: its two systems side by side, and the row of one long -/
def LF (ax am : Nat → Nat) (q3 sz : Nat) : Prop := InjN 50 ax ∧ InjN 21 am ∧ (∀ i, i < 50 → sz ≤ ax i) ∧ (∀ i, i < 21 → sz ≤ am i) ∧ sz ≤ q3 ∧ (∀ i j, i < 50 → j < 21 → ax i ≠ am j) ∧ (∀ i, i < 50 → ax i ≠ q3) ∧ ∀ i, i < 21 → am i ≠ q3
def LW (D : va_G) (ca : Nat → ClassId) (ax am : Nat → Nat) (q3 : Nat) (σ : Mem) (μ : MMem) (H : Heap) : Prop := va_P D vwCl (wX ca ax σ) H ∧ va_P D vwCl (wM ca am μ) H ∧ ∃ f : Nat → Int64, va_P D vwCl [(q3, .inl (ca 1, 1, .inr (.inl f)))] H
/-- what stands fast in the law -/
def LX (p : Program) (s : State) (m : MethodId) (meth : Method) (c : Code) (b L : Nat) (xs : Nat → Int32) (D : va_G) (ca : Nat → ClassId) (ax am : Nat → Nat) (q3 : Nat) (adK adV : Nat → Nat) : Prop :=
  Cx p s m #[Value.ref b] meth c RL cL_law 8 (some .boolean) ∧ KX D vwCl (tysE ca) s ∧ LF ax am q3 s.heap.size ∧ BS (fun q => s.heap.size ≤ q) adK adV s ∧ va_X b L xs s s.heap ∧ b < s.heap.size ∧ L ≤ 384
theorem wd_keep {ρ : Type} {D : va_G} {cl : List vw_C} {n : Nat} {a : Nat → Nat} {sh : Nat → ρ → va_E} {σ : Nat → ρ} {H H1 : Heap} (h : va_P D cl (wd n a sh σ) H) (hq : ∀ i, i < n → H1[a i]? = H[a i]?) : va_P D cl (wd n a sh σ) H1 := va_P.kept h fun k q hk => by
  obtain ⟨h1, rfl⟩ := wd_is hk
  exact hq k h1
theorem BS.narrow {A B : Nat → Prop} {adK adV : Nat → Nat} {s : State} (h : BS A adK adV s) (hAB : ∀ q, B q → A q) : BS B adK adV s := ⟨vk_S.narrow h.1 hAB, h.2.1, va_Z.narrow h.2.2.1 hAB, va_Zq.narrow h.2.2.2 hAB⟩
section LWK
variable {p : Program} {l : Launch} {e : Env} {R : Room} {s : State} {m : MethodId} {args : Array Value} {below : List Frame} {meth : Method} {c : Code} {H H0 : Heap} {locs : List Loc} {cells slots : Nat} {Q : State → Prop}
variable {D : va_G} {ca : Nat → ClassId} {ax am : Nat → Nat} {q3 : Nat} {pc : Nat} {ls : Array Slot} {rest st0 : List Value} {σ σ' : Mem} {μ μ' : MMem} {o : Option Value} {aa : Array Value}
theorem xcallL {cl : List vw_C} {ws' : va_W} {A0 A1 : Nat → Prop} (hr : va_Run p l e R s m args below meth c H locs cells slots 0 0 (F0 m pc ls st0) rest (XQ D cl A1 ws' o aa) A1) (hS : va_S A0 H0 H locs) (hA : ∀ q, A1 q → A0 q)
    (kk : ∀ (H1 : Heap) (locs1 : List Loc), va_P D cl ws' H1 → (∀ q : Nat, q < H.size → ¬ A1 q → H1[q]? = H[q]?) → va_S A0 H0 H1 locs1 → W p l e R s m args below meth c H1 locs1 cells slots Q (F0 m (pc + 3) ls (o.toList ++ rest))) : W p l e R s m args below meth c H locs cells slots Q (F0 m pc ls st0) := by
  intro T hT X
  obtain ⟨v, st₀, t, T', L, h0, X', hL, e1, e2, ⟨hv, hP', hz, hk⟩, st⟩ := hr T hT X
  cases hv
  rw [h0] at hz hk
  obtain ⟨t2, a1, b1⟩ := kk T'.heap (locs ++ L) (by rw [e1]; exact hP') (fun q h1 h2 => by rw [e1]; exact hk q h1 h2) ⟨Nat.le_trans hS.1 (by rw [e1]; exact hz), fun q h1 h2 => by rw [e1, hk q (Nat.lt_of_lt_of_le h1 hS.1) (fun z => h2 (hA q z))]; exact hS.2.1 q h1 h2, fun q hq => by
      rcases List.mem_append.mp hq with h | h
      · exact hS.2.2 q h
      · exact hA _ (hL q h)⟩ T' rfl X'
  exact ⟨t2, st t2 a1, b1⟩
theorem P_lt {D : va_G} {cl : List vw_C} {ws : va_W} {H : Heap} (h : va_P D cl ws H) {k : Nat} {q : Nat × va_E} (hk : ws[k]? = some q) : q.1 < H.size := (h k q hk).lt
/-- a call of the class -/
theorem lcX (hF : LF ax am q3 H0.size) (hW : LW D ca ax am q3 σ μ H) (hr : va_Run p l e R s m args below meth c H locs cells slots 0 0 (F0 m pc ls st0) rest (XQ D vwCl (AW 50 ax) (wX ca ax σ') o aa) (AW 50 ax)) (hS : va_S (fun q => H0.size ≤ q) H0 H locs)
    (kk : ∀ (H1 : Heap) (locs1 : List Loc), LW D ca ax am q3 σ' μ H1 → va_S (fun q => H0.size ≤ q) H0 H1 locs1 → W p l e R s m args below meth c H1 locs1 cells slots Q (F0 m (pc + 3) ls (o.toList ++ rest))) : W p l e R s m args below meth c H locs cells slots Q (F0 m pc ls st0) := by
  obtain ⟨i1, i2, a1, a2, a3, d1, d2, d3⟩ := hF
  refine xcallL hr hS (fun q hq => by obtain ⟨i, hi, rfl⟩ := hq; exact a1 i hi) (fun H1 locs1 hP hk hS1 => kk H1 locs1 ⟨hP, ?_, ?_⟩ hS1)
  · exact wd_keep hW.2.1 fun j hj => hk _ (P_lt hW.2.1 (wd_at hj)) (fun z => by obtain ⟨i, hi, e⟩ := z; exact d1 i j hi hj e.symm)
  · obtain ⟨f, hf⟩ := hW.2.2
    exact ⟨f, hf.kept fun k q hq => hk _ (P_lt hf hq) (fun z => by
      obtain ⟨i, hi, e⟩ := z
      match k, hq with
      | 0, hq => cases hq; exact d2 i hi e.symm
      | k + 1, hq => simp at hq)⟩
/-- a call of the reference -/
theorem lcM (hF : LF ax am q3 H0.size) (hW : LW D ca ax am q3 σ μ H) (hr : va_Run p l e R s m args below meth c H locs cells slots 0 0 (F0 m pc ls st0) rest (XQ D vwCl (AW 21 am) (wM ca am μ') o aa) (AW 21 am)) (hS : va_S (fun q => H0.size ≤ q) H0 H locs)
    (kk : ∀ (H1 : Heap) (locs1 : List Loc), LW D ca ax am q3 σ μ' H1 → va_S (fun q => H0.size ≤ q) H0 H1 locs1 → W p l e R s m args below meth c H1 locs1 cells slots Q (F0 m (pc + 3) ls (o.toList ++ rest))) : W p l e R s m args below meth c H locs cells slots Q (F0 m pc ls st0) := by
  obtain ⟨i1, i2, a1, a2, a3, d1, d2, d3⟩ := hF
  refine xcallL hr hS (fun q hq => by obtain ⟨i, hi, rfl⟩ := hq; exact a2 i hi) (fun H1 locs1 hP hk hS1 => kk H1 locs1 ⟨?_, hP, ?_⟩ hS1)
  · exact wd_keep hW.1 fun j hj => hk _ (P_lt hW.1 (wd_at hj)) (fun z => by obtain ⟨i, hi, e⟩ := z; exact d1 j i hj hi e)
  · obtain ⟨f, hf⟩ := hW.2.2
    exact ⟨f, hf.kept fun k q hq => hk _ (P_lt hf hq) (fun z => by
      obtain ⟨i, hi, e⟩ := z
      match k, hq with
      | 0, hq => cases hq; exact d3 i hi e.symm
      | k + 1, hq => simp at hq)⟩
end LWK
theorem ix_law {x4 : Int32} {i k L : Nat} (e : x4 = nI i) (hi : i + 6 ≤ L) (hL : L ≤ 384) (hk : k < 6) : vp_in (x4 + nI k) L := by
  rw [e, nI_add]
  exact vp_in_nI (by omega) (by omega)
theorem tw272 : Cond.methodLink RL 21 yX11_dress ∈ TBL := tb_of 272 (by decide +kernel) rfl
theorem tw1090 : Cond.methodLink RL 25 yX12_dress ∈ TBL := tb_of 1090 (by decide +kernel) rfl
theorem tw540 : Cond.methodLink RL 26 yX11_ring ∈ TBL := tb_of 540 (by decide +kernel) rfl
theorem tw1166 : Cond.methodLink RL 30 yX12_ring ∈ TBL := tb_of 1166 (by decide +kernel) rfl
theorem tw546 : Cond.methodLink RL 31 yX11_line ∈ TBL := tb_of 546 (by decide +kernel) rfl
theorem tw1171 : Cond.methodLink RL 34 yX12_line ∈ TBL := tb_of 1171 (by decide +kernel) rfl
theorem tw550 : Cond.methodLink RL 35 yX11_may ∈ TBL := tb_of 550 (by decide +kernel) rfl
theorem tw1177 : Cond.methodLink RL 38 yX12_may ∈ TBL := tb_of 1177 (by decide +kernel) rfl
theorem tw563 : Cond.methodLink RL 39 yX11_pin ∈ TBL := tb_of 563 (by decide +kernel) rfl
theorem tw1185 : Cond.methodLink RL 42 yX12_pin ∈ TBL := tb_of 1185 (by decide +kernel) rfl
theorem tw579 : Cond.methodLink RL 43 yX11_ease ∈ TBL := tb_of 579 (by decide +kernel) rfl
theorem tw1197 : Cond.methodLink RL 46 yX12_ease ∈ TBL := tb_of 1197 (by decide +kernel) rfl
theorem tw585 : Cond.methodLink RL 47 yX11_fit ∈ TBL := tb_of 585 (by decide +kernel) rfl
theorem tw1202 : Cond.methodLink RL 50 yX12_fit ∈ TBL := tb_of 1202 (by decide +kernel) rfl
theorem tw597 : Cond.methodLink RL 51 yX11_lacks ∈ TBL := tb_of 597 (by decide +kernel) rfl
theorem tw1211 : Cond.methodLink RL 55 yX12_lacks ∈ TBL := tb_of 1211 (by decide +kernel) rfl
theorem tw601 : Cond.methodLink RL 56 yX11_bestPin ∈ TBL := tb_of 601 (by decide +kernel) rfl
theorem tw1215 : Cond.methodLink RL 59 yX12_bestPin ∈ TBL := tb_of 1215 (by decide +kernel) rfl
theorem tw606 : Cond.methodLink RL 60 yX11_least ∈ TBL := tb_of 606 (by decide +kernel) rfl
theorem tw1219 : Cond.methodLink RL 63 yX12_least ∈ TBL := tb_of 1219 (by decide +kernel) rfl
theorem tw634 : Cond.methodLink RL 64 yX11_first ∈ TBL := tb_of 634 (by decide +kernel) rfl
theorem tw1235 : Cond.methodLink RL 67 yX12_first ∈ TBL := tb_of 1235 (by decide +kernel) rfl
theorem tw638 : Cond.methodLink RL 68 yX11_orders ∈ TBL := tb_of 638 (by decide +kernel) rfl
theorem tw1239 : Cond.methodLink RL 71 yX12_orders ∈ TBL := tb_of 1239 (by decide +kernel) rfl
theorem tw651 : Cond.methodLink RL 72 yX11_hem ∈ TBL := tb_of 651 (by decide +kernel) rfl
theorem tw1247 : Cond.methodLink RL 76 yX12_hem ∈ TBL := tb_of 1247 (by decide +kernel) rfl
theorem tw655 : Cond.methodLink RL 77 yX11_darts ∈ TBL := tb_of 655 (by decide +kernel) rfl
theorem tw1253 : Cond.methodLink RL 81 yX12_darts ∈ TBL := tb_of 1253 (by decide +kernel) rfl
theorem tw659 : Cond.methodLink RL 82 yX11_stripes ∈ TBL := tb_of 659 (by decide +kernel) rfl
theorem tw1257 : Cond.methodLink RL 85 yX12_stripes ∈ TBL := tb_of 1257 (by decide +kernel) rfl
theorem tw663 : Cond.methodLink RL 86 yX11_measures ∈ TBL := tb_of 663 (by decide +kernel) rfl
theorem tw1262 : Cond.methodLink RL 89 yX12_measures ∈ TBL := tb_of 1262 (by decide +kernel) rfl
theorem tw687 : Cond.methodLink RL 90 yX11_sizes ∈ TBL := tb_of 687 (by decide +kernel) rfl
theorem tw1266 : Cond.methodLink RL 93 yX12_sizes ∈ TBL := tb_of 1266 (by decide +kernel) rfl
theorem tw713 : Cond.methodLink RL 94 yX11_old ∈ TBL := tb_of 713 (by decide +kernel) rfl
theorem tw1279 : Cond.methodLink RL 97 yX12_old ∈ TBL := tb_of 1279 (by decide +kernel) rfl
theorem tw721 : Cond.methodLink RL 98 yX11_shape ∈ TBL := tb_of 721 (by decide +kernel) rfl
theorem tw1283 : Cond.methodLink RL 101 yX12_shape ∈ TBL := tb_of 1283 (by decide +kernel) rfl
theorem tw725 : Cond.methodLink RL 102 yX11_seeded ∈ TBL := tb_of 725 (by decide +kernel) rfl
theorem tw1287 : Cond.methodLink RL 105 yX12_seeded ∈ TBL := tb_of 1287 (by decide +kernel) rfl
theorem tw737 : Cond.methodLink RL 106 yX11_judge ∈ TBL := tb_of 737 (by decide +kernel) rfl
theorem tw1298 : Cond.methodLink RL 109 yX12_judge ∈ TBL := tb_of 1298 (by decide +kernel) rfl
theorem tw746 : Cond.methodLink RL 110 yX11_image ∈ TBL := tb_of 746 (by decide +kernel) rfl
theorem tw1074 : Cond.methodLink RL 113 yX12_image ∈ TBL := tb_of 1074 (by decide +kernel) rfl
theorem tw750 : Cond.methodLink RL 114 yX11_restore ∈ TBL := tb_of 750 (by decide +kernel) rfl
theorem tw1086 : Cond.methodLink RL 117 yX12_restore ∈ TBL := tb_of 1086 (by decide +kernel) rfl
theorem tw754 : Cond.methodLink RL 118 yX11_count ∈ TBL := tb_of 754 (by decide +kernel) rfl
theorem tw1309 : Cond.methodLink RL 121 yX12_count ∈ TBL := tb_of 1309 (by decide +kernel) rfl
theorem tw762 : Cond.methodLink RL 122 yX11_keep ∈ TBL := tb_of 762 (by decide +kernel) rfl
theorem tw1313 : Cond.methodLink RL 125 yX12_keep ∈ TBL := tb_of 1313 (by decide +kernel) rfl
theorem tw774 : Cond.methodLink RL 126 yX11_row ∈ TBL := tb_of 774 (by decide +kernel) rfl
theorem tw1317 : Cond.methodLink RL 129 yX12_row ∈ TBL := tb_of 1317 (by decide +kernel) rfl
theorem tw784 : Cond.methodLink RL 130 yX11_put ∈ TBL := tb_of 784 (by decide +kernel) rfl
theorem tw1321 : Cond.methodLink RL 133 yX12_put ∈ TBL := tb_of 1321 (by decide +kernel) rfl
theorem tw796 : Cond.methodLink RL 143 yX11_copy ∈ TBL := tb_of 796 (by decide +kernel) rfl
theorem tw1332 : Cond.methodLink RL 147 yX12_copy ∈ TBL := tb_of 1332 (by decide +kernel) rfl
theorem tw806 : Cond.methodLink RL 148 yX11_minutes ∈ TBL := tb_of 806 (by decide +kernel) rfl
theorem tw1336 : Cond.methodLink RL 151 yX12_minutes ∈ TBL := tb_of 1336 (by decide +kernel) rfl
theorem tw602 : Cond.instanceMethod yX11_bestPin ∈ TBL := tb_of 602 (by decide +kernel) rfl
theorem tw603 : Cond.selects RX11 yX11_bestPin yX11_bestPin ∈ TBL := tb_of 603 (by decide +kernel) rfl
theorem tw604 : Cond.code yX11_bestPin cX11_bestPin 11 (some .int) ∈ TBL := tb_of 604 (by decide +kernel) rfl
theorem tw797 : Cond.instanceMethod yX11_copy ∈ TBL := tb_of 797 (by decide +kernel) rfl
theorem tw798 : Cond.selects RX11 yX11_copy yX11_copy ∈ TBL := tb_of 798 (by decide +kernel) rfl
theorem tw799 : Cond.code yX11_copy cX11_copy 8 (some .int) ∈ TBL := tb_of 799 (by decide +kernel) rfl
theorem tw755 : Cond.instanceMethod yX11_count ∈ TBL := tb_of 755 (by decide +kernel) rfl
theorem tw756 : Cond.selects RX11 yX11_count yX11_count ∈ TBL := tb_of 756 (by decide +kernel) rfl
theorem tw757 : Cond.code yX11_count cX11_count 2 (some .int) ∈ TBL := tb_of 757 (by decide +kernel) rfl
theorem tw656 : Cond.instanceMethod yX11_darts ∈ TBL := tb_of 656 (by decide +kernel) rfl
theorem tw657 : Cond.selects RX11 yX11_darts yX11_darts ∈ TBL := tb_of 657 (by decide +kernel) rfl
theorem tw658 : Cond.code yX11_darts cX11_darts 7 (some .int) ∈ TBL := tb_of 658 (by decide +kernel) rfl
theorem tw273 : Cond.instanceMethod yX11_dress ∈ TBL := tb_of 273 (by decide +kernel) rfl
theorem tw274 : Cond.selects RX11 yX11_dress yX11_dress ∈ TBL := tb_of 274 (by decide +kernel) rfl
theorem tw275 : Cond.code yX11_dress cX11_dress 7 (some .int) ∈ TBL := tb_of 275 (by decide +kernel) rfl
theorem tw580 : Cond.instanceMethod yX11_ease ∈ TBL := tb_of 580 (by decide +kernel) rfl
theorem tw581 : Cond.selects RX11 yX11_ease yX11_ease ∈ TBL := tb_of 581 (by decide +kernel) rfl
theorem tw582 : Cond.code yX11_ease cX11_ease 4 (some .int) ∈ TBL := tb_of 582 (by decide +kernel) rfl
theorem tw635 : Cond.instanceMethod yX11_first ∈ TBL := tb_of 635 (by decide +kernel) rfl
theorem tw636 : Cond.selects RX11 yX11_first yX11_first ∈ TBL := tb_of 636 (by decide +kernel) rfl
theorem tw637 : Cond.code yX11_first cX11_first 6 (some .int) ∈ TBL := tb_of 637 (by decide +kernel) rfl
theorem tw586 : Cond.instanceMethod yX11_fit ∈ TBL := tb_of 586 (by decide +kernel) rfl
theorem tw587 : Cond.selects RX11 yX11_fit yX11_fit ∈ TBL := tb_of 587 (by decide +kernel) rfl
theorem tw588 : Cond.code yX11_fit cX11_fit 4 (some .int) ∈ TBL := tb_of 588 (by decide +kernel) rfl
theorem tw652 : Cond.instanceMethod yX11_hem ∈ TBL := tb_of 652 (by decide +kernel) rfl
theorem tw653 : Cond.selects RX11 yX11_hem yX11_hem ∈ TBL := tb_of 653 (by decide +kernel) rfl
theorem tw654 : Cond.code yX11_hem cX11_hem 6 (some .int) ∈ TBL := tb_of 654 (by decide +kernel) rfl
theorem tw747 : Cond.instanceMethod yX11_image ∈ TBL := tb_of 747 (by decide +kernel) rfl
theorem tw748 : Cond.selects RX11 yX11_image yX11_image ∈ TBL := tb_of 748 (by decide +kernel) rfl
theorem tw749 : Cond.code yX11_image cX11_image 1 (some .int) ∈ TBL := tb_of 749 (by decide +kernel) rfl
theorem tw738 : Cond.instanceMethod yX11_judge ∈ TBL := tb_of 738 (by decide +kernel) rfl
theorem tw739 : Cond.selects RX11 yX11_judge yX11_judge ∈ TBL := tb_of 739 (by decide +kernel) rfl
theorem tw740 : Cond.code yX11_judge cX11_judge 9 (some .int) ∈ TBL := tb_of 740 (by decide +kernel) rfl
theorem tw763 : Cond.instanceMethod yX11_keep ∈ TBL := tb_of 763 (by decide +kernel) rfl
theorem tw764 : Cond.selects RX11 yX11_keep yX11_keep ∈ TBL := tb_of 764 (by decide +kernel) rfl
theorem tw765 : Cond.code yX11_keep cX11_keep 5 (some .int) ∈ TBL := tb_of 765 (by decide +kernel) rfl
theorem tw598 : Cond.instanceMethod yX11_lacks ∈ TBL := tb_of 598 (by decide +kernel) rfl
theorem tw599 : Cond.selects RX11 yX11_lacks yX11_lacks ∈ TBL := tb_of 599 (by decide +kernel) rfl
theorem tw600 : Cond.code yX11_lacks cX11_lacks 1 (some .int) ∈ TBL := tb_of 600 (by decide +kernel) rfl
theorem tw607 : Cond.instanceMethod yX11_least ∈ TBL := tb_of 607 (by decide +kernel) rfl
theorem tw608 : Cond.selects RX11 yX11_least yX11_least ∈ TBL := tb_of 608 (by decide +kernel) rfl
theorem tw609 : Cond.code yX11_least cX11_least 12 (some .int) ∈ TBL := tb_of 609 (by decide +kernel) rfl
theorem tw547 : Cond.instanceMethod yX11_line ∈ TBL := tb_of 547 (by decide +kernel) rfl
theorem tw548 : Cond.selects RX11 yX11_line yX11_line ∈ TBL := tb_of 548 (by decide +kernel) rfl
theorem tw549 : Cond.code yX11_line cX11_line 4 (some .int) ∈ TBL := tb_of 549 (by decide +kernel) rfl
theorem tw551 : Cond.instanceMethod yX11_may ∈ TBL := tb_of 551 (by decide +kernel) rfl
theorem tw552 : Cond.selects RX11 yX11_may yX11_may ∈ TBL := tb_of 552 (by decide +kernel) rfl
theorem tw553 : Cond.code yX11_may cX11_may 5 (some .int) ∈ TBL := tb_of 553 (by decide +kernel) rfl
theorem tw664 : Cond.instanceMethod yX11_measures ∈ TBL := tb_of 664 (by decide +kernel) rfl
theorem tw665 : Cond.selects RX11 yX11_measures yX11_measures ∈ TBL := tb_of 665 (by decide +kernel) rfl
theorem tw666 : Cond.code yX11_measures cX11_measures 5 (some .int) ∈ TBL := tb_of 666 (by decide +kernel) rfl
theorem tw807 : Cond.instanceMethod yX11_minutes ∈ TBL := tb_of 807 (by decide +kernel) rfl
theorem tw808 : Cond.selects RX11 yX11_minutes yX11_minutes ∈ TBL := tb_of 808 (by decide +kernel) rfl
theorem tw809 : Cond.code yX11_minutes cX11_minutes 4 (some .int) ∈ TBL := tb_of 809 (by decide +kernel) rfl
theorem tw714 : Cond.instanceMethod yX11_old ∈ TBL := tb_of 714 (by decide +kernel) rfl
theorem tw715 : Cond.selects RX11 yX11_old yX11_old ∈ TBL := tb_of 715 (by decide +kernel) rfl
theorem tw716 : Cond.code yX11_old cX11_old 8 (some .int) ∈ TBL := tb_of 716 (by decide +kernel) rfl
theorem tw639 : Cond.instanceMethod yX11_orders ∈ TBL := tb_of 639 (by decide +kernel) rfl
theorem tw640 : Cond.selects RX11 yX11_orders yX11_orders ∈ TBL := tb_of 640 (by decide +kernel) rfl
theorem tw641 : Cond.code yX11_orders cX11_orders 5 (some .int) ∈ TBL := tb_of 641 (by decide +kernel) rfl
theorem tw564 : Cond.instanceMethod yX11_pin ∈ TBL := tb_of 564 (by decide +kernel) rfl
theorem tw565 : Cond.selects RX11 yX11_pin yX11_pin ∈ TBL := tb_of 565 (by decide +kernel) rfl
theorem tw566 : Cond.code yX11_pin cX11_pin 5 (some .int) ∈ TBL := tb_of 566 (by decide +kernel) rfl
theorem tw785 : Cond.instanceMethod yX11_put ∈ TBL := tb_of 785 (by decide +kernel) rfl
theorem tw786 : Cond.selects RX11 yX11_put yX11_put ∈ TBL := tb_of 786 (by decide +kernel) rfl
theorem tw787 : Cond.code yX11_put cX11_put 6 (some .int) ∈ TBL := tb_of 787 (by decide +kernel) rfl
theorem tw751 : Cond.instanceMethod yX11_restore ∈ TBL := tb_of 751 (by decide +kernel) rfl
theorem tw752 : Cond.selects RX11 yX11_restore yX11_restore ∈ TBL := tb_of 752 (by decide +kernel) rfl
theorem tw753 : Cond.code yX11_restore cX11_restore 1 (some .int) ∈ TBL := tb_of 753 (by decide +kernel) rfl
theorem tw541 : Cond.instanceMethod yX11_ring ∈ TBL := tb_of 541 (by decide +kernel) rfl
theorem tw542 : Cond.selects RX11 yX11_ring yX11_ring ∈ TBL := tb_of 542 (by decide +kernel) rfl
theorem tw543 : Cond.code yX11_ring cX11_ring 3 (some .int) ∈ TBL := tb_of 543 (by decide +kernel) rfl
theorem tw775 : Cond.instanceMethod yX11_row ∈ TBL := tb_of 775 (by decide +kernel) rfl
theorem tw776 : Cond.selects RX11 yX11_row yX11_row ∈ TBL := tb_of 776 (by decide +kernel) rfl
theorem tw777 : Cond.code yX11_row cX11_row 4 (some .int) ∈ TBL := tb_of 777 (by decide +kernel) rfl
theorem tw726 : Cond.instanceMethod yX11_seeded ∈ TBL := tb_of 726 (by decide +kernel) rfl
theorem tw727 : Cond.selects RX11 yX11_seeded yX11_seeded ∈ TBL := tb_of 727 (by decide +kernel) rfl
theorem tw728 : Cond.code yX11_seeded cX11_seeded 10 (some .int) ∈ TBL := tb_of 728 (by decide +kernel) rfl
theorem tw722 : Cond.instanceMethod yX11_shape ∈ TBL := tb_of 722 (by decide +kernel) rfl
theorem tw723 : Cond.selects RX11 yX11_shape yX11_shape ∈ TBL := tb_of 723 (by decide +kernel) rfl
theorem tw724 : Cond.code yX11_shape cX11_shape 3 (some .int) ∈ TBL := tb_of 724 (by decide +kernel) rfl
theorem tw688 : Cond.instanceMethod yX11_sizes ∈ TBL := tb_of 688 (by decide +kernel) rfl
theorem tw689 : Cond.selects RX11 yX11_sizes yX11_sizes ∈ TBL := tb_of 689 (by decide +kernel) rfl
theorem tw690 : Cond.code yX11_sizes cX11_sizes 7 (some .int) ∈ TBL := tb_of 690 (by decide +kernel) rfl
theorem tw660 : Cond.instanceMethod yX11_stripes ∈ TBL := tb_of 660 (by decide +kernel) rfl
theorem tw661 : Cond.selects RX11 yX11_stripes yX11_stripes ∈ TBL := tb_of 661 (by decide +kernel) rfl
theorem tw662 : Cond.code yX11_stripes cX11_stripes 7 (some .int) ∈ TBL := tb_of 662 (by decide +kernel) rfl
theorem tw1216 : Cond.instanceMethod yX12_bestPin ∈ TBL := tb_of 1216 (by decide +kernel) rfl
theorem tw1217 : Cond.selects RX12 yX12_bestPin yX12_bestPin ∈ TBL := tb_of 1217 (by decide +kernel) rfl
theorem tw1218 : Cond.code yX12_bestPin cX12_bestPin 11 (some .int) ∈ TBL := tb_of 1218 (by decide +kernel) rfl
theorem tw1333 : Cond.instanceMethod yX12_copy ∈ TBL := tb_of 1333 (by decide +kernel) rfl
theorem tw1334 : Cond.selects RX12 yX12_copy yX12_copy ∈ TBL := tb_of 1334 (by decide +kernel) rfl
theorem tw1335 : Cond.code yX12_copy cX12_copy 7 (some .int) ∈ TBL := tb_of 1335 (by decide +kernel) rfl
theorem tw1310 : Cond.instanceMethod yX12_count ∈ TBL := tb_of 1310 (by decide +kernel) rfl
theorem tw1311 : Cond.selects RX12 yX12_count yX12_count ∈ TBL := tb_of 1311 (by decide +kernel) rfl
theorem tw1312 : Cond.code yX12_count cX12_count 5 (some .int) ∈ TBL := tb_of 1312 (by decide +kernel) rfl
theorem tw1254 : Cond.instanceMethod yX12_darts ∈ TBL := tb_of 1254 (by decide +kernel) rfl
theorem tw1255 : Cond.selects RX12 yX12_darts yX12_darts ∈ TBL := tb_of 1255 (by decide +kernel) rfl
theorem tw1256 : Cond.code yX12_darts cX12_darts 5 (some .int) ∈ TBL := tb_of 1256 (by decide +kernel) rfl
theorem tw1091 : Cond.instanceMethod yX12_dress ∈ TBL := tb_of 1091 (by decide +kernel) rfl
theorem tw1092 : Cond.selects RX12 yX12_dress yX12_dress ∈ TBL := tb_of 1092 (by decide +kernel) rfl
theorem tw1093 : Cond.code yX12_dress cX12_dress 4 (some .int) ∈ TBL := tb_of 1093 (by decide +kernel) rfl
theorem tw1198 : Cond.instanceMethod yX12_ease ∈ TBL := tb_of 1198 (by decide +kernel) rfl
theorem tw1199 : Cond.selects RX12 yX12_ease yX12_ease ∈ TBL := tb_of 1199 (by decide +kernel) rfl
theorem tw1200 : Cond.code yX12_ease cX12_ease 3 (some .int) ∈ TBL := tb_of 1200 (by decide +kernel) rfl
theorem tw1236 : Cond.instanceMethod yX12_first ∈ TBL := tb_of 1236 (by decide +kernel) rfl
theorem tw1237 : Cond.selects RX12 yX12_first yX12_first ∈ TBL := tb_of 1237 (by decide +kernel) rfl
theorem tw1238 : Cond.code yX12_first cX12_first 5 (some .int) ∈ TBL := tb_of 1238 (by decide +kernel) rfl
theorem tw1203 : Cond.instanceMethod yX12_fit ∈ TBL := tb_of 1203 (by decide +kernel) rfl
theorem tw1204 : Cond.selects RX12 yX12_fit yX12_fit ∈ TBL := tb_of 1204 (by decide +kernel) rfl
theorem tw1205 : Cond.code yX12_fit cX12_fit 6 (some .int) ∈ TBL := tb_of 1205 (by decide +kernel) rfl
theorem tw1248 : Cond.instanceMethod yX12_hem ∈ TBL := tb_of 1248 (by decide +kernel) rfl
theorem tw1249 : Cond.selects RX12 yX12_hem yX12_hem ∈ TBL := tb_of 1249 (by decide +kernel) rfl
theorem tw1250 : Cond.code yX12_hem cX12_hem 6 (some .int) ∈ TBL := tb_of 1250 (by decide +kernel) rfl
theorem tw1075 : Cond.instanceMethod yX12_image ∈ TBL := tb_of 1075 (by decide +kernel) rfl
theorem tw1076 : Cond.selects RX12 yX12_image yX12_image ∈ TBL := tb_of 1076 (by decide +kernel) rfl
theorem tw1077 : Cond.code yX12_image cX12_image 1 (some .int) ∈ TBL := tb_of 1077 (by decide +kernel) rfl
theorem tw1299 : Cond.instanceMethod yX12_judge ∈ TBL := tb_of 1299 (by decide +kernel) rfl
theorem tw1300 : Cond.selects RX12 yX12_judge yX12_judge ∈ TBL := tb_of 1300 (by decide +kernel) rfl
theorem tw1301 : Cond.code yX12_judge cX12_judge 7 (some .int) ∈ TBL := tb_of 1301 (by decide +kernel) rfl
theorem tw1314 : Cond.instanceMethod yX12_keep ∈ TBL := tb_of 1314 (by decide +kernel) rfl
theorem tw1315 : Cond.selects RX12 yX12_keep yX12_keep ∈ TBL := tb_of 1315 (by decide +kernel) rfl
theorem tw1316 : Cond.code yX12_keep cX12_keep 5 (some .int) ∈ TBL := tb_of 1316 (by decide +kernel) rfl
theorem tw1212 : Cond.instanceMethod yX12_lacks ∈ TBL := tb_of 1212 (by decide +kernel) rfl
theorem tw1213 : Cond.selects RX12 yX12_lacks yX12_lacks ∈ TBL := tb_of 1213 (by decide +kernel) rfl
theorem tw1214 : Cond.code yX12_lacks cX12_lacks 1 (some .int) ∈ TBL := tb_of 1214 (by decide +kernel) rfl
theorem tw1220 : Cond.instanceMethod yX12_least ∈ TBL := tb_of 1220 (by decide +kernel) rfl
theorem tw1221 : Cond.selects RX12 yX12_least yX12_least ∈ TBL := tb_of 1221 (by decide +kernel) rfl
theorem tw1222 : Cond.code yX12_least cX12_least 12 (some .int) ∈ TBL := tb_of 1222 (by decide +kernel) rfl
theorem tw1172 : Cond.instanceMethod yX12_line ∈ TBL := tb_of 1172 (by decide +kernel) rfl
theorem tw1173 : Cond.selects RX12 yX12_line yX12_line ∈ TBL := tb_of 1173 (by decide +kernel) rfl
theorem tw1174 : Cond.code yX12_line cX12_line 4 (some .int) ∈ TBL := tb_of 1174 (by decide +kernel) rfl
theorem tw1178 : Cond.instanceMethod yX12_may ∈ TBL := tb_of 1178 (by decide +kernel) rfl
theorem tw1179 : Cond.selects RX12 yX12_may yX12_may ∈ TBL := tb_of 1179 (by decide +kernel) rfl
theorem tw1180 : Cond.code yX12_may cX12_may 4 (some .int) ∈ TBL := tb_of 1180 (by decide +kernel) rfl
theorem tw1263 : Cond.instanceMethod yX12_measures ∈ TBL := tb_of 1263 (by decide +kernel) rfl
theorem tw1264 : Cond.selects RX12 yX12_measures yX12_measures ∈ TBL := tb_of 1264 (by decide +kernel) rfl
theorem tw1265 : Cond.code yX12_measures cX12_measures 8 (some .int) ∈ TBL := tb_of 1265 (by decide +kernel) rfl
theorem tw1337 : Cond.instanceMethod yX12_minutes ∈ TBL := tb_of 1337 (by decide +kernel) rfl
theorem tw1338 : Cond.selects RX12 yX12_minutes yX12_minutes ∈ TBL := tb_of 1338 (by decide +kernel) rfl
theorem tw1339 : Cond.code yX12_minutes cX12_minutes 2 (some .int) ∈ TBL := tb_of 1339 (by decide +kernel) rfl
theorem tw1280 : Cond.instanceMethod yX12_old ∈ TBL := tb_of 1280 (by decide +kernel) rfl
theorem tw1281 : Cond.selects RX12 yX12_old yX12_old ∈ TBL := tb_of 1281 (by decide +kernel) rfl
theorem tw1282 : Cond.code yX12_old cX12_old 12 (some .int) ∈ TBL := tb_of 1282 (by decide +kernel) rfl
theorem tw1240 : Cond.instanceMethod yX12_orders ∈ TBL := tb_of 1240 (by decide +kernel) rfl
theorem tw1241 : Cond.selects RX12 yX12_orders yX12_orders ∈ TBL := tb_of 1241 (by decide +kernel) rfl
theorem tw1242 : Cond.code yX12_orders cX12_orders 13 (some .int) ∈ TBL := tb_of 1242 (by decide +kernel) rfl
theorem tw1186 : Cond.instanceMethod yX12_pin ∈ TBL := tb_of 1186 (by decide +kernel) rfl
theorem tw1187 : Cond.selects RX12 yX12_pin yX12_pin ∈ TBL := tb_of 1187 (by decide +kernel) rfl
theorem tw1188 : Cond.code yX12_pin cX12_pin 4 (some .int) ∈ TBL := tb_of 1188 (by decide +kernel) rfl
theorem tw1322 : Cond.instanceMethod yX12_put ∈ TBL := tb_of 1322 (by decide +kernel) rfl
theorem tw1323 : Cond.selects RX12 yX12_put yX12_put ∈ TBL := tb_of 1323 (by decide +kernel) rfl
theorem tw1324 : Cond.code yX12_put cX12_put 5 (some .int) ∈ TBL := tb_of 1324 (by decide +kernel) rfl
theorem tw1087 : Cond.instanceMethod yX12_restore ∈ TBL := tb_of 1087 (by decide +kernel) rfl
theorem tw1088 : Cond.selects RX12 yX12_restore yX12_restore ∈ TBL := tb_of 1088 (by decide +kernel) rfl
theorem tw1089 : Cond.code yX12_restore cX12_restore 1 (some .int) ∈ TBL := tb_of 1089 (by decide +kernel) rfl
theorem tw1167 : Cond.instanceMethod yX12_ring ∈ TBL := tb_of 1167 (by decide +kernel) rfl
theorem tw1168 : Cond.selects RX12 yX12_ring yX12_ring ∈ TBL := tb_of 1168 (by decide +kernel) rfl
theorem tw1169 : Cond.code yX12_ring cX12_ring 3 (some .int) ∈ TBL := tb_of 1169 (by decide +kernel) rfl
theorem tw1318 : Cond.instanceMethod yX12_row ∈ TBL := tb_of 1318 (by decide +kernel) rfl
theorem tw1319 : Cond.selects RX12 yX12_row yX12_row ∈ TBL := tb_of 1319 (by decide +kernel) rfl
theorem tw1320 : Cond.code yX12_row cX12_row 5 (some .int) ∈ TBL := tb_of 1320 (by decide +kernel) rfl
theorem tw1288 : Cond.instanceMethod yX12_seeded ∈ TBL := tb_of 1288 (by decide +kernel) rfl
theorem tw1289 : Cond.selects RX12 yX12_seeded yX12_seeded ∈ TBL := tb_of 1289 (by decide +kernel) rfl
theorem tw1290 : Cond.code yX12_seeded cX12_seeded 9 (some .int) ∈ TBL := tb_of 1290 (by decide +kernel) rfl
theorem tw1284 : Cond.instanceMethod yX12_shape ∈ TBL := tb_of 1284 (by decide +kernel) rfl
theorem tw1285 : Cond.selects RX12 yX12_shape yX12_shape ∈ TBL := tb_of 1285 (by decide +kernel) rfl
theorem tw1286 : Cond.code yX12_shape cX12_shape 3 (some .int) ∈ TBL := tb_of 1286 (by decide +kernel) rfl
theorem tw1267 : Cond.instanceMethod yX12_sizes ∈ TBL := tb_of 1267 (by decide +kernel) rfl
theorem tw1268 : Cond.selects RX12 yX12_sizes yX12_sizes ∈ TBL := tb_of 1268 (by decide +kernel) rfl
theorem tw1269 : Cond.code yX12_sizes cX12_sizes 9 (some .int) ∈ TBL := tb_of 1269 (by decide +kernel) rfl
theorem tw1258 : Cond.instanceMethod yX12_stripes ∈ TBL := tb_of 1258 (by decide +kernel) rfl
theorem tw1259 : Cond.selects RX12 yX12_stripes yX12_stripes ∈ TBL := tb_of 1259 (by decide +kernel) rfl
theorem tw1260 : Cond.code yX12_stripes cX12_stripes 6 (some .int) ∈ TBL := tb_of 1260 (by decide +kernel) rfl
theorem cv_X11_bestPin : CV yX11_bestPin cX11_bestPin 11 (some .int) 2 := ⟨tw602, tw603, tw60, tw604, by decide, by decide, by decide +kernel⟩
theorem cv_X11_copy : CV yX11_copy cX11_copy 8 (some .int) 5 := ⟨tw797, tw798, tw60, tw799, by decide, by decide, by decide +kernel⟩
theorem cv_X11_count : CV yX11_count cX11_count 2 (some .int) 1 := ⟨tw755, tw756, tw60, tw757, by decide, by decide, by decide +kernel⟩
theorem cv_X11_darts : CV yX11_darts cX11_darts 7 (some .int) 4 := ⟨tw656, tw657, tw60, tw658, by decide, by decide, by decide +kernel⟩
theorem cv_X11_dress : CV yX11_dress cX11_dress 7 (some .int) 1 := ⟨tw273, tw274, tw60, tw275, by decide, by decide, by decide +kernel⟩
theorem cv_X11_ease : CV yX11_ease cX11_ease 4 (some .int) 2 := ⟨tw580, tw581, tw60, tw582, by decide, by decide, by decide +kernel⟩
theorem cv_X11_first : CV yX11_first cX11_first 6 (some .int) 1 := ⟨tw635, tw636, tw60, tw637, by decide, by decide, by decide +kernel⟩
theorem cv_X11_fit : CV yX11_fit cX11_fit 4 (some .int) 1 := ⟨tw586, tw587, tw60, tw588, by decide, by decide, by decide +kernel⟩
theorem cv_X11_hem : CV yX11_hem cX11_hem 6 (some .int) 3 := ⟨tw652, tw653, tw60, tw654, by decide, by decide, by decide +kernel⟩
theorem cv_X11_image : CV yX11_image cX11_image 1 (some .int) 0 := ⟨tw747, tw748, tw60, tw749, by decide, by decide, by decide +kernel⟩
theorem cv_X11_judge : CV yX11_judge cX11_judge 9 (some .int) 2 := ⟨tw738, tw739, tw60, tw740, by decide, by decide, by decide +kernel⟩
theorem cv_X11_keep : CV yX11_keep cX11_keep 5 (some .int) 4 := ⟨tw763, tw764, tw60, tw765, by decide, by decide, by decide +kernel⟩
theorem cv_X11_lacks : CV yX11_lacks cX11_lacks 1 (some .int) 0 := ⟨tw598, tw599, tw60, tw600, by decide, by decide, by decide +kernel⟩
theorem cv_X11_least : CV yX11_least cX11_least 12 (some .int) 2 := ⟨tw607, tw608, tw60, tw609, by decide, by decide, by decide +kernel⟩
theorem cv_X11_line : CV yX11_line cX11_line 4 (some .int) 2 := ⟨tw547, tw548, tw60, tw549, by decide, by decide, by decide +kernel⟩
theorem cv_X11_may : CV yX11_may cX11_may 5 (some .int) 2 := ⟨tw551, tw552, tw60, tw553, by decide, by decide, by decide +kernel⟩
theorem cv_X11_measures : CV yX11_measures cX11_measures 5 (some .int) 2 := ⟨tw664, tw665, tw60, tw666, by decide, by decide, by decide +kernel⟩
theorem cv_X11_minutes : CV yX11_minutes cX11_minutes 4 (some .int) 1 := ⟨tw807, tw808, tw60, tw809, by decide, by decide, by decide +kernel⟩
theorem cv_X11_old : CV yX11_old cX11_old 8 (some .int) 1 := ⟨tw714, tw715, tw60, tw716, by decide, by decide, by decide +kernel⟩
theorem cv_X11_orders : CV yX11_orders cX11_orders 5 (some .int) 2 := ⟨tw639, tw640, tw60, tw641, by decide, by decide, by decide +kernel⟩
theorem cv_X11_pin : CV yX11_pin cX11_pin 5 (some .int) 2 := ⟨tw564, tw565, tw60, tw566, by decide, by decide, by decide +kernel⟩
theorem cv_X11_put : CV yX11_put cX11_put 6 (some .int) 3 := ⟨tw785, tw786, tw60, tw787, by decide, by decide, by decide +kernel⟩
theorem cv_X11_restore : CV yX11_restore cX11_restore 1 (some .int) 0 := ⟨tw751, tw752, tw60, tw753, by decide, by decide, by decide +kernel⟩
theorem cv_X11_ring : CV yX11_ring cX11_ring 3 (some .int) 2 := ⟨tw541, tw542, tw60, tw543, by decide, by decide, by decide +kernel⟩
theorem cv_X11_row : CV yX11_row cX11_row 4 (some .int) 3 := ⟨tw775, tw776, tw60, tw777, by decide, by decide, by decide +kernel⟩
theorem cv_X11_seeded : CV yX11_seeded cX11_seeded 10 (some .int) 3 := ⟨tw726, tw727, tw60, tw728, by decide, by decide, by decide +kernel⟩
theorem cv_X11_shape : CV yX11_shape cX11_shape 3 (some .int) 2 := ⟨tw722, tw723, tw60, tw724, by decide, by decide, by decide +kernel⟩
theorem cv_X11_sizes : CV yX11_sizes cX11_sizes 7 (some .int) 3 := ⟨tw688, tw689, tw60, tw690, by decide, by decide, by decide +kernel⟩
theorem cv_X11_stripes : CV yX11_stripes cX11_stripes 7 (some .int) 4 := ⟨tw660, tw661, tw60, tw662, by decide, by decide, by decide +kernel⟩
theorem cv_X12_bestPin : CV yX12_bestPin cX12_bestPin 11 (some .int) 2 := ⟨tw1216, tw1217, tw72, tw1218, by decide, by decide, by decide +kernel⟩
theorem cv_X12_copy : CV yX12_copy cX12_copy 7 (some .int) 5 := ⟨tw1333, tw1334, tw72, tw1335, by decide, by decide, by decide +kernel⟩
theorem cv_X12_count : CV yX12_count cX12_count 5 (some .int) 1 := ⟨tw1310, tw1311, tw72, tw1312, by decide, by decide, by decide +kernel⟩
theorem cv_X12_darts : CV yX12_darts cX12_darts 5 (some .int) 4 := ⟨tw1254, tw1255, tw72, tw1256, by decide, by decide, by decide +kernel⟩
theorem cv_X12_dress : CV yX12_dress cX12_dress 4 (some .int) 1 := ⟨tw1091, tw1092, tw72, tw1093, by decide, by decide, by decide +kernel⟩
theorem cv_X12_ease : CV yX12_ease cX12_ease 3 (some .int) 2 := ⟨tw1198, tw1199, tw72, tw1200, by decide, by decide, by decide +kernel⟩
theorem cv_X12_first : CV yX12_first cX12_first 5 (some .int) 1 := ⟨tw1236, tw1237, tw72, tw1238, by decide, by decide, by decide +kernel⟩
theorem cv_X12_fit : CV yX12_fit cX12_fit 6 (some .int) 1 := ⟨tw1203, tw1204, tw72, tw1205, by decide, by decide, by decide +kernel⟩
theorem cv_X12_hem : CV yX12_hem cX12_hem 6 (some .int) 3 := ⟨tw1248, tw1249, tw72, tw1250, by decide, by decide, by decide +kernel⟩
theorem cv_X12_image : CV yX12_image cX12_image 1 (some .int) 0 := ⟨tw1075, tw1076, tw72, tw1077, by decide, by decide, by decide +kernel⟩
theorem cv_X12_judge : CV yX12_judge cX12_judge 7 (some .int) 2 := ⟨tw1299, tw1300, tw72, tw1301, by decide, by decide, by decide +kernel⟩
theorem cv_X12_keep : CV yX12_keep cX12_keep 5 (some .int) 4 := ⟨tw1314, tw1315, tw72, tw1316, by decide, by decide, by decide +kernel⟩
theorem cv_X12_lacks : CV yX12_lacks cX12_lacks 1 (some .int) 0 := ⟨tw1212, tw1213, tw72, tw1214, by decide, by decide, by decide +kernel⟩
theorem cv_X12_least : CV yX12_least cX12_least 12 (some .int) 2 := ⟨tw1220, tw1221, tw72, tw1222, by decide, by decide, by decide +kernel⟩
theorem cv_X12_line : CV yX12_line cX12_line 4 (some .int) 2 := ⟨tw1172, tw1173, tw72, tw1174, by decide, by decide, by decide +kernel⟩
theorem cv_X12_may : CV yX12_may cX12_may 4 (some .int) 2 := ⟨tw1178, tw1179, tw72, tw1180, by decide, by decide, by decide +kernel⟩
theorem cv_X12_measures : CV yX12_measures cX12_measures 8 (some .int) 2 := ⟨tw1263, tw1264, tw72, tw1265, by decide, by decide, by decide +kernel⟩
theorem cv_X12_minutes : CV yX12_minutes cX12_minutes 2 (some .int) 1 := ⟨tw1337, tw1338, tw72, tw1339, by decide, by decide, by decide +kernel⟩
theorem cv_X12_old : CV yX12_old cX12_old 12 (some .int) 1 := ⟨tw1280, tw1281, tw72, tw1282, by decide, by decide, by decide +kernel⟩
theorem cv_X12_orders : CV yX12_orders cX12_orders 13 (some .int) 2 := ⟨tw1240, tw1241, tw72, tw1242, by decide, by decide, by decide +kernel⟩
theorem cv_X12_pin : CV yX12_pin cX12_pin 4 (some .int) 2 := ⟨tw1186, tw1187, tw72, tw1188, by decide, by decide, by decide +kernel⟩
theorem cv_X12_put : CV yX12_put cX12_put 5 (some .int) 3 := ⟨tw1322, tw1323, tw72, tw1324, by decide, by decide, by decide +kernel⟩
theorem cv_X12_restore : CV yX12_restore cX12_restore 1 (some .int) 0 := ⟨tw1087, tw1088, tw72, tw1089, by decide, by decide, by decide +kernel⟩
theorem cv_X12_ring : CV yX12_ring cX12_ring 3 (some .int) 2 := ⟨tw1167, tw1168, tw72, tw1169, by decide, by decide, by decide +kernel⟩
theorem cv_X12_row : CV yX12_row cX12_row 5 (some .int) 3 := ⟨tw1318, tw1319, tw72, tw1320, by decide, by decide, by decide +kernel⟩
theorem cv_X12_seeded : CV yX12_seeded cX12_seeded 9 (some .int) 3 := ⟨tw1288, tw1289, tw72, tw1290, by decide, by decide, by decide +kernel⟩
theorem cv_X12_shape : CV yX12_shape cX12_shape 3 (some .int) 2 := ⟨tw1284, tw1285, tw72, tw1286, by decide, by decide, by decide +kernel⟩
theorem cv_X12_sizes : CV yX12_sizes cX12_sizes 9 (some .int) 3 := ⟨tw1267, tw1268, tw72, tw1269, by decide, by decide, by decide +kernel⟩
theorem cv_X12_stripes : CV yX12_stripes cX12_stripes 6 (some .int) 4 := ⟨tw1258, tw1259, tw72, tw1260, by decide, by decide, by decide +kernel⟩
