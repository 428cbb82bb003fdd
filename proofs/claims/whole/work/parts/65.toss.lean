def f_X11_toss (p1 : Int32) (σ : Mem) : Option Int32 :=
  b1 (f_X11_pinRefusal p1 σ) fun r =>
  if r = 0 then
    b1 (f_X11_shelfAt p1) fun d =>
    if d < 9 then
      b1 (f_X11_kindAt (σ (7 + 2 * d) 2)) fun j =>
      if j < 8 then
        if j = 5 ∨ σ (7 + 2 * d) 3 ≤ 0 then some (-15) else
        if j = 3 then some (100 + σ (7 + 2 * d) 3) else
        if j = 4 then b1 (f_X4_cost (σ (7 + 2 * d) 3)) fun k => some (200 + k) else
        some (σ (7 + 2 * d) 3)
      else none
    else none
  else some r
def f_X11_element (p1 p2 : Int32) (σ : Mem) : Option (Int32 × Int64) :=
  b1 (f_X11_isShelf p1) fun r =>
  if r = 0 then some (1, 0) else
  b1 (f_X11_shelfAt p1) fun d =>
  if d < 9 then
    b1 (f_X5_rowRefusal d σ) fun r2 =>
    if r2 = 0 then
      b1 (f_X5_hasPlaces d p2 1 σ) fun r3 =>
      if r3 = 0 then some (2, 0) else
      b1 (f_X5_at d p2 σ) fun v => some (0, v.toInt64)
    else some (2, 0)
  else none
def fK (j : Nat) : String := if j = 3 then nIAE else if j = 4 then nUOE else nISE
section RM
variable {p : Program} {l : Launch} {e : Env} {R : Room} {s : State} {m : MethodId} {args : Array Value} {below : List Frame} {meth : Method} {c : Code} {H H0 : Heap} {locs : List Loc} {cells slots mc ms : Nat}
theorem run_mono {g : JFrame} {rest : List Value} {Qa Qa' : State → Outcome → State → Prop} {XC XC' : String → State → State → Prop} {free : Addr → Prop} (h : vx_Run p l e R s m args below meth c H locs cells slots mc ms g rest Qa XC free) (hQ : ∀ st o t, Qa st o t → Qa' st o t) (hX : ∀ E st t, XC E st t → XC' E st t) : vx_Run p l e R s m args below meth c H locs cells slots mc ms g rest Qa' XC' free := by
  intro T hT X
  rcases h T hT X with ⟨v, st₀, t, T', L, h0, X', hL, e1, e2, hq, st⟩ | ⟨q, st₀, t, T', L, E, ce, h0, X', hL, e1, e2, hq, r⟩
  · exact Or.inl ⟨v, st₀, t, T', L, h0, X', hL, e1, e2, hQ _ _ _ hq, st⟩
  · exact Or.inr ⟨q, st₀, t, T', L, E, ce, h0, X', hL, e1, e2, hX _ _ _ hq, r⟩
end RM
theorem ar_fail : (parseMethodDescriptor yX3_fail.desc).map (fun d => d.parameters.length) = some 1 := by decide +kernel
theorem cv_X3_fail : CV yX3_fail cX3_fail 2 none 1 := ⟨te818, te819, tw62, te917, by decide, by decide, by decide +kernel⟩
theorem dp_X11_fail {p : Program} {l : Launch} {e : Env} {R : Room} {s : State} {m : MethodId} {args : Array Value} {below : List Frame} {meth : Method} {c : Code} {H : Heap} {locs : List Loc} {D : va_G} {ca : Nat → ClassId} {a : Nat → Nat} {adE : Nat → Nat} {cc : ByteArray} {nL pc : Nat} {ret : Option FieldType} {ls : Array Slot} {rest st0 : List Value} {σ : Mem} {j0 : Nat} {p1 : Int32} (hst9 : l.stackTraces = false) (C0 : Cx p s m args meth c RX11 cc nL ret) (hK : KX D vwCl (tysE ca) s) (hP : va_P D vwCl (wX ca a σ) H) (hB : ES (AW 37 a) adE s) (hS : va_S (AW 37 a) s.heap H locs) (hn : ls.size = nL) (hj : j0 < 8) (hst : st0 = [.int p1].reverse ++ .ref (a (27 + j0)) :: rest) (hcat : (rest.map fun v => v.category).sum ≤ 8) (hR : 7 ≤ R.frames ∧ 111 ≤ R.locals) (hcs : 1 ≤ R.cells ∧ 6 ≤ R.slots) (hdg : decode cc pc = .ok (.invokevirtual 281, 3)) :
    vx_Run p l e R s m args below meth c H locs 0 0 1 6 (F0 m pc ls st0) rest (XQp (j0 = 5 ∨ p1 ≤ 0) D vwCl (AW 37 a) (wX ca a σ) none (Value.ref (a (27 + j0)) :: [.int p1]).toArray) (XCp (fun E => ¬ p1 ≤ 0 ∧ E = fK j0 ∧ j0 ≠ 5) D vwCl (AW 37 a) (wX ca a σ)) (AW 37 a) := by
  have hpre : ∀ U : State, U.heap = H → s.WarmedH U.vm → XP D vwCl (tysE ca) (ES (AW 37 a) adE) (wX ca a σ) [.ref (a (27 + j0)), .int p1] (Value.ref (a (27 + j0)) :: [.int p1]).toArray U := fun U hU hW => ⟨rfl, by rw [hU]; exact hP, KX.warm hW hK, hB.at hS U hU hW⟩
  have hrm : RMe R rm_fail 2 1 6 := ⟨rfl, rfl, hR.1, hR.2⟩
  have hcs9 : 0 + 1 ≤ R.cells ∧ 0 + 6 ≤ R.slots := hcs
  match j0, hj, hpre, hst with
  | 0, hj, hpre, hst => exact run_mono (rVE C0 hn hpre ESP.blind (c_X3_fail hst9) cv_X3_fail te817 (rcP0 hK hP) hst hcat hrm hcs9 hdg) (fun _ _ _ h => ⟨Or.inr h.1, h.2⟩) (fun E _ _ h => ⟨⟨h.1.1, h.1.2, by decide⟩, h.2⟩)
  | 1, hj, hpre, hst => exact run_mono (rOE (x := yX3_fail) (C := RX7) (owner := RX3) C0 hn hpre ESP.blind (c_X3_fail hst9) ⟨te820, te818, te894, te818, tw62, te917, te917, by decide, by decide, ar_fail⟩ te817 (rcP1 hK hP) hst hcat hrm hcs9 hdg) (fun _ _ _ h => ⟨Or.inr h.1, h.2⟩) (fun E _ _ h => ⟨⟨h.1.1, h.1.2, by decide⟩, h.2⟩)
  | 2, hj, hpre, hst => exact run_mono (rOE (x := yX3_fail) (C := RX2) (owner := RX3) C0 hn hpre ESP.blind (c_X3_fail hst9) ⟨te820, te818, te822, te818, tw62, te917, te917, by decide, by decide, ar_fail⟩ te817 (rcP2 hK hP) hst hcat hrm hcs9 hdg) (fun _ _ _ h => ⟨Or.inr h.1, h.2⟩) (fun E _ _ h => ⟨⟨h.1.1, h.1.2, by decide⟩, h.2⟩)
  | 3, hj, hpre, hst => exact run_mono (rOE (x := yX3_fail) (C := RX9) (owner := RX3) C0 hn hpre ESP.blind (c_X9_fail hst9) ⟨te820, te818, te895, te896, tw66, te897, te917, by decide, by decide, ar_fail⟩ te817 (rcP3 hK hP) hst hcat hrm hcs9 hdg) (fun _ _ _ h => ⟨Or.inr h.1, h.2⟩) (fun E _ _ h => ⟨⟨h.1.1, h.1.2, by decide⟩, h.2⟩)
  | 4, hj, hpre, hst => exact run_mono (rOE (x := yX3_fail) (C := RX4) (owner := RX3) C0 hn hpre ESP.blind (c_X4_fail hst9) ⟨te820, te818, te823, te824, tw67, te825, te917, by decide, by decide, ar_fail⟩ te817 (rcP4 hK hP) hst hcat hrm hcs9 hdg) (fun _ _ _ h => ⟨Or.inr h.1, h.2⟩) (fun E _ _ h => ⟨⟨h.1.1, h.1.2, by decide⟩, h.2⟩)
  | 5, hj, hpre, hst => exact run_mono (rOE (x := yX3_fail) (C := RX10) (owner := RX3) C0 hn hpre ESP.blind (c_X10_fail) ⟨te820, te818, te914, te915, tw68, te916, te917, by decide, by decide, ar_fail⟩ te817 (rcP5 hK hP) hst hcat hrm hcs9 hdg) (fun _ _ _ h => ⟨Or.inl rfl, h.2⟩) (fun E _ _ h => h.1.elim)
  | 6, hj, hpre, hst => exact run_mono (rOE (x := yX3_fail) (C := RX6) (owner := RX3) C0 hn hpre ESP.blind (c_X3_fail hst9) ⟨te820, te818, te893, te818, tw62, te917, te917, by decide, by decide, ar_fail⟩ te817 (rcP6 hK hP) hst hcat hrm hcs9 hdg) (fun _ _ _ h => ⟨Or.inr h.1, h.2⟩) (fun E _ _ h => ⟨⟨h.1.1, h.1.2, by decide⟩, h.2⟩)
  | 7, hj, hpre, hst => exact run_mono (rOE (x := yX3_fail) (C := RX1) (owner := RX3) C0 hn hpre ESP.blind (c_X3_fail hst9) ⟨te820, te818, te821, te818, tw62, te917, te917, by decide, by decide, ar_fail⟩ te817 (rcP7 hK hP) hst hcat hrm hcs9 hdg) (fun _ _ _ h => ⟨Or.inr h.1, h.2⟩) (fun E _ _ h => ⟨⟨h.1.1, h.1.2, by decide⟩, h.2⟩)
def rm_toss : Room := { frames := 7, cells := 1, slots := 6, locals := 111 }
section TOSS
set_option maxHeartbeats 4000000 in
set_option maxRecDepth 100000 in
theorem c_X11_toss {l : Launch} {D : va_G} {ca : Nat → ClassId} {a : Nat → Nat} {adE : Nat → Nat} (hst9 : l.stackTraces = false) (hI : InjN 37 a) {p1 : Int32} {σ : Mem} {r : Int32} (h : f_X11_toss p1 σ = some r) : vx_Met l yX11_toss (.codeWith yX11_toss cX11_toss 7 (some .int) hT_toss :: TBL) rm_toss (XP D vwCl (tysE ca) (ES (AW 37 a) adE) (wX ca a σ) [.ref (a 0), .int p1]) (XQp True D vwCl (AW 37 a) (wX ca a σ) (some (.int r))) (XCp (fun _ => False) D vwCl (AW 37 a) (wX ca a σ)) 1 6 (AW 37 a) := by
  refine XE.ofH pn_X11 (Nat.le_of_ble_eq_true rfl) ?_
  intro p e s m args below meth c ls C0 htab hv hl
  obtain ⟨hP, hK, hB⟩ := hv
  have C0 : Cx p s m args meth c RX11 cX11_toss 7 (some .int) := C0
  have hx := C0.1
  have hb := C0.2.1
  have hS : va_S (AW 37 a) s.heap s.heap [] := va_S.rf
  have hl : lv_has ls 7 [(0, .ref (a 0)), (1, .int p1)] := hl
  have hend : ∀ {H : Heap} {locs : List Loc} {cells slots pc : Nat} {ls : Array Slot} {v : Int32}, va_P D vwCl (wX ca a σ) H → va_S (AW 37 a) s.heap H locs → cells ≤ 1 → slots ≤ 6 → some v = some r → decode cX11_toss pc = .ok (.ireturn, 1) → W p l e rm_toss s m args below meth c H locs cells slots (vx_MQ below (XQp True D vwCl (AW 37 a) (wX ca a σ) (some (.int r))) (XCp (fun _ => False) D vwCl (AW 37 a) (wX ca a σ)) args s 1 6 (AW 37 a)) (F0 m pc ls [.int v]) := by
    intro H locs cells slots pc ls v hP hS h1 h2 he hd
    cases he
    exact vx_ret (W.widen h1 h2 (W.zret hx hb C0.2.2.2.2.2.1 rfl (fun t ht hW => ⟨trivial, rfl, by rw [ht]; exact hP, hS.F ht⟩) hS.2.2 hd C0.2.2.2.2.2.2))
  rw [f_X11_toss] at h
  refine lv_aload_n hx hb dX11_toss_0 rfl (lv_at hl 0 rfl) ?_
  refine lv_iload_n hx hb dX11_toss_1 rfl (lv_at hl 1 rfl) ?_
  obtain ⟨r_2, h_1, h⟩ := b1_e h
  refine xcall (rV C0 hK hP hl.1 (fun _ _ _ => trivial) Bt_b (c_X11_pinRefusal hI h_1) cv_X11_pinRefusal tw543 (rcX11 hK hP) (rest := []) rfl (Nat.le_of_ble_eq_true rfl) ⟨rfl, rfl, Nat.le_of_ble_eq_true rfl, Nat.le_of_ble_eq_true rfl⟩ ⟨Nat.zero_le _, Nat.zero_le _⟩ dX11_toss_2) hS (fun H locs hP hS => ?_)
  refine lv_istore_n (lv' := [(2, .int r_2), (0, .ref (a 0)), (1, .int p1)]) hx hb dX11_toss_5 rfl hl (by decide) rfl (fun ls hl => ?_)
  refine lv_iload_n hx hb dX11_toss_6 rfl (lv_at hl 0 rfl) ?_
  refine lv_if_eq (tgt := 12) hx hb dX11_toss_7 (by decide) (fun c_3 => ?_) (fun c_3 => ?_)
  · have h := it c_3 h
    refine lv_aload_n hx hb dX11_toss_12 rfl (lv_at hl 1 rfl) ?_
    refine lv_iload_n hx hb dX11_toss_13 rfl (lv_at hl 2 rfl) ?_
    obtain ⟨r_5, h_4, h⟩ := b1_e h
    refine xcall (rV C0 hK hP hl.1 (fun _ _ _ => trivial) Bt_b (c_X11_shelfAt hI h_4) cv_X11_shelfAt tw275 (rcX11 hK hP) (rest := []) rfl (Nat.le_of_ble_eq_true rfl) ⟨rfl, rfl, Nat.le_of_ble_eq_true rfl, Nat.le_of_ble_eq_true rfl⟩ ⟨Nat.zero_le _, Nat.zero_le _⟩ dX11_toss_14) hS (fun H locs hP hS => ?_)
    obtain ⟨hk_6, h⟩ := asr h
    refine lv_astore_n (lv' := [(3, .ref (a (7 + 2 * r_5))), (2, .int r_2), (0, .ref (a 0)), (1, .int p1)]) hx hb dX11_toss_17 rfl hl (by decide) rfl (fun ls hl => ?_)
    refine lv_aload_n hx hb dX11_toss_18 rfl (lv_at hl 2 rfl) ?_
    refine lv_aload_n hx hb dX11_toss_19 rfl (lv_at hl 0 rfl) ?_
    refine gX5_2N C0 hK hP hk_6 tw135 dX11_toss_20 ?_
    obtain ⟨j, h_7, h⟩ := b1_e h
    refine xcall (rV C0 hK hP hl.1 (fun _ _ _ => trivial) Bt_b (c_X11_kindAt hI h_7) cv_X11_kindAt tw395 (rcX11 hK hP) (rest := []) rfl (Nat.le_of_ble_eq_true rfl) ⟨rfl, rfl, Nat.le_of_ble_eq_true rfl, Nat.le_of_ble_eq_true rfl⟩ ⟨Nat.zero_le _, Nat.zero_le _⟩ dX11_toss_23) hS (fun H locs hP hS => ?_)
    obtain ⟨hj, h⟩ := asr h
    refine lv_astore (lv' := [(4, .ref (a (27 + j))), (3, .ref (a (7 + 2 * r_5))), (2, .int r_2), (0, .ref (a 0)), (1, .int p1)]) hx hb dX11_toss_26 hl (by decide) rfl (fun ls hl => ?_)
    refine lv_aload_n hx hb dX11_toss_28 rfl (lv_at hl 1 rfl) ?_
    refine gX5_3N C0 hK hP hk_6 tw137 dX11_toss_29 ?_
    generalize hfg : σ (7 + 2 * r_5) 3 = fg at h ⊢
    refine lv_istore (lv' := [(5, .int fg), (4, .ref (a (27 + j))), (3, .ref (a (7 + 2 * r_5))), (2, .int r_2), (0, .ref (a 0)), (1, .int p1)]) hx hb dX11_toss_32 hl (by decide) rfl (fun ls hl => ?_)
    refine lv_aload hx hb dX11_toss_34 (lv_at hl 1 rfl) ?_
    refine lv_iload hx hb dX11_toss_36 (lv_at hl 0 rfl) ?_
    refine xcallG (dp_X11_fail hst9 C0 hK hP hB hS hl.1 hj (rest := []) rfl (Nat.le_of_ble_eq_true rfl) ⟨Nat.le_of_ble_eq_true rfl, Nat.le_of_ble_eq_true rfl⟩ ⟨Nat.le_refl _, Nat.le_refl _⟩ dX11_toss_38) hS (fun _ z => z) (fun E ce q9 H1 locs1 hψ hP hk9 hS hce hcv hcl => ?_) (fun H1 locs1 hφ hP hk9 hS => ?_)
    · obtain ⟨hne, hE, hj5⟩ := hψ
      have h := ie (fun z => z.elim hj5 hne) h
      by_cases c3 : j = 3
      · have h := it c3 h
        have hE : E = nIAE := by rw [hE, fK, if_pos c3]
        subst hE
        refine vx_catch C0.2.2.2.1 [⟨34, 43, 44, 285⟩] ⟨34, 43, 58, 257⟩ [⟨34, 43, 66, 264⟩] htab (fun z hz => Or.inr ?_) (by decide) (by decide) (C0.2.2.2.2.1 _ te815) (va_Nw.use rfl (hK.2 _ te900)) hce hcv hcl ?_
        · cases List.mem_singleton.mp hz
          exact ⟨by decide, nUOE, C0.2.2.2.2.1 _ te814, hB.2.2.2.2.2⟩
        refine lv_astore (lv' := [(6, .ref q9), (5, .int fg), (4, .ref (a (27 + j))), (3, .ref (a (7 + 2 * r_5))), (2, .int r_2), (0, .ref (a 0)), (1, .int p1)]) hx hb dX11_toss_58 hl (by decide) rfl (fun ls hl => ?_)
        refine lv_bipush (v := 100) hx hb dX11_toss_60 (by decide) ?_
        refine lv_iload hx hb dX11_toss_62 (lv_at hl 1 rfl) ?_
        refine lv_iadd hx hb dX11_toss_64 ?_
        exact hend hP hS (Nat.le_refl _) (Nat.le_refl _) h dX11_toss_65
      have h := ie c3 h
      by_cases c4 : j = 4
      · have h := it c4 h
        have hE : E = nUOE := by rw [hE, fK, if_neg c3, if_pos c4]
        subst hE
        refine vx_catch C0.2.2.2.1 [] ⟨34, 43, 44, 285⟩ [⟨34, 43, 58, 257⟩, ⟨34, 43, 66, 264⟩] htab (fun z hz => by cases hz) (by decide) (by decide) (C0.2.2.2.2.1 _ te814) (va_Nw.use rfl (hK.2 _ te828)) hce hcv hcl ?_
        refine lv_astore (lv' := [(6, .ref q9), (5, .int fg), (4, .ref (a (27 + j))), (3, .ref (a (7 + 2 * r_5))), (2, .int r_2), (0, .ref (a 0)), (1, .int p1)]) hx hb dX11_toss_44 hl (by decide) rfl (fun ls hl => ?_)
        refine lv_sipush (v := 200) hx hb dX11_toss_46 (by decide) ?_
        refine lv_aload hx hb dX11_toss_49 (lv_at hl 2 rfl) ?_
        refine lv_iload hx hb dX11_toss_51 (lv_at hl 1 rfl) ?_
        obtain ⟨k, h_9, hz9⟩ := b1_e h
        subst c4
        refine xcall (rO (x := yX3_cost) (C := RX4) (owner := RX3) C0 hK hP hl.1 (fun _ _ _ => trivial) Bt_b (c_X4_cost hI hj h_9) ⟨tw498, tw496, tw510, tw511, tw67, tw512, tw527, by decide, by decide, ar_X3_cost⟩ tw594 (rcP4 hK hP) (rest := [.int 200]) rfl (Nat.le_of_ble_eq_true rfl) ⟨rfl, rfl, Nat.le_of_ble_eq_true rfl, Nat.le_of_ble_eq_true rfl⟩ ⟨Nat.le_refl _, Nat.le_refl _⟩ dX11_toss_53) hS (fun H locs hP hS => ?_)
        refine lv_iadd hx hb dX11_toss_56 ?_
        exact hend hP hS (Nat.le_refl _) (Nat.le_refl _) hz9 dX11_toss_57
      have h := ie c4 h
      have hE : E = nISE := by rw [hE, fK, if_neg c3, if_neg c4]
      subst hE
      refine vx_catch C0.2.2.2.1 [⟨34, 43, 44, 285⟩, ⟨34, 43, 58, 257⟩] ⟨34, 43, 66, 264⟩ [] htab (fun z hz => Or.inr ?_) (by decide) (by decide) (C0.2.2.2.2.1 _ te816) (va_Nw.use rfl (hK.2 _ te920)) hce hcv hcl ?_
      · rcases List.mem_cons.mp hz with z1 | hz
        · subst z1
          exact ⟨by decide, nUOE, C0.2.2.2.2.1 _ te814, hB.2.2.2.1⟩
        · cases List.mem_singleton.mp hz
          exact ⟨by decide, nIAE, C0.2.2.2.2.1 _ te815, hB.2.2.2.2.1⟩
      refine lv_astore (lv' := [(6, .ref q9), (5, .int fg), (4, .ref (a (27 + j))), (3, .ref (a (7 + 2 * r_5))), (2, .int r_2), (0, .ref (a 0)), (1, .int p1)]) hx hb dX11_toss_66 hl (by decide) rfl (fun ls hl => ?_)
      refine lv_iload hx hb dX11_toss_68 (lv_at hl 1 rfl) ?_
      exact hend hP hS (Nat.le_refl _) (Nat.le_refl _) h dX11_toss_70
    · have h := it hφ h
      refine lv_bipush (v := -15) hx hb dX11_toss_41 (by decide) ?_
      exact hend hP hS (Nat.le_refl _) (Nat.le_refl _) h dX11_toss_43
  · have h := ie c_3 h
    refine lv_iload_n hx hb dX11_toss_10 rfl (lv_at hl 0 rfl) ?_
    exact hend hP hS (Nat.zero_le _) (Nat.zero_le _) h dX11_toss_11
end TOSS
def rm_el : Room := { frames := 6, cells := 1, slots := 6, locals := 100 }
set_option maxHeartbeats 4000000 in
set_option maxRecDepth 100000 in
theorem c_X11_element {l : Launch} {D : va_G} {ca : Nat → ClassId} {a : Nat → Nat} {adE : Nat → Nat} (hst9 : l.stackTraces = false) (hI : InjN 37 a) {p1 p2 : Int32} {σ : Mem} {k : Int32} {v : Int64} (h : f_X11_element p1 p2 σ = some (k, v)) : vx_Met l yX11_element (.code yX11_element cX11_element 4 (some .long) :: TBL) rm_el (XP D vwCl (tysE ca) (ES (AW 37 a) adE) (wX ca a σ) [.ref (a 0), .int p1, .int p2]) (XQp (k = 0) D vwCl (AW 37 a) (wX ca a σ) (some (.long v))) (XCp (fun E => (k = 1 ∧ E = nIAE) ∨ (k = 2 ∧ E = nISE)) D vwCl (AW 37 a) (wX ca a σ)) 1 6 (AW 37 a) := by
  refine XE.of pn_X11 (Nat.le_of_ble_eq_true rfl) ?_
  intro p e s m args below meth c ls C0 htab hv hl
  obtain ⟨hP, hK, hB⟩ := hv
  have C0 : Cx p s m args meth c RX11 cX11_element 4 (some .long) := C0
  have hx := C0.1
  have hb := C0.2.1
  have hS : va_S (AW 37 a) s.heap s.heap [] := va_S.rf
  have hl : lv_has ls 4 [(0, .ref (a 0)), (1, .int p1), (2, .int p2)] := hl
  rw [f_X11_element] at h
  refine lv_iload_n hx hb dX11_element_0 rfl (lv_at hl 1 rfl) ?_
  obtain ⟨r_2, h_1, h⟩ := b1_e h
  refine xcall (rS C0 hK hP hl.1 (fun _ _ _ => trivial) Bt_b (c_X11_isShelf hI h_1) cs_X11_isShelf tw269 (rest := []) rfl (Nat.le_of_ble_eq_true rfl) ⟨rfl, rfl, Nat.le_of_ble_eq_true rfl, Nat.le_of_ble_eq_true rfl⟩ ⟨Nat.zero_le _, Nat.zero_le _⟩ dX11_element_1) hS (fun H locs hP hS => ?_)
  refine lv_if_ne (tgt := 18) hx hb dX11_element_4 (by decide) (fun c_3 => ?_) (fun c_3 => ?_)
  · have h := ie c_3 h
    refine lv_aload_n hx hb dX11_element_18 rfl (lv_at hl 0 rfl) ?_
    refine lv_iload_n hx hb dX11_element_19 rfl (lv_at hl 1 rfl) ?_
    obtain ⟨d, h_4, h⟩ := b1_e h
    refine xcall (rV C0 hK hP hl.1 (fun _ _ _ => trivial) Bt_b (c_X11_shelfAt hI h_4) cv_X11_shelfAt tw275 (rcX11 hK hP) (rest := []) rfl (Nat.le_of_ble_eq_true rfl) ⟨rfl, rfl, Nat.le_of_ble_eq_true rfl, Nat.le_of_ble_eq_true rfl⟩ ⟨Nat.zero_le _, Nat.zero_le _⟩ dX11_element_20) hS (fun H locs hP hS => ?_)
    obtain ⟨hd, h⟩ := asr h
    refine lv_astore_n (lv' := [(3, .ref (a (7 + 2 * d))), (0, .ref (a 0)), (1, .int p1), (2, .int p2)]) hx hb dX11_element_23 rfl hl (by decide) rfl (fun ls hl => ?_)
    refine lv_aload_n hx hb dX11_element_24 rfl (lv_at hl 0 rfl) ?_
    obtain ⟨r2, h_5, h⟩ := b1_e h
    refine xcall (rV C0 hK hP hl.1 (fun _ _ _ => trivial) Bt_b (c_X5_rowRefusal hI hd h_5) cv_X5_rowRefusal tw279 (rcX5 hK hP hd) (rest := []) rfl (Nat.le_of_ble_eq_true rfl) ⟨rfl, rfl, Nat.le_of_ble_eq_true rfl, Nat.le_of_ble_eq_true rfl⟩ ⟨Nat.zero_le _, Nat.zero_le _⟩ dX11_element_25) hS (fun H locs hP hS => ?_)
    refine lv_if_eq (tgt := 42) hx hb dX11_element_28 (by decide) (fun c_6 => ?_) (fun c_6 => ?_)
    · have h := it c_6 h
      refine lv_aload_n hx hb dX11_element_42 rfl (lv_at hl 0 rfl) ?_
      refine lv_iload_n hx hb dX11_element_43 rfl (lv_at hl 3 rfl) ?_
      refine lv_iconst (v := 1) hx hb dX11_element_44 (by decide) ?_
      obtain ⟨r3, h_7, h⟩ := b1_e h
      refine xcall (rV C0 hK hP hl.1 (fun _ _ _ => trivial) Bt_b (c_X5_hasPlaces hI hd h_7) cv_X5_hasPlaces tw776 (rcX5 hK hP hd) (rest := []) rfl (Nat.le_of_ble_eq_true rfl) ⟨rfl, rfl, Nat.le_of_ble_eq_true rfl, Nat.le_of_ble_eq_true rfl⟩ ⟨Nat.zero_le _, Nat.zero_le _⟩ dX11_element_45) hS (fun H locs hP hS => ?_)
      refine lv_if_ne (tgt := 62) hx hb dX11_element_48 (by decide) (fun c_8 => ?_) (fun c_8 => ?_)
      · have h := ie c_8 h
        refine lv_aload_n hx hb dX11_element_62 rfl (lv_at hl 0 rfl) ?_
        refine lv_iload_n hx hb dX11_element_63 rfl (lv_at hl 3 rfl) ?_
        obtain ⟨v9, h_9, h⟩ := b1_e h
        refine xcall (rV C0 hK hP hl.1 (fun _ _ _ => trivial) Bt_b (c_X5_at hI hd h_9) cv_X5_at tw607 (rcX5 hK hP hd) (rest := []) rfl (Nat.le_of_ble_eq_true rfl) ⟨rfl, rfl, Nat.le_of_ble_eq_true rfl, Nat.le_of_ble_eq_true rfl⟩ ⟨Nat.zero_le _, Nat.zero_le _⟩ dX11_element_64) hS (fun H locs hP hS => ?_)
        refine lv_i2l (v := v9.toInt64) hx hb dX11_element_67 rfl ?_
        cases h
        exact vx_ret (W.widen (Nat.zero_le _) (Nat.zero_le _) (W.lret hx hb C0.2.2.2.2.2.1 (fun t ht hW => ⟨rfl, rfl, by rw [ht]; exact hP, hS.F ht⟩) hS.2.2 dX11_element_68 C0.2.2.2.2.2.2))
      · have h := it c_8 h
        cases h
        exact vx_throwSW hx hb hst9 (own := RX11) (cls := nISE) (names := nmE) (A := AW 37 a) C0.2.2.2.1 (by decide +kernel) (by decide +kernel) (C0.2.2.2.2.1 _ te816) (C0.2.2.2.2.1 _ te83) hB.1.2.2.2.2.2 (hat_of C0.2.2.2.2.1 hK _ at_X11s ag_X11s) (List.all_eq_true.mp ao_X11s) hB.2.1 hB.2.2.1 hS (hl.1.trans C0.2.2.1.symm) dX11_element_51 dX11_element_54 dX11_element_55 dX11_element_58 dX11_element_61 (fun x hx9 => (htab x hx9).elim) (by decide) (by decide) (by decide) (by decide) C0.2.2.2.2.2.2 (fun t _ h1 h2 => ⟨Or.inr ⟨rfl, rfl⟩, hP.kept (fun k q hk => h2 _ (P_lt hP hk)), Nat.le_trans hS.1 h1, fun q h3 h4 => (h2 q (Nat.lt_of_lt_of_le h3 hS.1)).trans (hS.2.1 q h3 h4)⟩) (fun z hz => hS.2.2 z hz) (by decide) (by decide)
    · have h := ie c_6 h
      cases h
      exact vx_throwSW hx hb hst9 (own := RX11) (cls := nISE) (names := nmE) (A := AW 37 a) C0.2.2.2.1 (by decide +kernel) (by decide +kernel) (C0.2.2.2.2.1 _ te816) (C0.2.2.2.2.1 _ te83) hB.1.2.2.2.2.1 (hat_of C0.2.2.2.2.1 hK _ at_X11s ag_X11s) (List.all_eq_true.mp ao_X11s) hB.2.1 hB.2.2.1 hS (hl.1.trans C0.2.2.1.symm) dX11_element_31 dX11_element_34 dX11_element_35 dX11_element_38 dX11_element_41 (fun x hx9 => (htab x hx9).elim) (by decide) (by decide) (by decide) (by decide) C0.2.2.2.2.2.2 (fun t _ h1 h2 => ⟨Or.inr ⟨rfl, rfl⟩, hP.kept (fun k q hk => h2 _ (P_lt hP hk)), Nat.le_trans hS.1 h1, fun q h3 h4 => (h2 q (Nat.lt_of_lt_of_le h3 hS.1)).trans (hS.2.1 q h3 h4)⟩) (fun z hz => hS.2.2 z hz) (by decide) (by decide)
  · have h := it c_3 h
    cases h
    exact vx_throwSW hx hb hst9 (own := RX11) (cls := nIAE) (names := nmE) (A := AW 37 a) C0.2.2.2.1 (by decide +kernel) (by decide +kernel) (C0.2.2.2.2.1 _ te815) (C0.2.2.2.2.1 _ te82) hB.1.2.2.2.1 (hat_of C0.2.2.2.2.1 hK _ at_X11a ag_X11a) (List.all_eq_true.mp ao_X11a) hB.2.1 hB.2.2.1 hS (hl.1.trans C0.2.2.1.symm) dX11_element_7 dX11_element_10 dX11_element_11 dX11_element_14 dX11_element_17 (fun x hx9 => (htab x hx9).elim) (by decide) (by decide) (by decide) (by decide) C0.2.2.2.2.2.2 (fun t _ h1 h2 => ⟨Or.inl ⟨rfl, rfl⟩, hP.kept (fun k q hk => h2 _ (P_lt hP hk)), Nat.le_trans hS.1 h1, fun q h3 h4 => (h2 q (Nat.lt_of_lt_of_le h3 hS.1)).trans (hS.2.1 q h3 h4)⟩) (fun z hz => hS.2.2 z hz) (by decide) (by decide)
