def rm_X11_walkOrders_0 : Room := { frames := 6, cells := 0, slots := 0, locals := 139 }
def rm_X11_walkOrders_1 : Room := { frames := 7, cells := 0, slots := 0, locals := 166 }
def rm_X11_walkOrders_2 : Room := { frames := 8, cells := 0, slots := 0, locals := 193 }
def rm_X11_walkOrders_3 : Room := { frames := 9, cells := 0, slots := 0, locals := 220 }
def rm_X11_walkOrders_4 : Room := { frames := 10, cells := 0, slots := 0, locals := 247 }
def rm_X11_walkOrders_5 : Room := { frames := 11, cells := 0, slots := 0, locals := 274 }
def rm_X11_walkOrders_6 : Room := { frames := 12, cells := 0, slots := 0, locals := 301 }
def f_X11_walkOrders_L79 (d1 : Nat) (p2 : Int32) (p3 : Int32) (F : Nat → Int32 → Int32 → Mem → Option Mem) (r_2 : Nat) (r_5 : Int32) (r_20 : Nat) : Nat → Int32 → Mem → (Int32 → Mem → Option (Mem)) → Option (Mem)
  | 0, _, _, _ => none
  | n + 1, x7_22, σ_23, K1 =>
    if r_5 ≤ x7_22 then
      K1 x7_22 σ_23
    else
      if ((p2 >>> (x7_22 &&& 31)) &&& 1) = 0 then
        b1 (f_X0_becomeLike r_20 r_2 σ_23) fun σ_27 =>
        b2 (f_X11_sewPinOfRow r_20 d1 x7_22 σ_27) fun r_29 σ_30 =>
        if r_29 = 0 then
          bnd (x7_22 + 1) fun (x7_32 : Int32) =>
          f_X11_walkOrders_L79 d1 p2 p3 F r_2 r_5 r_20 n x7_32 σ_30 K1
        else
          bnd (p2 ||| (1 <<< (x7_22 &&& 31))) fun (y_33 : Int32) =>
          b1 (F d1 y_33 (p3 + 1) σ_30) fun σ_35 =>
          bnd (x7_22 + 1) fun (x7_36 : Int32) =>
          f_X11_walkOrders_L79 d1 p2 p3 F r_2 r_5 r_20 n x7_36 σ_35 K1
      else
        bnd (x7_22 + 1) fun (x7_37 : Int32) =>
        f_X11_walkOrders_L79 d1 p2 p3 F r_2 r_5 r_20 n x7_37 σ_23 K1
def f_X11_walkOrders_B (F : Nat → Int32 → Int32 → Mem → Option Mem) (d1 : Nat) (p2 : Int32) (p3 : Int32) (σ : Mem) : Option (Mem) :=
  b1 (f_X11_stepAt p3) fun r_2 =>
  if r_2 < 9 then
    b1 (f_X11_pinsIn d1 σ) fun r_5 =>
    jn (fun (σ_6 : Mem) =>
      b1 (f_X0_lacking r_2 σ_6) fun r_8 =>
      if (σ_6 0 10) = 0 then
        bnd (uX σ_6 0 11 r_8) fun (σ_14 : Mem) =>
        bnd ((σ_14 0 10) + 1) fun (y_15 : Int32) =>
        bnd (uX σ_14 0 10 y_15) fun (σ_16 : Mem) =>
        some σ_16
      else
        bnd (if r_8 < σ_6 0 11 then r_8 else σ_6 0 11) fun (y_10 : Int32) =>
        bnd (uX σ_6 0 11 y_10) fun (σ_11 : Mem) =>
        bnd ((σ_11 0 10) + 1) fun (y_12 : Int32) =>
        bnd (uX σ_11 0 10 y_12) fun (σ_13 : Mem) =>
        some σ_13) fun J24 =>
    if r_5 ≤ p3 then
      J24 σ
    else
      if p3 < 5 then
        b1 (f_X11_stepAt (p3 + 1)) fun r_20 =>
        if r_20 < 9 then
          f_X11_walkOrders_L79 d1 p2 p3 F r_2 r_5 r_20 5000 0 σ fun (u_38 : Int32) (σ_39 : Mem) =>
            some σ_39
        else none
      else
        J24 σ
  else none
def f_X11_walkOrders : Nat → Nat → Int32 → Int32 → Mem → Option Mem
  | 0 => fun _ _ _ _ => none
  | n + 1 => f_X11_walkOrders_B (f_X11_walkOrders n)
theorem c_X11_walkOrders_0 {l : Launch} {D : va_G} {ca : Nat → ClassId} {a : Nat → Nat} (hI : InjN 50 a) {d1 : Nat} {p2 : Int32} {p3 : Int32} {σ : Mem} {σ' : Mem} (hk_d1 : d1 < 9) (h : f_X11_walkOrders 0 d1 p2 p3 σ = some σ') : XMX l D ca a Bt yX11_walkOrders cX11_walkOrders 8 none rm_X11_walkOrders_0 [.ref (a 0), .ref (a (19 + 2 * d1)), .int p2, .int p3] σ none σ' := by cases h
set_option maxHeartbeats 4000000 in
set_option maxRecDepth 100000 in
theorem c_X11_walkOrders_1 {l : Launch} {D : va_G} {ca : Nat → ClassId} {a : Nat → Nat} (hI : InjN 50 a) {d1 : Nat} {p2 : Int32} {p3 : Int32} {σ : Mem} {σ' : Mem} (hk_d1 : d1 < 9) (h : f_X11_walkOrders 1 d1 p2 p3 σ = some σ') : XMX l D ca a Bt yX11_walkOrders cX11_walkOrders 8 none rm_X11_walkOrders_1 [.ref (a 0), .ref (a (19 + 2 * d1)), .int p2, .int p3] σ none σ' := by
  refine XM.of pn_X11 (Nat.le_of_ble_eq_true rfl) ?_
  intro p e s m args below meth c ls Q hQ C0 hK hB hP hS hl
  have C0 : Cx p s m args meth c RX11 cX11_walkOrders 8 none := C0
  have hx := C0.1
  have hb := C0.2.1
  have hl : lv_has ls 8 [(0, .ref (a 0)), (1, .ref (a (19 + 2 * d1))), (2, .int p2), (3, .int p3)] := hl
  obtain ⟨F, hF⟩ : ∃ F, F = f_X11_walkOrders 0 := ⟨_, rfl⟩
  have h : f_X11_walkOrders_B F d1 p2 p3 σ = some σ' := by rw [hF]; exact h
  rw [f_X11_walkOrders_B] at h
  refine lv_aload_n hx hb dX11_walkOrders_0 rfl (lv_at hl 0 rfl) ?_
  refine lv_iload_n hx hb dX11_walkOrders_1 rfl (lv_at hl 3 rfl) ?_
  obtain ⟨r_2, h_1, h⟩ := b1_e h
  refine xcall (rV C0 hK hP hl.1 (fun _ _ _ => trivial) Bt_b (c_X11_stepAt hI h_1) cv_X11_stepAt tw642 (rcX11 hK hP) (rest := []) rfl (Nat.le_of_ble_eq_true rfl) ⟨rfl, rfl, Nat.le_of_ble_eq_true rfl, Nat.le_of_ble_eq_true rfl⟩ ⟨Nat.zero_le _, Nat.zero_le _⟩ dX11_walkOrders_2) hS (fun H locs hP hS => ?_)
  obtain ⟨hk_3, h⟩ := asr h
  refine lv_astore (lv' := [(4, .ref (a (1 + 2 * r_2))), (0, .ref (a 0)), (1, .ref (a (19 + 2 * d1))), (2, .int p2), (3, .int p3)]) hx hb dX11_walkOrders_5 hl (by decide) rfl (fun ls hl => ?_)
  refine lv_aload_n hx hb dX11_walkOrders_7 rfl (lv_at hl 2 rfl) ?_
  obtain ⟨r_5, h_4, h⟩ := b1_e h
  refine xcall (rS C0 hK hP hl.1 (fun _ _ _ => trivial) Bt_b (c_X11_pinsIn hI hk_d1 h_4) cs_X11_pinsIn tw619 (rest := []) rfl (Nat.le_of_ble_eq_true rfl) ⟨rfl, rfl, Nat.le_of_ble_eq_true rfl, Nat.le_of_ble_eq_true rfl⟩ ⟨Nat.zero_le _, Nat.zero_le _⟩ dX11_walkOrders_8) hS (fun H locs hP hS => ?_)
  refine lv_istore (lv' := [(5, .int r_5), (4, .ref (a (1 + 2 * r_2))), (0, .ref (a 0)), (1, .ref (a (19 + 2 * d1))), (2, .int p2), (3, .int p3)]) hx hb dX11_walkOrders_11 hl (by decide) rfl (fun ls hl => ?_)
  refine lv_iload_n hx hb dX11_walkOrders_13 rfl (lv_at hl 5 rfl) ?_
  refine lv_iload hx hb dX11_walkOrders_14 (lv_at hl 0 rfl) ?_
  obtain ⟨J24, eJ24, h⟩ := jn_e h
  have hJ24 : ∀ (σ_6 : Mem) (H : Heap) (locs : List Loc) (ls : Array Slot), J24 σ_6 = some σ' → va_P D vwCl (wX ca a σ_6) H → va_S (AW 50 a) s.heap H locs → lv_has ls 8 [(0, .ref (a 0)), (4, .ref (a (1 + 2 * r_2)))] → W p l e rm_X11_walkOrders_1 s m args below meth c H locs 0 0 Q (F0 m 24 ls []) := by
    intro σ_6 H locs ls h hP hS hl
    have h := ap1 eJ24 h
    refine lv_aload hx hb dX11_walkOrders_24 (lv_at hl 1 rfl) ?_
    obtain ⟨r_8, h_7, h⟩ := b1_e h
    refine xcall (rV C0 hK hP hl.1 (fun _ _ _ => trivial) Bt_b (c_X0_lacking hI hk_3 h_7) cv_X0_lacking tw567 (rcX0 hK hP hk_3) (rest := []) rfl (Nat.le_of_ble_eq_true rfl) ⟨rfl, rfl, Nat.le_of_ble_eq_true rfl, Nat.le_of_ble_eq_true rfl⟩ ⟨Nat.zero_le _, Nat.zero_le _⟩ dX11_walkOrders_26) hS (fun H locs hP hS => ?_)
    refine lv_istore (lv' := [(6, .int r_8), (0, .ref (a 0)), (4, .ref (a (1 + 2 * r_2)))]) hx hb dX11_walkOrders_29 hl (by decide) rfl (fun ls hl => ?_)
    refine lv_aload_n hx hb dX11_walkOrders_31 rfl (lv_at hl 1 rfl) ?_
    refine lv_aload_n hx hb dX11_walkOrders_32 rfl (lv_at hl 1 rfl) ?_
    refine gX11_10 C0 hK hP tw245 dX11_walkOrders_33 ?_
    refine lv_if_ne (tgt := 44) hx hb dX11_walkOrders_36 (by decide) (fun c_9 => ?_) (fun c_9 => ?_)
    · have h := ie c_9 h
      refine lv_aload_n hx hb dX11_walkOrders_44 rfl (lv_at hl 1 rfl) ?_
      refine gX11_11 C0 hK hP tw246 dX11_walkOrders_45 ?_
      refine lv_iload hx hb dX11_walkOrders_48 (lv_at hl 0 rfl) ?_
      refine va_mmin hx hb (C0.2.2.1.trans hl.1.symm) C0.2.2.2.1 (C0.2.2.2.2.1 _ tw650) (C0.2.2.2.2.1 _ tw384) (C0.2.2.2.2.1 _ tw77) (C0.2.2.2.2.1 _ tw385) (Nat.le_of_ble_eq_true rfl) (Nat.le_of_ble_eq_true rfl) (Nat.zero_le _) (Nat.zero_le _) dX11_walkOrders_50 ?_
      obtain ⟨y_10, ey_10, h⟩ := bnd_e h
      refine nm_i ey_10 ?_
      obtain ⟨σ_11, eσ_11, h⟩ := bnd_e h
      refine pX11_11 C0 hK hP tw246 hI hS dX11_walkOrders_53 (fun H locs hP hS => ?_)
      rw [← eσ_11] at hP
      refine lv_aload_n hx hb dX11_walkOrders_56 rfl (lv_at hl 1 rfl) ?_
      refine lv_dup hx hb dX11_walkOrders_57 rfl ?_
      refine gX11_10 C0 hK hP tw245 dX11_walkOrders_58 ?_
      refine lv_iconst (v := 1) hx hb dX11_walkOrders_61 (by decide) ?_
      refine lv_iadd hx hb dX11_walkOrders_62 ?_
      obtain ⟨y_12, ey_12, h⟩ := bnd_e h
      refine nm_i ey_12 ?_
      obtain ⟨σ_13, eσ_13, h⟩ := bnd_e h
      refine pX11_10 C0 hK hP tw245 hI hS dX11_walkOrders_63 (fun H locs hP hS => ?_)
      rw [← eσ_13] at hP
      rw [hQ]
      exact xvret C0 hP hS h dX11_walkOrders_66
    · have h := it c_9 h
      refine lv_iload hx hb dX11_walkOrders_39 (lv_at hl 0 rfl) ?_
      refine lv_goto (tgt := 53) hx hb dX11_walkOrders_41 (by decide) ?_
      obtain ⟨σ_14, eσ_14, h⟩ := bnd_e h
      refine pX11_11 C0 hK hP tw246 hI hS dX11_walkOrders_53 (fun H locs hP hS => ?_)
      rw [← eσ_14] at hP
      refine lv_aload_n hx hb dX11_walkOrders_56 rfl (lv_at hl 1 rfl) ?_
      refine lv_dup hx hb dX11_walkOrders_57 rfl ?_
      refine gX11_10 C0 hK hP tw245 dX11_walkOrders_58 ?_
      refine lv_iconst (v := 1) hx hb dX11_walkOrders_61 (by decide) ?_
      refine lv_iadd hx hb dX11_walkOrders_62 ?_
      obtain ⟨y_15, ey_15, h⟩ := bnd_e h
      refine nm_i ey_15 ?_
      obtain ⟨σ_16, eσ_16, h⟩ := bnd_e h
      refine pX11_10 C0 hK hP tw245 hI hS dX11_walkOrders_63 (fun H locs hP hS => ?_)
      rw [← eσ_16] at hP
      rw [hQ]
      exact xvret C0 hP hS h dX11_walkOrders_66
  refine lv_icmp_ge (tgt := 24) hx hb dX11_walkOrders_16 (by decide) (fun c_17 => ?_) (fun c_17 => ?_)
  · have h := it c_17 h
    exact hJ24 σ _ _ ls h hP hS (lv_sub hl [2, 1] rfl)
  · have h := ie c_17 h
    refine lv_iload_n hx hb dX11_walkOrders_19 rfl (lv_at hl 5 rfl) ?_
    refine lv_iconst (v := 5) hx hb dX11_walkOrders_20 (by decide) ?_
    refine lv_icmp_lt (tgt := 67) hx hb dX11_walkOrders_21 (by decide) (fun c_18 => ?_) (fun c_18 => ?_)
    · have h := it c_18 h
      refine lv_aload_n hx hb dX11_walkOrders_67 rfl (lv_at hl 2 rfl) ?_
      refine lv_iload_n hx hb dX11_walkOrders_68 rfl (lv_at hl 5 rfl) ?_
      refine lv_iconst (v := 1) hx hb dX11_walkOrders_69 (by decide) ?_
      refine lv_iadd hx hb dX11_walkOrders_70 ?_
      obtain ⟨r_20, h_19, h⟩ := b1_e h
      refine xcall (rV C0 hK hP hl.1 (fun _ _ _ => trivial) Bt_b (c_X11_stepAt hI h_19) cv_X11_stepAt tw642 (rcX11 hK hP) (rest := []) rfl (Nat.le_of_ble_eq_true rfl) ⟨rfl, rfl, Nat.le_of_ble_eq_true rfl, Nat.le_of_ble_eq_true rfl⟩ ⟨Nat.zero_le _, Nat.zero_le _⟩ dX11_walkOrders_71) hS (fun H locs hP hS => ?_)
      obtain ⟨hk_21, h⟩ := asr h
      refine lv_astore (lv' := [(6, .ref (a (1 + 2 * r_20))), (5, .int r_5), (4, .ref (a (1 + 2 * r_2))), (0, .ref (a 0)), (1, .ref (a (19 + 2 * d1))), (2, .int p2), (3, .int p3)]) hx hb dX11_walkOrders_74 hl (by decide) rfl (fun ls hl => ?_)
      refine lv_iconst (v := 0) hx hb dX11_walkOrders_76 (by decide) ?_
      refine lv_istore (lv' := [(7, .int 0), (6, .ref (a (1 + 2 * r_20))), (5, .int r_5), (4, .ref (a (1 + 2 * r_2))), (0, .ref (a 0)), (1, .ref (a (19 + 2 * d1))), (2, .int p2), (3, .int p3)]) hx hb dX11_walkOrders_77 hl (by decide) rfl (fun ls hl => ?_)
      obtain ⟨K1, eK1, h⟩ := lp_e (f := fun K => f_X11_walkOrders_L79 d1 p2 p3 F r_2 r_5 r_20 5000 0 σ K) h
      have h : f_X11_walkOrders_L79 d1 p2 p3 F r_2 r_5 r_20 5000 0 σ K1 = some σ' := h
      have hX1 : ∀ (u_38 : Int32) (σ_39 : Mem) (H : Heap) (locs : List Loc) (ls : Array Slot), K1 u_38 σ_39 = some σ' → va_P D vwCl (wX ca a σ_39) H → va_S (AW 50 a) s.heap H locs → lv_has ls 8 [] → W p l e rm_X11_walkOrders_1 s m args below meth c H locs 0 0 Q (F0 m 137 ls []) := by
        intro u_38 σ_39 H locs ls h hP hS hl
        have h := ap2 eK1 h
        rw [hQ]
        exact xvret C0 hP hS h dX11_walkOrders_137
      have hL1 : ∀ (n : Nat) (x7_22 : Int32) (σ_23 : Mem) (H : Heap) (locs : List Loc) (ls : Array Slot), f_X11_walkOrders_L79 d1 p2 p3 F r_2 r_5 r_20 n x7_22 σ_23 K1 = some σ' → va_P D vwCl (wX ca a σ_23) H → va_S (AW 50 a) s.heap H locs → lv_has ls 8 [(0, .ref (a 0)), (1, .ref (a (19 + 2 * d1))), (2, .int p2), (3, .int p3), (4, .ref (a (1 + 2 * r_2))), (5, .int r_5), (6, .ref (a (1 + 2 * r_20))), (7, .int x7_22)] → W p l e rm_X11_walkOrders_1 s m args below meth c H locs 0 0 Q (F0 m 79 ls []) := by
        intro n
        induction n with
        | zero => intro x7_22 σ_23 H locs ls h; rw [f_X11_walkOrders_L79] at h; cases h
        | succ n ih1 =>
          intro x7_22 σ_23 H locs ls h hP hS hl
          rw [f_X11_walkOrders_L79] at h
          refine lv_iload hx hb dX11_walkOrders_79 (lv_at hl 7 rfl) ?_
          refine lv_iload hx hb dX11_walkOrders_81 (lv_at hl 5 rfl) ?_
          refine lv_icmp_ge (tgt := 137) hx hb dX11_walkOrders_83 (by decide) (fun c_24 => ?_) (fun c_24 => ?_)
          · have h := it c_24 h
            exact hX1 x7_22 σ_23 _ _ ls h hP hS (lv_sub hl [] rfl)
          · have h := ie c_24 h
            refine lv_iload_n hx hb dX11_walkOrders_86 rfl (lv_at hl 2 rfl) ?_
            refine lv_iload hx hb dX11_walkOrders_87 (lv_at hl 7 rfl) ?_
            refine lv_ishr hx hb dX11_walkOrders_89 ?_
            refine lv_iconst (v := 1) hx hb dX11_walkOrders_90 (by decide) ?_
            refine lv_iand hx hb dX11_walkOrders_91 ?_
            refine lv_if_eq (tgt := 98) hx hb dX11_walkOrders_92 (by decide) (fun c_25 => ?_) (fun c_25 => ?_)
            · have h := it c_25 h
              refine lv_aload hx hb dX11_walkOrders_98 (lv_at hl 6 rfl) ?_
              refine lv_aload hx hb dX11_walkOrders_100 (lv_at hl 4 rfl) ?_
              obtain ⟨σ_27, h_26, h⟩ := b1_e h
              refine xcall (rV C0 hK hP hl.1 (fun _ _ _ => trivial) Bt_b (c_X0_becomeLike hI hk_21 hk_3 h_26) cv_X0_becomeLike tw379 (rcX0 hK hP hk_21) (rest := []) rfl (Nat.le_of_ble_eq_true rfl) ⟨rfl, rfl, Nat.le_of_ble_eq_true rfl, Nat.le_of_ble_eq_true rfl⟩ ⟨Nat.zero_le _, Nat.zero_le _⟩ dX11_walkOrders_102) hS (fun H locs hP hS => ?_)
              refine lv_aload_n hx hb dX11_walkOrders_105 rfl (lv_at hl 0 rfl) ?_
              refine lv_aload hx hb dX11_walkOrders_106 (lv_at hl 6 rfl) ?_
              refine lv_aload_n hx hb dX11_walkOrders_108 rfl (lv_at hl 1 rfl) ?_
              refine lv_iload hx hb dX11_walkOrders_109 (lv_at hl 7 rfl) ?_
              obtain ⟨r_29, σ_30, h_28, h⟩ := b2_e h
              refine xcall (rV C0 hK hP hl.1 (fun _ _ _ => trivial) Bt_b (c_X11_sewPinOfRow hI hk_21 hk_d1 h_28) cv_X11_sewPinOfRow tw626 (rcX11 hK hP) (rest := []) rfl (Nat.le_of_ble_eq_true rfl) ⟨rfl, rfl, Nat.le_of_ble_eq_true rfl, Nat.le_of_ble_eq_true rfl⟩ ⟨Nat.zero_le _, Nat.zero_le _⟩ dX11_walkOrders_111) hS (fun H locs hP hS => ?_)
              refine lv_if_eq (tgt := 131) hx hb dX11_walkOrders_114 (by decide) (fun c_31 => ?_) (fun c_31 => ?_)
              · have h := it c_31 h
                obtain ⟨x7_32, ex7_32, h⟩ := bnd_e h
                refine lv_iinc (v := x7_32) (lv' := [(7, .int x7_32), (0, .ref (a 0)), (1, .ref (a (19 + 2 * d1))), (2, .int p2), (3, .int p3), (4, .ref (a (1 + 2 * r_2))), (5, .int r_5), (6, .ref (a (1 + 2 * r_20)))]) hx hb dX11_walkOrders_131 hl (k := 7) rfl (by rw [ex7_32]; rfl) (by decide) rfl (fun ls hl => ?_)
                refine lv_goto (tgt := 79) hx hb dX11_walkOrders_134 (by decide) ?_
                exact ih1 x7_32 σ_30 _ _ ls h hP hS (lv_sub hl [1, 2, 3, 4, 5, 6, 7, 0] rfl)
              · have h := ie c_31 h
                refine lv_aload_n hx hb dX11_walkOrders_117 rfl (lv_at hl 0 rfl) ?_
                refine lv_aload_n hx hb dX11_walkOrders_118 rfl (lv_at hl 1 rfl) ?_
                refine lv_iload_n hx hb dX11_walkOrders_119 rfl (lv_at hl 2 rfl) ?_
                refine lv_iconst (v := 1) hx hb dX11_walkOrders_120 (by decide) ?_
                refine lv_iload hx hb dX11_walkOrders_121 (lv_at hl 7 rfl) ?_
                refine lv_ishl hx hb dX11_walkOrders_123 ?_
                refine lv_ior hx hb dX11_walkOrders_124 ?_
                refine lv_iload_n hx hb dX11_walkOrders_125 rfl (lv_at hl 3 rfl) ?_
                refine lv_iconst (v := 1) hx hb dX11_walkOrders_126 (by decide) ?_
                refine lv_iadd hx hb dX11_walkOrders_127 ?_
                obtain ⟨y_33, ey_33, h⟩ := bnd_e h
                rw [← ey_33]
                obtain ⟨σ_35, h_34, h⟩ := b1_e h
                refine xcall (rV C0 hK hP hl.1 (fun _ _ _ => trivial) Bt_b (c_X11_walkOrders_0 hI hk_d1 (hF ▸ h_34)) cv_X11_walkOrders tw646 (rcX11 hK hP) (rest := []) rfl (Nat.le_of_ble_eq_true rfl) ⟨rfl, rfl, Nat.le_of_ble_eq_true rfl, Nat.le_of_ble_eq_true rfl⟩ ⟨Nat.zero_le _, Nat.zero_le _⟩ dX11_walkOrders_128) hS (fun H locs hP hS => ?_)
                obtain ⟨x7_36, ex7_36, h⟩ := bnd_e h
                refine lv_iinc (v := x7_36) (lv' := [(7, .int x7_36), (0, .ref (a 0)), (1, .ref (a (19 + 2 * d1))), (2, .int p2), (3, .int p3), (4, .ref (a (1 + 2 * r_2))), (5, .int r_5), (6, .ref (a (1 + 2 * r_20)))]) hx hb dX11_walkOrders_131 hl (k := 7) rfl (by rw [ex7_36]; rfl) (by decide) rfl (fun ls hl => ?_)
                refine lv_goto (tgt := 79) hx hb dX11_walkOrders_134 (by decide) ?_
                exact ih1 x7_36 σ_35 _ _ ls h hP hS (lv_sub hl [1, 2, 3, 4, 5, 6, 7, 0] rfl)
            · have h := ie c_25 h
              refine lv_goto (tgt := 131) hx hb dX11_walkOrders_95 (by decide) ?_
              obtain ⟨x7_37, ex7_37, h⟩ := bnd_e h
              refine lv_iinc (v := x7_37) (lv' := [(7, .int x7_37), (0, .ref (a 0)), (1, .ref (a (19 + 2 * d1))), (2, .int p2), (3, .int p3), (4, .ref (a (1 + 2 * r_2))), (5, .int r_5), (6, .ref (a (1 + 2 * r_20)))]) hx hb dX11_walkOrders_131 hl (k := 7) rfl (by rw [ex7_37]; rfl) (by decide) rfl (fun ls hl => ?_)
              refine lv_goto (tgt := 79) hx hb dX11_walkOrders_134 (by decide) ?_
              exact ih1 x7_37 σ_23 _ _ ls h hP hS (lv_sub hl [1, 2, 3, 4, 5, 6, 7, 0] rfl)
      exact hL1 5000 0 σ _ _ ls h hP hS (lv_sub hl [4, 5, 6, 7, 3, 2, 1, 0] rfl)
    · have h := ie c_18 h
      exact hJ24 σ _ _ ls h hP hS (lv_sub hl [2, 1] rfl)
set_option maxHeartbeats 4000000 in
set_option maxRecDepth 100000 in
theorem c_X11_walkOrders_2 {l : Launch} {D : va_G} {ca : Nat → ClassId} {a : Nat → Nat} (hI : InjN 50 a) {d1 : Nat} {p2 : Int32} {p3 : Int32} {σ : Mem} {σ' : Mem} (hk_d1 : d1 < 9) (h : f_X11_walkOrders 2 d1 p2 p3 σ = some σ') : XMX l D ca a Bt yX11_walkOrders cX11_walkOrders 8 none rm_X11_walkOrders_2 [.ref (a 0), .ref (a (19 + 2 * d1)), .int p2, .int p3] σ none σ' := by
  refine XM.of pn_X11 (Nat.le_of_ble_eq_true rfl) ?_
  intro p e s m args below meth c ls Q hQ C0 hK hB hP hS hl
  have C0 : Cx p s m args meth c RX11 cX11_walkOrders 8 none := C0
  have hx := C0.1
  have hb := C0.2.1
  have hl : lv_has ls 8 [(0, .ref (a 0)), (1, .ref (a (19 + 2 * d1))), (2, .int p2), (3, .int p3)] := hl
  obtain ⟨F, hF⟩ : ∃ F, F = f_X11_walkOrders 1 := ⟨_, rfl⟩
  have h : f_X11_walkOrders_B F d1 p2 p3 σ = some σ' := by rw [hF]; exact h
  rw [f_X11_walkOrders_B] at h
  refine lv_aload_n hx hb dX11_walkOrders_0 rfl (lv_at hl 0 rfl) ?_
  refine lv_iload_n hx hb dX11_walkOrders_1 rfl (lv_at hl 3 rfl) ?_
  obtain ⟨r_2, h_1, h⟩ := b1_e h
  refine xcall (rV C0 hK hP hl.1 (fun _ _ _ => trivial) Bt_b (c_X11_stepAt hI h_1) cv_X11_stepAt tw642 (rcX11 hK hP) (rest := []) rfl (Nat.le_of_ble_eq_true rfl) ⟨rfl, rfl, Nat.le_of_ble_eq_true rfl, Nat.le_of_ble_eq_true rfl⟩ ⟨Nat.zero_le _, Nat.zero_le _⟩ dX11_walkOrders_2) hS (fun H locs hP hS => ?_)
  obtain ⟨hk_3, h⟩ := asr h
  refine lv_astore (lv' := [(4, .ref (a (1 + 2 * r_2))), (0, .ref (a 0)), (1, .ref (a (19 + 2 * d1))), (2, .int p2), (3, .int p3)]) hx hb dX11_walkOrders_5 hl (by decide) rfl (fun ls hl => ?_)
  refine lv_aload_n hx hb dX11_walkOrders_7 rfl (lv_at hl 2 rfl) ?_
  obtain ⟨r_5, h_4, h⟩ := b1_e h
  refine xcall (rS C0 hK hP hl.1 (fun _ _ _ => trivial) Bt_b (c_X11_pinsIn hI hk_d1 h_4) cs_X11_pinsIn tw619 (rest := []) rfl (Nat.le_of_ble_eq_true rfl) ⟨rfl, rfl, Nat.le_of_ble_eq_true rfl, Nat.le_of_ble_eq_true rfl⟩ ⟨Nat.zero_le _, Nat.zero_le _⟩ dX11_walkOrders_8) hS (fun H locs hP hS => ?_)
  refine lv_istore (lv' := [(5, .int r_5), (4, .ref (a (1 + 2 * r_2))), (0, .ref (a 0)), (1, .ref (a (19 + 2 * d1))), (2, .int p2), (3, .int p3)]) hx hb dX11_walkOrders_11 hl (by decide) rfl (fun ls hl => ?_)
  refine lv_iload_n hx hb dX11_walkOrders_13 rfl (lv_at hl 5 rfl) ?_
  refine lv_iload hx hb dX11_walkOrders_14 (lv_at hl 0 rfl) ?_
  obtain ⟨J24, eJ24, h⟩ := jn_e h
  have hJ24 : ∀ (σ_6 : Mem) (H : Heap) (locs : List Loc) (ls : Array Slot), J24 σ_6 = some σ' → va_P D vwCl (wX ca a σ_6) H → va_S (AW 50 a) s.heap H locs → lv_has ls 8 [(0, .ref (a 0)), (4, .ref (a (1 + 2 * r_2)))] → W p l e rm_X11_walkOrders_2 s m args below meth c H locs 0 0 Q (F0 m 24 ls []) := by
    intro σ_6 H locs ls h hP hS hl
    have h := ap1 eJ24 h
    refine lv_aload hx hb dX11_walkOrders_24 (lv_at hl 1 rfl) ?_
    obtain ⟨r_8, h_7, h⟩ := b1_e h
    refine xcall (rV C0 hK hP hl.1 (fun _ _ _ => trivial) Bt_b (c_X0_lacking hI hk_3 h_7) cv_X0_lacking tw567 (rcX0 hK hP hk_3) (rest := []) rfl (Nat.le_of_ble_eq_true rfl) ⟨rfl, rfl, Nat.le_of_ble_eq_true rfl, Nat.le_of_ble_eq_true rfl⟩ ⟨Nat.zero_le _, Nat.zero_le _⟩ dX11_walkOrders_26) hS (fun H locs hP hS => ?_)
    refine lv_istore (lv' := [(6, .int r_8), (0, .ref (a 0)), (4, .ref (a (1 + 2 * r_2)))]) hx hb dX11_walkOrders_29 hl (by decide) rfl (fun ls hl => ?_)
    refine lv_aload_n hx hb dX11_walkOrders_31 rfl (lv_at hl 1 rfl) ?_
    refine lv_aload_n hx hb dX11_walkOrders_32 rfl (lv_at hl 1 rfl) ?_
    refine gX11_10 C0 hK hP tw245 dX11_walkOrders_33 ?_
    refine lv_if_ne (tgt := 44) hx hb dX11_walkOrders_36 (by decide) (fun c_9 => ?_) (fun c_9 => ?_)
    · have h := ie c_9 h
      refine lv_aload_n hx hb dX11_walkOrders_44 rfl (lv_at hl 1 rfl) ?_
      refine gX11_11 C0 hK hP tw246 dX11_walkOrders_45 ?_
      refine lv_iload hx hb dX11_walkOrders_48 (lv_at hl 0 rfl) ?_
      refine va_mmin hx hb (C0.2.2.1.trans hl.1.symm) C0.2.2.2.1 (C0.2.2.2.2.1 _ tw650) (C0.2.2.2.2.1 _ tw384) (C0.2.2.2.2.1 _ tw77) (C0.2.2.2.2.1 _ tw385) (Nat.le_of_ble_eq_true rfl) (Nat.le_of_ble_eq_true rfl) (Nat.zero_le _) (Nat.zero_le _) dX11_walkOrders_50 ?_
      obtain ⟨y_10, ey_10, h⟩ := bnd_e h
      refine nm_i ey_10 ?_
      obtain ⟨σ_11, eσ_11, h⟩ := bnd_e h
      refine pX11_11 C0 hK hP tw246 hI hS dX11_walkOrders_53 (fun H locs hP hS => ?_)
      rw [← eσ_11] at hP
      refine lv_aload_n hx hb dX11_walkOrders_56 rfl (lv_at hl 1 rfl) ?_
      refine lv_dup hx hb dX11_walkOrders_57 rfl ?_
      refine gX11_10 C0 hK hP tw245 dX11_walkOrders_58 ?_
      refine lv_iconst (v := 1) hx hb dX11_walkOrders_61 (by decide) ?_
      refine lv_iadd hx hb dX11_walkOrders_62 ?_
      obtain ⟨y_12, ey_12, h⟩ := bnd_e h
      refine nm_i ey_12 ?_
      obtain ⟨σ_13, eσ_13, h⟩ := bnd_e h
      refine pX11_10 C0 hK hP tw245 hI hS dX11_walkOrders_63 (fun H locs hP hS => ?_)
      rw [← eσ_13] at hP
      rw [hQ]
      exact xvret C0 hP hS h dX11_walkOrders_66
    · have h := it c_9 h
      refine lv_iload hx hb dX11_walkOrders_39 (lv_at hl 0 rfl) ?_
      refine lv_goto (tgt := 53) hx hb dX11_walkOrders_41 (by decide) ?_
      obtain ⟨σ_14, eσ_14, h⟩ := bnd_e h
      refine pX11_11 C0 hK hP tw246 hI hS dX11_walkOrders_53 (fun H locs hP hS => ?_)
      rw [← eσ_14] at hP
      refine lv_aload_n hx hb dX11_walkOrders_56 rfl (lv_at hl 1 rfl) ?_
      refine lv_dup hx hb dX11_walkOrders_57 rfl ?_
      refine gX11_10 C0 hK hP tw245 dX11_walkOrders_58 ?_
      refine lv_iconst (v := 1) hx hb dX11_walkOrders_61 (by decide) ?_
      refine lv_iadd hx hb dX11_walkOrders_62 ?_
      obtain ⟨y_15, ey_15, h⟩ := bnd_e h
      refine nm_i ey_15 ?_
      obtain ⟨σ_16, eσ_16, h⟩ := bnd_e h
      refine pX11_10 C0 hK hP tw245 hI hS dX11_walkOrders_63 (fun H locs hP hS => ?_)
      rw [← eσ_16] at hP
      rw [hQ]
      exact xvret C0 hP hS h dX11_walkOrders_66
  refine lv_icmp_ge (tgt := 24) hx hb dX11_walkOrders_16 (by decide) (fun c_17 => ?_) (fun c_17 => ?_)
  · have h := it c_17 h
    exact hJ24 σ _ _ ls h hP hS (lv_sub hl [2, 1] rfl)
  · have h := ie c_17 h
    refine lv_iload_n hx hb dX11_walkOrders_19 rfl (lv_at hl 5 rfl) ?_
    refine lv_iconst (v := 5) hx hb dX11_walkOrders_20 (by decide) ?_
    refine lv_icmp_lt (tgt := 67) hx hb dX11_walkOrders_21 (by decide) (fun c_18 => ?_) (fun c_18 => ?_)
    · have h := it c_18 h
      refine lv_aload_n hx hb dX11_walkOrders_67 rfl (lv_at hl 2 rfl) ?_
      refine lv_iload_n hx hb dX11_walkOrders_68 rfl (lv_at hl 5 rfl) ?_
      refine lv_iconst (v := 1) hx hb dX11_walkOrders_69 (by decide) ?_
      refine lv_iadd hx hb dX11_walkOrders_70 ?_
      obtain ⟨r_20, h_19, h⟩ := b1_e h
      refine xcall (rV C0 hK hP hl.1 (fun _ _ _ => trivial) Bt_b (c_X11_stepAt hI h_19) cv_X11_stepAt tw642 (rcX11 hK hP) (rest := []) rfl (Nat.le_of_ble_eq_true rfl) ⟨rfl, rfl, Nat.le_of_ble_eq_true rfl, Nat.le_of_ble_eq_true rfl⟩ ⟨Nat.zero_le _, Nat.zero_le _⟩ dX11_walkOrders_71) hS (fun H locs hP hS => ?_)
      obtain ⟨hk_21, h⟩ := asr h
      refine lv_astore (lv' := [(6, .ref (a (1 + 2 * r_20))), (5, .int r_5), (4, .ref (a (1 + 2 * r_2))), (0, .ref (a 0)), (1, .ref (a (19 + 2 * d1))), (2, .int p2), (3, .int p3)]) hx hb dX11_walkOrders_74 hl (by decide) rfl (fun ls hl => ?_)
      refine lv_iconst (v := 0) hx hb dX11_walkOrders_76 (by decide) ?_
      refine lv_istore (lv' := [(7, .int 0), (6, .ref (a (1 + 2 * r_20))), (5, .int r_5), (4, .ref (a (1 + 2 * r_2))), (0, .ref (a 0)), (1, .ref (a (19 + 2 * d1))), (2, .int p2), (3, .int p3)]) hx hb dX11_walkOrders_77 hl (by decide) rfl (fun ls hl => ?_)
      obtain ⟨K1, eK1, h⟩ := lp_e (f := fun K => f_X11_walkOrders_L79 d1 p2 p3 F r_2 r_5 r_20 5000 0 σ K) h
      have h : f_X11_walkOrders_L79 d1 p2 p3 F r_2 r_5 r_20 5000 0 σ K1 = some σ' := h
      have hX1 : ∀ (u_38 : Int32) (σ_39 : Mem) (H : Heap) (locs : List Loc) (ls : Array Slot), K1 u_38 σ_39 = some σ' → va_P D vwCl (wX ca a σ_39) H → va_S (AW 50 a) s.heap H locs → lv_has ls 8 [] → W p l e rm_X11_walkOrders_2 s m args below meth c H locs 0 0 Q (F0 m 137 ls []) := by
        intro u_38 σ_39 H locs ls h hP hS hl
        have h := ap2 eK1 h
        rw [hQ]
        exact xvret C0 hP hS h dX11_walkOrders_137
      have hL1 : ∀ (n : Nat) (x7_22 : Int32) (σ_23 : Mem) (H : Heap) (locs : List Loc) (ls : Array Slot), f_X11_walkOrders_L79 d1 p2 p3 F r_2 r_5 r_20 n x7_22 σ_23 K1 = some σ' → va_P D vwCl (wX ca a σ_23) H → va_S (AW 50 a) s.heap H locs → lv_has ls 8 [(0, .ref (a 0)), (1, .ref (a (19 + 2 * d1))), (2, .int p2), (3, .int p3), (4, .ref (a (1 + 2 * r_2))), (5, .int r_5), (6, .ref (a (1 + 2 * r_20))), (7, .int x7_22)] → W p l e rm_X11_walkOrders_2 s m args below meth c H locs 0 0 Q (F0 m 79 ls []) := by
        intro n
        induction n with
        | zero => intro x7_22 σ_23 H locs ls h; rw [f_X11_walkOrders_L79] at h; cases h
        | succ n ih1 =>
          intro x7_22 σ_23 H locs ls h hP hS hl
          rw [f_X11_walkOrders_L79] at h
          refine lv_iload hx hb dX11_walkOrders_79 (lv_at hl 7 rfl) ?_
          refine lv_iload hx hb dX11_walkOrders_81 (lv_at hl 5 rfl) ?_
          refine lv_icmp_ge (tgt := 137) hx hb dX11_walkOrders_83 (by decide) (fun c_24 => ?_) (fun c_24 => ?_)
          · have h := it c_24 h
            exact hX1 x7_22 σ_23 _ _ ls h hP hS (lv_sub hl [] rfl)
          · have h := ie c_24 h
            refine lv_iload_n hx hb dX11_walkOrders_86 rfl (lv_at hl 2 rfl) ?_
            refine lv_iload hx hb dX11_walkOrders_87 (lv_at hl 7 rfl) ?_
            refine lv_ishr hx hb dX11_walkOrders_89 ?_
            refine lv_iconst (v := 1) hx hb dX11_walkOrders_90 (by decide) ?_
            refine lv_iand hx hb dX11_walkOrders_91 ?_
            refine lv_if_eq (tgt := 98) hx hb dX11_walkOrders_92 (by decide) (fun c_25 => ?_) (fun c_25 => ?_)
            · have h := it c_25 h
              refine lv_aload hx hb dX11_walkOrders_98 (lv_at hl 6 rfl) ?_
              refine lv_aload hx hb dX11_walkOrders_100 (lv_at hl 4 rfl) ?_
              obtain ⟨σ_27, h_26, h⟩ := b1_e h
              refine xcall (rV C0 hK hP hl.1 (fun _ _ _ => trivial) Bt_b (c_X0_becomeLike hI hk_21 hk_3 h_26) cv_X0_becomeLike tw379 (rcX0 hK hP hk_21) (rest := []) rfl (Nat.le_of_ble_eq_true rfl) ⟨rfl, rfl, Nat.le_of_ble_eq_true rfl, Nat.le_of_ble_eq_true rfl⟩ ⟨Nat.zero_le _, Nat.zero_le _⟩ dX11_walkOrders_102) hS (fun H locs hP hS => ?_)
              refine lv_aload_n hx hb dX11_walkOrders_105 rfl (lv_at hl 0 rfl) ?_
              refine lv_aload hx hb dX11_walkOrders_106 (lv_at hl 6 rfl) ?_
              refine lv_aload_n hx hb dX11_walkOrders_108 rfl (lv_at hl 1 rfl) ?_
              refine lv_iload hx hb dX11_walkOrders_109 (lv_at hl 7 rfl) ?_
              obtain ⟨r_29, σ_30, h_28, h⟩ := b2_e h
              refine xcall (rV C0 hK hP hl.1 (fun _ _ _ => trivial) Bt_b (c_X11_sewPinOfRow hI hk_21 hk_d1 h_28) cv_X11_sewPinOfRow tw626 (rcX11 hK hP) (rest := []) rfl (Nat.le_of_ble_eq_true rfl) ⟨rfl, rfl, Nat.le_of_ble_eq_true rfl, Nat.le_of_ble_eq_true rfl⟩ ⟨Nat.zero_le _, Nat.zero_le _⟩ dX11_walkOrders_111) hS (fun H locs hP hS => ?_)
              refine lv_if_eq (tgt := 131) hx hb dX11_walkOrders_114 (by decide) (fun c_31 => ?_) (fun c_31 => ?_)
              · have h := it c_31 h
                obtain ⟨x7_32, ex7_32, h⟩ := bnd_e h
                refine lv_iinc (v := x7_32) (lv' := [(7, .int x7_32), (0, .ref (a 0)), (1, .ref (a (19 + 2 * d1))), (2, .int p2), (3, .int p3), (4, .ref (a (1 + 2 * r_2))), (5, .int r_5), (6, .ref (a (1 + 2 * r_20)))]) hx hb dX11_walkOrders_131 hl (k := 7) rfl (by rw [ex7_32]; rfl) (by decide) rfl (fun ls hl => ?_)
                refine lv_goto (tgt := 79) hx hb dX11_walkOrders_134 (by decide) ?_
                exact ih1 x7_32 σ_30 _ _ ls h hP hS (lv_sub hl [1, 2, 3, 4, 5, 6, 7, 0] rfl)
              · have h := ie c_31 h
                refine lv_aload_n hx hb dX11_walkOrders_117 rfl (lv_at hl 0 rfl) ?_
                refine lv_aload_n hx hb dX11_walkOrders_118 rfl (lv_at hl 1 rfl) ?_
                refine lv_iload_n hx hb dX11_walkOrders_119 rfl (lv_at hl 2 rfl) ?_
                refine lv_iconst (v := 1) hx hb dX11_walkOrders_120 (by decide) ?_
                refine lv_iload hx hb dX11_walkOrders_121 (lv_at hl 7 rfl) ?_
                refine lv_ishl hx hb dX11_walkOrders_123 ?_
                refine lv_ior hx hb dX11_walkOrders_124 ?_
                refine lv_iload_n hx hb dX11_walkOrders_125 rfl (lv_at hl 3 rfl) ?_
                refine lv_iconst (v := 1) hx hb dX11_walkOrders_126 (by decide) ?_
                refine lv_iadd hx hb dX11_walkOrders_127 ?_
                obtain ⟨y_33, ey_33, h⟩ := bnd_e h
                rw [← ey_33]
                obtain ⟨σ_35, h_34, h⟩ := b1_e h
                refine xcall (rV C0 hK hP hl.1 (fun _ _ _ => trivial) Bt_b (c_X11_walkOrders_1 hI hk_d1 (hF ▸ h_34)) cv_X11_walkOrders tw646 (rcX11 hK hP) (rest := []) rfl (Nat.le_of_ble_eq_true rfl) ⟨rfl, rfl, Nat.le_of_ble_eq_true rfl, Nat.le_of_ble_eq_true rfl⟩ ⟨Nat.zero_le _, Nat.zero_le _⟩ dX11_walkOrders_128) hS (fun H locs hP hS => ?_)
                obtain ⟨x7_36, ex7_36, h⟩ := bnd_e h
                refine lv_iinc (v := x7_36) (lv' := [(7, .int x7_36), (0, .ref (a 0)), (1, .ref (a (19 + 2 * d1))), (2, .int p2), (3, .int p3), (4, .ref (a (1 + 2 * r_2))), (5, .int r_5), (6, .ref (a (1 + 2 * r_20)))]) hx hb dX11_walkOrders_131 hl (k := 7) rfl (by rw [ex7_36]; rfl) (by decide) rfl (fun ls hl => ?_)
                refine lv_goto (tgt := 79) hx hb dX11_walkOrders_134 (by decide) ?_
                exact ih1 x7_36 σ_35 _ _ ls h hP hS (lv_sub hl [1, 2, 3, 4, 5, 6, 7, 0] rfl)
            · have h := ie c_25 h
              refine lv_goto (tgt := 131) hx hb dX11_walkOrders_95 (by decide) ?_
              obtain ⟨x7_37, ex7_37, h⟩ := bnd_e h
              refine lv_iinc (v := x7_37) (lv' := [(7, .int x7_37), (0, .ref (a 0)), (1, .ref (a (19 + 2 * d1))), (2, .int p2), (3, .int p3), (4, .ref (a (1 + 2 * r_2))), (5, .int r_5), (6, .ref (a (1 + 2 * r_20)))]) hx hb dX11_walkOrders_131 hl (k := 7) rfl (by rw [ex7_37]; rfl) (by decide) rfl (fun ls hl => ?_)
              refine lv_goto (tgt := 79) hx hb dX11_walkOrders_134 (by decide) ?_
              exact ih1 x7_37 σ_23 _ _ ls h hP hS (lv_sub hl [1, 2, 3, 4, 5, 6, 7, 0] rfl)
      exact hL1 5000 0 σ _ _ ls h hP hS (lv_sub hl [4, 5, 6, 7, 3, 2, 1, 0] rfl)
    · have h := ie c_18 h
      exact hJ24 σ _ _ ls h hP hS (lv_sub hl [2, 1] rfl)
set_option maxHeartbeats 4000000 in
set_option maxRecDepth 100000 in
theorem c_X11_walkOrders_3 {l : Launch} {D : va_G} {ca : Nat → ClassId} {a : Nat → Nat} (hI : InjN 50 a) {d1 : Nat} {p2 : Int32} {p3 : Int32} {σ : Mem} {σ' : Mem} (hk_d1 : d1 < 9) (h : f_X11_walkOrders 3 d1 p2 p3 σ = some σ') : XMX l D ca a Bt yX11_walkOrders cX11_walkOrders 8 none rm_X11_walkOrders_3 [.ref (a 0), .ref (a (19 + 2 * d1)), .int p2, .int p3] σ none σ' := by
  refine XM.of pn_X11 (Nat.le_of_ble_eq_true rfl) ?_
  intro p e s m args below meth c ls Q hQ C0 hK hB hP hS hl
  have C0 : Cx p s m args meth c RX11 cX11_walkOrders 8 none := C0
  have hx := C0.1
  have hb := C0.2.1
  have hl : lv_has ls 8 [(0, .ref (a 0)), (1, .ref (a (19 + 2 * d1))), (2, .int p2), (3, .int p3)] := hl
  obtain ⟨F, hF⟩ : ∃ F, F = f_X11_walkOrders 2 := ⟨_, rfl⟩
  have h : f_X11_walkOrders_B F d1 p2 p3 σ = some σ' := by rw [hF]; exact h
  rw [f_X11_walkOrders_B] at h
  refine lv_aload_n hx hb dX11_walkOrders_0 rfl (lv_at hl 0 rfl) ?_
  refine lv_iload_n hx hb dX11_walkOrders_1 rfl (lv_at hl 3 rfl) ?_
  obtain ⟨r_2, h_1, h⟩ := b1_e h
  refine xcall (rV C0 hK hP hl.1 (fun _ _ _ => trivial) Bt_b (c_X11_stepAt hI h_1) cv_X11_stepAt tw642 (rcX11 hK hP) (rest := []) rfl (Nat.le_of_ble_eq_true rfl) ⟨rfl, rfl, Nat.le_of_ble_eq_true rfl, Nat.le_of_ble_eq_true rfl⟩ ⟨Nat.zero_le _, Nat.zero_le _⟩ dX11_walkOrders_2) hS (fun H locs hP hS => ?_)
  obtain ⟨hk_3, h⟩ := asr h
  refine lv_astore (lv' := [(4, .ref (a (1 + 2 * r_2))), (0, .ref (a 0)), (1, .ref (a (19 + 2 * d1))), (2, .int p2), (3, .int p3)]) hx hb dX11_walkOrders_5 hl (by decide) rfl (fun ls hl => ?_)
  refine lv_aload_n hx hb dX11_walkOrders_7 rfl (lv_at hl 2 rfl) ?_
  obtain ⟨r_5, h_4, h⟩ := b1_e h
  refine xcall (rS C0 hK hP hl.1 (fun _ _ _ => trivial) Bt_b (c_X11_pinsIn hI hk_d1 h_4) cs_X11_pinsIn tw619 (rest := []) rfl (Nat.le_of_ble_eq_true rfl) ⟨rfl, rfl, Nat.le_of_ble_eq_true rfl, Nat.le_of_ble_eq_true rfl⟩ ⟨Nat.zero_le _, Nat.zero_le _⟩ dX11_walkOrders_8) hS (fun H locs hP hS => ?_)
  refine lv_istore (lv' := [(5, .int r_5), (4, .ref (a (1 + 2 * r_2))), (0, .ref (a 0)), (1, .ref (a (19 + 2 * d1))), (2, .int p2), (3, .int p3)]) hx hb dX11_walkOrders_11 hl (by decide) rfl (fun ls hl => ?_)
  refine lv_iload_n hx hb dX11_walkOrders_13 rfl (lv_at hl 5 rfl) ?_
  refine lv_iload hx hb dX11_walkOrders_14 (lv_at hl 0 rfl) ?_
  obtain ⟨J24, eJ24, h⟩ := jn_e h
  have hJ24 : ∀ (σ_6 : Mem) (H : Heap) (locs : List Loc) (ls : Array Slot), J24 σ_6 = some σ' → va_P D vwCl (wX ca a σ_6) H → va_S (AW 50 a) s.heap H locs → lv_has ls 8 [(0, .ref (a 0)), (4, .ref (a (1 + 2 * r_2)))] → W p l e rm_X11_walkOrders_3 s m args below meth c H locs 0 0 Q (F0 m 24 ls []) := by
    intro σ_6 H locs ls h hP hS hl
    have h := ap1 eJ24 h
    refine lv_aload hx hb dX11_walkOrders_24 (lv_at hl 1 rfl) ?_
    obtain ⟨r_8, h_7, h⟩ := b1_e h
    refine xcall (rV C0 hK hP hl.1 (fun _ _ _ => trivial) Bt_b (c_X0_lacking hI hk_3 h_7) cv_X0_lacking tw567 (rcX0 hK hP hk_3) (rest := []) rfl (Nat.le_of_ble_eq_true rfl) ⟨rfl, rfl, Nat.le_of_ble_eq_true rfl, Nat.le_of_ble_eq_true rfl⟩ ⟨Nat.zero_le _, Nat.zero_le _⟩ dX11_walkOrders_26) hS (fun H locs hP hS => ?_)
    refine lv_istore (lv' := [(6, .int r_8), (0, .ref (a 0)), (4, .ref (a (1 + 2 * r_2)))]) hx hb dX11_walkOrders_29 hl (by decide) rfl (fun ls hl => ?_)
    refine lv_aload_n hx hb dX11_walkOrders_31 rfl (lv_at hl 1 rfl) ?_
    refine lv_aload_n hx hb dX11_walkOrders_32 rfl (lv_at hl 1 rfl) ?_
    refine gX11_10 C0 hK hP tw245 dX11_walkOrders_33 ?_
    refine lv_if_ne (tgt := 44) hx hb dX11_walkOrders_36 (by decide) (fun c_9 => ?_) (fun c_9 => ?_)
    · have h := ie c_9 h
      refine lv_aload_n hx hb dX11_walkOrders_44 rfl (lv_at hl 1 rfl) ?_
      refine gX11_11 C0 hK hP tw246 dX11_walkOrders_45 ?_
      refine lv_iload hx hb dX11_walkOrders_48 (lv_at hl 0 rfl) ?_
      refine va_mmin hx hb (C0.2.2.1.trans hl.1.symm) C0.2.2.2.1 (C0.2.2.2.2.1 _ tw650) (C0.2.2.2.2.1 _ tw384) (C0.2.2.2.2.1 _ tw77) (C0.2.2.2.2.1 _ tw385) (Nat.le_of_ble_eq_true rfl) (Nat.le_of_ble_eq_true rfl) (Nat.zero_le _) (Nat.zero_le _) dX11_walkOrders_50 ?_
      obtain ⟨y_10, ey_10, h⟩ := bnd_e h
      refine nm_i ey_10 ?_
      obtain ⟨σ_11, eσ_11, h⟩ := bnd_e h
      refine pX11_11 C0 hK hP tw246 hI hS dX11_walkOrders_53 (fun H locs hP hS => ?_)
      rw [← eσ_11] at hP
      refine lv_aload_n hx hb dX11_walkOrders_56 rfl (lv_at hl 1 rfl) ?_
      refine lv_dup hx hb dX11_walkOrders_57 rfl ?_
      refine gX11_10 C0 hK hP tw245 dX11_walkOrders_58 ?_
      refine lv_iconst (v := 1) hx hb dX11_walkOrders_61 (by decide) ?_
      refine lv_iadd hx hb dX11_walkOrders_62 ?_
      obtain ⟨y_12, ey_12, h⟩ := bnd_e h
      refine nm_i ey_12 ?_
      obtain ⟨σ_13, eσ_13, h⟩ := bnd_e h
      refine pX11_10 C0 hK hP tw245 hI hS dX11_walkOrders_63 (fun H locs hP hS => ?_)
      rw [← eσ_13] at hP
      rw [hQ]
      exact xvret C0 hP hS h dX11_walkOrders_66
    · have h := it c_9 h
      refine lv_iload hx hb dX11_walkOrders_39 (lv_at hl 0 rfl) ?_
      refine lv_goto (tgt := 53) hx hb dX11_walkOrders_41 (by decide) ?_
      obtain ⟨σ_14, eσ_14, h⟩ := bnd_e h
      refine pX11_11 C0 hK hP tw246 hI hS dX11_walkOrders_53 (fun H locs hP hS => ?_)
      rw [← eσ_14] at hP
      refine lv_aload_n hx hb dX11_walkOrders_56 rfl (lv_at hl 1 rfl) ?_
      refine lv_dup hx hb dX11_walkOrders_57 rfl ?_
      refine gX11_10 C0 hK hP tw245 dX11_walkOrders_58 ?_
      refine lv_iconst (v := 1) hx hb dX11_walkOrders_61 (by decide) ?_
      refine lv_iadd hx hb dX11_walkOrders_62 ?_
      obtain ⟨y_15, ey_15, h⟩ := bnd_e h
      refine nm_i ey_15 ?_
      obtain ⟨σ_16, eσ_16, h⟩ := bnd_e h
      refine pX11_10 C0 hK hP tw245 hI hS dX11_walkOrders_63 (fun H locs hP hS => ?_)
      rw [← eσ_16] at hP
      rw [hQ]
      exact xvret C0 hP hS h dX11_walkOrders_66
  refine lv_icmp_ge (tgt := 24) hx hb dX11_walkOrders_16 (by decide) (fun c_17 => ?_) (fun c_17 => ?_)
  · have h := it c_17 h
    exact hJ24 σ _ _ ls h hP hS (lv_sub hl [2, 1] rfl)
  · have h := ie c_17 h
    refine lv_iload_n hx hb dX11_walkOrders_19 rfl (lv_at hl 5 rfl) ?_
    refine lv_iconst (v := 5) hx hb dX11_walkOrders_20 (by decide) ?_
    refine lv_icmp_lt (tgt := 67) hx hb dX11_walkOrders_21 (by decide) (fun c_18 => ?_) (fun c_18 => ?_)
    · have h := it c_18 h
      refine lv_aload_n hx hb dX11_walkOrders_67 rfl (lv_at hl 2 rfl) ?_
      refine lv_iload_n hx hb dX11_walkOrders_68 rfl (lv_at hl 5 rfl) ?_
      refine lv_iconst (v := 1) hx hb dX11_walkOrders_69 (by decide) ?_
      refine lv_iadd hx hb dX11_walkOrders_70 ?_
      obtain ⟨r_20, h_19, h⟩ := b1_e h
      refine xcall (rV C0 hK hP hl.1 (fun _ _ _ => trivial) Bt_b (c_X11_stepAt hI h_19) cv_X11_stepAt tw642 (rcX11 hK hP) (rest := []) rfl (Nat.le_of_ble_eq_true rfl) ⟨rfl, rfl, Nat.le_of_ble_eq_true rfl, Nat.le_of_ble_eq_true rfl⟩ ⟨Nat.zero_le _, Nat.zero_le _⟩ dX11_walkOrders_71) hS (fun H locs hP hS => ?_)
      obtain ⟨hk_21, h⟩ := asr h
      refine lv_astore (lv' := [(6, .ref (a (1 + 2 * r_20))), (5, .int r_5), (4, .ref (a (1 + 2 * r_2))), (0, .ref (a 0)), (1, .ref (a (19 + 2 * d1))), (2, .int p2), (3, .int p3)]) hx hb dX11_walkOrders_74 hl (by decide) rfl (fun ls hl => ?_)
      refine lv_iconst (v := 0) hx hb dX11_walkOrders_76 (by decide) ?_
      refine lv_istore (lv' := [(7, .int 0), (6, .ref (a (1 + 2 * r_20))), (5, .int r_5), (4, .ref (a (1 + 2 * r_2))), (0, .ref (a 0)), (1, .ref (a (19 + 2 * d1))), (2, .int p2), (3, .int p3)]) hx hb dX11_walkOrders_77 hl (by decide) rfl (fun ls hl => ?_)
      obtain ⟨K1, eK1, h⟩ := lp_e (f := fun K => f_X11_walkOrders_L79 d1 p2 p3 F r_2 r_5 r_20 5000 0 σ K) h
      have h : f_X11_walkOrders_L79 d1 p2 p3 F r_2 r_5 r_20 5000 0 σ K1 = some σ' := h
      have hX1 : ∀ (u_38 : Int32) (σ_39 : Mem) (H : Heap) (locs : List Loc) (ls : Array Slot), K1 u_38 σ_39 = some σ' → va_P D vwCl (wX ca a σ_39) H → va_S (AW 50 a) s.heap H locs → lv_has ls 8 [] → W p l e rm_X11_walkOrders_3 s m args below meth c H locs 0 0 Q (F0 m 137 ls []) := by
        intro u_38 σ_39 H locs ls h hP hS hl
        have h := ap2 eK1 h
        rw [hQ]
        exact xvret C0 hP hS h dX11_walkOrders_137
      have hL1 : ∀ (n : Nat) (x7_22 : Int32) (σ_23 : Mem) (H : Heap) (locs : List Loc) (ls : Array Slot), f_X11_walkOrders_L79 d1 p2 p3 F r_2 r_5 r_20 n x7_22 σ_23 K1 = some σ' → va_P D vwCl (wX ca a σ_23) H → va_S (AW 50 a) s.heap H locs → lv_has ls 8 [(0, .ref (a 0)), (1, .ref (a (19 + 2 * d1))), (2, .int p2), (3, .int p3), (4, .ref (a (1 + 2 * r_2))), (5, .int r_5), (6, .ref (a (1 + 2 * r_20))), (7, .int x7_22)] → W p l e rm_X11_walkOrders_3 s m args below meth c H locs 0 0 Q (F0 m 79 ls []) := by
        intro n
        induction n with
        | zero => intro x7_22 σ_23 H locs ls h; rw [f_X11_walkOrders_L79] at h; cases h
        | succ n ih1 =>
          intro x7_22 σ_23 H locs ls h hP hS hl
          rw [f_X11_walkOrders_L79] at h
          refine lv_iload hx hb dX11_walkOrders_79 (lv_at hl 7 rfl) ?_
          refine lv_iload hx hb dX11_walkOrders_81 (lv_at hl 5 rfl) ?_
          refine lv_icmp_ge (tgt := 137) hx hb dX11_walkOrders_83 (by decide) (fun c_24 => ?_) (fun c_24 => ?_)
          · have h := it c_24 h
            exact hX1 x7_22 σ_23 _ _ ls h hP hS (lv_sub hl [] rfl)
          · have h := ie c_24 h
            refine lv_iload_n hx hb dX11_walkOrders_86 rfl (lv_at hl 2 rfl) ?_
            refine lv_iload hx hb dX11_walkOrders_87 (lv_at hl 7 rfl) ?_
            refine lv_ishr hx hb dX11_walkOrders_89 ?_
            refine lv_iconst (v := 1) hx hb dX11_walkOrders_90 (by decide) ?_
            refine lv_iand hx hb dX11_walkOrders_91 ?_
            refine lv_if_eq (tgt := 98) hx hb dX11_walkOrders_92 (by decide) (fun c_25 => ?_) (fun c_25 => ?_)
            · have h := it c_25 h
              refine lv_aload hx hb dX11_walkOrders_98 (lv_at hl 6 rfl) ?_
              refine lv_aload hx hb dX11_walkOrders_100 (lv_at hl 4 rfl) ?_
              obtain ⟨σ_27, h_26, h⟩ := b1_e h
              refine xcall (rV C0 hK hP hl.1 (fun _ _ _ => trivial) Bt_b (c_X0_becomeLike hI hk_21 hk_3 h_26) cv_X0_becomeLike tw379 (rcX0 hK hP hk_21) (rest := []) rfl (Nat.le_of_ble_eq_true rfl) ⟨rfl, rfl, Nat.le_of_ble_eq_true rfl, Nat.le_of_ble_eq_true rfl⟩ ⟨Nat.zero_le _, Nat.zero_le _⟩ dX11_walkOrders_102) hS (fun H locs hP hS => ?_)
              refine lv_aload_n hx hb dX11_walkOrders_105 rfl (lv_at hl 0 rfl) ?_
              refine lv_aload hx hb dX11_walkOrders_106 (lv_at hl 6 rfl) ?_
              refine lv_aload_n hx hb dX11_walkOrders_108 rfl (lv_at hl 1 rfl) ?_
              refine lv_iload hx hb dX11_walkOrders_109 (lv_at hl 7 rfl) ?_
              obtain ⟨r_29, σ_30, h_28, h⟩ := b2_e h
              refine xcall (rV C0 hK hP hl.1 (fun _ _ _ => trivial) Bt_b (c_X11_sewPinOfRow hI hk_21 hk_d1 h_28) cv_X11_sewPinOfRow tw626 (rcX11 hK hP) (rest := []) rfl (Nat.le_of_ble_eq_true rfl) ⟨rfl, rfl, Nat.le_of_ble_eq_true rfl, Nat.le_of_ble_eq_true rfl⟩ ⟨Nat.zero_le _, Nat.zero_le _⟩ dX11_walkOrders_111) hS (fun H locs hP hS => ?_)
              refine lv_if_eq (tgt := 131) hx hb dX11_walkOrders_114 (by decide) (fun c_31 => ?_) (fun c_31 => ?_)
              · have h := it c_31 h
                obtain ⟨x7_32, ex7_32, h⟩ := bnd_e h
                refine lv_iinc (v := x7_32) (lv' := [(7, .int x7_32), (0, .ref (a 0)), (1, .ref (a (19 + 2 * d1))), (2, .int p2), (3, .int p3), (4, .ref (a (1 + 2 * r_2))), (5, .int r_5), (6, .ref (a (1 + 2 * r_20)))]) hx hb dX11_walkOrders_131 hl (k := 7) rfl (by rw [ex7_32]; rfl) (by decide) rfl (fun ls hl => ?_)
                refine lv_goto (tgt := 79) hx hb dX11_walkOrders_134 (by decide) ?_
                exact ih1 x7_32 σ_30 _ _ ls h hP hS (lv_sub hl [1, 2, 3, 4, 5, 6, 7, 0] rfl)
              · have h := ie c_31 h
                refine lv_aload_n hx hb dX11_walkOrders_117 rfl (lv_at hl 0 rfl) ?_
                refine lv_aload_n hx hb dX11_walkOrders_118 rfl (lv_at hl 1 rfl) ?_
                refine lv_iload_n hx hb dX11_walkOrders_119 rfl (lv_at hl 2 rfl) ?_
                refine lv_iconst (v := 1) hx hb dX11_walkOrders_120 (by decide) ?_
                refine lv_iload hx hb dX11_walkOrders_121 (lv_at hl 7 rfl) ?_
                refine lv_ishl hx hb dX11_walkOrders_123 ?_
                refine lv_ior hx hb dX11_walkOrders_124 ?_
                refine lv_iload_n hx hb dX11_walkOrders_125 rfl (lv_at hl 3 rfl) ?_
                refine lv_iconst (v := 1) hx hb dX11_walkOrders_126 (by decide) ?_
                refine lv_iadd hx hb dX11_walkOrders_127 ?_
                obtain ⟨y_33, ey_33, h⟩ := bnd_e h
                rw [← ey_33]
                obtain ⟨σ_35, h_34, h⟩ := b1_e h
                refine xcall (rV C0 hK hP hl.1 (fun _ _ _ => trivial) Bt_b (c_X11_walkOrders_2 hI hk_d1 (hF ▸ h_34)) cv_X11_walkOrders tw646 (rcX11 hK hP) (rest := []) rfl (Nat.le_of_ble_eq_true rfl) ⟨rfl, rfl, Nat.le_of_ble_eq_true rfl, Nat.le_of_ble_eq_true rfl⟩ ⟨Nat.zero_le _, Nat.zero_le _⟩ dX11_walkOrders_128) hS (fun H locs hP hS => ?_)
                obtain ⟨x7_36, ex7_36, h⟩ := bnd_e h
                refine lv_iinc (v := x7_36) (lv' := [(7, .int x7_36), (0, .ref (a 0)), (1, .ref (a (19 + 2 * d1))), (2, .int p2), (3, .int p3), (4, .ref (a (1 + 2 * r_2))), (5, .int r_5), (6, .ref (a (1 + 2 * r_20)))]) hx hb dX11_walkOrders_131 hl (k := 7) rfl (by rw [ex7_36]; rfl) (by decide) rfl (fun ls hl => ?_)
                refine lv_goto (tgt := 79) hx hb dX11_walkOrders_134 (by decide) ?_
                exact ih1 x7_36 σ_35 _ _ ls h hP hS (lv_sub hl [1, 2, 3, 4, 5, 6, 7, 0] rfl)
            · have h := ie c_25 h
              refine lv_goto (tgt := 131) hx hb dX11_walkOrders_95 (by decide) ?_
              obtain ⟨x7_37, ex7_37, h⟩ := bnd_e h
              refine lv_iinc (v := x7_37) (lv' := [(7, .int x7_37), (0, .ref (a 0)), (1, .ref (a (19 + 2 * d1))), (2, .int p2), (3, .int p3), (4, .ref (a (1 + 2 * r_2))), (5, .int r_5), (6, .ref (a (1 + 2 * r_20)))]) hx hb dX11_walkOrders_131 hl (k := 7) rfl (by rw [ex7_37]; rfl) (by decide) rfl (fun ls hl => ?_)
              refine lv_goto (tgt := 79) hx hb dX11_walkOrders_134 (by decide) ?_
              exact ih1 x7_37 σ_23 _ _ ls h hP hS (lv_sub hl [1, 2, 3, 4, 5, 6, 7, 0] rfl)
      exact hL1 5000 0 σ _ _ ls h hP hS (lv_sub hl [4, 5, 6, 7, 3, 2, 1, 0] rfl)
    · have h := ie c_18 h
      exact hJ24 σ _ _ ls h hP hS (lv_sub hl [2, 1] rfl)
set_option maxHeartbeats 4000000 in
set_option maxRecDepth 100000 in
theorem c_X11_walkOrders_4 {l : Launch} {D : va_G} {ca : Nat → ClassId} {a : Nat → Nat} (hI : InjN 50 a) {d1 : Nat} {p2 : Int32} {p3 : Int32} {σ : Mem} {σ' : Mem} (hk_d1 : d1 < 9) (h : f_X11_walkOrders 4 d1 p2 p3 σ = some σ') : XMX l D ca a Bt yX11_walkOrders cX11_walkOrders 8 none rm_X11_walkOrders_4 [.ref (a 0), .ref (a (19 + 2 * d1)), .int p2, .int p3] σ none σ' := by
  refine XM.of pn_X11 (Nat.le_of_ble_eq_true rfl) ?_
  intro p e s m args below meth c ls Q hQ C0 hK hB hP hS hl
  have C0 : Cx p s m args meth c RX11 cX11_walkOrders 8 none := C0
  have hx := C0.1
  have hb := C0.2.1
  have hl : lv_has ls 8 [(0, .ref (a 0)), (1, .ref (a (19 + 2 * d1))), (2, .int p2), (3, .int p3)] := hl
  obtain ⟨F, hF⟩ : ∃ F, F = f_X11_walkOrders 3 := ⟨_, rfl⟩
  have h : f_X11_walkOrders_B F d1 p2 p3 σ = some σ' := by rw [hF]; exact h
  rw [f_X11_walkOrders_B] at h
  refine lv_aload_n hx hb dX11_walkOrders_0 rfl (lv_at hl 0 rfl) ?_
  refine lv_iload_n hx hb dX11_walkOrders_1 rfl (lv_at hl 3 rfl) ?_
  obtain ⟨r_2, h_1, h⟩ := b1_e h
  refine xcall (rV C0 hK hP hl.1 (fun _ _ _ => trivial) Bt_b (c_X11_stepAt hI h_1) cv_X11_stepAt tw642 (rcX11 hK hP) (rest := []) rfl (Nat.le_of_ble_eq_true rfl) ⟨rfl, rfl, Nat.le_of_ble_eq_true rfl, Nat.le_of_ble_eq_true rfl⟩ ⟨Nat.zero_le _, Nat.zero_le _⟩ dX11_walkOrders_2) hS (fun H locs hP hS => ?_)
  obtain ⟨hk_3, h⟩ := asr h
  refine lv_astore (lv' := [(4, .ref (a (1 + 2 * r_2))), (0, .ref (a 0)), (1, .ref (a (19 + 2 * d1))), (2, .int p2), (3, .int p3)]) hx hb dX11_walkOrders_5 hl (by decide) rfl (fun ls hl => ?_)
  refine lv_aload_n hx hb dX11_walkOrders_7 rfl (lv_at hl 2 rfl) ?_
  obtain ⟨r_5, h_4, h⟩ := b1_e h
  refine xcall (rS C0 hK hP hl.1 (fun _ _ _ => trivial) Bt_b (c_X11_pinsIn hI hk_d1 h_4) cs_X11_pinsIn tw619 (rest := []) rfl (Nat.le_of_ble_eq_true rfl) ⟨rfl, rfl, Nat.le_of_ble_eq_true rfl, Nat.le_of_ble_eq_true rfl⟩ ⟨Nat.zero_le _, Nat.zero_le _⟩ dX11_walkOrders_8) hS (fun H locs hP hS => ?_)
  refine lv_istore (lv' := [(5, .int r_5), (4, .ref (a (1 + 2 * r_2))), (0, .ref (a 0)), (1, .ref (a (19 + 2 * d1))), (2, .int p2), (3, .int p3)]) hx hb dX11_walkOrders_11 hl (by decide) rfl (fun ls hl => ?_)
  refine lv_iload_n hx hb dX11_walkOrders_13 rfl (lv_at hl 5 rfl) ?_
  refine lv_iload hx hb dX11_walkOrders_14 (lv_at hl 0 rfl) ?_
  obtain ⟨J24, eJ24, h⟩ := jn_e h
  have hJ24 : ∀ (σ_6 : Mem) (H : Heap) (locs : List Loc) (ls : Array Slot), J24 σ_6 = some σ' → va_P D vwCl (wX ca a σ_6) H → va_S (AW 50 a) s.heap H locs → lv_has ls 8 [(0, .ref (a 0)), (4, .ref (a (1 + 2 * r_2)))] → W p l e rm_X11_walkOrders_4 s m args below meth c H locs 0 0 Q (F0 m 24 ls []) := by
    intro σ_6 H locs ls h hP hS hl
    have h := ap1 eJ24 h
    refine lv_aload hx hb dX11_walkOrders_24 (lv_at hl 1 rfl) ?_
    obtain ⟨r_8, h_7, h⟩ := b1_e h
    refine xcall (rV C0 hK hP hl.1 (fun _ _ _ => trivial) Bt_b (c_X0_lacking hI hk_3 h_7) cv_X0_lacking tw567 (rcX0 hK hP hk_3) (rest := []) rfl (Nat.le_of_ble_eq_true rfl) ⟨rfl, rfl, Nat.le_of_ble_eq_true rfl, Nat.le_of_ble_eq_true rfl⟩ ⟨Nat.zero_le _, Nat.zero_le _⟩ dX11_walkOrders_26) hS (fun H locs hP hS => ?_)
    refine lv_istore (lv' := [(6, .int r_8), (0, .ref (a 0)), (4, .ref (a (1 + 2 * r_2)))]) hx hb dX11_walkOrders_29 hl (by decide) rfl (fun ls hl => ?_)
    refine lv_aload_n hx hb dX11_walkOrders_31 rfl (lv_at hl 1 rfl) ?_
    refine lv_aload_n hx hb dX11_walkOrders_32 rfl (lv_at hl 1 rfl) ?_
    refine gX11_10 C0 hK hP tw245 dX11_walkOrders_33 ?_
    refine lv_if_ne (tgt := 44) hx hb dX11_walkOrders_36 (by decide) (fun c_9 => ?_) (fun c_9 => ?_)
    · have h := ie c_9 h
      refine lv_aload_n hx hb dX11_walkOrders_44 rfl (lv_at hl 1 rfl) ?_
      refine gX11_11 C0 hK hP tw246 dX11_walkOrders_45 ?_
      refine lv_iload hx hb dX11_walkOrders_48 (lv_at hl 0 rfl) ?_
      refine va_mmin hx hb (C0.2.2.1.trans hl.1.symm) C0.2.2.2.1 (C0.2.2.2.2.1 _ tw650) (C0.2.2.2.2.1 _ tw384) (C0.2.2.2.2.1 _ tw77) (C0.2.2.2.2.1 _ tw385) (Nat.le_of_ble_eq_true rfl) (Nat.le_of_ble_eq_true rfl) (Nat.zero_le _) (Nat.zero_le _) dX11_walkOrders_50 ?_
      obtain ⟨y_10, ey_10, h⟩ := bnd_e h
      refine nm_i ey_10 ?_
      obtain ⟨σ_11, eσ_11, h⟩ := bnd_e h
      refine pX11_11 C0 hK hP tw246 hI hS dX11_walkOrders_53 (fun H locs hP hS => ?_)
      rw [← eσ_11] at hP
      refine lv_aload_n hx hb dX11_walkOrders_56 rfl (lv_at hl 1 rfl) ?_
      refine lv_dup hx hb dX11_walkOrders_57 rfl ?_
      refine gX11_10 C0 hK hP tw245 dX11_walkOrders_58 ?_
      refine lv_iconst (v := 1) hx hb dX11_walkOrders_61 (by decide) ?_
      refine lv_iadd hx hb dX11_walkOrders_62 ?_
      obtain ⟨y_12, ey_12, h⟩ := bnd_e h
      refine nm_i ey_12 ?_
      obtain ⟨σ_13, eσ_13, h⟩ := bnd_e h
      refine pX11_10 C0 hK hP tw245 hI hS dX11_walkOrders_63 (fun H locs hP hS => ?_)
      rw [← eσ_13] at hP
      rw [hQ]
      exact xvret C0 hP hS h dX11_walkOrders_66
    · have h := it c_9 h
      refine lv_iload hx hb dX11_walkOrders_39 (lv_at hl 0 rfl) ?_
      refine lv_goto (tgt := 53) hx hb dX11_walkOrders_41 (by decide) ?_
      obtain ⟨σ_14, eσ_14, h⟩ := bnd_e h
      refine pX11_11 C0 hK hP tw246 hI hS dX11_walkOrders_53 (fun H locs hP hS => ?_)
      rw [← eσ_14] at hP
      refine lv_aload_n hx hb dX11_walkOrders_56 rfl (lv_at hl 1 rfl) ?_
      refine lv_dup hx hb dX11_walkOrders_57 rfl ?_
      refine gX11_10 C0 hK hP tw245 dX11_walkOrders_58 ?_
      refine lv_iconst (v := 1) hx hb dX11_walkOrders_61 (by decide) ?_
      refine lv_iadd hx hb dX11_walkOrders_62 ?_
      obtain ⟨y_15, ey_15, h⟩ := bnd_e h
      refine nm_i ey_15 ?_
      obtain ⟨σ_16, eσ_16, h⟩ := bnd_e h
      refine pX11_10 C0 hK hP tw245 hI hS dX11_walkOrders_63 (fun H locs hP hS => ?_)
      rw [← eσ_16] at hP
      rw [hQ]
      exact xvret C0 hP hS h dX11_walkOrders_66
  refine lv_icmp_ge (tgt := 24) hx hb dX11_walkOrders_16 (by decide) (fun c_17 => ?_) (fun c_17 => ?_)
  · have h := it c_17 h
    exact hJ24 σ _ _ ls h hP hS (lv_sub hl [2, 1] rfl)
  · have h := ie c_17 h
    refine lv_iload_n hx hb dX11_walkOrders_19 rfl (lv_at hl 5 rfl) ?_
    refine lv_iconst (v := 5) hx hb dX11_walkOrders_20 (by decide) ?_
    refine lv_icmp_lt (tgt := 67) hx hb dX11_walkOrders_21 (by decide) (fun c_18 => ?_) (fun c_18 => ?_)
    · have h := it c_18 h
      refine lv_aload_n hx hb dX11_walkOrders_67 rfl (lv_at hl 2 rfl) ?_
      refine lv_iload_n hx hb dX11_walkOrders_68 rfl (lv_at hl 5 rfl) ?_
      refine lv_iconst (v := 1) hx hb dX11_walkOrders_69 (by decide) ?_
      refine lv_iadd hx hb dX11_walkOrders_70 ?_
      obtain ⟨r_20, h_19, h⟩ := b1_e h
      refine xcall (rV C0 hK hP hl.1 (fun _ _ _ => trivial) Bt_b (c_X11_stepAt hI h_19) cv_X11_stepAt tw642 (rcX11 hK hP) (rest := []) rfl (Nat.le_of_ble_eq_true rfl) ⟨rfl, rfl, Nat.le_of_ble_eq_true rfl, Nat.le_of_ble_eq_true rfl⟩ ⟨Nat.zero_le _, Nat.zero_le _⟩ dX11_walkOrders_71) hS (fun H locs hP hS => ?_)
      obtain ⟨hk_21, h⟩ := asr h
      refine lv_astore (lv' := [(6, .ref (a (1 + 2 * r_20))), (5, .int r_5), (4, .ref (a (1 + 2 * r_2))), (0, .ref (a 0)), (1, .ref (a (19 + 2 * d1))), (2, .int p2), (3, .int p3)]) hx hb dX11_walkOrders_74 hl (by decide) rfl (fun ls hl => ?_)
      refine lv_iconst (v := 0) hx hb dX11_walkOrders_76 (by decide) ?_
      refine lv_istore (lv' := [(7, .int 0), (6, .ref (a (1 + 2 * r_20))), (5, .int r_5), (4, .ref (a (1 + 2 * r_2))), (0, .ref (a 0)), (1, .ref (a (19 + 2 * d1))), (2, .int p2), (3, .int p3)]) hx hb dX11_walkOrders_77 hl (by decide) rfl (fun ls hl => ?_)
      obtain ⟨K1, eK1, h⟩ := lp_e (f := fun K => f_X11_walkOrders_L79 d1 p2 p3 F r_2 r_5 r_20 5000 0 σ K) h
      have h : f_X11_walkOrders_L79 d1 p2 p3 F r_2 r_5 r_20 5000 0 σ K1 = some σ' := h
      have hX1 : ∀ (u_38 : Int32) (σ_39 : Mem) (H : Heap) (locs : List Loc) (ls : Array Slot), K1 u_38 σ_39 = some σ' → va_P D vwCl (wX ca a σ_39) H → va_S (AW 50 a) s.heap H locs → lv_has ls 8 [] → W p l e rm_X11_walkOrders_4 s m args below meth c H locs 0 0 Q (F0 m 137 ls []) := by
        intro u_38 σ_39 H locs ls h hP hS hl
        have h := ap2 eK1 h
        rw [hQ]
        exact xvret C0 hP hS h dX11_walkOrders_137
      have hL1 : ∀ (n : Nat) (x7_22 : Int32) (σ_23 : Mem) (H : Heap) (locs : List Loc) (ls : Array Slot), f_X11_walkOrders_L79 d1 p2 p3 F r_2 r_5 r_20 n x7_22 σ_23 K1 = some σ' → va_P D vwCl (wX ca a σ_23) H → va_S (AW 50 a) s.heap H locs → lv_has ls 8 [(0, .ref (a 0)), (1, .ref (a (19 + 2 * d1))), (2, .int p2), (3, .int p3), (4, .ref (a (1 + 2 * r_2))), (5, .int r_5), (6, .ref (a (1 + 2 * r_20))), (7, .int x7_22)] → W p l e rm_X11_walkOrders_4 s m args below meth c H locs 0 0 Q (F0 m 79 ls []) := by
        intro n
        induction n with
        | zero => intro x7_22 σ_23 H locs ls h; rw [f_X11_walkOrders_L79] at h; cases h
        | succ n ih1 =>
          intro x7_22 σ_23 H locs ls h hP hS hl
          rw [f_X11_walkOrders_L79] at h
          refine lv_iload hx hb dX11_walkOrders_79 (lv_at hl 7 rfl) ?_
          refine lv_iload hx hb dX11_walkOrders_81 (lv_at hl 5 rfl) ?_
          refine lv_icmp_ge (tgt := 137) hx hb dX11_walkOrders_83 (by decide) (fun c_24 => ?_) (fun c_24 => ?_)
          · have h := it c_24 h
            exact hX1 x7_22 σ_23 _ _ ls h hP hS (lv_sub hl [] rfl)
          · have h := ie c_24 h
            refine lv_iload_n hx hb dX11_walkOrders_86 rfl (lv_at hl 2 rfl) ?_
            refine lv_iload hx hb dX11_walkOrders_87 (lv_at hl 7 rfl) ?_
            refine lv_ishr hx hb dX11_walkOrders_89 ?_
            refine lv_iconst (v := 1) hx hb dX11_walkOrders_90 (by decide) ?_
            refine lv_iand hx hb dX11_walkOrders_91 ?_
            refine lv_if_eq (tgt := 98) hx hb dX11_walkOrders_92 (by decide) (fun c_25 => ?_) (fun c_25 => ?_)
            · have h := it c_25 h
              refine lv_aload hx hb dX11_walkOrders_98 (lv_at hl 6 rfl) ?_
              refine lv_aload hx hb dX11_walkOrders_100 (lv_at hl 4 rfl) ?_
              obtain ⟨σ_27, h_26, h⟩ := b1_e h
              refine xcall (rV C0 hK hP hl.1 (fun _ _ _ => trivial) Bt_b (c_X0_becomeLike hI hk_21 hk_3 h_26) cv_X0_becomeLike tw379 (rcX0 hK hP hk_21) (rest := []) rfl (Nat.le_of_ble_eq_true rfl) ⟨rfl, rfl, Nat.le_of_ble_eq_true rfl, Nat.le_of_ble_eq_true rfl⟩ ⟨Nat.zero_le _, Nat.zero_le _⟩ dX11_walkOrders_102) hS (fun H locs hP hS => ?_)
              refine lv_aload_n hx hb dX11_walkOrders_105 rfl (lv_at hl 0 rfl) ?_
              refine lv_aload hx hb dX11_walkOrders_106 (lv_at hl 6 rfl) ?_
              refine lv_aload_n hx hb dX11_walkOrders_108 rfl (lv_at hl 1 rfl) ?_
              refine lv_iload hx hb dX11_walkOrders_109 (lv_at hl 7 rfl) ?_
              obtain ⟨r_29, σ_30, h_28, h⟩ := b2_e h
              refine xcall (rV C0 hK hP hl.1 (fun _ _ _ => trivial) Bt_b (c_X11_sewPinOfRow hI hk_21 hk_d1 h_28) cv_X11_sewPinOfRow tw626 (rcX11 hK hP) (rest := []) rfl (Nat.le_of_ble_eq_true rfl) ⟨rfl, rfl, Nat.le_of_ble_eq_true rfl, Nat.le_of_ble_eq_true rfl⟩ ⟨Nat.zero_le _, Nat.zero_le _⟩ dX11_walkOrders_111) hS (fun H locs hP hS => ?_)
              refine lv_if_eq (tgt := 131) hx hb dX11_walkOrders_114 (by decide) (fun c_31 => ?_) (fun c_31 => ?_)
              · have h := it c_31 h
                obtain ⟨x7_32, ex7_32, h⟩ := bnd_e h
                refine lv_iinc (v := x7_32) (lv' := [(7, .int x7_32), (0, .ref (a 0)), (1, .ref (a (19 + 2 * d1))), (2, .int p2), (3, .int p3), (4, .ref (a (1 + 2 * r_2))), (5, .int r_5), (6, .ref (a (1 + 2 * r_20)))]) hx hb dX11_walkOrders_131 hl (k := 7) rfl (by rw [ex7_32]; rfl) (by decide) rfl (fun ls hl => ?_)
                refine lv_goto (tgt := 79) hx hb dX11_walkOrders_134 (by decide) ?_
                exact ih1 x7_32 σ_30 _ _ ls h hP hS (lv_sub hl [1, 2, 3, 4, 5, 6, 7, 0] rfl)
              · have h := ie c_31 h
                refine lv_aload_n hx hb dX11_walkOrders_117 rfl (lv_at hl 0 rfl) ?_
                refine lv_aload_n hx hb dX11_walkOrders_118 rfl (lv_at hl 1 rfl) ?_
                refine lv_iload_n hx hb dX11_walkOrders_119 rfl (lv_at hl 2 rfl) ?_
                refine lv_iconst (v := 1) hx hb dX11_walkOrders_120 (by decide) ?_
                refine lv_iload hx hb dX11_walkOrders_121 (lv_at hl 7 rfl) ?_
                refine lv_ishl hx hb dX11_walkOrders_123 ?_
                refine lv_ior hx hb dX11_walkOrders_124 ?_
                refine lv_iload_n hx hb dX11_walkOrders_125 rfl (lv_at hl 3 rfl) ?_
                refine lv_iconst (v := 1) hx hb dX11_walkOrders_126 (by decide) ?_
                refine lv_iadd hx hb dX11_walkOrders_127 ?_
                obtain ⟨y_33, ey_33, h⟩ := bnd_e h
                rw [← ey_33]
                obtain ⟨σ_35, h_34, h⟩ := b1_e h
                refine xcall (rV C0 hK hP hl.1 (fun _ _ _ => trivial) Bt_b (c_X11_walkOrders_3 hI hk_d1 (hF ▸ h_34)) cv_X11_walkOrders tw646 (rcX11 hK hP) (rest := []) rfl (Nat.le_of_ble_eq_true rfl) ⟨rfl, rfl, Nat.le_of_ble_eq_true rfl, Nat.le_of_ble_eq_true rfl⟩ ⟨Nat.zero_le _, Nat.zero_le _⟩ dX11_walkOrders_128) hS (fun H locs hP hS => ?_)
                obtain ⟨x7_36, ex7_36, h⟩ := bnd_e h
                refine lv_iinc (v := x7_36) (lv' := [(7, .int x7_36), (0, .ref (a 0)), (1, .ref (a (19 + 2 * d1))), (2, .int p2), (3, .int p3), (4, .ref (a (1 + 2 * r_2))), (5, .int r_5), (6, .ref (a (1 + 2 * r_20)))]) hx hb dX11_walkOrders_131 hl (k := 7) rfl (by rw [ex7_36]; rfl) (by decide) rfl (fun ls hl => ?_)
                refine lv_goto (tgt := 79) hx hb dX11_walkOrders_134 (by decide) ?_
                exact ih1 x7_36 σ_35 _ _ ls h hP hS (lv_sub hl [1, 2, 3, 4, 5, 6, 7, 0] rfl)
            · have h := ie c_25 h
              refine lv_goto (tgt := 131) hx hb dX11_walkOrders_95 (by decide) ?_
              obtain ⟨x7_37, ex7_37, h⟩ := bnd_e h
              refine lv_iinc (v := x7_37) (lv' := [(7, .int x7_37), (0, .ref (a 0)), (1, .ref (a (19 + 2 * d1))), (2, .int p2), (3, .int p3), (4, .ref (a (1 + 2 * r_2))), (5, .int r_5), (6, .ref (a (1 + 2 * r_20)))]) hx hb dX11_walkOrders_131 hl (k := 7) rfl (by rw [ex7_37]; rfl) (by decide) rfl (fun ls hl => ?_)
              refine lv_goto (tgt := 79) hx hb dX11_walkOrders_134 (by decide) ?_
              exact ih1 x7_37 σ_23 _ _ ls h hP hS (lv_sub hl [1, 2, 3, 4, 5, 6, 7, 0] rfl)
      exact hL1 5000 0 σ _ _ ls h hP hS (lv_sub hl [4, 5, 6, 7, 3, 2, 1, 0] rfl)
    · have h := ie c_18 h
      exact hJ24 σ _ _ ls h hP hS (lv_sub hl [2, 1] rfl)
set_option maxHeartbeats 4000000 in
set_option maxRecDepth 100000 in
theorem c_X11_walkOrders_5 {l : Launch} {D : va_G} {ca : Nat → ClassId} {a : Nat → Nat} (hI : InjN 50 a) {d1 : Nat} {p2 : Int32} {p3 : Int32} {σ : Mem} {σ' : Mem} (hk_d1 : d1 < 9) (h : f_X11_walkOrders 5 d1 p2 p3 σ = some σ') : XMX l D ca a Bt yX11_walkOrders cX11_walkOrders 8 none rm_X11_walkOrders_5 [.ref (a 0), .ref (a (19 + 2 * d1)), .int p2, .int p3] σ none σ' := by
  refine XM.of pn_X11 (Nat.le_of_ble_eq_true rfl) ?_
  intro p e s m args below meth c ls Q hQ C0 hK hB hP hS hl
  have C0 : Cx p s m args meth c RX11 cX11_walkOrders 8 none := C0
  have hx := C0.1
  have hb := C0.2.1
  have hl : lv_has ls 8 [(0, .ref (a 0)), (1, .ref (a (19 + 2 * d1))), (2, .int p2), (3, .int p3)] := hl
  obtain ⟨F, hF⟩ : ∃ F, F = f_X11_walkOrders 4 := ⟨_, rfl⟩
  have h : f_X11_walkOrders_B F d1 p2 p3 σ = some σ' := by rw [hF]; exact h
  rw [f_X11_walkOrders_B] at h
  refine lv_aload_n hx hb dX11_walkOrders_0 rfl (lv_at hl 0 rfl) ?_
  refine lv_iload_n hx hb dX11_walkOrders_1 rfl (lv_at hl 3 rfl) ?_
  obtain ⟨r_2, h_1, h⟩ := b1_e h
  refine xcall (rV C0 hK hP hl.1 (fun _ _ _ => trivial) Bt_b (c_X11_stepAt hI h_1) cv_X11_stepAt tw642 (rcX11 hK hP) (rest := []) rfl (Nat.le_of_ble_eq_true rfl) ⟨rfl, rfl, Nat.le_of_ble_eq_true rfl, Nat.le_of_ble_eq_true rfl⟩ ⟨Nat.zero_le _, Nat.zero_le _⟩ dX11_walkOrders_2) hS (fun H locs hP hS => ?_)
  obtain ⟨hk_3, h⟩ := asr h
  refine lv_astore (lv' := [(4, .ref (a (1 + 2 * r_2))), (0, .ref (a 0)), (1, .ref (a (19 + 2 * d1))), (2, .int p2), (3, .int p3)]) hx hb dX11_walkOrders_5 hl (by decide) rfl (fun ls hl => ?_)
  refine lv_aload_n hx hb dX11_walkOrders_7 rfl (lv_at hl 2 rfl) ?_
  obtain ⟨r_5, h_4, h⟩ := b1_e h
  refine xcall (rS C0 hK hP hl.1 (fun _ _ _ => trivial) Bt_b (c_X11_pinsIn hI hk_d1 h_4) cs_X11_pinsIn tw619 (rest := []) rfl (Nat.le_of_ble_eq_true rfl) ⟨rfl, rfl, Nat.le_of_ble_eq_true rfl, Nat.le_of_ble_eq_true rfl⟩ ⟨Nat.zero_le _, Nat.zero_le _⟩ dX11_walkOrders_8) hS (fun H locs hP hS => ?_)
  refine lv_istore (lv' := [(5, .int r_5), (4, .ref (a (1 + 2 * r_2))), (0, .ref (a 0)), (1, .ref (a (19 + 2 * d1))), (2, .int p2), (3, .int p3)]) hx hb dX11_walkOrders_11 hl (by decide) rfl (fun ls hl => ?_)
  refine lv_iload_n hx hb dX11_walkOrders_13 rfl (lv_at hl 5 rfl) ?_
  refine lv_iload hx hb dX11_walkOrders_14 (lv_at hl 0 rfl) ?_
  obtain ⟨J24, eJ24, h⟩ := jn_e h
  have hJ24 : ∀ (σ_6 : Mem) (H : Heap) (locs : List Loc) (ls : Array Slot), J24 σ_6 = some σ' → va_P D vwCl (wX ca a σ_6) H → va_S (AW 50 a) s.heap H locs → lv_has ls 8 [(0, .ref (a 0)), (4, .ref (a (1 + 2 * r_2)))] → W p l e rm_X11_walkOrders_5 s m args below meth c H locs 0 0 Q (F0 m 24 ls []) := by
    intro σ_6 H locs ls h hP hS hl
    have h := ap1 eJ24 h
    refine lv_aload hx hb dX11_walkOrders_24 (lv_at hl 1 rfl) ?_
    obtain ⟨r_8, h_7, h⟩ := b1_e h
    refine xcall (rV C0 hK hP hl.1 (fun _ _ _ => trivial) Bt_b (c_X0_lacking hI hk_3 h_7) cv_X0_lacking tw567 (rcX0 hK hP hk_3) (rest := []) rfl (Nat.le_of_ble_eq_true rfl) ⟨rfl, rfl, Nat.le_of_ble_eq_true rfl, Nat.le_of_ble_eq_true rfl⟩ ⟨Nat.zero_le _, Nat.zero_le _⟩ dX11_walkOrders_26) hS (fun H locs hP hS => ?_)
    refine lv_istore (lv' := [(6, .int r_8), (0, .ref (a 0)), (4, .ref (a (1 + 2 * r_2)))]) hx hb dX11_walkOrders_29 hl (by decide) rfl (fun ls hl => ?_)
    refine lv_aload_n hx hb dX11_walkOrders_31 rfl (lv_at hl 1 rfl) ?_
    refine lv_aload_n hx hb dX11_walkOrders_32 rfl (lv_at hl 1 rfl) ?_
    refine gX11_10 C0 hK hP tw245 dX11_walkOrders_33 ?_
    refine lv_if_ne (tgt := 44) hx hb dX11_walkOrders_36 (by decide) (fun c_9 => ?_) (fun c_9 => ?_)
    · have h := ie c_9 h
      refine lv_aload_n hx hb dX11_walkOrders_44 rfl (lv_at hl 1 rfl) ?_
      refine gX11_11 C0 hK hP tw246 dX11_walkOrders_45 ?_
      refine lv_iload hx hb dX11_walkOrders_48 (lv_at hl 0 rfl) ?_
      refine va_mmin hx hb (C0.2.2.1.trans hl.1.symm) C0.2.2.2.1 (C0.2.2.2.2.1 _ tw650) (C0.2.2.2.2.1 _ tw384) (C0.2.2.2.2.1 _ tw77) (C0.2.2.2.2.1 _ tw385) (Nat.le_of_ble_eq_true rfl) (Nat.le_of_ble_eq_true rfl) (Nat.zero_le _) (Nat.zero_le _) dX11_walkOrders_50 ?_
      obtain ⟨y_10, ey_10, h⟩ := bnd_e h
      refine nm_i ey_10 ?_
      obtain ⟨σ_11, eσ_11, h⟩ := bnd_e h
      refine pX11_11 C0 hK hP tw246 hI hS dX11_walkOrders_53 (fun H locs hP hS => ?_)
      rw [← eσ_11] at hP
      refine lv_aload_n hx hb dX11_walkOrders_56 rfl (lv_at hl 1 rfl) ?_
      refine lv_dup hx hb dX11_walkOrders_57 rfl ?_
      refine gX11_10 C0 hK hP tw245 dX11_walkOrders_58 ?_
      refine lv_iconst (v := 1) hx hb dX11_walkOrders_61 (by decide) ?_
      refine lv_iadd hx hb dX11_walkOrders_62 ?_
      obtain ⟨y_12, ey_12, h⟩ := bnd_e h
      refine nm_i ey_12 ?_
      obtain ⟨σ_13, eσ_13, h⟩ := bnd_e h
      refine pX11_10 C0 hK hP tw245 hI hS dX11_walkOrders_63 (fun H locs hP hS => ?_)
      rw [← eσ_13] at hP
      rw [hQ]
      exact xvret C0 hP hS h dX11_walkOrders_66
    · have h := it c_9 h
      refine lv_iload hx hb dX11_walkOrders_39 (lv_at hl 0 rfl) ?_
      refine lv_goto (tgt := 53) hx hb dX11_walkOrders_41 (by decide) ?_
      obtain ⟨σ_14, eσ_14, h⟩ := bnd_e h
      refine pX11_11 C0 hK hP tw246 hI hS dX11_walkOrders_53 (fun H locs hP hS => ?_)
      rw [← eσ_14] at hP
      refine lv_aload_n hx hb dX11_walkOrders_56 rfl (lv_at hl 1 rfl) ?_
      refine lv_dup hx hb dX11_walkOrders_57 rfl ?_
      refine gX11_10 C0 hK hP tw245 dX11_walkOrders_58 ?_
      refine lv_iconst (v := 1) hx hb dX11_walkOrders_61 (by decide) ?_
      refine lv_iadd hx hb dX11_walkOrders_62 ?_
      obtain ⟨y_15, ey_15, h⟩ := bnd_e h
      refine nm_i ey_15 ?_
      obtain ⟨σ_16, eσ_16, h⟩ := bnd_e h
      refine pX11_10 C0 hK hP tw245 hI hS dX11_walkOrders_63 (fun H locs hP hS => ?_)
      rw [← eσ_16] at hP
      rw [hQ]
      exact xvret C0 hP hS h dX11_walkOrders_66
  refine lv_icmp_ge (tgt := 24) hx hb dX11_walkOrders_16 (by decide) (fun c_17 => ?_) (fun c_17 => ?_)
  · have h := it c_17 h
    exact hJ24 σ _ _ ls h hP hS (lv_sub hl [2, 1] rfl)
  · have h := ie c_17 h
    refine lv_iload_n hx hb dX11_walkOrders_19 rfl (lv_at hl 5 rfl) ?_
    refine lv_iconst (v := 5) hx hb dX11_walkOrders_20 (by decide) ?_
    refine lv_icmp_lt (tgt := 67) hx hb dX11_walkOrders_21 (by decide) (fun c_18 => ?_) (fun c_18 => ?_)
    · have h := it c_18 h
      refine lv_aload_n hx hb dX11_walkOrders_67 rfl (lv_at hl 2 rfl) ?_
      refine lv_iload_n hx hb dX11_walkOrders_68 rfl (lv_at hl 5 rfl) ?_
      refine lv_iconst (v := 1) hx hb dX11_walkOrders_69 (by decide) ?_
      refine lv_iadd hx hb dX11_walkOrders_70 ?_
      obtain ⟨r_20, h_19, h⟩ := b1_e h
      refine xcall (rV C0 hK hP hl.1 (fun _ _ _ => trivial) Bt_b (c_X11_stepAt hI h_19) cv_X11_stepAt tw642 (rcX11 hK hP) (rest := []) rfl (Nat.le_of_ble_eq_true rfl) ⟨rfl, rfl, Nat.le_of_ble_eq_true rfl, Nat.le_of_ble_eq_true rfl⟩ ⟨Nat.zero_le _, Nat.zero_le _⟩ dX11_walkOrders_71) hS (fun H locs hP hS => ?_)
      obtain ⟨hk_21, h⟩ := asr h
      refine lv_astore (lv' := [(6, .ref (a (1 + 2 * r_20))), (5, .int r_5), (4, .ref (a (1 + 2 * r_2))), (0, .ref (a 0)), (1, .ref (a (19 + 2 * d1))), (2, .int p2), (3, .int p3)]) hx hb dX11_walkOrders_74 hl (by decide) rfl (fun ls hl => ?_)
      refine lv_iconst (v := 0) hx hb dX11_walkOrders_76 (by decide) ?_
      refine lv_istore (lv' := [(7, .int 0), (6, .ref (a (1 + 2 * r_20))), (5, .int r_5), (4, .ref (a (1 + 2 * r_2))), (0, .ref (a 0)), (1, .ref (a (19 + 2 * d1))), (2, .int p2), (3, .int p3)]) hx hb dX11_walkOrders_77 hl (by decide) rfl (fun ls hl => ?_)
      obtain ⟨K1, eK1, h⟩ := lp_e (f := fun K => f_X11_walkOrders_L79 d1 p2 p3 F r_2 r_5 r_20 5000 0 σ K) h
      have h : f_X11_walkOrders_L79 d1 p2 p3 F r_2 r_5 r_20 5000 0 σ K1 = some σ' := h
      have hX1 : ∀ (u_38 : Int32) (σ_39 : Mem) (H : Heap) (locs : List Loc) (ls : Array Slot), K1 u_38 σ_39 = some σ' → va_P D vwCl (wX ca a σ_39) H → va_S (AW 50 a) s.heap H locs → lv_has ls 8 [] → W p l e rm_X11_walkOrders_5 s m args below meth c H locs 0 0 Q (F0 m 137 ls []) := by
        intro u_38 σ_39 H locs ls h hP hS hl
        have h := ap2 eK1 h
        rw [hQ]
        exact xvret C0 hP hS h dX11_walkOrders_137
      have hL1 : ∀ (n : Nat) (x7_22 : Int32) (σ_23 : Mem) (H : Heap) (locs : List Loc) (ls : Array Slot), f_X11_walkOrders_L79 d1 p2 p3 F r_2 r_5 r_20 n x7_22 σ_23 K1 = some σ' → va_P D vwCl (wX ca a σ_23) H → va_S (AW 50 a) s.heap H locs → lv_has ls 8 [(0, .ref (a 0)), (1, .ref (a (19 + 2 * d1))), (2, .int p2), (3, .int p3), (4, .ref (a (1 + 2 * r_2))), (5, .int r_5), (6, .ref (a (1 + 2 * r_20))), (7, .int x7_22)] → W p l e rm_X11_walkOrders_5 s m args below meth c H locs 0 0 Q (F0 m 79 ls []) := by
        intro n
        induction n with
        | zero => intro x7_22 σ_23 H locs ls h; rw [f_X11_walkOrders_L79] at h; cases h
        | succ n ih1 =>
          intro x7_22 σ_23 H locs ls h hP hS hl
          rw [f_X11_walkOrders_L79] at h
          refine lv_iload hx hb dX11_walkOrders_79 (lv_at hl 7 rfl) ?_
          refine lv_iload hx hb dX11_walkOrders_81 (lv_at hl 5 rfl) ?_
          refine lv_icmp_ge (tgt := 137) hx hb dX11_walkOrders_83 (by decide) (fun c_24 => ?_) (fun c_24 => ?_)
          · have h := it c_24 h
            exact hX1 x7_22 σ_23 _ _ ls h hP hS (lv_sub hl [] rfl)
          · have h := ie c_24 h
            refine lv_iload_n hx hb dX11_walkOrders_86 rfl (lv_at hl 2 rfl) ?_
            refine lv_iload hx hb dX11_walkOrders_87 (lv_at hl 7 rfl) ?_
            refine lv_ishr hx hb dX11_walkOrders_89 ?_
            refine lv_iconst (v := 1) hx hb dX11_walkOrders_90 (by decide) ?_
            refine lv_iand hx hb dX11_walkOrders_91 ?_
            refine lv_if_eq (tgt := 98) hx hb dX11_walkOrders_92 (by decide) (fun c_25 => ?_) (fun c_25 => ?_)
            · have h := it c_25 h
              refine lv_aload hx hb dX11_walkOrders_98 (lv_at hl 6 rfl) ?_
              refine lv_aload hx hb dX11_walkOrders_100 (lv_at hl 4 rfl) ?_
              obtain ⟨σ_27, h_26, h⟩ := b1_e h
              refine xcall (rV C0 hK hP hl.1 (fun _ _ _ => trivial) Bt_b (c_X0_becomeLike hI hk_21 hk_3 h_26) cv_X0_becomeLike tw379 (rcX0 hK hP hk_21) (rest := []) rfl (Nat.le_of_ble_eq_true rfl) ⟨rfl, rfl, Nat.le_of_ble_eq_true rfl, Nat.le_of_ble_eq_true rfl⟩ ⟨Nat.zero_le _, Nat.zero_le _⟩ dX11_walkOrders_102) hS (fun H locs hP hS => ?_)
              refine lv_aload_n hx hb dX11_walkOrders_105 rfl (lv_at hl 0 rfl) ?_
              refine lv_aload hx hb dX11_walkOrders_106 (lv_at hl 6 rfl) ?_
              refine lv_aload_n hx hb dX11_walkOrders_108 rfl (lv_at hl 1 rfl) ?_
              refine lv_iload hx hb dX11_walkOrders_109 (lv_at hl 7 rfl) ?_
              obtain ⟨r_29, σ_30, h_28, h⟩ := b2_e h
              refine xcall (rV C0 hK hP hl.1 (fun _ _ _ => trivial) Bt_b (c_X11_sewPinOfRow hI hk_21 hk_d1 h_28) cv_X11_sewPinOfRow tw626 (rcX11 hK hP) (rest := []) rfl (Nat.le_of_ble_eq_true rfl) ⟨rfl, rfl, Nat.le_of_ble_eq_true rfl, Nat.le_of_ble_eq_true rfl⟩ ⟨Nat.zero_le _, Nat.zero_le _⟩ dX11_walkOrders_111) hS (fun H locs hP hS => ?_)
              refine lv_if_eq (tgt := 131) hx hb dX11_walkOrders_114 (by decide) (fun c_31 => ?_) (fun c_31 => ?_)
              · have h := it c_31 h
                obtain ⟨x7_32, ex7_32, h⟩ := bnd_e h
                refine lv_iinc (v := x7_32) (lv' := [(7, .int x7_32), (0, .ref (a 0)), (1, .ref (a (19 + 2 * d1))), (2, .int p2), (3, .int p3), (4, .ref (a (1 + 2 * r_2))), (5, .int r_5), (6, .ref (a (1 + 2 * r_20)))]) hx hb dX11_walkOrders_131 hl (k := 7) rfl (by rw [ex7_32]; rfl) (by decide) rfl (fun ls hl => ?_)
                refine lv_goto (tgt := 79) hx hb dX11_walkOrders_134 (by decide) ?_
                exact ih1 x7_32 σ_30 _ _ ls h hP hS (lv_sub hl [1, 2, 3, 4, 5, 6, 7, 0] rfl)
              · have h := ie c_31 h
                refine lv_aload_n hx hb dX11_walkOrders_117 rfl (lv_at hl 0 rfl) ?_
                refine lv_aload_n hx hb dX11_walkOrders_118 rfl (lv_at hl 1 rfl) ?_
                refine lv_iload_n hx hb dX11_walkOrders_119 rfl (lv_at hl 2 rfl) ?_
                refine lv_iconst (v := 1) hx hb dX11_walkOrders_120 (by decide) ?_
                refine lv_iload hx hb dX11_walkOrders_121 (lv_at hl 7 rfl) ?_
                refine lv_ishl hx hb dX11_walkOrders_123 ?_
                refine lv_ior hx hb dX11_walkOrders_124 ?_
                refine lv_iload_n hx hb dX11_walkOrders_125 rfl (lv_at hl 3 rfl) ?_
                refine lv_iconst (v := 1) hx hb dX11_walkOrders_126 (by decide) ?_
                refine lv_iadd hx hb dX11_walkOrders_127 ?_
                obtain ⟨y_33, ey_33, h⟩ := bnd_e h
                rw [← ey_33]
                obtain ⟨σ_35, h_34, h⟩ := b1_e h
                refine xcall (rV C0 hK hP hl.1 (fun _ _ _ => trivial) Bt_b (c_X11_walkOrders_4 hI hk_d1 (hF ▸ h_34)) cv_X11_walkOrders tw646 (rcX11 hK hP) (rest := []) rfl (Nat.le_of_ble_eq_true rfl) ⟨rfl, rfl, Nat.le_of_ble_eq_true rfl, Nat.le_of_ble_eq_true rfl⟩ ⟨Nat.zero_le _, Nat.zero_le _⟩ dX11_walkOrders_128) hS (fun H locs hP hS => ?_)
                obtain ⟨x7_36, ex7_36, h⟩ := bnd_e h
                refine lv_iinc (v := x7_36) (lv' := [(7, .int x7_36), (0, .ref (a 0)), (1, .ref (a (19 + 2 * d1))), (2, .int p2), (3, .int p3), (4, .ref (a (1 + 2 * r_2))), (5, .int r_5), (6, .ref (a (1 + 2 * r_20)))]) hx hb dX11_walkOrders_131 hl (k := 7) rfl (by rw [ex7_36]; rfl) (by decide) rfl (fun ls hl => ?_)
                refine lv_goto (tgt := 79) hx hb dX11_walkOrders_134 (by decide) ?_
                exact ih1 x7_36 σ_35 _ _ ls h hP hS (lv_sub hl [1, 2, 3, 4, 5, 6, 7, 0] rfl)
            · have h := ie c_25 h
              refine lv_goto (tgt := 131) hx hb dX11_walkOrders_95 (by decide) ?_
              obtain ⟨x7_37, ex7_37, h⟩ := bnd_e h
              refine lv_iinc (v := x7_37) (lv' := [(7, .int x7_37), (0, .ref (a 0)), (1, .ref (a (19 + 2 * d1))), (2, .int p2), (3, .int p3), (4, .ref (a (1 + 2 * r_2))), (5, .int r_5), (6, .ref (a (1 + 2 * r_20)))]) hx hb dX11_walkOrders_131 hl (k := 7) rfl (by rw [ex7_37]; rfl) (by decide) rfl (fun ls hl => ?_)
              refine lv_goto (tgt := 79) hx hb dX11_walkOrders_134 (by decide) ?_
              exact ih1 x7_37 σ_23 _ _ ls h hP hS (lv_sub hl [1, 2, 3, 4, 5, 6, 7, 0] rfl)
      exact hL1 5000 0 σ _ _ ls h hP hS (lv_sub hl [4, 5, 6, 7, 3, 2, 1, 0] rfl)
    · have h := ie c_18 h
      exact hJ24 σ _ _ ls h hP hS (lv_sub hl [2, 1] rfl)
set_option maxHeartbeats 4000000 in
set_option maxRecDepth 100000 in
theorem c_X11_walkOrders_6 {l : Launch} {D : va_G} {ca : Nat → ClassId} {a : Nat → Nat} (hI : InjN 50 a) {d1 : Nat} {p2 : Int32} {p3 : Int32} {σ : Mem} {σ' : Mem} (hk_d1 : d1 < 9) (h : f_X11_walkOrders 6 d1 p2 p3 σ = some σ') : XMX l D ca a Bt yX11_walkOrders cX11_walkOrders 8 none rm_X11_walkOrders_6 [.ref (a 0), .ref (a (19 + 2 * d1)), .int p2, .int p3] σ none σ' := by
  refine XM.of pn_X11 (Nat.le_of_ble_eq_true rfl) ?_
  intro p e s m args below meth c ls Q hQ C0 hK hB hP hS hl
  have C0 : Cx p s m args meth c RX11 cX11_walkOrders 8 none := C0
  have hx := C0.1
  have hb := C0.2.1
  have hl : lv_has ls 8 [(0, .ref (a 0)), (1, .ref (a (19 + 2 * d1))), (2, .int p2), (3, .int p3)] := hl
  obtain ⟨F, hF⟩ : ∃ F, F = f_X11_walkOrders 5 := ⟨_, rfl⟩
  have h : f_X11_walkOrders_B F d1 p2 p3 σ = some σ' := by rw [hF]; exact h
  rw [f_X11_walkOrders_B] at h
  refine lv_aload_n hx hb dX11_walkOrders_0 rfl (lv_at hl 0 rfl) ?_
  refine lv_iload_n hx hb dX11_walkOrders_1 rfl (lv_at hl 3 rfl) ?_
  obtain ⟨r_2, h_1, h⟩ := b1_e h
  refine xcall (rV C0 hK hP hl.1 (fun _ _ _ => trivial) Bt_b (c_X11_stepAt hI h_1) cv_X11_stepAt tw642 (rcX11 hK hP) (rest := []) rfl (Nat.le_of_ble_eq_true rfl) ⟨rfl, rfl, Nat.le_of_ble_eq_true rfl, Nat.le_of_ble_eq_true rfl⟩ ⟨Nat.zero_le _, Nat.zero_le _⟩ dX11_walkOrders_2) hS (fun H locs hP hS => ?_)
  obtain ⟨hk_3, h⟩ := asr h
  refine lv_astore (lv' := [(4, .ref (a (1 + 2 * r_2))), (0, .ref (a 0)), (1, .ref (a (19 + 2 * d1))), (2, .int p2), (3, .int p3)]) hx hb dX11_walkOrders_5 hl (by decide) rfl (fun ls hl => ?_)
  refine lv_aload_n hx hb dX11_walkOrders_7 rfl (lv_at hl 2 rfl) ?_
  obtain ⟨r_5, h_4, h⟩ := b1_e h
  refine xcall (rS C0 hK hP hl.1 (fun _ _ _ => trivial) Bt_b (c_X11_pinsIn hI hk_d1 h_4) cs_X11_pinsIn tw619 (rest := []) rfl (Nat.le_of_ble_eq_true rfl) ⟨rfl, rfl, Nat.le_of_ble_eq_true rfl, Nat.le_of_ble_eq_true rfl⟩ ⟨Nat.zero_le _, Nat.zero_le _⟩ dX11_walkOrders_8) hS (fun H locs hP hS => ?_)
  refine lv_istore (lv' := [(5, .int r_5), (4, .ref (a (1 + 2 * r_2))), (0, .ref (a 0)), (1, .ref (a (19 + 2 * d1))), (2, .int p2), (3, .int p3)]) hx hb dX11_walkOrders_11 hl (by decide) rfl (fun ls hl => ?_)
  refine lv_iload_n hx hb dX11_walkOrders_13 rfl (lv_at hl 5 rfl) ?_
  refine lv_iload hx hb dX11_walkOrders_14 (lv_at hl 0 rfl) ?_
  obtain ⟨J24, eJ24, h⟩ := jn_e h
  have hJ24 : ∀ (σ_6 : Mem) (H : Heap) (locs : List Loc) (ls : Array Slot), J24 σ_6 = some σ' → va_P D vwCl (wX ca a σ_6) H → va_S (AW 50 a) s.heap H locs → lv_has ls 8 [(0, .ref (a 0)), (4, .ref (a (1 + 2 * r_2)))] → W p l e rm_X11_walkOrders_6 s m args below meth c H locs 0 0 Q (F0 m 24 ls []) := by
    intro σ_6 H locs ls h hP hS hl
    have h := ap1 eJ24 h
    refine lv_aload hx hb dX11_walkOrders_24 (lv_at hl 1 rfl) ?_
    obtain ⟨r_8, h_7, h⟩ := b1_e h
    refine xcall (rV C0 hK hP hl.1 (fun _ _ _ => trivial) Bt_b (c_X0_lacking hI hk_3 h_7) cv_X0_lacking tw567 (rcX0 hK hP hk_3) (rest := []) rfl (Nat.le_of_ble_eq_true rfl) ⟨rfl, rfl, Nat.le_of_ble_eq_true rfl, Nat.le_of_ble_eq_true rfl⟩ ⟨Nat.zero_le _, Nat.zero_le _⟩ dX11_walkOrders_26) hS (fun H locs hP hS => ?_)
    refine lv_istore (lv' := [(6, .int r_8), (0, .ref (a 0)), (4, .ref (a (1 + 2 * r_2)))]) hx hb dX11_walkOrders_29 hl (by decide) rfl (fun ls hl => ?_)
    refine lv_aload_n hx hb dX11_walkOrders_31 rfl (lv_at hl 1 rfl) ?_
    refine lv_aload_n hx hb dX11_walkOrders_32 rfl (lv_at hl 1 rfl) ?_
    refine gX11_10 C0 hK hP tw245 dX11_walkOrders_33 ?_
    refine lv_if_ne (tgt := 44) hx hb dX11_walkOrders_36 (by decide) (fun c_9 => ?_) (fun c_9 => ?_)
    · have h := ie c_9 h
      refine lv_aload_n hx hb dX11_walkOrders_44 rfl (lv_at hl 1 rfl) ?_
      refine gX11_11 C0 hK hP tw246 dX11_walkOrders_45 ?_
      refine lv_iload hx hb dX11_walkOrders_48 (lv_at hl 0 rfl) ?_
      refine va_mmin hx hb (C0.2.2.1.trans hl.1.symm) C0.2.2.2.1 (C0.2.2.2.2.1 _ tw650) (C0.2.2.2.2.1 _ tw384) (C0.2.2.2.2.1 _ tw77) (C0.2.2.2.2.1 _ tw385) (Nat.le_of_ble_eq_true rfl) (Nat.le_of_ble_eq_true rfl) (Nat.zero_le _) (Nat.zero_le _) dX11_walkOrders_50 ?_
      obtain ⟨y_10, ey_10, h⟩ := bnd_e h
      refine nm_i ey_10 ?_
      obtain ⟨σ_11, eσ_11, h⟩ := bnd_e h
      refine pX11_11 C0 hK hP tw246 hI hS dX11_walkOrders_53 (fun H locs hP hS => ?_)
      rw [← eσ_11] at hP
      refine lv_aload_n hx hb dX11_walkOrders_56 rfl (lv_at hl 1 rfl) ?_
      refine lv_dup hx hb dX11_walkOrders_57 rfl ?_
      refine gX11_10 C0 hK hP tw245 dX11_walkOrders_58 ?_
      refine lv_iconst (v := 1) hx hb dX11_walkOrders_61 (by decide) ?_
      refine lv_iadd hx hb dX11_walkOrders_62 ?_
      obtain ⟨y_12, ey_12, h⟩ := bnd_e h
      refine nm_i ey_12 ?_
      obtain ⟨σ_13, eσ_13, h⟩ := bnd_e h
      refine pX11_10 C0 hK hP tw245 hI hS dX11_walkOrders_63 (fun H locs hP hS => ?_)
      rw [← eσ_13] at hP
      rw [hQ]
      exact xvret C0 hP hS h dX11_walkOrders_66
    · have h := it c_9 h
      refine lv_iload hx hb dX11_walkOrders_39 (lv_at hl 0 rfl) ?_
      refine lv_goto (tgt := 53) hx hb dX11_walkOrders_41 (by decide) ?_
      obtain ⟨σ_14, eσ_14, h⟩ := bnd_e h
      refine pX11_11 C0 hK hP tw246 hI hS dX11_walkOrders_53 (fun H locs hP hS => ?_)
      rw [← eσ_14] at hP
      refine lv_aload_n hx hb dX11_walkOrders_56 rfl (lv_at hl 1 rfl) ?_
      refine lv_dup hx hb dX11_walkOrders_57 rfl ?_
      refine gX11_10 C0 hK hP tw245 dX11_walkOrders_58 ?_
      refine lv_iconst (v := 1) hx hb dX11_walkOrders_61 (by decide) ?_
      refine lv_iadd hx hb dX11_walkOrders_62 ?_
      obtain ⟨y_15, ey_15, h⟩ := bnd_e h
      refine nm_i ey_15 ?_
      obtain ⟨σ_16, eσ_16, h⟩ := bnd_e h
      refine pX11_10 C0 hK hP tw245 hI hS dX11_walkOrders_63 (fun H locs hP hS => ?_)
      rw [← eσ_16] at hP
      rw [hQ]
      exact xvret C0 hP hS h dX11_walkOrders_66
  refine lv_icmp_ge (tgt := 24) hx hb dX11_walkOrders_16 (by decide) (fun c_17 => ?_) (fun c_17 => ?_)
  · have h := it c_17 h
    exact hJ24 σ _ _ ls h hP hS (lv_sub hl [2, 1] rfl)
  · have h := ie c_17 h
    refine lv_iload_n hx hb dX11_walkOrders_19 rfl (lv_at hl 5 rfl) ?_
    refine lv_iconst (v := 5) hx hb dX11_walkOrders_20 (by decide) ?_
    refine lv_icmp_lt (tgt := 67) hx hb dX11_walkOrders_21 (by decide) (fun c_18 => ?_) (fun c_18 => ?_)
    · have h := it c_18 h
      refine lv_aload_n hx hb dX11_walkOrders_67 rfl (lv_at hl 2 rfl) ?_
      refine lv_iload_n hx hb dX11_walkOrders_68 rfl (lv_at hl 5 rfl) ?_
      refine lv_iconst (v := 1) hx hb dX11_walkOrders_69 (by decide) ?_
      refine lv_iadd hx hb dX11_walkOrders_70 ?_
      obtain ⟨r_20, h_19, h⟩ := b1_e h
      refine xcall (rV C0 hK hP hl.1 (fun _ _ _ => trivial) Bt_b (c_X11_stepAt hI h_19) cv_X11_stepAt tw642 (rcX11 hK hP) (rest := []) rfl (Nat.le_of_ble_eq_true rfl) ⟨rfl, rfl, Nat.le_of_ble_eq_true rfl, Nat.le_of_ble_eq_true rfl⟩ ⟨Nat.zero_le _, Nat.zero_le _⟩ dX11_walkOrders_71) hS (fun H locs hP hS => ?_)
      obtain ⟨hk_21, h⟩ := asr h
      refine lv_astore (lv' := [(6, .ref (a (1 + 2 * r_20))), (5, .int r_5), (4, .ref (a (1 + 2 * r_2))), (0, .ref (a 0)), (1, .ref (a (19 + 2 * d1))), (2, .int p2), (3, .int p3)]) hx hb dX11_walkOrders_74 hl (by decide) rfl (fun ls hl => ?_)
      refine lv_iconst (v := 0) hx hb dX11_walkOrders_76 (by decide) ?_
      refine lv_istore (lv' := [(7, .int 0), (6, .ref (a (1 + 2 * r_20))), (5, .int r_5), (4, .ref (a (1 + 2 * r_2))), (0, .ref (a 0)), (1, .ref (a (19 + 2 * d1))), (2, .int p2), (3, .int p3)]) hx hb dX11_walkOrders_77 hl (by decide) rfl (fun ls hl => ?_)
      obtain ⟨K1, eK1, h⟩ := lp_e (f := fun K => f_X11_walkOrders_L79 d1 p2 p3 F r_2 r_5 r_20 5000 0 σ K) h
      have h : f_X11_walkOrders_L79 d1 p2 p3 F r_2 r_5 r_20 5000 0 σ K1 = some σ' := h
      have hX1 : ∀ (u_38 : Int32) (σ_39 : Mem) (H : Heap) (locs : List Loc) (ls : Array Slot), K1 u_38 σ_39 = some σ' → va_P D vwCl (wX ca a σ_39) H → va_S (AW 50 a) s.heap H locs → lv_has ls 8 [] → W p l e rm_X11_walkOrders_6 s m args below meth c H locs 0 0 Q (F0 m 137 ls []) := by
        intro u_38 σ_39 H locs ls h hP hS hl
        have h := ap2 eK1 h
        rw [hQ]
        exact xvret C0 hP hS h dX11_walkOrders_137
      have hL1 : ∀ (n : Nat) (x7_22 : Int32) (σ_23 : Mem) (H : Heap) (locs : List Loc) (ls : Array Slot), f_X11_walkOrders_L79 d1 p2 p3 F r_2 r_5 r_20 n x7_22 σ_23 K1 = some σ' → va_P D vwCl (wX ca a σ_23) H → va_S (AW 50 a) s.heap H locs → lv_has ls 8 [(0, .ref (a 0)), (1, .ref (a (19 + 2 * d1))), (2, .int p2), (3, .int p3), (4, .ref (a (1 + 2 * r_2))), (5, .int r_5), (6, .ref (a (1 + 2 * r_20))), (7, .int x7_22)] → W p l e rm_X11_walkOrders_6 s m args below meth c H locs 0 0 Q (F0 m 79 ls []) := by
        intro n
        induction n with
        | zero => intro x7_22 σ_23 H locs ls h; rw [f_X11_walkOrders_L79] at h; cases h
        | succ n ih1 =>
          intro x7_22 σ_23 H locs ls h hP hS hl
          rw [f_X11_walkOrders_L79] at h
          refine lv_iload hx hb dX11_walkOrders_79 (lv_at hl 7 rfl) ?_
          refine lv_iload hx hb dX11_walkOrders_81 (lv_at hl 5 rfl) ?_
          refine lv_icmp_ge (tgt := 137) hx hb dX11_walkOrders_83 (by decide) (fun c_24 => ?_) (fun c_24 => ?_)
          · have h := it c_24 h
            exact hX1 x7_22 σ_23 _ _ ls h hP hS (lv_sub hl [] rfl)
          · have h := ie c_24 h
            refine lv_iload_n hx hb dX11_walkOrders_86 rfl (lv_at hl 2 rfl) ?_
            refine lv_iload hx hb dX11_walkOrders_87 (lv_at hl 7 rfl) ?_
            refine lv_ishr hx hb dX11_walkOrders_89 ?_
            refine lv_iconst (v := 1) hx hb dX11_walkOrders_90 (by decide) ?_
            refine lv_iand hx hb dX11_walkOrders_91 ?_
            refine lv_if_eq (tgt := 98) hx hb dX11_walkOrders_92 (by decide) (fun c_25 => ?_) (fun c_25 => ?_)
            · have h := it c_25 h
              refine lv_aload hx hb dX11_walkOrders_98 (lv_at hl 6 rfl) ?_
              refine lv_aload hx hb dX11_walkOrders_100 (lv_at hl 4 rfl) ?_
              obtain ⟨σ_27, h_26, h⟩ := b1_e h
              refine xcall (rV C0 hK hP hl.1 (fun _ _ _ => trivial) Bt_b (c_X0_becomeLike hI hk_21 hk_3 h_26) cv_X0_becomeLike tw379 (rcX0 hK hP hk_21) (rest := []) rfl (Nat.le_of_ble_eq_true rfl) ⟨rfl, rfl, Nat.le_of_ble_eq_true rfl, Nat.le_of_ble_eq_true rfl⟩ ⟨Nat.zero_le _, Nat.zero_le _⟩ dX11_walkOrders_102) hS (fun H locs hP hS => ?_)
              refine lv_aload_n hx hb dX11_walkOrders_105 rfl (lv_at hl 0 rfl) ?_
              refine lv_aload hx hb dX11_walkOrders_106 (lv_at hl 6 rfl) ?_
              refine lv_aload_n hx hb dX11_walkOrders_108 rfl (lv_at hl 1 rfl) ?_
              refine lv_iload hx hb dX11_walkOrders_109 (lv_at hl 7 rfl) ?_
              obtain ⟨r_29, σ_30, h_28, h⟩ := b2_e h
              refine xcall (rV C0 hK hP hl.1 (fun _ _ _ => trivial) Bt_b (c_X11_sewPinOfRow hI hk_21 hk_d1 h_28) cv_X11_sewPinOfRow tw626 (rcX11 hK hP) (rest := []) rfl (Nat.le_of_ble_eq_true rfl) ⟨rfl, rfl, Nat.le_of_ble_eq_true rfl, Nat.le_of_ble_eq_true rfl⟩ ⟨Nat.zero_le _, Nat.zero_le _⟩ dX11_walkOrders_111) hS (fun H locs hP hS => ?_)
              refine lv_if_eq (tgt := 131) hx hb dX11_walkOrders_114 (by decide) (fun c_31 => ?_) (fun c_31 => ?_)
              · have h := it c_31 h
                obtain ⟨x7_32, ex7_32, h⟩ := bnd_e h
                refine lv_iinc (v := x7_32) (lv' := [(7, .int x7_32), (0, .ref (a 0)), (1, .ref (a (19 + 2 * d1))), (2, .int p2), (3, .int p3), (4, .ref (a (1 + 2 * r_2))), (5, .int r_5), (6, .ref (a (1 + 2 * r_20)))]) hx hb dX11_walkOrders_131 hl (k := 7) rfl (by rw [ex7_32]; rfl) (by decide) rfl (fun ls hl => ?_)
                refine lv_goto (tgt := 79) hx hb dX11_walkOrders_134 (by decide) ?_
                exact ih1 x7_32 σ_30 _ _ ls h hP hS (lv_sub hl [1, 2, 3, 4, 5, 6, 7, 0] rfl)
              · have h := ie c_31 h
                refine lv_aload_n hx hb dX11_walkOrders_117 rfl (lv_at hl 0 rfl) ?_
                refine lv_aload_n hx hb dX11_walkOrders_118 rfl (lv_at hl 1 rfl) ?_
                refine lv_iload_n hx hb dX11_walkOrders_119 rfl (lv_at hl 2 rfl) ?_
                refine lv_iconst (v := 1) hx hb dX11_walkOrders_120 (by decide) ?_
                refine lv_iload hx hb dX11_walkOrders_121 (lv_at hl 7 rfl) ?_
                refine lv_ishl hx hb dX11_walkOrders_123 ?_
                refine lv_ior hx hb dX11_walkOrders_124 ?_
                refine lv_iload_n hx hb dX11_walkOrders_125 rfl (lv_at hl 3 rfl) ?_
                refine lv_iconst (v := 1) hx hb dX11_walkOrders_126 (by decide) ?_
                refine lv_iadd hx hb dX11_walkOrders_127 ?_
                obtain ⟨y_33, ey_33, h⟩ := bnd_e h
                rw [← ey_33]
                obtain ⟨σ_35, h_34, h⟩ := b1_e h
                refine xcall (rV C0 hK hP hl.1 (fun _ _ _ => trivial) Bt_b (c_X11_walkOrders_5 hI hk_d1 (hF ▸ h_34)) cv_X11_walkOrders tw646 (rcX11 hK hP) (rest := []) rfl (Nat.le_of_ble_eq_true rfl) ⟨rfl, rfl, Nat.le_of_ble_eq_true rfl, Nat.le_of_ble_eq_true rfl⟩ ⟨Nat.zero_le _, Nat.zero_le _⟩ dX11_walkOrders_128) hS (fun H locs hP hS => ?_)
                obtain ⟨x7_36, ex7_36, h⟩ := bnd_e h
                refine lv_iinc (v := x7_36) (lv' := [(7, .int x7_36), (0, .ref (a 0)), (1, .ref (a (19 + 2 * d1))), (2, .int p2), (3, .int p3), (4, .ref (a (1 + 2 * r_2))), (5, .int r_5), (6, .ref (a (1 + 2 * r_20)))]) hx hb dX11_walkOrders_131 hl (k := 7) rfl (by rw [ex7_36]; rfl) (by decide) rfl (fun ls hl => ?_)
                refine lv_goto (tgt := 79) hx hb dX11_walkOrders_134 (by decide) ?_
                exact ih1 x7_36 σ_35 _ _ ls h hP hS (lv_sub hl [1, 2, 3, 4, 5, 6, 7, 0] rfl)
            · have h := ie c_25 h
              refine lv_goto (tgt := 131) hx hb dX11_walkOrders_95 (by decide) ?_
              obtain ⟨x7_37, ex7_37, h⟩ := bnd_e h
              refine lv_iinc (v := x7_37) (lv' := [(7, .int x7_37), (0, .ref (a 0)), (1, .ref (a (19 + 2 * d1))), (2, .int p2), (3, .int p3), (4, .ref (a (1 + 2 * r_2))), (5, .int r_5), (6, .ref (a (1 + 2 * r_20)))]) hx hb dX11_walkOrders_131 hl (k := 7) rfl (by rw [ex7_37]; rfl) (by decide) rfl (fun ls hl => ?_)
              refine lv_goto (tgt := 79) hx hb dX11_walkOrders_134 (by decide) ?_
              exact ih1 x7_37 σ_23 _ _ ls h hP hS (lv_sub hl [1, 2, 3, 4, 5, 6, 7, 0] rfl)
      exact hL1 5000 0 σ _ _ ls h hP hS (lv_sub hl [4, 5, 6, 7, 3, 2, 1, 0] rfl)
    · have h := ie c_18 h
      exact hJ24 σ _ _ ls h hP hS (lv_sub hl [2, 1] rfl)
def f_X11_orders (p1 : Int32) (p2 : Int32) (σ : Mem) : Option (Int32 × Mem) :=
  b1 (f_X11_within p2 0 1) fun r_2 =>
  jn (fun (v_3 : Int32) (σ_4 : Mem) =>
    if v_3 = 0 then
      b1 (f_X11_shelfAt p1) fun r_7 =>
      if r_7 < 9 then
        b1 (f_X11_pinsIn r_7 σ_4) fun r_10 =>
        if r_10 ≤ 5 then
          bnd (uX σ_4 0 10 0) fun (σ_12 : Mem) =>
          bnd (uX σ_12 0 11 (-4)) fun (σ_13 : Mem) =>
          b1 (f_X11_stepAt 0) fun r_15 =>
          if r_15 < 9 then
            b1 (f_X0_becomeLike r_15 0 σ_13) fun σ_18 =>
            b1 (f_X11_walkOrders 6 r_7 0 0 σ_18) fun σ_20 =>
            if p2 = 0 then
              some (σ_20 0 10, σ_20)
            else
              some (σ_20 0 11, σ_20)
          else none
        else
          some ((-2), σ_4)
      else none
    else
      some (v_3, σ_4)) fun J18 =>
  if r_2 = 0 then
    J18 (-1) σ
  else
    b1 (f_X11_pinsRefusal p1 σ) fun r_24 =>
    J18 r_24 σ
def rm_X11_orders : Room := { frames := 13, cells := 0, slots := 0, locals := 328 }
set_option maxHeartbeats 4000000 in
set_option maxRecDepth 100000 in
theorem c_X11_orders {l : Launch} {D : va_G} {ca : Nat → ClassId} {a : Nat → Nat} (hI : InjN 50 a) {p1 : Int32} {p2 : Int32} {σ : Mem} {r : Int32} {σ' : Mem}  (h : f_X11_orders p1 p2 σ = some (r, σ')) : XMX l D ca a Bt yX11_orders cX11_orders 5 (some .int) rm_X11_orders [.ref (a 0), .int p1, .int p2] σ (some (.int r)) σ' := by
  refine XM.of pn_X11 (Nat.le_of_ble_eq_true rfl) ?_
  intro p e s m args below meth c ls Q hQ C0 hK hB hP hS hl
  have C0 : Cx p s m args meth c RX11 cX11_orders 5 (some .int) := C0
  have hx := C0.1
  have hb := C0.2.1
  have hl : lv_has ls 5 [(0, .ref (a 0)), (1, .int p1), (2, .int p2)] := hl
  rw [f_X11_orders] at h
  refine lv_iload_n hx hb dX11_orders_0 rfl (lv_at hl 2 rfl) ?_
  refine lv_iconst (v := 0) hx hb dX11_orders_1 (by decide) ?_
  refine lv_iconst (v := 1) hx hb dX11_orders_2 (by decide) ?_
  obtain ⟨r_2, h_1, h⟩ := b1_e h
  refine xcall (rS C0 hK hP hl.1 (fun _ _ _ => trivial) Bt_b (c_X11_within hI h_1) cs_X11_within tw283 (rest := []) rfl (Nat.le_of_ble_eq_true rfl) ⟨rfl, rfl, Nat.le_of_ble_eq_true rfl, Nat.le_of_ble_eq_true rfl⟩ ⟨Nat.zero_le _, Nat.zero_le _⟩ dX11_orders_3) hS (fun H locs hP hS => ?_)
  obtain ⟨J18, eJ18, h⟩ := jn_e h
  have hJ18 : ∀ (v_3 : Int32) (σ_4 : Mem) (H : Heap) (locs : List Loc) (ls : Array Slot), J18 v_3 σ_4 = some (r, σ') → va_P D vwCl (wX ca a σ_4) H → va_S (AW 50 a) s.heap H locs → lv_has ls 5 [(0, .ref (a 0)), (1, .int p1), (2, .int p2)] → W p l e rm_X11_orders s m args below meth c H locs 0 0 Q (F0 m 18 ls [.int v_3]) := by
    intro v_3 σ_4 H locs ls h hP hS hl
    have h := ap2 eJ18 h
    refine lv_istore_n (lv' := [(3, .int v_3), (0, .ref (a 0)), (1, .int p1), (2, .int p2)]) hx hb dX11_orders_18 rfl hl (by decide) rfl (fun ls hl => ?_)
    refine lv_iload_n hx hb dX11_orders_19 rfl (lv_at hl 0 rfl) ?_
    refine lv_if_eq (tgt := 25) hx hb dX11_orders_20 (by decide) (fun c_5 => ?_) (fun c_5 => ?_)
    · have h := it c_5 h
      refine lv_aload_n hx hb dX11_orders_25 rfl (lv_at hl 1 rfl) ?_
      refine lv_iload_n hx hb dX11_orders_26 rfl (lv_at hl 2 rfl) ?_
      obtain ⟨r_7, h_6, h⟩ := b1_e h
      refine xcall (rV C0 hK hP hl.1 (fun _ _ _ => trivial) Bt_b (c_X11_shelfAt hI h_6) cv_X11_shelfAt tw286 (rcX11 hK hP) (rest := []) rfl (Nat.le_of_ble_eq_true rfl) ⟨rfl, rfl, Nat.le_of_ble_eq_true rfl, Nat.le_of_ble_eq_true rfl⟩ ⟨Nat.zero_le _, Nat.zero_le _⟩ dX11_orders_27) hS (fun H locs hP hS => ?_)
      obtain ⟨hk_8, h⟩ := asr h
      refine lv_astore (lv' := [(4, .ref (a (19 + 2 * r_7))), (3, .int v_3), (0, .ref (a 0)), (1, .int p1), (2, .int p2)]) hx hb dX11_orders_30 hl (by decide) rfl (fun ls hl => ?_)
      refine lv_aload hx hb dX11_orders_32 (lv_at hl 0 rfl) ?_
      obtain ⟨r_10, h_9, h⟩ := b1_e h
      refine xcall (rS C0 hK hP hl.1 (fun _ _ _ => trivial) Bt_b (c_X11_pinsIn hI hk_8 h_9) cs_X11_pinsIn tw619 (rest := []) rfl (Nat.le_of_ble_eq_true rfl) ⟨rfl, rfl, Nat.le_of_ble_eq_true rfl, Nat.le_of_ble_eq_true rfl⟩ ⟨Nat.zero_le _, Nat.zero_le _⟩ dX11_orders_34) hS (fun H locs hP hS => ?_)
      refine lv_iconst (v := 5) hx hb dX11_orders_37 (by decide) ?_
      refine lv_icmp_le (tgt := 44) hx hb dX11_orders_38 (by decide) (fun c_11 => ?_) (fun c_11 => ?_)
      · have h := it c_11 h
        refine lv_aload_n hx hb dX11_orders_44 rfl (lv_at hl 2 rfl) ?_
        refine lv_iconst (v := 0) hx hb dX11_orders_45 (by decide) ?_
        obtain ⟨σ_12, eσ_12, h⟩ := bnd_e h
        refine pX11_10 C0 hK hP tw245 hI hS dX11_orders_46 (fun H locs hP hS => ?_)
        rw [← eσ_12] at hP
        refine lv_aload_n hx hb dX11_orders_49 rfl (lv_at hl 2 rfl) ?_
        refine lv_bipush (v := (-4)) hx hb dX11_orders_50 (by decide) ?_
        obtain ⟨σ_13, eσ_13, h⟩ := bnd_e h
        refine pX11_11 C0 hK hP tw246 hI hS dX11_orders_52 (fun H locs hP hS => ?_)
        rw [← eσ_13] at hP
        refine lv_aload_n hx hb dX11_orders_55 rfl (lv_at hl 2 rfl) ?_
        refine lv_iconst (v := 0) hx hb dX11_orders_56 (by decide) ?_
        obtain ⟨r_15, h_14, h⟩ := b1_e h
        refine xcall (rV C0 hK hP hl.1 (fun _ _ _ => trivial) Bt_b (c_X11_stepAt hI h_14) cv_X11_stepAt tw642 (rcX11 hK hP) (rest := []) rfl (Nat.le_of_ble_eq_true rfl) ⟨rfl, rfl, Nat.le_of_ble_eq_true rfl, Nat.le_of_ble_eq_true rfl⟩ ⟨Nat.zero_le _, Nat.zero_le _⟩ dX11_orders_57) hS (fun H locs hP hS => ?_)
        obtain ⟨hk_16, h⟩ := asr h
        refine lv_aload_n hx hb dX11_orders_60 rfl (lv_at hl 2 rfl) ?_
        refine gX11_0 C0 hK hP tw235 dX11_orders_61 ?_
        obtain ⟨σ_18, h_17, h⟩ := b1_e h
        refine xcall (rV C0 hK hP hl.1 (fun _ _ _ => trivial) Bt_b (c_X0_becomeLike hI hk_16 (by decide) h_17) cv_X0_becomeLike tw379 (rcX0 hK hP hk_16) (rest := []) rfl (Nat.le_of_ble_eq_true rfl) ⟨rfl, rfl, Nat.le_of_ble_eq_true rfl, Nat.le_of_ble_eq_true rfl⟩ ⟨Nat.zero_le _, Nat.zero_le _⟩ dX11_orders_64) hS (fun H locs hP hS => ?_)
        refine lv_aload_n hx hb dX11_orders_67 rfl (lv_at hl 2 rfl) ?_
        refine lv_aload hx hb dX11_orders_68 (lv_at hl 0 rfl) ?_
        refine lv_iconst (v := 0) hx hb dX11_orders_70 (by decide) ?_
        refine lv_iconst (v := 0) hx hb dX11_orders_71 (by decide) ?_
        obtain ⟨σ_20, h_19, h⟩ := b1_e h
        refine xcall (rV C0 hK hP hl.1 (fun _ _ _ => trivial) Bt_b (c_X11_walkOrders_6 hI hk_8 h_19) cv_X11_walkOrders tw646 (rcX11 hK hP) (rest := []) rfl (Nat.le_of_ble_eq_true rfl) ⟨rfl, rfl, Nat.le_of_ble_eq_true rfl, Nat.le_of_ble_eq_true rfl⟩ ⟨Nat.zero_le _, Nat.zero_le _⟩ dX11_orders_72) hS (fun H locs hP hS => ?_)
        refine lv_iload_n hx hb dX11_orders_75 rfl (lv_at hl 4 rfl) ?_
        refine lv_if_ne (tgt := 86) hx hb dX11_orders_76 (by decide) (fun c_21 => ?_) (fun c_21 => ?_)
        · have h := ie c_21 h
          refine lv_aload_n hx hb dX11_orders_86 rfl (lv_at hl 2 rfl) ?_
          refine gX11_11 C0 hK hP tw246 dX11_orders_87 ?_
          rw [hQ]
          exact xzret C0 hP hS rfl h dX11_orders_90
        · have h := it c_21 h
          refine lv_aload_n hx hb dX11_orders_79 rfl (lv_at hl 2 rfl) ?_
          refine gX11_10 C0 hK hP tw245 dX11_orders_80 ?_
          refine lv_goto (tgt := 90) hx hb dX11_orders_83 (by decide) ?_
          rw [hQ]
          exact xzret C0 hP hS rfl h dX11_orders_90
      · have h := ie c_11 h
        refine lv_bipush (v := (-2)) hx hb dX11_orders_41 (by decide) ?_
        rw [hQ]
        exact xzret C0 hP hS rfl h dX11_orders_43
    · have h := ie c_5 h
      refine lv_iload_n hx hb dX11_orders_23 rfl (lv_at hl 0 rfl) ?_
      rw [hQ]
      exact xzret C0 hP hS rfl h dX11_orders_24
  refine lv_if_eq (tgt := 17) hx hb dX11_orders_6 (by decide) (fun c_22 => ?_) (fun c_22 => ?_)
  · have h := it c_22 h
    refine lv_iconst (v := (-1)) hx hb dX11_orders_17 (by decide) ?_
    exact hJ18 (-1) σ _ _ ls h hP hS (lv_sub hl [0, 1, 2] rfl)
  · have h := ie c_22 h
    refine lv_aload_n hx hb dX11_orders_9 rfl (lv_at hl 0 rfl) ?_
    refine lv_iload_n hx hb dX11_orders_10 rfl (lv_at hl 1 rfl) ?_
    obtain ⟨r_24, h_23, h⟩ := b1_e h
    refine xcall (rV C0 hK hP hl.1 (fun _ _ _ => trivial) Bt_b (c_X11_pinsRefusal hI h_23) cv_X11_pinsRefusal tw610 (rcX11 hK hP) (rest := []) rfl (Nat.le_of_ble_eq_true rfl) ⟨rfl, rfl, Nat.le_of_ble_eq_true rfl, Nat.le_of_ble_eq_true rfl⟩ ⟨Nat.zero_le _, Nat.zero_le _⟩ dX11_orders_11) hS (fun H locs hP hS => ?_)
    refine lv_goto (tgt := 18) hx hb dX11_orders_14 (by decide) ?_
    exact hJ18 r_24 σ _ _ ls h hP hS (lv_sub hl [0, 1, 2] rfl)
