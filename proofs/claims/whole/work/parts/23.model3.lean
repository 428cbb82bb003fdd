def f_X12_narrowed (p1 : Int32) (p2 : Int32) : Option (Int64) :=
  if p2 = 0 then
    some p1.toInt8.toInt32.toInt64
  else
    if p2 = 1 then
      some p1.toInt16.toInt32.toInt64
    else
      some p1.toInt64
def rm_X12_narrowed : Room := { frames := 0, cells := 0, slots := 0, locals := 0 }
set_option maxHeartbeats 4000000 in
set_option maxRecDepth 100000 in
theorem c_X12_narrowed {l : Launch} {D : va_G} {ca : Nat → ClassId} {a : Nat → Nat} (hI : InjN 21 a) {p1 : Int32} {p2 : Int32} {σ : MMem} {r : Int64}  (h : f_X12_narrowed p1 p2 = some r) : XMM l D ca a Bt yX12_narrowed cX12_narrowed 2 (some .long) rm_X12_narrowed [.int p1, .int p2] σ (some (.long r)) σ := by
  refine XM.of pn_X12 (Nat.le_of_ble_eq_true rfl) ?_
  intro p e s m args below meth c ls Q hQ C0 hK hB hP hS hl
  have C0 : Cx p s m args meth c RX12 cX12_narrowed 2 (some .long) := C0
  have hx := C0.1
  have hb := C0.2.1
  have hl : lv_has ls 2 [(0, .int p1), (1, .int p2)] := hl
  rw [f_X12_narrowed] at h
  refine lv_iload_n hx hb dX12_narrowed_0 rfl (lv_at hl 1 rfl) ?_
  refine lv_if_ne (tgt := 10) hx hb dX12_narrowed_1 (by decide) (fun c_1 => ?_) (fun c_1 => ?_)
  · have h := ie c_1 h
    refine lv_iload_n hx hb dX12_narrowed_10 rfl (lv_at hl 1 rfl) ?_
    refine lv_iconst (v := 1) hx hb dX12_narrowed_11 (by decide) ?_
    refine lv_icmp_ne (tgt := 21) hx hb dX12_narrowed_12 (by decide) (fun c_2 => ?_) (fun c_2 => ?_)
    · have h := ie c_2 h
      refine lv_iload_n hx hb dX12_narrowed_21 rfl (lv_at hl 0 rfl) ?_
      refine lv_i2l (v := p1.toInt64) hx hb dX12_narrowed_22 rfl ?_
      rw [hQ]
      exact xlretr C0 hP hS h dX12_narrowed_23
    · have h := it c_2 h
      refine lv_iload_n hx hb dX12_narrowed_15 rfl (lv_at hl 0 rfl) ?_
      refine lv_i2s (v := p1.toInt16.toInt32) hx hb dX12_narrowed_16 rfl ?_
      refine lv_i2l (v := p1.toInt16.toInt32.toInt64) hx hb dX12_narrowed_17 rfl ?_
      refine lv_goto (tgt := 23) hx hb dX12_narrowed_18 (by decide) ?_
      rw [hQ]
      exact xlretr C0 hP hS h dX12_narrowed_23
  · have h := it c_1 h
    refine lv_iload_n hx hb dX12_narrowed_4 rfl (lv_at hl 0 rfl) ?_
    refine lv_i2b (v := p1.toInt8.toInt32) hx hb dX12_narrowed_5 rfl ?_
    refine lv_i2l (v := p1.toInt8.toInt32.toInt64) hx hb dX12_narrowed_6 rfl ?_
    refine lv_goto (tgt := 23) hx hb dX12_narrowed_7 (by decide) ?_
    rw [hQ]
    exact xlretr C0 hP hS h dX12_narrowed_23
def f_X12_row_L68 (p1 : Int32) : Nat → Int32 → MMem → (Int32 → MMem → Option (Int32 × MMem)) → Option (Int32 × MMem)
  | 0, _, _, _ => none
  | n + 1, x4_16, σ_17, K1 =>
    if 100 ≤ x4_16 then
      K1 x4_16 σ_17
    else
      bnd ((100 * p1) + x4_16) fun (i_19 : Int32) =>
      if i_19 < 0 ∨ 800 ≤ i_19.toNatClampNeg then none else
      bnd (uL σ_17 19 i_19.toNatClampNeg 0) fun (σ_21 : MMem) =>
      bnd (x4_16 + 1) fun (x4_22 : Int32) =>
      f_X12_row_L68 p1 n x4_22 σ_21 K1
def f_X12_row (p1 : Int32) (p2 : Int32) (p3 : Int32) (σ : MMem) : Option (Int32 × MMem) :=
  bnd (uI σ 0 9 0) fun (σ_1 : MMem) =>
  b1 (f_X12_in p1.toInt64 0 7) fun r_3 =>
  if r_3 = 0 then
    some ((-1), σ_1)
  else
    b1 (f_X12_in p2.toInt64 0 2) fun r_6 =>
    if r_6 = 0 then
      some ((-1), σ_1)
    else
      if p3 ≤ 100 then
        if 0 ≤ p3 then
          if p1 < 0 ∨ 8 ≤ p1.toNatClampNeg then none else
          bnd (uI σ_1 14 p1.toNatClampNeg 2) fun (σ_11 : MMem) =>
          if p1 < 0 ∨ 8 ≤ p1.toNatClampNeg then none else
          bnd (uI σ_11 17 p1.toNatClampNeg p2) fun (σ_13 : MMem) =>
          if p1 < 0 ∨ 8 ≤ p1.toNatClampNeg then none else
          bnd (uI σ_13 18 p1.toNatClampNeg p3) fun (σ_15 : MMem) =>
          f_X12_row_L68 p1 5000 0 σ_15 fun (u_23 : Int32) (σ_24 : MMem) =>
            some (0, σ_24)
        else
          some ((-14), σ_1)
      else
        some ((-1), σ_1)
def rm_X12_row : Room := { frames := 1, cells := 0, slots := 0, locals := 25 }
set_option maxHeartbeats 4000000 in
set_option maxRecDepth 100000 in
theorem c_X12_row {l : Launch} {D : va_G} {ca : Nat → ClassId} {a : Nat → Nat} (hI : InjN 21 a) {p1 : Int32} {p2 : Int32} {p3 : Int32} {σ : MMem} {r : Int32} {σ' : MMem}  (h : f_X12_row p1 p2 p3 σ = some (r, σ')) : XMM l D ca a Bt yX12_row cX12_row 5 (some .int) rm_X12_row [.ref (a 0), .int p1, .int p2, .int p3] σ (some (.int r)) σ' := by
  refine XM.of pn_X12 (Nat.le_of_ble_eq_true rfl) ?_
  intro p e s m args below meth c ls Q hQ C0 hK hB hP hS hl
  have C0 : Cx p s m args meth c RX12 cX12_row 5 (some .int) := C0
  have hx := C0.1
  have hb := C0.2.1
  have hl : lv_has ls 5 [(0, .ref (a 0)), (1, .int p1), (2, .int p2), (3, .int p3)] := hl
  rw [f_X12_row] at h
  refine lv_aload_n hx hb dX12_row_0 rfl (lv_at hl 0 rfl) ?_
  refine lv_iconst (v := 0) hx hb dX12_row_1 (by decide) ?_
  obtain ⟨σ_1, eσ_1, h⟩ := bnd_e h
  refine pX12_9 C0 hK hP tw951 hI hS dX12_row_2 (fun H locs hP hS => ?_)
  rw [← eσ_1] at hP
  refine lv_iload_n hx hb dX12_row_5 rfl (lv_at hl 1 rfl) ?_
  refine lv_i2l (v := p1.toInt64) hx hb dX12_row_6 rfl ?_
  refine lv_lconst (v := 0) hx hb dX12_row_7 (by decide) ?_
  refine lv_ldc2 (v := 7) hx hb C0.2.2.2.1 (C0.2.2.2.2.1 _ tw1090) dX12_row_8 ?_
  obtain ⟨r_3, h_2, h⟩ := b1_e h
  refine xcall (rS C0 hK hP hl.1 (fun _ _ _ => trivial) Bt_b (c_X12_in hI h_2) cs_X12_in tw1091 (rest := []) rfl (Nat.le_of_ble_eq_true rfl) ⟨rfl, rfl, Nat.le_of_ble_eq_true rfl, Nat.le_of_ble_eq_true rfl⟩ ⟨Nat.zero_le _, Nat.zero_le _⟩ dX12_row_11) hS (fun H locs hP hS => ?_)
  refine lv_if_eq (tgt := 35) hx hb dX12_row_14 (by decide) (fun c_4 => ?_) (fun c_4 => ?_)
  · have h := it c_4 h
    refine lv_iconst (v := (-1)) hx hb dX12_row_35 (by decide) ?_
    rw [hQ]
    exact xzret C0 hP hS rfl h dX12_row_36
  · have h := ie c_4 h
    refine lv_iload_n hx hb dX12_row_17 rfl (lv_at hl 2 rfl) ?_
    refine lv_i2l (v := p2.toInt64) hx hb dX12_row_18 rfl ?_
    refine lv_lconst (v := 0) hx hb dX12_row_19 (by decide) ?_
    refine lv_ldc2 (v := 2) hx hb C0.2.2.2.1 (C0.2.2.2.2.1 _ tw1258) dX12_row_20 ?_
    obtain ⟨r_6, h_5, h⟩ := b1_e h
    refine xcall (rS C0 hK hP hl.1 (fun _ _ _ => trivial) Bt_b (c_X12_in hI h_5) cs_X12_in tw1091 (rest := []) rfl (Nat.le_of_ble_eq_true rfl) ⟨rfl, rfl, Nat.le_of_ble_eq_true rfl, Nat.le_of_ble_eq_true rfl⟩ ⟨Nat.zero_le _, Nat.zero_le _⟩ dX12_row_23) hS (fun H locs hP hS => ?_)
    refine lv_if_eq (tgt := 35) hx hb dX12_row_26 (by decide) (fun c_7 => ?_) (fun c_7 => ?_)
    · have h := it c_7 h
      refine lv_iconst (v := (-1)) hx hb dX12_row_35 (by decide) ?_
      rw [hQ]
      exact xzret C0 hP hS rfl h dX12_row_36
    · have h := ie c_7 h
      refine lv_iload_n hx hb dX12_row_29 rfl (lv_at hl 3 rfl) ?_
      refine lv_bipush (v := 100) hx hb dX12_row_30 (by decide) ?_
      refine lv_icmp_le (tgt := 37) hx hb dX12_row_32 (by decide) (fun c_8 => ?_) (fun c_8 => ?_)
      · have h := it c_8 h
        refine lv_iload_n hx hb dX12_row_37 rfl (lv_at hl 3 rfl) ?_
        refine lv_if_ge (tgt := 44) hx hb dX12_row_38 (by decide) (fun c_9 => ?_) (fun c_9 => ?_)
        · have h := it c_9 h
          refine lv_aload_n hx hb dX12_row_44 rfl (lv_at hl 0 rfl) ?_
          refine gX12_31 C0 hK hP tw973 dX12_row_45 ?_
          refine lv_iload_n hx hb dX12_row_48 rfl (lv_at hl 1 rfl) ?_
          refine lv_iconst (v := 2) hx hb dX12_row_49 (by decide) ?_
          obtain ⟨b_10, h⟩ := ck h
          obtain ⟨σ_11, eσ_11, h⟩ := bnd_e h
          refine mast (i := 14) (N := 8) C0 hK hP hI hS (by decide) (by decide) rfl b_10 dX12_row_50 (fun H locs hP hS => ?_)
          rw [← eσ_11] at hP
          refine lv_aload_n hx hb dX12_row_51 rfl (lv_at hl 0 rfl) ?_
          refine gX12_34 C0 hK hP tw976 dX12_row_52 ?_
          refine lv_iload_n hx hb dX12_row_55 rfl (lv_at hl 1 rfl) ?_
          refine lv_iload_n hx hb dX12_row_56 rfl (lv_at hl 2 rfl) ?_
          obtain ⟨b_12, h⟩ := ck h
          obtain ⟨σ_13, eσ_13, h⟩ := bnd_e h
          refine mast (i := 17) (N := 8) C0 hK hP hI hS (by decide) (by decide) rfl b_12 dX12_row_57 (fun H locs hP hS => ?_)
          rw [← eσ_13] at hP
          refine lv_aload_n hx hb dX12_row_58 rfl (lv_at hl 0 rfl) ?_
          refine gX12_35 C0 hK hP tw977 dX12_row_59 ?_
          refine lv_iload_n hx hb dX12_row_62 rfl (lv_at hl 1 rfl) ?_
          refine lv_iload_n hx hb dX12_row_63 rfl (lv_at hl 3 rfl) ?_
          obtain ⟨b_14, h⟩ := ck h
          obtain ⟨σ_15, eσ_15, h⟩ := bnd_e h
          refine mast (i := 18) (N := 8) C0 hK hP hI hS (by decide) (by decide) rfl b_14 dX12_row_64 (fun H locs hP hS => ?_)
          rw [← eσ_15] at hP
          refine lv_iconst (v := 0) hx hb dX12_row_65 (by decide) ?_
          refine lv_istore (lv' := [(4, .int 0), (0, .ref (a 0)), (1, .int p1), (2, .int p2), (3, .int p3)]) hx hb dX12_row_66 hl (by decide) rfl (fun ls hl => ?_)
          obtain ⟨K1, eK1, h⟩ := lp_e (f := fun K => f_X12_row_L68 p1 5000 0 σ_15 K) h
          have h : f_X12_row_L68 p1 5000 0 σ_15 K1 = some (r, σ') := h
          have hX1 : ∀ (u_23 : Int32) (σ_24 : MMem) (H : Heap) (locs : List Loc) (ls : Array Slot), K1 u_23 σ_24 = some (r, σ') → va_P D vwCl (wM ca a σ_24) H → va_S (AW 21 a) s.heap H locs → lv_has ls 5 [] → W p l e rm_X12_row s m args below meth c H locs 0 0 Q (F0 m 94 ls []) := by
            intro u_23 σ_24 H locs ls h hP hS hl
            have h := ap2 eK1 h
            refine lv_iconst (v := 0) hx hb dX12_row_94 (by decide) ?_
            rw [hQ]
            exact xzret C0 hP hS rfl h dX12_row_95
          have hL1 : ∀ (n : Nat) (x4_16 : Int32) (σ_17 : MMem) (H : Heap) (locs : List Loc) (ls : Array Slot), f_X12_row_L68 p1 n x4_16 σ_17 K1 = some (r, σ') → va_P D vwCl (wM ca a σ_17) H → va_S (AW 21 a) s.heap H locs → lv_has ls 5 [(0, .ref (a 0)), (1, .int p1), (4, .int x4_16)] → W p l e rm_X12_row s m args below meth c H locs 0 0 Q (F0 m 68 ls []) := by
            intro n
            induction n with
            | zero => intro x4_16 σ_17 H locs ls h; rw [f_X12_row_L68] at h; cases h
            | succ n ih1 =>
              intro x4_16 σ_17 H locs ls h hP hS hl
              rw [f_X12_row_L68] at h
              refine lv_iload hx hb dX12_row_68 (lv_at hl 2 rfl) ?_
              refine lv_bipush (v := 100) hx hb dX12_row_70 (by decide) ?_
              refine lv_icmp_ge (tgt := 94) hx hb dX12_row_72 (by decide) (fun c_18 => ?_) (fun c_18 => ?_)
              · have h := it c_18 h
                exact hX1 x4_16 σ_17 _ _ ls h hP hS (lv_sub hl [] rfl)
              · have h := ie c_18 h
                refine lv_aload_n hx hb dX12_row_75 rfl (lv_at hl 0 rfl) ?_
                refine gX12_36 C0 hK hP tw978 dX12_row_76 ?_
                refine lv_bipush (v := 100) hx hb dX12_row_79 (by decide) ?_
                refine lv_iload_n hx hb dX12_row_81 rfl (lv_at hl 1 rfl) ?_
                refine lv_imul hx hb dX12_row_82 ?_
                refine lv_iload hx hb dX12_row_83 (lv_at hl 2 rfl) ?_
                refine lv_iadd hx hb dX12_row_85 ?_
                refine lv_lconst (v := 0) hx hb dX12_row_86 (by decide) ?_
                obtain ⟨i_19, ei_19, h⟩ := bnd_e h
                rw [← ei_19]
                obtain ⟨b_20, h⟩ := ck h
                obtain ⟨σ_21, eσ_21, h⟩ := bnd_e h
                refine mlast (i := 19) (N := 800) C0 hK hP hI hS (by decide) (by decide) rfl b_20 dX12_row_87 (fun H locs hP hS => ?_)
                rw [← eσ_21] at hP
                obtain ⟨x4_22, ex4_22, h⟩ := bnd_e h
                refine lv_iinc (v := x4_22) (lv' := [(4, .int x4_22), (0, .ref (a 0)), (1, .int p1)]) hx hb dX12_row_88 hl (k := 2) rfl (by rw [ex4_22]; rfl) (by decide) rfl (fun ls hl => ?_)
                refine lv_goto (tgt := 68) hx hb dX12_row_91 (by decide) ?_
                exact ih1 x4_22 σ_21 _ _ ls h hP hS (lv_sub hl [1, 2, 0] rfl)
          exact hL1 5000 0 σ_15 _ _ ls h hP hS (lv_sub hl [1, 2, 0] rfl)
        · have h := ie c_9 h
          refine lv_bipush (v := (-14)) hx hb dX12_row_41 (by decide) ?_
          rw [hQ]
          exact xzret C0 hP hS rfl h dX12_row_43
      · have h := ie c_8 h
        refine lv_iconst (v := (-1)) hx hb dX12_row_35 (by decide) ?_
        rw [hQ]
        exact xzret C0 hP hS rfl h dX12_row_36
def f_X12_put (p1 : Int32) (p2 : Int32) (p3 : Int32) (σ : MMem) : Option (Int32 × MMem) :=
  bnd (uI σ 0 9 0) fun (σ_1 : MMem) =>
  b1 (f_X12_wrongRow p1 σ_1) fun r_3 =>
  if 0 ≤ r_3 then
    if p1 < 0 ∨ 8 ≤ p1.toNatClampNeg then none else
    bnd ((((σ_1 18).1 p1.toNatClampNeg) - 1).toInt64) fun (y_6 : Int64) =>
    b1 (f_X12_in p2.toInt64 0 y_6) fun r_8 =>
    if r_8 = 0 then
      some ((-13), σ_1)
    else
      if p1 < 0 ∨ 8 ≤ p1.toNatClampNeg then none else
      bnd ((σ_1 17).1 p1.toNatClampNeg) fun (y_11 : Int32) =>
      b1 (f_X12_narrowed p3 y_11) fun r_13 =>
      bnd ((100 * p1) + p2) fun (i_14 : Int32) =>
      if i_14 < 0 ∨ 800 ≤ i_14.toNatClampNeg then none else
      bnd (uL σ_1 19 i_14.toNatClampNeg r_13) fun (σ_16 : MMem) =>
      some (0, σ_16)
  else
    some (r_3, σ_1)
def rm_X12_put : Room := { frames := 2, cells := 0, slots := 0, locals := 46 }
set_option maxHeartbeats 4000000 in
set_option maxRecDepth 100000 in
theorem c_X12_put {l : Launch} {D : va_G} {ca : Nat → ClassId} {a : Nat → Nat} (hI : InjN 21 a) {p1 : Int32} {p2 : Int32} {p3 : Int32} {σ : MMem} {r : Int32} {σ' : MMem}  (h : f_X12_put p1 p2 p3 σ = some (r, σ')) : XMM l D ca a Bt yX12_put cX12_put 5 (some .int) rm_X12_put [.ref (a 0), .int p1, .int p2, .int p3] σ (some (.int r)) σ' := by
  refine XM.of pn_X12 (Nat.le_of_ble_eq_true rfl) ?_
  intro p e s m args below meth c ls Q hQ C0 hK hB hP hS hl
  have C0 : Cx p s m args meth c RX12 cX12_put 5 (some .int) := C0
  have hx := C0.1
  have hb := C0.2.1
  have hl : lv_has ls 5 [(0, .ref (a 0)), (1, .int p1), (2, .int p2), (3, .int p3)] := hl
  rw [f_X12_put] at h
  refine lv_aload_n hx hb dX12_put_0 rfl (lv_at hl 0 rfl) ?_
  refine lv_iconst (v := 0) hx hb dX12_put_1 (by decide) ?_
  obtain ⟨σ_1, eσ_1, h⟩ := bnd_e h
  refine pX12_9 C0 hK hP tw951 hI hS dX12_put_2 (fun H locs hP hS => ?_)
  rw [← eσ_1] at hP
  refine lv_aload_n hx hb dX12_put_5 rfl (lv_at hl 0 rfl) ?_
  refine lv_iload_n hx hb dX12_put_6 rfl (lv_at hl 1 rfl) ?_
  obtain ⟨r_3, h_2, h⟩ := b1_e h
  refine xcall (rV C0 hK hP hl.1 (fun _ _ _ => trivial) Bt_b (c_X12_wrongRow hI h_2) cv_X12_wrongRow tw1086 (rcX12 hK hP) (rest := []) rfl (Nat.le_of_ble_eq_true rfl) ⟨rfl, rfl, Nat.le_of_ble_eq_true rfl, Nat.le_of_ble_eq_true rfl⟩ ⟨Nat.zero_le _, Nat.zero_le _⟩ dX12_put_7) hS (fun H locs hP hS => ?_)
  refine lv_istore (lv' := [(4, .int r_3), (0, .ref (a 0)), (1, .int p1), (2, .int p2), (3, .int p3)]) hx hb dX12_put_10 hl (by decide) rfl (fun ls hl => ?_)
  refine lv_iload hx hb dX12_put_12 (lv_at hl 0 rfl) ?_
  refine lv_if_ge (tgt := 20) hx hb dX12_put_14 (by decide) (fun c_4 => ?_) (fun c_4 => ?_)
  · have h := it c_4 h
    refine lv_iload_n hx hb dX12_put_20 rfl (lv_at hl 3 rfl) ?_
    refine lv_i2l (v := p2.toInt64) hx hb dX12_put_21 rfl ?_
    refine lv_lconst (v := 0) hx hb dX12_put_22 (by decide) ?_
    refine lv_aload_n hx hb dX12_put_23 rfl (lv_at hl 1 rfl) ?_
    refine gX12_35 C0 hK hP tw977 dX12_put_24 ?_
    refine lv_iload_n hx hb dX12_put_27 rfl (lv_at hl 2 rfl) ?_
    obtain ⟨b_5, h⟩ := ck h
    refine mald (i := 18) (N := 8) C0 hK hP (by decide) (by decide) rfl b_5 dX12_put_28 ?_
    refine lv_iconst (v := 1) hx hb dX12_put_29 (by decide) ?_
    refine lv_isub hx hb dX12_put_30 ?_
    refine lv_i2l (v := (((σ_1 18).1 p1.toNatClampNeg) - 1).toInt64) hx hb dX12_put_31 rfl ?_
    obtain ⟨y_6, ey_6, h⟩ := bnd_e h
    rw [← ey_6]
    obtain ⟨r_8, h_7, h⟩ := b1_e h
    refine xcall (rS C0 hK hP hl.1 (fun _ _ _ => trivial) Bt_b (c_X12_in hI h_7) cs_X12_in tw1091 (rest := []) rfl (Nat.le_of_ble_eq_true rfl) ⟨rfl, rfl, Nat.le_of_ble_eq_true rfl, Nat.le_of_ble_eq_true rfl⟩ ⟨Nat.zero_le _, Nat.zero_le _⟩ dX12_put_32) hS (fun H locs hP hS => ?_)
    refine lv_if_ne (tgt := 41) hx hb dX12_put_35 (by decide) (fun c_9 => ?_) (fun c_9 => ?_)
    · have h := ie c_9 h
      refine lv_aload_n hx hb dX12_put_41 rfl (lv_at hl 1 rfl) ?_
      refine gX12_36 C0 hK hP tw978 dX12_put_42 ?_
      refine lv_bipush (v := 100) hx hb dX12_put_45 (by decide) ?_
      refine lv_iload_n hx hb dX12_put_47 rfl (lv_at hl 2 rfl) ?_
      refine lv_imul hx hb dX12_put_48 ?_
      refine lv_iload_n hx hb dX12_put_49 rfl (lv_at hl 3 rfl) ?_
      refine lv_iadd hx hb dX12_put_50 ?_
      refine lv_iload_n hx hb dX12_put_51 rfl (lv_at hl 4 rfl) ?_
      refine lv_aload_n hx hb dX12_put_52 rfl (lv_at hl 1 rfl) ?_
      refine gX12_34 C0 hK hP tw976 dX12_put_53 ?_
      refine lv_iload_n hx hb dX12_put_56 rfl (lv_at hl 2 rfl) ?_
      obtain ⟨b_10, h⟩ := ck h
      refine mald (i := 17) (N := 8) C0 hK hP (by decide) (by decide) rfl b_10 dX12_put_57 ?_
      obtain ⟨y_11, ey_11, h⟩ := bnd_e h
      rw [← ey_11]
      obtain ⟨r_13, h_12, h⟩ := b1_e h
      refine xcall (rS C0 hK hP hl.1 (fun _ _ _ => trivial) Bt_b (c_X12_narrowed hI h_12) cs_X12_narrowed tw1313 (rest := [.int ((100 * p1) + p2), .ref (a 19)]) rfl (Nat.le_of_ble_eq_true rfl) ⟨rfl, rfl, Nat.le_of_ble_eq_true rfl, Nat.le_of_ble_eq_true rfl⟩ ⟨Nat.zero_le _, Nat.zero_le _⟩ dX12_put_58) hS (fun H locs hP hS => ?_)
      obtain ⟨i_14, ei_14, h⟩ := bnd_e h
      rw [← ei_14]
      obtain ⟨b_15, h⟩ := ck h
      obtain ⟨σ_16, eσ_16, h⟩ := bnd_e h
      refine mlast (i := 19) (N := 800) C0 hK hP hI hS (by decide) (by decide) rfl b_15 dX12_put_61 (fun H locs hP hS => ?_)
      rw [← eσ_16] at hP
      refine lv_iconst (v := 0) hx hb dX12_put_62 (by decide) ?_
      rw [hQ]
      exact xzret C0 hP hS rfl h dX12_put_63
    · have h := it c_9 h
      refine lv_bipush (v := (-13)) hx hb dX12_put_38 (by decide) ?_
      rw [hQ]
      exact xzret C0 hP hS rfl h dX12_put_40
  · have h := ie c_4 h
    refine lv_iload hx hb dX12_put_17 (lv_at hl 0 rfl) ?_
    rw [hQ]
    exact xzret C0 hP hS rfl h dX12_put_19
def f_X12_element (p1 : Int32) (p2 : Int32) (σ : MMem) : Option (Int64 × MMem) :=
  b1 (f_X12_wrongRow p1 σ) fun r_2 =>
  jn (fun (v_3 : Int32) (σ_4 : MMem) =>
    bnd (uI σ_4 0 9 v_3) fun (σ_5 : MMem) =>
    if ((σ_5 0).1 9) ≤ 0 then
      bnd ((100 * p1) + p2) fun (i_7 : Int32) =>
      if i_7 < 0 ∨ 800 ≤ i_7.toNatClampNeg then none else
      some ((σ_5 19).2 i_7.toNatClampNeg, σ_5)
    else
      some (0, σ_5)) fun J43 =>
  if r_2 = (-1) then
    J43 1 σ
  else
    jn (fun (σ_10 : MMem) =>
      J43 2 σ_10) fun J38 =>
    if r_2 < 0 then
      J38 σ
    else
      if p1 < 0 ∨ 8 ≤ p1.toNatClampNeg then none else
      bnd ((((σ 18).1 p1.toNatClampNeg) - 1).toInt64) fun (y_13 : Int64) =>
      b1 (f_X12_in p2.toInt64 0 y_13) fun r_15 =>
      if r_15 = 0 then
        J38 σ
      else
        J43 0 σ
def rm_X12_element : Room := { frames := 2, cells := 0, slots := 0, locals := 46 }
set_option maxHeartbeats 4000000 in
set_option maxRecDepth 100000 in
theorem c_X12_element {l : Launch} {D : va_G} {ca : Nat → ClassId} {a : Nat → Nat} (hI : InjN 21 a) {p1 : Int32} {p2 : Int32} {σ : MMem} {r : Int64} {σ' : MMem}  (h : f_X12_element p1 p2 σ = some (r, σ')) : XMM l D ca a Bt yX12_element cX12_element 4 (some .long) rm_X12_element [.ref (a 0), .int p1, .int p2] σ (some (.long r)) σ' := by
  refine XM.of pn_X12 (Nat.le_of_ble_eq_true rfl) ?_
  intro p e s m args below meth c ls Q hQ C0 hK hB hP hS hl
  have C0 : Cx p s m args meth c RX12 cX12_element 4 (some .long) := C0
  have hx := C0.1
  have hb := C0.2.1
  have hl : lv_has ls 4 [(0, .ref (a 0)), (1, .int p1), (2, .int p2)] := hl
  rw [f_X12_element] at h
  refine lv_aload_n hx hb dX12_element_0 rfl (lv_at hl 0 rfl) ?_
  refine lv_iload_n hx hb dX12_element_1 rfl (lv_at hl 1 rfl) ?_
  obtain ⟨r_2, h_1, h⟩ := b1_e h
  refine xcall (rV C0 hK hP hl.1 (fun _ _ _ => trivial) Bt_b (c_X12_wrongRow hI h_1) cv_X12_wrongRow tw1086 (rcX12 hK hP) (rest := []) rfl (Nat.le_of_ble_eq_true rfl) ⟨rfl, rfl, Nat.le_of_ble_eq_true rfl, Nat.le_of_ble_eq_true rfl⟩ ⟨Nat.zero_le _, Nat.zero_le _⟩ dX12_element_2) hS (fun H locs hP hS => ?_)
  refine lv_istore_n (lv' := [(3, .int r_2), (0, .ref (a 0)), (1, .int p1), (2, .int p2)]) hx hb dX12_element_5 rfl hl (by decide) rfl (fun ls hl => ?_)
  refine lv_aload_n hx hb dX12_element_6 rfl (lv_at hl 1 rfl) ?_
  refine lv_iload_n hx hb dX12_element_7 rfl (lv_at hl 0 rfl) ?_
  refine lv_iconst (v := (-1)) hx hb dX12_element_8 (by decide) ?_
  obtain ⟨J43, eJ43, h⟩ := jn_e h
  have hJ43 : ∀ (v_3 : Int32) (σ_4 : MMem) (H : Heap) (locs : List Loc) (ls : Array Slot), J43 v_3 σ_4 = some (r, σ') → va_P D vwCl (wM ca a σ_4) H → va_S (AW 21 a) s.heap H locs → lv_has ls 4 [(0, .ref (a 0)), (1, .int p1), (2, .int p2)] → W p l e rm_X12_element s m args below meth c H locs 0 0 Q (F0 m 43 ls [.int v_3, .ref (a 0)]) := by
    intro v_3 σ_4 H locs ls h hP hS hl
    have h := ap2 eJ43 h
    obtain ⟨σ_5, eσ_5, h⟩ := bnd_e h
    refine pX12_9 C0 hK hP tw951 hI hS dX12_element_43 (fun H locs hP hS => ?_)
    rw [← eσ_5] at hP
    refine lv_aload_n hx hb dX12_element_46 rfl (lv_at hl 0 rfl) ?_
    refine gX12_9 C0 hK hP tw951 dX12_element_47 ?_
    refine lv_if_le (tgt := 57) hx hb dX12_element_50 (by decide) (fun c_6 => ?_) (fun c_6 => ?_)
    · have h := it c_6 h
      refine lv_aload_n hx hb dX12_element_57 rfl (lv_at hl 0 rfl) ?_
      refine gX12_36 C0 hK hP tw978 dX12_element_58 ?_
      refine lv_bipush (v := 100) hx hb dX12_element_61 (by decide) ?_
      refine lv_iload_n hx hb dX12_element_63 rfl (lv_at hl 1 rfl) ?_
      refine lv_imul hx hb dX12_element_64 ?_
      refine lv_iload_n hx hb dX12_element_65 rfl (lv_at hl 2 rfl) ?_
      refine lv_iadd hx hb dX12_element_66 ?_
      obtain ⟨i_7, ei_7, h⟩ := bnd_e h
      refine nm_i ei_7 ?_
      obtain ⟨b_8, h⟩ := ck h
      refine mlald (i := 19) (N := 800) C0 hK hP (by decide) (by decide) rfl b_8 dX12_element_67 ?_
      rw [hQ]
      exact xlret C0 hP hS h dX12_element_68
    · have h := ie c_6 h
      refine lv_lconst (v := 0) hx hb dX12_element_53 (by decide) ?_
      refine lv_goto (tgt := 68) hx hb dX12_element_54 (by decide) ?_
      rw [hQ]
      exact xlret C0 hP hS h dX12_element_68
  refine lv_icmp_ne (tgt := 16) hx hb dX12_element_9 (by decide) (fun c_9 => ?_) (fun c_9 => ?_)
  · have h := ie c_9 h
    refine lv_iload_n hx hb dX12_element_16 rfl (lv_at hl 0 rfl) ?_
    obtain ⟨J38, eJ38, h⟩ := jn_e h
    have hJ38 : ∀ (σ_10 : MMem) (H : Heap) (locs : List Loc) (ls : Array Slot), J38 σ_10 = some (r, σ') → va_P D vwCl (wM ca a σ_10) H → va_S (AW 21 a) s.heap H locs → lv_has ls 4 [(0, .ref (a 0)), (1, .int p1), (2, .int p2)] → W p l e rm_X12_element s m args below meth c H locs 0 0 Q (F0 m 38 ls [.ref (a 0)]) := by
      intro σ_10 H locs ls h hP hS hl
      have h := ap1 eJ38 h
      refine lv_iconst (v := 2) hx hb dX12_element_38 (by decide) ?_
      refine lv_goto (tgt := 43) hx hb dX12_element_39 (by decide) ?_
      exact hJ43 2 σ_10 _ _ ls h hP hS (lv_sub hl [0, 1, 2] rfl)
    refine lv_if_lt (tgt := 38) hx hb dX12_element_17 (by decide) (fun c_11 => ?_) (fun c_11 => ?_)
    · have h := it c_11 h
      exact hJ38 σ _ _ ls h hP hS (lv_sub hl [1, 2, 3] rfl)
    · have h := ie c_11 h
      refine lv_iload_n hx hb dX12_element_20 rfl (lv_at hl 3 rfl) ?_
      refine lv_i2l (v := p2.toInt64) hx hb dX12_element_21 rfl ?_
      refine lv_lconst (v := 0) hx hb dX12_element_22 (by decide) ?_
      refine lv_aload_n hx hb dX12_element_23 rfl (lv_at hl 1 rfl) ?_
      refine gX12_35 C0 hK hP tw977 dX12_element_24 ?_
      refine lv_iload_n hx hb dX12_element_27 rfl (lv_at hl 2 rfl) ?_
      obtain ⟨b_12, h⟩ := ck h
      refine mald (i := 18) (N := 8) C0 hK hP (by decide) (by decide) rfl b_12 dX12_element_28 ?_
      refine lv_iconst (v := 1) hx hb dX12_element_29 (by decide) ?_
      refine lv_isub hx hb dX12_element_30 ?_
      refine lv_i2l (v := (((σ 18).1 p1.toNatClampNeg) - 1).toInt64) hx hb dX12_element_31 rfl ?_
      obtain ⟨y_13, ey_13, h⟩ := bnd_e h
      rw [← ey_13]
      obtain ⟨r_15, h_14, h⟩ := b1_e h
      refine xcall (rS C0 hK hP hl.1 (fun _ _ _ => trivial) Bt_b (c_X12_in hI h_14) cs_X12_in tw1091 (rest := [.ref (a 0)]) rfl (Nat.le_of_ble_eq_true rfl) ⟨rfl, rfl, Nat.le_of_ble_eq_true rfl, Nat.le_of_ble_eq_true rfl⟩ ⟨Nat.zero_le _, Nat.zero_le _⟩ dX12_element_32) hS (fun H locs hP hS => ?_)
      refine lv_if_ne (tgt := 42) hx hb dX12_element_35 (by decide) (fun c_16 => ?_) (fun c_16 => ?_)
      · have h := ie c_16 h
        refine lv_iconst (v := 0) hx hb dX12_element_42 (by decide) ?_
        exact hJ43 0 σ _ _ ls h hP hS (lv_sub hl [1, 2, 3] rfl)
      · have h := it c_16 h
        exact hJ38 σ _ _ ls h hP hS (lv_sub hl [1, 2, 3] rfl)
  · have h := it c_9 h
    refine lv_iconst (v := 1) hx hb dX12_element_12 (by decide) ?_
    refine lv_goto (tgt := 43) hx hb dX12_element_13 (by decide) ?_
    exact hJ43 1 σ _ _ ls h hP hS (lv_sub hl [1, 2, 3] rfl)
def f_X12_copy_L174 (p3 : Int32) (p4 : Int32) (p5 : Int32) : Nat → Int32 → MMem → (Int32 → MMem → Option (Int32 × MMem)) → Option (Int32 × MMem)
  | 0, _, _, _ => none
  | n + 1, x6_37, σ_38, K2 =>
    if p5 ≤ x6_37 then
      K2 x6_37 σ_38
    else
      if x6_37 < 0 ∨ 100 ≤ x6_37.toNatClampNeg then none else
      bnd ((σ_38 20).2 x6_37.toNatClampNeg) fun (y_41 : Int64) =>
      bnd (((100 * p3) + p4) + x6_37) fun (i_42 : Int32) =>
      if i_42 < 0 ∨ 800 ≤ i_42.toNatClampNeg then none else
      bnd (uL σ_38 19 i_42.toNatClampNeg y_41) fun (σ_44 : MMem) =>
      bnd (x6_37 + 1) fun (x6_45 : Int32) =>
      f_X12_copy_L174 p3 p4 p5 n x6_45 σ_44 K2
def f_X12_copy_L137 (p1 : Int32) (p2 : Int32) (p5 : Int32) : Nat → Int32 → MMem → (Int32 → MMem → Option (Int32 × MMem)) → Option (Int32 × MMem)
  | 0, _, _, _ => none
  | n + 1, x6_26, σ_27, K1 =>
    if p5 ≤ x6_26 then
      K1 x6_26 σ_27
    else
      bnd (((100 * p1) + p2) + x6_26) fun (i_29 : Int32) =>
      if i_29 < 0 ∨ 800 ≤ i_29.toNatClampNeg then none else
      bnd ((σ_27 19).2 i_29.toNatClampNeg) fun (y_31 : Int64) =>
      if x6_26 < 0 ∨ 100 ≤ x6_26.toNatClampNeg then none else
      bnd (uL σ_27 20 x6_26.toNatClampNeg y_31) fun (σ_33 : MMem) =>
      bnd (x6_26 + 1) fun (x6_34 : Int32) =>
      f_X12_copy_L137 p1 p2 p5 n x6_34 σ_33 K1
def f_X12_copy (p1 : Int32) (p2 : Int32) (p3 : Int32) (p4 : Int32) (p5 : Int32) (σ : MMem) : Option (Int32 × MMem) :=
  bnd (uI σ 0 9 0) fun (σ_1 : MMem) =>
  b1 (f_X12_in p1.toInt64 0 7) fun r_3 =>
  if r_3 = 0 then
    some ((-1), σ_1)
  else
    b1 (f_X12_in p3.toInt64 0 7) fun r_6 =>
    if r_6 = 0 then
      some ((-1), σ_1)
    else
      if p1 < 0 ∨ 8 ≤ p1.toNatClampNeg then none else
      if ((σ_1 14).1 p1.toNatClampNeg) = 0 then
        some ((-11), σ_1)
      else
        if p3 < 0 ∨ 8 ≤ p3.toNatClampNeg then none else
        if ((σ_1 14).1 p3.toNatClampNeg) = 0 then
          some ((-11), σ_1)
        else
          if p1 < 0 ∨ 8 ≤ p1.toNatClampNeg then none else
          if ((σ_1 14).1 p1.toNatClampNeg) = 2 then
            if p3 < 0 ∨ 8 ≤ p3.toNatClampNeg then none else
            if ((σ_1 14).1 p3.toNatClampNeg) = 2 then
              if p1 < 0 ∨ 8 ≤ p1.toNatClampNeg then none else
              if p3 < 0 ∨ 8 ≤ p3.toNatClampNeg then none else
              if ((σ_1 17).1 p1.toNatClampNeg) = ((σ_1 17).1 p3.toNatClampNeg) then
                if p5 < 0 then
                  some ((-13), σ_1)
                else
                  if p2 < 0 then
                    some ((-13), σ_1)
                  else
                    if p4 < 0 then
                      some ((-13), σ_1)
                    else
                      if p1 < 0 ∨ 8 ≤ p1.toNatClampNeg then none else
                      if (((σ_1 18).1 p1.toNatClampNeg) - p5) < p2 then
                        some ((-13), σ_1)
                      else
                        if p3 < 0 ∨ 8 ≤ p3.toNatClampNeg then none else
                        if p4 ≤ (((σ_1 18).1 p3.toNatClampNeg) - p5) then
                          f_X12_copy_L137 p1 p2 p5 5000 0 σ_1 fun (u_35 : Int32) (σ_36 : MMem) =>
                            f_X12_copy_L174 p3 p4 p5 5000 0 σ_36 fun (u_46 : Int32) (σ_47 : MMem) =>
                              some (p5, σ_47)
                        else
                          some ((-13), σ_1)
              else
                some ((-12), σ_1)
            else
              some ((-12), σ_1)
          else
            some ((-12), σ_1)
def rm_X12_copy : Room := { frames := 1, cells := 0, slots := 0, locals := 25 }
set_option maxHeartbeats 4000000 in
set_option maxRecDepth 100000 in
theorem c_X12_copy {l : Launch} {D : va_G} {ca : Nat → ClassId} {a : Nat → Nat} (hI : InjN 21 a) {p1 : Int32} {p2 : Int32} {p3 : Int32} {p4 : Int32} {p5 : Int32} {σ : MMem} {r : Int32} {σ' : MMem}  (h : f_X12_copy p1 p2 p3 p4 p5 σ = some (r, σ')) : XMM l D ca a Bt yX12_copy cX12_copy 7 (some .int) rm_X12_copy [.ref (a 0), .int p1, .int p2, .int p3, .int p4, .int p5] σ (some (.int r)) σ' := by
  refine XM.of pn_X12 (Nat.le_of_ble_eq_true rfl) ?_
  intro p e s m args below meth c ls Q hQ C0 hK hB hP hS hl
  have C0 : Cx p s m args meth c RX12 cX12_copy 7 (some .int) := C0
  have hx := C0.1
  have hb := C0.2.1
  have hl : lv_has ls 7 [(0, .ref (a 0)), (1, .int p1), (2, .int p2), (3, .int p3), (4, .int p4), (5, .int p5)] := hl
  rw [f_X12_copy] at h
  refine lv_aload_n hx hb dX12_copy_0 rfl (lv_at hl 0 rfl) ?_
  refine lv_iconst (v := 0) hx hb dX12_copy_1 (by decide) ?_
  obtain ⟨σ_1, eσ_1, h⟩ := bnd_e h
  refine pX12_9 C0 hK hP tw951 hI hS dX12_copy_2 (fun H locs hP hS => ?_)
  rw [← eσ_1] at hP
  refine lv_iload_n hx hb dX12_copy_5 rfl (lv_at hl 1 rfl) ?_
  refine lv_i2l (v := p1.toInt64) hx hb dX12_copy_6 rfl ?_
  refine lv_lconst (v := 0) hx hb dX12_copy_7 (by decide) ?_
  refine lv_ldc2 (v := 7) hx hb C0.2.2.2.1 (C0.2.2.2.2.1 _ tw1090) dX12_copy_8 ?_
  obtain ⟨r_3, h_2, h⟩ := b1_e h
  refine xcall (rS C0 hK hP hl.1 (fun _ _ _ => trivial) Bt_b (c_X12_in hI h_2) cs_X12_in tw1091 (rest := []) rfl (Nat.le_of_ble_eq_true rfl) ⟨rfl, rfl, Nat.le_of_ble_eq_true rfl, Nat.le_of_ble_eq_true rfl⟩ ⟨Nat.zero_le _, Nat.zero_le _⟩ dX12_copy_11) hS (fun H locs hP hS => ?_)
  refine lv_if_eq (tgt := 29) hx hb dX12_copy_14 (by decide) (fun c_4 => ?_) (fun c_4 => ?_)
  · have h := it c_4 h
    refine lv_iconst (v := (-1)) hx hb dX12_copy_29 (by decide) ?_
    rw [hQ]
    exact xzret C0 hP hS rfl h dX12_copy_30
  · have h := ie c_4 h
    refine lv_iload_n hx hb dX12_copy_17 rfl (lv_at hl 3 rfl) ?_
    refine lv_i2l (v := p3.toInt64) hx hb dX12_copy_18 rfl ?_
    refine lv_lconst (v := 0) hx hb dX12_copy_19 (by decide) ?_
    refine lv_ldc2 (v := 7) hx hb C0.2.2.2.1 (C0.2.2.2.2.1 _ tw1090) dX12_copy_20 ?_
    obtain ⟨r_6, h_5, h⟩ := b1_e h
    refine xcall (rS C0 hK hP hl.1 (fun _ _ _ => trivial) Bt_b (c_X12_in hI h_5) cs_X12_in tw1091 (rest := []) rfl (Nat.le_of_ble_eq_true rfl) ⟨rfl, rfl, Nat.le_of_ble_eq_true rfl, Nat.le_of_ble_eq_true rfl⟩ ⟨Nat.zero_le _, Nat.zero_le _⟩ dX12_copy_23) hS (fun H locs hP hS => ?_)
    refine lv_if_ne (tgt := 31) hx hb dX12_copy_26 (by decide) (fun c_7 => ?_) (fun c_7 => ?_)
    · have h := ie c_7 h
      refine lv_aload_n hx hb dX12_copy_31 rfl (lv_at hl 0 rfl) ?_
      refine gX12_31 C0 hK hP tw973 dX12_copy_32 ?_
      refine lv_iload_n hx hb dX12_copy_35 rfl (lv_at hl 1 rfl) ?_
      obtain ⟨b_8, h⟩ := ck h
      refine mald (i := 14) (N := 8) C0 hK hP (by decide) (by decide) rfl b_8 dX12_copy_36 ?_
      refine lv_if_eq (tgt := 49) hx hb dX12_copy_37 (by decide) (fun c_9 => ?_) (fun c_9 => ?_)
      · have h := it c_9 h
        refine lv_bipush (v := (-11)) hx hb dX12_copy_49 (by decide) ?_
        rw [hQ]
        exact xzret C0 hP hS rfl h dX12_copy_51
      · have h := ie c_9 h
        refine lv_aload_n hx hb dX12_copy_40 rfl (lv_at hl 0 rfl) ?_
        refine gX12_31 C0 hK hP tw973 dX12_copy_41 ?_
        refine lv_iload_n hx hb dX12_copy_44 rfl (lv_at hl 3 rfl) ?_
        obtain ⟨b_10, h⟩ := ck h
        refine mald (i := 14) (N := 8) C0 hK hP (by decide) (by decide) rfl b_10 dX12_copy_45 ?_
        refine lv_if_ne (tgt := 52) hx hb dX12_copy_46 (by decide) (fun c_11 => ?_) (fun c_11 => ?_)
        · have h := ie c_11 h
          refine lv_aload_n hx hb dX12_copy_52 rfl (lv_at hl 0 rfl) ?_
          refine gX12_31 C0 hK hP tw973 dX12_copy_53 ?_
          refine lv_iload_n hx hb dX12_copy_56 rfl (lv_at hl 1 rfl) ?_
          obtain ⟨b_12, h⟩ := ck h
          refine mald (i := 14) (N := 8) C0 hK hP (by decide) (by decide) rfl b_12 dX12_copy_57 ?_
          refine lv_iconst (v := 2) hx hb dX12_copy_58 (by decide) ?_
          refine lv_icmp_ne (tgt := 87) hx hb dX12_copy_59 (by decide) (fun c_13 => ?_) (fun c_13 => ?_)
          · have h := ie c_13 h
            refine lv_bipush (v := (-12)) hx hb dX12_copy_87 (by decide) ?_
            rw [hQ]
            exact xzret C0 hP hS rfl h dX12_copy_89
          · have h := it c_13 h
            refine lv_aload_n hx hb dX12_copy_62 rfl (lv_at hl 0 rfl) ?_
            refine gX12_31 C0 hK hP tw973 dX12_copy_63 ?_
            refine lv_iload_n hx hb dX12_copy_66 rfl (lv_at hl 3 rfl) ?_
            obtain ⟨b_14, h⟩ := ck h
            refine mald (i := 14) (N := 8) C0 hK hP (by decide) (by decide) rfl b_14 dX12_copy_67 ?_
            refine lv_iconst (v := 2) hx hb dX12_copy_68 (by decide) ?_
            refine lv_icmp_ne (tgt := 87) hx hb dX12_copy_69 (by decide) (fun c_15 => ?_) (fun c_15 => ?_)
            · have h := ie c_15 h
              refine lv_bipush (v := (-12)) hx hb dX12_copy_87 (by decide) ?_
              rw [hQ]
              exact xzret C0 hP hS rfl h dX12_copy_89
            · have h := it c_15 h
              refine lv_aload_n hx hb dX12_copy_72 rfl (lv_at hl 0 rfl) ?_
              refine gX12_34 C0 hK hP tw976 dX12_copy_73 ?_
              refine lv_iload_n hx hb dX12_copy_76 rfl (lv_at hl 1 rfl) ?_
              obtain ⟨b_16, h⟩ := ck h
              refine mald (i := 17) (N := 8) C0 hK hP (by decide) (by decide) rfl b_16 dX12_copy_77 ?_
              refine lv_aload_n hx hb dX12_copy_78 rfl (lv_at hl 0 rfl) ?_
              refine gX12_34 C0 hK hP tw976 dX12_copy_79 ?_
              refine lv_iload_n hx hb dX12_copy_82 rfl (lv_at hl 3 rfl) ?_
              obtain ⟨b_17, h⟩ := ck h
              refine mald (i := 17) (N := 8) C0 hK hP (by decide) (by decide) rfl b_17 dX12_copy_83 ?_
              refine lv_icmp_eq (tgt := 90) hx hb dX12_copy_84 (by decide) (fun c_18 => ?_) (fun c_18 => ?_)
              · have h := it c_18 h
                refine lv_iload hx hb dX12_copy_90 (lv_at hl 5 rfl) ?_
                refine lv_if_lt (tgt := 131) hx hb dX12_copy_92 (by decide) (fun c_19 => ?_) (fun c_19 => ?_)
                · have h := it c_19 h
                  refine lv_bipush (v := (-13)) hx hb dX12_copy_131 (by decide) ?_
                  rw [hQ]
                  exact xzret C0 hP hS rfl h dX12_copy_133
                · have h := ie c_19 h
                  refine lv_iload_n hx hb dX12_copy_95 rfl (lv_at hl 2 rfl) ?_
                  refine lv_if_lt (tgt := 131) hx hb dX12_copy_96 (by decide) (fun c_20 => ?_) (fun c_20 => ?_)
                  · have h := it c_20 h
                    refine lv_bipush (v := (-13)) hx hb dX12_copy_131 (by decide) ?_
                    rw [hQ]
                    exact xzret C0 hP hS rfl h dX12_copy_133
                  · have h := ie c_20 h
                    refine lv_iload hx hb dX12_copy_99 (lv_at hl 4 rfl) ?_
                    refine lv_if_lt (tgt := 131) hx hb dX12_copy_101 (by decide) (fun c_21 => ?_) (fun c_21 => ?_)
                    · have h := it c_21 h
                      refine lv_bipush (v := (-13)) hx hb dX12_copy_131 (by decide) ?_
                      rw [hQ]
                      exact xzret C0 hP hS rfl h dX12_copy_133
                    · have h := ie c_21 h
                      refine lv_iload_n hx hb dX12_copy_104 rfl (lv_at hl 2 rfl) ?_
                      refine lv_aload_n hx hb dX12_copy_105 rfl (lv_at hl 0 rfl) ?_
                      refine gX12_35 C0 hK hP tw977 dX12_copy_106 ?_
                      refine lv_iload_n hx hb dX12_copy_109 rfl (lv_at hl 1 rfl) ?_
                      obtain ⟨b_22, h⟩ := ck h
                      refine mald (i := 18) (N := 8) C0 hK hP (by decide) (by decide) rfl b_22 dX12_copy_110 ?_
                      refine lv_iload hx hb dX12_copy_111 (lv_at hl 5 rfl) ?_
                      refine lv_isub hx hb dX12_copy_113 ?_
                      refine lv_icmp_gt (tgt := 131) hx hb dX12_copy_114 (by decide) (fun c_23 => ?_) (fun c_23 => ?_)
                      · have h := it c_23 h
                        refine lv_bipush (v := (-13)) hx hb dX12_copy_131 (by decide) ?_
                        rw [hQ]
                        exact xzret C0 hP hS rfl h dX12_copy_133
                      · have h := ie c_23 h
                        refine lv_iload hx hb dX12_copy_117 (lv_at hl 4 rfl) ?_
                        refine lv_aload_n hx hb dX12_copy_119 rfl (lv_at hl 0 rfl) ?_
                        refine gX12_35 C0 hK hP tw977 dX12_copy_120 ?_
                        refine lv_iload_n hx hb dX12_copy_123 rfl (lv_at hl 3 rfl) ?_
                        obtain ⟨b_24, h⟩ := ck h
                        refine mald (i := 18) (N := 8) C0 hK hP (by decide) (by decide) rfl b_24 dX12_copy_124 ?_
                        refine lv_iload hx hb dX12_copy_125 (lv_at hl 5 rfl) ?_
                        refine lv_isub hx hb dX12_copy_127 ?_
                        refine lv_icmp_le (tgt := 134) hx hb dX12_copy_128 (by decide) (fun c_25 => ?_) (fun c_25 => ?_)
                        · have h := it c_25 h
                          refine lv_iconst (v := 0) hx hb dX12_copy_134 (by decide) ?_
                          refine lv_istore (lv' := [(6, .int 0), (0, .ref (a 0)), (1, .int p1), (2, .int p2), (3, .int p3), (4, .int p4), (5, .int p5)]) hx hb dX12_copy_135 hl (by decide) rfl (fun ls hl => ?_)
                          obtain ⟨K1, eK1, h⟩ := lp_e (f := fun K => f_X12_copy_L137 p1 p2 p5 5000 0 σ_1 K) h
                          have h : f_X12_copy_L137 p1 p2 p5 5000 0 σ_1 K1 = some (r, σ') := h
                          have hX1 : ∀ (u_35 : Int32) (σ_36 : MMem) (H : Heap) (locs : List Loc) (ls : Array Slot), K1 u_35 σ_36 = some (r, σ') → va_P D vwCl (wM ca a σ_36) H → va_S (AW 21 a) s.heap H locs → lv_has ls 7 [(0, .ref (a 0)), (3, .int p3), (4, .int p4), (5, .int p5)] → W p l e rm_X12_copy s m args below meth c H locs 0 0 Q (F0 m 171 ls []) := by
                            intro u_35 σ_36 H locs ls h hP hS hl
                            have h := ap2 eK1 h
                            refine lv_iconst (v := 0) hx hb dX12_copy_171 (by decide) ?_
                            refine lv_istore (lv' := [(6, .int 0), (0, .ref (a 0)), (3, .int p3), (4, .int p4), (5, .int p5)]) hx hb dX12_copy_172 hl (by decide) rfl (fun ls hl => ?_)
                            obtain ⟨K2, eK2, h⟩ := lp_e (f := fun K => f_X12_copy_L174 p3 p4 p5 5000 0 σ_36 K) h
                            have h : f_X12_copy_L174 p3 p4 p5 5000 0 σ_36 K2 = some (r, σ') := h
                            have hX2 : ∀ (u_46 : Int32) (σ_47 : MMem) (H : Heap) (locs : List Loc) (ls : Array Slot), K2 u_46 σ_47 = some (r, σ') → va_P D vwCl (wM ca a σ_47) H → va_S (AW 21 a) s.heap H locs → lv_has ls 7 [(5, .int p5)] → W p l e rm_X12_copy s m args below meth c H locs 0 0 Q (F0 m 209 ls []) := by
                              intro u_46 σ_47 H locs ls h hP hS hl
                              have h := ap2 eK2 h
                              refine lv_iload hx hb dX12_copy_209 (lv_at hl 0 rfl) ?_
                              rw [hQ]
                              exact xzret C0 hP hS rfl h dX12_copy_211
                            have hL2 : ∀ (n : Nat) (x6_37 : Int32) (σ_38 : MMem) (H : Heap) (locs : List Loc) (ls : Array Slot), f_X12_copy_L174 p3 p4 p5 n x6_37 σ_38 K2 = some (r, σ') → va_P D vwCl (wM ca a σ_38) H → va_S (AW 21 a) s.heap H locs → lv_has ls 7 [(0, .ref (a 0)), (3, .int p3), (4, .int p4), (5, .int p5), (6, .int x6_37)] → W p l e rm_X12_copy s m args below meth c H locs 0 0 Q (F0 m 174 ls []) := by
                              intro n
                              induction n with
                              | zero => intro x6_37 σ_38 H locs ls h; rw [f_X12_copy_L174] at h; cases h
                              | succ n ih2 =>
                                intro x6_37 σ_38 H locs ls h hP hS hl
                                rw [f_X12_copy_L174] at h
                                refine lv_iload hx hb dX12_copy_174 (lv_at hl 4 rfl) ?_
                                refine lv_iload hx hb dX12_copy_176 (lv_at hl 3 rfl) ?_
                                refine lv_icmp_ge (tgt := 209) hx hb dX12_copy_178 (by decide) (fun c_39 => ?_) (fun c_39 => ?_)
                                · have h := it c_39 h
                                  exact hX2 x6_37 σ_38 _ _ ls h hP hS (lv_sub hl [3] rfl)
                                · have h := ie c_39 h
                                  refine lv_aload_n hx hb dX12_copy_181 rfl (lv_at hl 0 rfl) ?_
                                  refine gX12_36 C0 hK hP tw978 dX12_copy_182 ?_
                                  refine lv_bipush (v := 100) hx hb dX12_copy_185 (by decide) ?_
                                  refine lv_iload_n hx hb dX12_copy_187 rfl (lv_at hl 1 rfl) ?_
                                  refine lv_imul hx hb dX12_copy_188 ?_
                                  refine lv_iload hx hb dX12_copy_189 (lv_at hl 2 rfl) ?_
                                  refine lv_iadd hx hb dX12_copy_191 ?_
                                  refine lv_iload hx hb dX12_copy_192 (lv_at hl 4 rfl) ?_
                                  refine lv_iadd hx hb dX12_copy_194 ?_
                                  refine lv_aload_n hx hb dX12_copy_195 rfl (lv_at hl 0 rfl) ?_
                                  refine gX12_37 C0 hK hP tw979 dX12_copy_196 ?_
                                  refine lv_iload hx hb dX12_copy_199 (lv_at hl 4 rfl) ?_
                                  obtain ⟨b_40, h⟩ := ck h
                                  refine mlald (i := 20) (N := 100) C0 hK hP (by decide) (by decide) rfl b_40 dX12_copy_201 ?_
                                  obtain ⟨y_41, ey_41, h⟩ := bnd_e h
                                  refine nm_l ey_41 ?_
                                  obtain ⟨i_42, ei_42, h⟩ := bnd_e h
                                  rw [← ei_42]
                                  obtain ⟨b_43, h⟩ := ck h
                                  obtain ⟨σ_44, eσ_44, h⟩ := bnd_e h
                                  refine mlast (i := 19) (N := 800) C0 hK hP hI hS (by decide) (by decide) rfl b_43 dX12_copy_202 (fun H locs hP hS => ?_)
                                  rw [← eσ_44] at hP
                                  obtain ⟨x6_45, ex6_45, h⟩ := bnd_e h
                                  refine lv_iinc (v := x6_45) (lv' := [(6, .int x6_45), (0, .ref (a 0)), (3, .int p3), (4, .int p4), (5, .int p5)]) hx hb dX12_copy_203 hl (k := 4) rfl (by rw [ex6_45]; rfl) (by decide) rfl (fun ls hl => ?_)
                                  refine lv_goto (tgt := 174) hx hb dX12_copy_206 (by decide) ?_
                                  exact ih2 x6_45 σ_44 _ _ ls h hP hS (lv_sub hl [1, 2, 3, 4, 0] rfl)
                            exact hL2 5000 0 σ_36 _ _ ls h hP hS (lv_sub hl [1, 2, 3, 4, 0] rfl)
                          have hL1 : ∀ (n : Nat) (x6_26 : Int32) (σ_27 : MMem) (H : Heap) (locs : List Loc) (ls : Array Slot), f_X12_copy_L137 p1 p2 p5 n x6_26 σ_27 K1 = some (r, σ') → va_P D vwCl (wM ca a σ_27) H → va_S (AW 21 a) s.heap H locs → lv_has ls 7 [(0, .ref (a 0)), (1, .int p1), (2, .int p2), (3, .int p3), (4, .int p4), (5, .int p5), (6, .int x6_26)] → W p l e rm_X12_copy s m args below meth c H locs 0 0 Q (F0 m 137 ls []) := by
                            intro n
                            induction n with
                            | zero => intro x6_26 σ_27 H locs ls h; rw [f_X12_copy_L137] at h; cases h
                            | succ n ih1 =>
                              intro x6_26 σ_27 H locs ls h hP hS hl
                              rw [f_X12_copy_L137] at h
                              refine lv_iload hx hb dX12_copy_137 (lv_at hl 6 rfl) ?_
                              refine lv_iload hx hb dX12_copy_139 (lv_at hl 5 rfl) ?_
                              refine lv_icmp_ge (tgt := 171) hx hb dX12_copy_141 (by decide) (fun c_28 => ?_) (fun c_28 => ?_)
                              · have h := it c_28 h
                                exact hX1 x6_26 σ_27 _ _ ls h hP hS (lv_sub hl [0, 3, 4, 5] rfl)
                              · have h := ie c_28 h
                                refine lv_aload_n hx hb dX12_copy_144 rfl (lv_at hl 0 rfl) ?_
                                refine gX12_37 C0 hK hP tw979 dX12_copy_145 ?_
                                refine lv_iload hx hb dX12_copy_148 (lv_at hl 6 rfl) ?_
                                refine lv_aload_n hx hb dX12_copy_150 rfl (lv_at hl 0 rfl) ?_
                                refine gX12_36 C0 hK hP tw978 dX12_copy_151 ?_
                                refine lv_bipush (v := 100) hx hb dX12_copy_154 (by decide) ?_
                                refine lv_iload_n hx hb dX12_copy_156 rfl (lv_at hl 1 rfl) ?_
                                refine lv_imul hx hb dX12_copy_157 ?_
                                refine lv_iload_n hx hb dX12_copy_158 rfl (lv_at hl 2 rfl) ?_
                                refine lv_iadd hx hb dX12_copy_159 ?_
                                refine lv_iload hx hb dX12_copy_160 (lv_at hl 6 rfl) ?_
                                refine lv_iadd hx hb dX12_copy_162 ?_
                                obtain ⟨i_29, ei_29, h⟩ := bnd_e h
                                refine nm_i ei_29 ?_
                                obtain ⟨b_30, h⟩ := ck h
                                refine mlald (i := 19) (N := 800) C0 hK hP (by decide) (by decide) rfl b_30 dX12_copy_163 ?_
                                obtain ⟨y_31, ey_31, h⟩ := bnd_e h
                                refine nm_l ey_31 ?_
                                obtain ⟨b_32, h⟩ := ck h
                                obtain ⟨σ_33, eσ_33, h⟩ := bnd_e h
                                refine mlast (i := 20) (N := 100) C0 hK hP hI hS (by decide) (by decide) rfl b_32 dX12_copy_164 (fun H locs hP hS => ?_)
                                rw [← eσ_33] at hP
                                obtain ⟨x6_34, ex6_34, h⟩ := bnd_e h
                                refine lv_iinc (v := x6_34) (lv' := [(6, .int x6_34), (0, .ref (a 0)), (1, .int p1), (2, .int p2), (3, .int p3), (4, .int p4), (5, .int p5)]) hx hb dX12_copy_165 hl (k := 6) rfl (by rw [ex6_34]; rfl) (by decide) rfl (fun ls hl => ?_)
                                refine lv_goto (tgt := 137) hx hb dX12_copy_168 (by decide) ?_
                                exact ih1 x6_34 σ_33 _ _ ls h hP hS (lv_sub hl [1, 2, 3, 4, 5, 6, 0] rfl)
                          exact hL1 5000 0 σ_1 _ _ ls h hP hS (lv_sub hl [1, 2, 3, 4, 5, 6, 0] rfl)
                        · have h := ie c_25 h
                          refine lv_bipush (v := (-13)) hx hb dX12_copy_131 (by decide) ?_
                          rw [hQ]
                          exact xzret C0 hP hS rfl h dX12_copy_133
              · have h := ie c_18 h
                refine lv_bipush (v := (-12)) hx hb dX12_copy_87 (by decide) ?_
                rw [hQ]
                exact xzret C0 hP hS rfl h dX12_copy_89
        · have h := it c_11 h
          refine lv_bipush (v := (-11)) hx hb dX12_copy_49 (by decide) ?_
          rw [hQ]
          exact xzret C0 hP hS rfl h dX12_copy_51
    · have h := it c_7 h
      refine lv_iconst (v := (-1)) hx hb dX12_copy_29 (by decide) ?_
      rw [hQ]
      exact xzret C0 hP hS rfl h dX12_copy_30
def f_X12_minutes (p1 : Int32) (σ : MMem) : Option (Int32 × MMem) :=
  bnd (uI σ 0 9 0) fun (σ_1 : MMem) =>
  b1 (f_X12_wrongPin p1 σ_1) fun r_3 =>
  if 0 ≤ r_3 then
    if p1 < 0 ∨ 8 ≤ p1.toNatClampNeg then none else
    if p1 < 0 ∨ 8 ≤ p1.toNatClampNeg then none else
    bnd ((σ_1 15).1 p1.toNatClampNeg) fun (y_7 : Int32) =>
    bnd ((σ_1 16).1 p1.toNatClampNeg) fun (y_8 : Int32) =>
    b1 (f_X12_minutesOf y_7 y_8) fun r_10 =>
    some (r_10, σ_1)
  else
    b1 (f_X12_wrongPin p1 σ_1) fun r_12 =>
    some (r_12, σ_1)
def rm_X12_minutes : Room := { frames := 2, cells := 0, slots := 0, locals := 46 }
set_option maxHeartbeats 4000000 in
set_option maxRecDepth 100000 in
theorem c_X12_minutes {l : Launch} {D : va_G} {ca : Nat → ClassId} {a : Nat → Nat} (hI : InjN 21 a) {p1 : Int32} {σ : MMem} {r : Int32} {σ' : MMem}  (h : f_X12_minutes p1 σ = some (r, σ')) : XMM l D ca a Bt yX12_minutes cX12_minutes 2 (some .int) rm_X12_minutes [.ref (a 0), .int p1] σ (some (.int r)) σ' := by
  refine XM.of pn_X12 (Nat.le_of_ble_eq_true rfl) ?_
  intro p e s m args below meth c ls Q hQ C0 hK hB hP hS hl
  have C0 : Cx p s m args meth c RX12 cX12_minutes 2 (some .int) := C0
  have hx := C0.1
  have hb := C0.2.1
  have hl : lv_has ls 2 [(0, .ref (a 0)), (1, .int p1)] := hl
  rw [f_X12_minutes] at h
  refine lv_aload_n hx hb dX12_minutes_0 rfl (lv_at hl 0 rfl) ?_
  refine lv_iconst (v := 0) hx hb dX12_minutes_1 (by decide) ?_
  obtain ⟨σ_1, eσ_1, h⟩ := bnd_e h
  refine pX12_9 C0 hK hP tw951 hI hS dX12_minutes_2 (fun H locs hP hS => ?_)
  rw [← eσ_1] at hP
  refine lv_aload_n hx hb dX12_minutes_5 rfl (lv_at hl 0 rfl) ?_
  refine lv_iload_n hx hb dX12_minutes_6 rfl (lv_at hl 1 rfl) ?_
  obtain ⟨r_3, h_2, h⟩ := b1_e h
  refine xcall (rV C0 hK hP hl.1 (fun _ _ _ => trivial) Bt_b (c_X12_wrongPin hI h_2) cv_X12_wrongPin tw1169 (rcX12 hK hP) (rest := []) rfl (Nat.le_of_ble_eq_true rfl) ⟨rfl, rfl, Nat.le_of_ble_eq_true rfl, Nat.le_of_ble_eq_true rfl⟩ ⟨Nat.zero_le _, Nat.zero_le _⟩ dX12_minutes_7) hS (fun H locs hP hS => ?_)
  refine lv_if_ge (tgt := 21) hx hb dX12_minutes_10 (by decide) (fun c_4 => ?_) (fun c_4 => ?_)
  · have h := it c_4 h
    refine lv_aload_n hx hb dX12_minutes_21 rfl (lv_at hl 0 rfl) ?_
    refine gX12_32 C0 hK hP tw974 dX12_minutes_22 ?_
    refine lv_iload_n hx hb dX12_minutes_25 rfl (lv_at hl 1 rfl) ?_
    obtain ⟨b_5, h⟩ := ck h
    refine mald (i := 15) (N := 8) C0 hK hP (by decide) (by decide) rfl b_5 dX12_minutes_26 ?_
    refine lv_aload_n hx hb dX12_minutes_27 rfl (lv_at hl 0 rfl) ?_
    refine gX12_33 C0 hK hP tw975 dX12_minutes_28 ?_
    refine lv_iload_n hx hb dX12_minutes_31 rfl (lv_at hl 1 rfl) ?_
    obtain ⟨b_6, h⟩ := ck h
    refine mald (i := 16) (N := 8) C0 hK hP (by decide) (by decide) rfl b_6 dX12_minutes_32 ?_
    obtain ⟨y_7, ey_7, h⟩ := bnd_e h
    rw [← ey_7]
    obtain ⟨y_8, ey_8, h⟩ := bnd_e h
    rw [← ey_8]
    obtain ⟨r_10, h_9, h⟩ := b1_e h
    refine xcall (rS C0 hK hP hl.1 (fun _ _ _ => trivial) Bt_b (c_X12_minutesOf hI h_9) cs_X12_minutesOf tw1147 (rest := []) rfl (Nat.le_of_ble_eq_true rfl) ⟨rfl, rfl, Nat.le_of_ble_eq_true rfl, Nat.le_of_ble_eq_true rfl⟩ ⟨Nat.zero_le _, Nat.zero_le _⟩ dX12_minutes_33) hS (fun H locs hP hS => ?_)
    rw [hQ]
    exact xzret C0 hP hS rfl h dX12_minutes_36
  · have h := ie c_4 h
    refine lv_aload_n hx hb dX12_minutes_13 rfl (lv_at hl 0 rfl) ?_
    refine lv_iload_n hx hb dX12_minutes_14 rfl (lv_at hl 1 rfl) ?_
    obtain ⟨r_12, h_11, h⟩ := b1_e h
    refine xcall (rV C0 hK hP hl.1 (fun _ _ _ => trivial) Bt_b (c_X12_wrongPin hI h_11) cv_X12_wrongPin tw1169 (rcX12 hK hP) (rest := []) rfl (Nat.le_of_ble_eq_true rfl) ⟨rfl, rfl, Nat.le_of_ble_eq_true rfl, Nat.le_of_ble_eq_true rfl⟩ ⟨Nat.zero_le _, Nat.zero_le _⟩ dX12_minutes_15) hS (fun H locs hP hS => ?_)
    refine lv_goto (tgt := 36) hx hb dX12_minutes_18 (by decide) ?_
    rw [hQ]
    exact xzret C0 hP hS rfl h dX12_minutes_36
def f_X12_toss (p1 : Int32) (σ : MMem) : Option (Int32 × MMem) :=
  bnd (uI σ 0 9 0) fun (σ_1 : MMem) =>
  b1 (f_X12_wrongPin p1 σ_1) fun r_3 =>
  if 0 ≤ r_3 then
    if p1 < 0 ∨ 8 ≤ p1.toNatClampNeg then none else
    bnd ((σ_1 15).1 p1.toNatClampNeg) fun (x2_6 : Int32) =>
    if p1 < 0 ∨ 8 ≤ p1.toNatClampNeg then none else
    bnd ((σ_1 16).1 p1.toNatClampNeg) fun (x3_8 : Int32) =>
    if x2_6 = 5 then
      some ((-15), σ_1)
    else
      if x3_8 = 0 then
        some ((-15), σ_1)
      else
        if x2_6 = 3 then
          some (100 + x3_8, σ_1)
        else
          if x2_6 = 4 then
            b1 (f_X12_minutesOf x2_6 x3_8) fun r_14 =>
            some (200 + r_14, σ_1)
          else
            some (x3_8, σ_1)
  else
    b1 (f_X12_wrongPin p1 σ_1) fun r_16 =>
    some (r_16, σ_1)
def rm_X12_toss : Room := { frames := 2, cells := 0, slots := 0, locals := 46 }
set_option maxHeartbeats 4000000 in
set_option maxRecDepth 100000 in
theorem c_X12_toss {l : Launch} {D : va_G} {ca : Nat → ClassId} {a : Nat → Nat} (hI : InjN 21 a) {p1 : Int32} {σ : MMem} {r : Int32} {σ' : MMem}  (h : f_X12_toss p1 σ = some (r, σ')) : XMM l D ca a Bt yX12_toss cX12_toss 4 (some .int) rm_X12_toss [.ref (a 0), .int p1] σ (some (.int r)) σ' := by
  refine XM.of pn_X12 (Nat.le_of_ble_eq_true rfl) ?_
  intro p e s m args below meth c ls Q hQ C0 hK hB hP hS hl
  have C0 : Cx p s m args meth c RX12 cX12_toss 4 (some .int) := C0
  have hx := C0.1
  have hb := C0.2.1
  have hl : lv_has ls 4 [(0, .ref (a 0)), (1, .int p1)] := hl
  rw [f_X12_toss] at h
  refine lv_aload_n hx hb dX12_toss_0 rfl (lv_at hl 0 rfl) ?_
  refine lv_iconst (v := 0) hx hb dX12_toss_1 (by decide) ?_
  obtain ⟨σ_1, eσ_1, h⟩ := bnd_e h
  refine pX12_9 C0 hK hP tw951 hI hS dX12_toss_2 (fun H locs hP hS => ?_)
  rw [← eσ_1] at hP
  refine lv_aload_n hx hb dX12_toss_5 rfl (lv_at hl 0 rfl) ?_
  refine lv_iload_n hx hb dX12_toss_6 rfl (lv_at hl 1 rfl) ?_
  obtain ⟨r_3, h_2, h⟩ := b1_e h
  refine xcall (rV C0 hK hP hl.1 (fun _ _ _ => trivial) Bt_b (c_X12_wrongPin hI h_2) cv_X12_wrongPin tw1169 (rcX12 hK hP) (rest := []) rfl (Nat.le_of_ble_eq_true rfl) ⟨rfl, rfl, Nat.le_of_ble_eq_true rfl, Nat.le_of_ble_eq_true rfl⟩ ⟨Nat.zero_le _, Nat.zero_le _⟩ dX12_toss_7) hS (fun H locs hP hS => ?_)
  refine lv_if_ge (tgt := 19) hx hb dX12_toss_10 (by decide) (fun c_4 => ?_) (fun c_4 => ?_)
  · have h := it c_4 h
    refine lv_aload_n hx hb dX12_toss_19 rfl (lv_at hl 0 rfl) ?_
    refine gX12_32 C0 hK hP tw974 dX12_toss_20 ?_
    refine lv_iload_n hx hb dX12_toss_23 rfl (lv_at hl 1 rfl) ?_
    obtain ⟨b_5, h⟩ := ck h
    refine mald (i := 15) (N := 8) C0 hK hP (by decide) (by decide) rfl b_5 dX12_toss_24 ?_
    obtain ⟨x2_6, ex2_6, h⟩ := bnd_e h
    refine nm_i ex2_6 ?_
    refine lv_istore_n (lv' := [(2, .int x2_6), (0, .ref (a 0)), (1, .int p1)]) hx hb dX12_toss_25 rfl hl (by decide) rfl (fun ls hl => ?_)
    refine lv_aload_n hx hb dX12_toss_26 rfl (lv_at hl 1 rfl) ?_
    refine gX12_33 C0 hK hP tw975 dX12_toss_27 ?_
    refine lv_iload_n hx hb dX12_toss_30 rfl (lv_at hl 2 rfl) ?_
    obtain ⟨b_7, h⟩ := ck h
    refine mald (i := 16) (N := 8) C0 hK hP (by decide) (by decide) rfl b_7 dX12_toss_31 ?_
    obtain ⟨x3_8, ex3_8, h⟩ := bnd_e h
    refine nm_i ex3_8 ?_
    refine lv_istore_n (lv' := [(3, .int x3_8), (2, .int x2_6), (0, .ref (a 0)), (1, .int p1)]) hx hb dX12_toss_32 rfl hl (by decide) rfl (fun ls hl => ?_)
    refine lv_iload_n hx hb dX12_toss_33 rfl (lv_at hl 1 rfl) ?_
    refine lv_iconst (v := 5) hx hb dX12_toss_34 (by decide) ?_
    refine lv_icmp_eq (tgt := 42) hx hb dX12_toss_35 (by decide) (fun c_9 => ?_) (fun c_9 => ?_)
    · have h := it c_9 h
      refine lv_bipush (v := (-15)) hx hb dX12_toss_42 (by decide) ?_
      rw [hQ]
      exact xzret C0 hP hS rfl h dX12_toss_44
    · have h := ie c_9 h
      refine lv_iload_n hx hb dX12_toss_38 rfl (lv_at hl 0 rfl) ?_
      refine lv_if_ne (tgt := 45) hx hb dX12_toss_39 (by decide) (fun c_10 => ?_) (fun c_10 => ?_)
      · have h := ie c_10 h
        refine lv_iload_n hx hb dX12_toss_45 rfl (lv_at hl 1 rfl) ?_
        refine lv_iconst (v := 3) hx hb dX12_toss_46 (by decide) ?_
        refine lv_icmp_ne (tgt := 57) hx hb dX12_toss_47 (by decide) (fun c_11 => ?_) (fun c_11 => ?_)
        · have h := ie c_11 h
          refine lv_iload_n hx hb dX12_toss_57 rfl (lv_at hl 1 rfl) ?_
          refine lv_iconst (v := 4) hx hb dX12_toss_58 (by decide) ?_
          refine lv_icmp_ne (tgt := 74) hx hb dX12_toss_59 (by decide) (fun c_12 => ?_) (fun c_12 => ?_)
          · have h := ie c_12 h
            refine lv_iload_n hx hb dX12_toss_74 rfl (lv_at hl 0 rfl) ?_
            rw [hQ]
            exact xzret C0 hP hS rfl h dX12_toss_75
          · have h := it c_12 h
            refine lv_sipush (v := 200) hx hb dX12_toss_62 (by decide) ?_
            refine lv_iload_n hx hb dX12_toss_65 rfl (lv_at hl 1 rfl) ?_
            refine lv_iload_n hx hb dX12_toss_66 rfl (lv_at hl 0 rfl) ?_
            obtain ⟨r_14, h_13, h⟩ := b1_e h
            refine xcall (rS C0 hK hP hl.1 (fun _ _ _ => trivial) Bt_b (c_X12_minutesOf hI h_13) cs_X12_minutesOf tw1147 (rest := [.int 200]) rfl (Nat.le_of_ble_eq_true rfl) ⟨rfl, rfl, Nat.le_of_ble_eq_true rfl, Nat.le_of_ble_eq_true rfl⟩ ⟨Nat.zero_le _, Nat.zero_le _⟩ dX12_toss_67) hS (fun H locs hP hS => ?_)
            refine lv_iadd hx hb dX12_toss_70 ?_
            refine lv_goto (tgt := 75) hx hb dX12_toss_71 (by decide) ?_
            rw [hQ]
            exact xzret C0 hP hS rfl h dX12_toss_75
        · have h := it c_11 h
          refine lv_bipush (v := 100) hx hb dX12_toss_50 (by decide) ?_
          refine lv_iload_n hx hb dX12_toss_52 rfl (lv_at hl 0 rfl) ?_
          refine lv_iadd hx hb dX12_toss_53 ?_
          refine lv_goto (tgt := 75) hx hb dX12_toss_54 (by decide) ?_
          rw [hQ]
          exact xzret C0 hP hS rfl h dX12_toss_75
      · have h := it c_10 h
        refine lv_bipush (v := (-15)) hx hb dX12_toss_42 (by decide) ?_
        rw [hQ]
        exact xzret C0 hP hS rfl h dX12_toss_44
  · have h := ie c_4 h
    refine lv_aload_n hx hb dX12_toss_13 rfl (lv_at hl 0 rfl) ?_
    refine lv_iload_n hx hb dX12_toss_14 rfl (lv_at hl 1 rfl) ?_
    obtain ⟨r_16, h_15, h⟩ := b1_e h
    refine xcall (rV C0 hK hP hl.1 (fun _ _ _ => trivial) Bt_b (c_X12_wrongPin hI h_15) cv_X12_wrongPin tw1169 (rcX12 hK hP) (rest := []) rfl (Nat.le_of_ble_eq_true rfl) ⟨rfl, rfl, Nat.le_of_ble_eq_true rfl, Nat.le_of_ble_eq_true rfl⟩ ⟨Nat.zero_le _, Nat.zero_le _⟩ dX12_toss_15) hS (fun H locs hP hS => ?_)
    rw [hQ]
    exact xzret C0 hP hS rfl h dX12_toss_18
