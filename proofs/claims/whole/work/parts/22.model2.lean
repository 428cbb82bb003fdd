def f_X12_darts (p1 : Int32) (p2 : Int32) (p3 : Int32) (p4 : Int32) (σ : MMem) : Option (Int32 × MMem) :=
  bnd (uI σ 0 9 0) fun (σ_1 : MMem) =>
  b1 (f_X12_in p1.toInt64 0 99) fun r_3 =>
  if r_3 = 0 then
    some ((-1), σ_1)
  else
    b1 (f_X12_in p2.toInt64 1 99) fun r_6 =>
    if r_6 = 0 then
      some ((-1), σ_1)
    else
      b1 (f_X12_in p3.toInt64 0 99) fun r_9 =>
      if r_9 = 0 then
        some ((-1), σ_1)
      else
        b1 (f_X12_in p4.toInt64 1 99) fun r_12 =>
        if r_12 = 0 then
          some ((-1), σ_1)
        else
          if (p1 * p4) = (p3 * p2) then
            some (1, σ_1)
          else
            some (0, σ_1)
def rm_X12_darts : Room := { frames := 1, cells := 0, slots := 0, locals := 25 }
set_option maxHeartbeats 4000000 in
set_option maxRecDepth 100000 in
theorem c_X12_darts {l : Launch} {D : va_G} {ca : Nat → ClassId} {a : Nat → Nat} (hI : InjN 21 a) {p1 : Int32} {p2 : Int32} {p3 : Int32} {p4 : Int32} {σ : MMem} {r : Int32} {σ' : MMem}  (h : f_X12_darts p1 p2 p3 p4 σ = some (r, σ')) : XMM l D ca a Bt yX12_darts cX12_darts 5 (some .int) rm_X12_darts [.ref (a 0), .int p1, .int p2, .int p3, .int p4] σ (some (.int r)) σ' := by
  refine XM.of pn_X12 (Nat.le_of_ble_eq_true rfl) ?_
  intro p e s m args below meth c ls Q hQ C0 hK hB hP hS hl
  have C0 : Cx p s m args meth c RX12 cX12_darts 5 (some .int) := C0
  have hx := C0.1
  have hb := C0.2.1
  have hl : lv_has ls 5 [(0, .ref (a 0)), (1, .int p1), (2, .int p2), (3, .int p3), (4, .int p4)] := hl
  rw [f_X12_darts] at h
  refine lv_aload_n hx hb dX12_darts_0 rfl (lv_at hl 0 rfl) ?_
  refine lv_iconst (v := 0) hx hb dX12_darts_1 (by decide) ?_
  obtain ⟨σ_1, eσ_1, h⟩ := bnd_e h
  refine pX12_9 C0 hK hP tw951 hI hS dX12_darts_2 (fun H locs hP hS => ?_)
  rw [← eσ_1] at hP
  refine lv_iload_n hx hb dX12_darts_5 rfl (lv_at hl 1 rfl) ?_
  refine lv_i2l (v := p1.toInt64) hx hb dX12_darts_6 rfl ?_
  refine lv_lconst (v := 0) hx hb dX12_darts_7 (by decide) ?_
  refine lv_ldc2 (v := 99) hx hb C0.2.2.2.1 (C0.2.2.2.2.1 _ tw1239) dX12_darts_8 ?_
  obtain ⟨r_3, h_2, h⟩ := b1_e h
  refine xcall (rS C0 hK hP hl.1 (fun _ _ _ => trivial) Bt_b (c_X12_in hI h_2) cs_X12_in tw1091 (rest := []) rfl (Nat.le_of_ble_eq_true rfl) ⟨rfl, rfl, Nat.le_of_ble_eq_true rfl, Nat.le_of_ble_eq_true rfl⟩ ⟨Nat.zero_le _, Nat.zero_le _⟩ dX12_darts_11) hS (fun H locs hP hS => ?_)
  refine lv_if_eq (tgt := 54) hx hb dX12_darts_14 (by decide) (fun c_4 => ?_) (fun c_4 => ?_)
  · have h := it c_4 h
    refine lv_iconst (v := (-1)) hx hb dX12_darts_54 (by decide) ?_
    rw [hQ]
    exact xzret C0 hP hS rfl h dX12_darts_55
  · have h := ie c_4 h
    refine lv_iload_n hx hb dX12_darts_17 rfl (lv_at hl 2 rfl) ?_
    refine lv_i2l (v := p2.toInt64) hx hb dX12_darts_18 rfl ?_
    refine lv_lconst (v := 1) hx hb dX12_darts_19 (by decide) ?_
    refine lv_ldc2 (v := 99) hx hb C0.2.2.2.1 (C0.2.2.2.2.1 _ tw1239) dX12_darts_20 ?_
    obtain ⟨r_6, h_5, h⟩ := b1_e h
    refine xcall (rS C0 hK hP hl.1 (fun _ _ _ => trivial) Bt_b (c_X12_in hI h_5) cs_X12_in tw1091 (rest := []) rfl (Nat.le_of_ble_eq_true rfl) ⟨rfl, rfl, Nat.le_of_ble_eq_true rfl, Nat.le_of_ble_eq_true rfl⟩ ⟨Nat.zero_le _, Nat.zero_le _⟩ dX12_darts_23) hS (fun H locs hP hS => ?_)
    refine lv_if_eq (tgt := 54) hx hb dX12_darts_26 (by decide) (fun c_7 => ?_) (fun c_7 => ?_)
    · have h := it c_7 h
      refine lv_iconst (v := (-1)) hx hb dX12_darts_54 (by decide) ?_
      rw [hQ]
      exact xzret C0 hP hS rfl h dX12_darts_55
    · have h := ie c_7 h
      refine lv_iload_n hx hb dX12_darts_29 rfl (lv_at hl 3 rfl) ?_
      refine lv_i2l (v := p3.toInt64) hx hb dX12_darts_30 rfl ?_
      refine lv_lconst (v := 0) hx hb dX12_darts_31 (by decide) ?_
      refine lv_ldc2 (v := 99) hx hb C0.2.2.2.1 (C0.2.2.2.2.1 _ tw1239) dX12_darts_32 ?_
      obtain ⟨r_9, h_8, h⟩ := b1_e h
      refine xcall (rS C0 hK hP hl.1 (fun _ _ _ => trivial) Bt_b (c_X12_in hI h_8) cs_X12_in tw1091 (rest := []) rfl (Nat.le_of_ble_eq_true rfl) ⟨rfl, rfl, Nat.le_of_ble_eq_true rfl, Nat.le_of_ble_eq_true rfl⟩ ⟨Nat.zero_le _, Nat.zero_le _⟩ dX12_darts_35) hS (fun H locs hP hS => ?_)
      refine lv_if_eq (tgt := 54) hx hb dX12_darts_38 (by decide) (fun c_10 => ?_) (fun c_10 => ?_)
      · have h := it c_10 h
        refine lv_iconst (v := (-1)) hx hb dX12_darts_54 (by decide) ?_
        rw [hQ]
        exact xzret C0 hP hS rfl h dX12_darts_55
      · have h := ie c_10 h
        refine lv_iload hx hb dX12_darts_41 (lv_at hl 4 rfl) ?_
        refine lv_i2l (v := p4.toInt64) hx hb dX12_darts_43 rfl ?_
        refine lv_lconst (v := 1) hx hb dX12_darts_44 (by decide) ?_
        refine lv_ldc2 (v := 99) hx hb C0.2.2.2.1 (C0.2.2.2.2.1 _ tw1239) dX12_darts_45 ?_
        obtain ⟨r_12, h_11, h⟩ := b1_e h
        refine xcall (rS C0 hK hP hl.1 (fun _ _ _ => trivial) Bt_b (c_X12_in hI h_11) cs_X12_in tw1091 (rest := []) rfl (Nat.le_of_ble_eq_true rfl) ⟨rfl, rfl, Nat.le_of_ble_eq_true rfl, Nat.le_of_ble_eq_true rfl⟩ ⟨Nat.zero_le _, Nat.zero_le _⟩ dX12_darts_48) hS (fun H locs hP hS => ?_)
        refine lv_if_ne (tgt := 56) hx hb dX12_darts_51 (by decide) (fun c_13 => ?_) (fun c_13 => ?_)
        · have h := ie c_13 h
          refine lv_iload_n hx hb dX12_darts_56 rfl (lv_at hl 1 rfl) ?_
          refine lv_iload hx hb dX12_darts_57 (lv_at hl 4 rfl) ?_
          refine lv_imul hx hb dX12_darts_59 ?_
          refine lv_iload_n hx hb dX12_darts_60 rfl (lv_at hl 3 rfl) ?_
          refine lv_iload_n hx hb dX12_darts_61 rfl (lv_at hl 2 rfl) ?_
          refine lv_imul hx hb dX12_darts_62 ?_
          refine lv_icmp_ne (tgt := 70) hx hb dX12_darts_63 (by decide) (fun c_14 => ?_) (fun c_14 => ?_)
          · have h := ie c_14 h
            refine lv_iconst (v := 0) hx hb dX12_darts_70 (by decide) ?_
            rw [hQ]
            exact xzret C0 hP hS rfl h dX12_darts_71
          · have h := it c_14 h
            refine lv_iconst (v := 1) hx hb dX12_darts_66 (by decide) ?_
            refine lv_goto (tgt := 71) hx hb dX12_darts_67 (by decide) ?_
            rw [hQ]
            exact xzret C0 hP hS rfl h dX12_darts_71
        · have h := it c_13 h
          refine lv_iconst (v := (-1)) hx hb dX12_darts_54 (by decide) ?_
          rw [hQ]
          exact xzret C0 hP hS rfl h dX12_darts_55
def f_X12_stripes_L61 (p1 : Int32) (p2 : Int32) (p3 : Int32) (p4 : Int32) : Nat → Int32 → MMem → (Int32 → MMem → Option (Int32 × MMem)) → Option (Int32 × MMem)
  | 0, _, _, _ => none
  | n + 1, x5_14, σ_15, K1 =>
    if (p1 * p3) ≤ x5_14 then
      K1 x5_14 σ_15
    else
      if p1 = 0 then none else
      if (x5_14 - x5_14 / p1 * p1) = p2 then
        if p3 = 0 then none else
        if (x5_14 - x5_14 / p3 * p3) = p4 then
          some (x5_14, σ_15)
        else
          bnd (x5_14 + 1) fun (x5_22 : Int32) =>
          f_X12_stripes_L61 p1 p2 p3 p4 n x5_22 σ_15 K1
      else
        bnd (x5_14 + 1) fun (x5_19 : Int32) =>
        f_X12_stripes_L61 p1 p2 p3 p4 n x5_19 σ_15 K1
def f_X12_stripes (p1 : Int32) (p2 : Int32) (p3 : Int32) (p4 : Int32) (σ : MMem) : Option (Int32 × MMem) :=
  bnd (uI σ 0 9 0) fun (σ_1 : MMem) =>
  b1 (f_X12_in p1.toInt64 1 60) fun r_3 =>
  if r_3 = 0 then
    some ((-1), σ_1)
  else
    b1 (f_X12_in p3.toInt64 1 60) fun r_6 =>
    if r_6 = 0 then
      some ((-1), σ_1)
    else
      b1 (f_X12_in p2.toInt64 0 ((p1 - 1).toInt64)) fun r_9 =>
      if r_9 = 0 then
        some ((-1), σ_1)
      else
        b1 (f_X12_in p4.toInt64 0 ((p3 - 1).toInt64)) fun r_12 =>
        if r_12 = 0 then
          some ((-1), σ_1)
        else
          f_X12_stripes_L61 p1 p2 p3 p4 5000 0 σ_1 fun (u_23 : Int32) (σ_24 : MMem) =>
            some ((-4), σ_24)
def rm_X12_stripes : Room := { frames := 1, cells := 0, slots := 0, locals := 25 }
set_option maxHeartbeats 4000000 in
set_option maxRecDepth 100000 in
theorem c_X12_stripes {l : Launch} {D : va_G} {ca : Nat → ClassId} {a : Nat → Nat} (hI : InjN 21 a) {p1 : Int32} {p2 : Int32} {p3 : Int32} {p4 : Int32} {σ : MMem} {r : Int32} {σ' : MMem}  (h : f_X12_stripes p1 p2 p3 p4 σ = some (r, σ')) : XMM l D ca a Bt yX12_stripes cX12_stripes 6 (some .int) rm_X12_stripes [.ref (a 0), .int p1, .int p2, .int p3, .int p4] σ (some (.int r)) σ' := by
  refine XM.of pn_X12 (Nat.le_of_ble_eq_true rfl) ?_
  intro p e s m args below meth c ls Q hQ C0 hK hB hP hS hl
  have C0 : Cx p s m args meth c RX12 cX12_stripes 6 (some .int) := C0
  have hx := C0.1
  have hb := C0.2.1
  have hl : lv_has ls 6 [(0, .ref (a 0)), (1, .int p1), (2, .int p2), (3, .int p3), (4, .int p4)] := hl
  rw [f_X12_stripes] at h
  refine lv_aload_n hx hb dX12_stripes_0 rfl (lv_at hl 0 rfl) ?_
  refine lv_iconst (v := 0) hx hb dX12_stripes_1 (by decide) ?_
  obtain ⟨σ_1, eσ_1, h⟩ := bnd_e h
  refine pX12_9 C0 hK hP tw951 hI hS dX12_stripes_2 (fun H locs hP hS => ?_)
  rw [← eσ_1] at hP
  refine lv_iload_n hx hb dX12_stripes_5 rfl (lv_at hl 1 rfl) ?_
  refine lv_i2l (v := p1.toInt64) hx hb dX12_stripes_6 rfl ?_
  refine lv_lconst (v := 1) hx hb dX12_stripes_7 (by decide) ?_
  refine lv_ldc2 (v := 60) hx hb C0.2.2.2.1 (C0.2.2.2.2.1 _ tw1249) dX12_stripes_8 ?_
  obtain ⟨r_3, h_2, h⟩ := b1_e h
  refine xcall (rS C0 hK hP hl.1 (fun _ _ _ => trivial) Bt_b (c_X12_in hI h_2) cs_X12_in tw1091 (rest := []) rfl (Nat.le_of_ble_eq_true rfl) ⟨rfl, rfl, Nat.le_of_ble_eq_true rfl, Nat.le_of_ble_eq_true rfl⟩ ⟨Nat.zero_le _, Nat.zero_le _⟩ dX12_stripes_11) hS (fun H locs hP hS => ?_)
  refine lv_if_eq (tgt := 56) hx hb dX12_stripes_14 (by decide) (fun c_4 => ?_) (fun c_4 => ?_)
  · have h := it c_4 h
    refine lv_iconst (v := (-1)) hx hb dX12_stripes_56 (by decide) ?_
    rw [hQ]
    exact xzret C0 hP hS rfl h dX12_stripes_57
  · have h := ie c_4 h
    refine lv_iload_n hx hb dX12_stripes_17 rfl (lv_at hl 3 rfl) ?_
    refine lv_i2l (v := p3.toInt64) hx hb dX12_stripes_18 rfl ?_
    refine lv_lconst (v := 1) hx hb dX12_stripes_19 (by decide) ?_
    refine lv_ldc2 (v := 60) hx hb C0.2.2.2.1 (C0.2.2.2.2.1 _ tw1249) dX12_stripes_20 ?_
    obtain ⟨r_6, h_5, h⟩ := b1_e h
    refine xcall (rS C0 hK hP hl.1 (fun _ _ _ => trivial) Bt_b (c_X12_in hI h_5) cs_X12_in tw1091 (rest := []) rfl (Nat.le_of_ble_eq_true rfl) ⟨rfl, rfl, Nat.le_of_ble_eq_true rfl, Nat.le_of_ble_eq_true rfl⟩ ⟨Nat.zero_le _, Nat.zero_le _⟩ dX12_stripes_23) hS (fun H locs hP hS => ?_)
    refine lv_if_eq (tgt := 56) hx hb dX12_stripes_26 (by decide) (fun c_7 => ?_) (fun c_7 => ?_)
    · have h := it c_7 h
      refine lv_iconst (v := (-1)) hx hb dX12_stripes_56 (by decide) ?_
      rw [hQ]
      exact xzret C0 hP hS rfl h dX12_stripes_57
    · have h := ie c_7 h
      refine lv_iload_n hx hb dX12_stripes_29 rfl (lv_at hl 2 rfl) ?_
      refine lv_i2l (v := p2.toInt64) hx hb dX12_stripes_30 rfl ?_
      refine lv_lconst (v := 0) hx hb dX12_stripes_31 (by decide) ?_
      refine lv_iload_n hx hb dX12_stripes_32 rfl (lv_at hl 1 rfl) ?_
      refine lv_iconst (v := 1) hx hb dX12_stripes_33 (by decide) ?_
      refine lv_isub hx hb dX12_stripes_34 ?_
      refine lv_i2l (v := (p1 - 1).toInt64) hx hb dX12_stripes_35 rfl ?_
      obtain ⟨r_9, h_8, h⟩ := b1_e h
      refine xcall (rS C0 hK hP hl.1 (fun _ _ _ => trivial) Bt_b (c_X12_in hI h_8) cs_X12_in tw1091 (rest := []) rfl (Nat.le_of_ble_eq_true rfl) ⟨rfl, rfl, Nat.le_of_ble_eq_true rfl, Nat.le_of_ble_eq_true rfl⟩ ⟨Nat.zero_le _, Nat.zero_le _⟩ dX12_stripes_36) hS (fun H locs hP hS => ?_)
      refine lv_if_eq (tgt := 56) hx hb dX12_stripes_39 (by decide) (fun c_10 => ?_) (fun c_10 => ?_)
      · have h := it c_10 h
        refine lv_iconst (v := (-1)) hx hb dX12_stripes_56 (by decide) ?_
        rw [hQ]
        exact xzret C0 hP hS rfl h dX12_stripes_57
      · have h := ie c_10 h
        refine lv_iload hx hb dX12_stripes_42 (lv_at hl 4 rfl) ?_
        refine lv_i2l (v := p4.toInt64) hx hb dX12_stripes_44 rfl ?_
        refine lv_lconst (v := 0) hx hb dX12_stripes_45 (by decide) ?_
        refine lv_iload_n hx hb dX12_stripes_46 rfl (lv_at hl 3 rfl) ?_
        refine lv_iconst (v := 1) hx hb dX12_stripes_47 (by decide) ?_
        refine lv_isub hx hb dX12_stripes_48 ?_
        refine lv_i2l (v := (p3 - 1).toInt64) hx hb dX12_stripes_49 rfl ?_
        obtain ⟨r_12, h_11, h⟩ := b1_e h
        refine xcall (rS C0 hK hP hl.1 (fun _ _ _ => trivial) Bt_b (c_X12_in hI h_11) cs_X12_in tw1091 (rest := []) rfl (Nat.le_of_ble_eq_true rfl) ⟨rfl, rfl, Nat.le_of_ble_eq_true rfl, Nat.le_of_ble_eq_true rfl⟩ ⟨Nat.zero_le _, Nat.zero_le _⟩ dX12_stripes_50) hS (fun H locs hP hS => ?_)
        refine lv_if_ne (tgt := 58) hx hb dX12_stripes_53 (by decide) (fun c_13 => ?_) (fun c_13 => ?_)
        · have h := ie c_13 h
          refine lv_iconst (v := 0) hx hb dX12_stripes_58 (by decide) ?_
          refine lv_istore (lv' := [(5, .int 0), (0, .ref (a 0)), (1, .int p1), (2, .int p2), (3, .int p3), (4, .int p4)]) hx hb dX12_stripes_59 hl (by decide) rfl (fun ls hl => ?_)
          obtain ⟨K1, eK1, h⟩ := lp_e (f := fun K => f_X12_stripes_L61 p1 p2 p3 p4 5000 0 σ_1 K) h
          have h : f_X12_stripes_L61 p1 p2 p3 p4 5000 0 σ_1 K1 = some (r, σ') := h
          have hX1 : ∀ (u_23 : Int32) (σ_24 : MMem) (H : Heap) (locs : List Loc) (ls : Array Slot), K1 u_23 σ_24 = some (r, σ') → va_P D vwCl (wM ca a σ_24) H → va_S (AW 21 a) s.heap H locs → lv_has ls 6 [] → W p l e rm_X12_stripes s m args below meth c H locs 0 0 Q (F0 m 95 ls []) := by
            intro u_23 σ_24 H locs ls h hP hS hl
            have h := ap2 eK1 h
            refine lv_bipush (v := (-4)) hx hb dX12_stripes_95 (by decide) ?_
            rw [hQ]
            exact xzret C0 hP hS rfl h dX12_stripes_97
          have hL1 : ∀ (n : Nat) (x5_14 : Int32) (σ_15 : MMem) (H : Heap) (locs : List Loc) (ls : Array Slot), f_X12_stripes_L61 p1 p2 p3 p4 n x5_14 σ_15 K1 = some (r, σ') → va_P D vwCl (wM ca a σ_15) H → va_S (AW 21 a) s.heap H locs → lv_has ls 6 [(1, .int p1), (2, .int p2), (3, .int p3), (4, .int p4), (5, .int x5_14)] → W p l e rm_X12_stripes s m args below meth c H locs 0 0 Q (F0 m 61 ls []) := by
            intro n
            induction n with
            | zero => intro x5_14 σ_15 H locs ls h; rw [f_X12_stripes_L61] at h; cases h
            | succ n ih1 =>
              intro x5_14 σ_15 H locs ls h hP hS hl
              rw [f_X12_stripes_L61] at h
              refine lv_iload hx hb dX12_stripes_61 (lv_at hl 4 rfl) ?_
              refine lv_iload_n hx hb dX12_stripes_63 rfl (lv_at hl 0 rfl) ?_
              refine lv_iload_n hx hb dX12_stripes_64 rfl (lv_at hl 2 rfl) ?_
              refine lv_imul hx hb dX12_stripes_65 ?_
              refine lv_icmp_ge (tgt := 95) hx hb dX12_stripes_66 (by decide) (fun c_16 => ?_) (fun c_16 => ?_)
              · have h := it c_16 h
                exact hX1 x5_14 σ_15 _ _ ls h hP hS (lv_sub hl [] rfl)
              · have h := ie c_16 h
                refine lv_iload hx hb dX12_stripes_69 (lv_at hl 4 rfl) ?_
                refine lv_iload_n hx hb dX12_stripes_71 rfl (lv_at hl 0 rfl) ?_
                obtain ⟨b_17, h⟩ := ck h
                refine lv_irem hx hb dX12_stripes_72 b_17 ?_
                refine lv_iload_n hx hb dX12_stripes_73 rfl (lv_at hl 1 rfl) ?_
                refine lv_icmp_ne (tgt := 89) hx hb dX12_stripes_74 (by decide) (fun c_18 => ?_) (fun c_18 => ?_)
                · have h := ie c_18 h
                  obtain ⟨x5_19, ex5_19, h⟩ := bnd_e h
                  refine lv_iinc (v := x5_19) (lv' := [(5, .int x5_19), (1, .int p1), (2, .int p2), (3, .int p3), (4, .int p4)]) hx hb dX12_stripes_89 hl (k := 4) rfl (by rw [ex5_19]; rfl) (by decide) rfl (fun ls hl => ?_)
                  refine lv_goto (tgt := 61) hx hb dX12_stripes_92 (by decide) ?_
                  exact ih1 x5_19 σ_15 _ _ ls h hP hS (lv_sub hl [1, 2, 3, 4, 0] rfl)
                · have h := it c_18 h
                  refine lv_iload hx hb dX12_stripes_77 (lv_at hl 4 rfl) ?_
                  refine lv_iload_n hx hb dX12_stripes_79 rfl (lv_at hl 2 rfl) ?_
                  obtain ⟨b_20, h⟩ := ck h
                  refine lv_irem hx hb dX12_stripes_80 b_20 ?_
                  refine lv_iload hx hb dX12_stripes_81 (lv_at hl 3 rfl) ?_
                  refine lv_icmp_ne (tgt := 89) hx hb dX12_stripes_83 (by decide) (fun c_21 => ?_) (fun c_21 => ?_)
                  · have h := ie c_21 h
                    obtain ⟨x5_22, ex5_22, h⟩ := bnd_e h
                    refine lv_iinc (v := x5_22) (lv' := [(5, .int x5_22), (1, .int p1), (2, .int p2), (3, .int p3), (4, .int p4)]) hx hb dX12_stripes_89 hl (k := 4) rfl (by rw [ex5_22]; rfl) (by decide) rfl (fun ls hl => ?_)
                    refine lv_goto (tgt := 61) hx hb dX12_stripes_92 (by decide) ?_
                    exact ih1 x5_22 σ_15 _ _ ls h hP hS (lv_sub hl [1, 2, 3, 4, 0] rfl)
                  · have h := it c_21 h
                    refine lv_iload hx hb dX12_stripes_86 (lv_at hl 4 rfl) ?_
                    rw [hQ]
                    exact xzret C0 hP hS rfl h dX12_stripes_88
          exact hL1 5000 0 σ_1 _ _ ls h hP hS (lv_sub hl [2, 3, 4, 5, 0] rfl)
        · have h := it c_13 h
          refine lv_iconst (v := (-1)) hx hb dX12_stripes_56 (by decide) ?_
          rw [hQ]
          exact xzret C0 hP hS rfl h dX12_stripes_57
def f_X12_measures_L212  : Nat → Int32 → Int32 → MMem → (Int32 → Int32 → MMem → Option (Int32 × MMem)) → Option (Int32 × MMem)
  | 0, _, _, _, _ => none
  | n + 1, x5_55, x6_56, σ_57, K3 =>
    if ((σ_57 0).1 0) ≤ x6_56 then
      K3 x5_55 x6_56 σ_57
    else
      if x6_56 < 0 ∨ 6 ≤ x6_56.toNatClampNeg then none else
      if ((σ_57 13).1 x6_56.toNatClampNeg) ≤ 0 then
        bnd (x6_56 + 1) fun (x6_61 : Int32) =>
        f_X12_measures_L212 n x5_55 x6_61 σ_57 K3
      else
        if x5_55 < 0 then
          bnd (x6_56 + 1) fun (x6_63 : Int32) =>
          f_X12_measures_L212 n x6_56 x6_63 σ_57 K3
        else
          if x6_56 < 0 ∨ 6 ≤ x6_56.toNatClampNeg then none else
          if x5_55 < 0 ∨ 6 ≤ x5_55.toNatClampNeg then none else
          if ((σ_57 13).1 x6_56.toNatClampNeg) ≤ ((σ_57 13).1 x5_55.toNatClampNeg) then
            bnd (x6_56 + 1) fun (x6_67 : Int32) =>
            f_X12_measures_L212 n x5_55 x6_67 σ_57 K3
          else
            bnd (x6_56 + 1) fun (x6_68 : Int32) =>
            f_X12_measures_L212 n x6_56 x6_68 σ_57 K3
def f_X12_measures_L77 (p1 : Int32) : Nat → Int32 → Int32 → MMem → (Int32 → Int32 → MMem → Option (Int32 × MMem)) → Option (Int32 × MMem)
  | 0, _, _, _, _ => none
  | n + 1, x4_18, x5_19, σ_20, K2 =>
    if p1 < 0 ∨ 8 ≤ p1.toNatClampNeg then none else
    if ((σ_20 18).1 p1.toNatClampNeg) ≤ x5_19 then
      K2 x4_18 x5_19 σ_20
    else
      b1 (f_X12_told p1 x5_19 σ_20) fun r_24 =>
      b1 (f_X12_told p1 (x5_19 + 1) σ_20) fun r_26 =>
      b1 (f_X12_isRing r_24 σ_20) fun r_28 =>
      if r_28 = 0 then
        some ((-13), σ_20)
      else
        b1 (f_X12_isRing r_26 σ_20) fun r_31 =>
        if r_31 = 0 then
          some ((-13), σ_20)
        else
          if r_24 = r_26 then
            some ((-13), σ_20)
          else
            if r_24 < 0 ∨ 6 ≤ r_24.toNatClampNeg then none else
            if r_26 < 0 ∨ 6 ≤ r_26.toNatClampNeg then none else
            b1 (f_X12_told p1 (x5_19 + 2) σ_20) fun r_37 =>
            if (((σ_20 1).1 r_24.toNatClampNeg) - ((σ_20 1).1 r_26.toNatClampNeg)) = r_37 then
              bnd (x5_19 + 3) fun (x5_39 : Int32) =>
              f_X12_measures_L77 p1 n x4_18 x5_39 σ_20 K2
            else
              jn (fun (v_40 : Int32) (σ_41 : MMem) =>
                if r_24 < 0 ∨ 6 ≤ r_24.toNatClampNeg then none else
                bnd (((σ_41 13).1 r_24.toNatClampNeg) + 1) fun (y_43 : Int32) =>
                if r_24 < 0 ∨ 6 ≤ r_24.toNatClampNeg then none else
                bnd (uI σ_41 13 r_24.toNatClampNeg y_43) fun (σ_45 : MMem) =>
                if r_26 < 0 ∨ 6 ≤ r_26.toNatClampNeg then none else
                bnd (((σ_45 13).1 r_26.toNatClampNeg) + 1) fun (y_47 : Int32) =>
                if r_26 < 0 ∨ 6 ≤ r_26.toNatClampNeg then none else
                bnd (uI σ_45 13 r_26.toNatClampNeg y_47) fun (σ_49 : MMem) =>
                bnd (x5_19 + 3) fun (x5_50 : Int32) =>
                f_X12_measures_L77 p1 n v_40 x5_50 σ_49 K2) fun J175 =>
              if 0 ≤ x4_18 then
                J175 x4_18 σ_20
              else
                J175 x5_19 σ_20
def f_X12_measures_L53  : Nat → Int32 → MMem → (Int32 → MMem → Option (Int32 × MMem)) → Option (Int32 × MMem)
  | 0, _, _, _ => none
  | n + 1, x5_10, σ_11, K1 =>
    if 6 ≤ x5_10 then
      K1 x5_10 σ_11
    else
      if x5_10 < 0 ∨ 6 ≤ x5_10.toNatClampNeg then none else
      bnd (uI σ_11 13 x5_10.toNatClampNeg 0) fun (σ_14 : MMem) =>
      bnd (x5_10 + 1) fun (x5_15 : Int32) =>
      f_X12_measures_L53 n x5_15 σ_14 K1
def f_X12_measures (p1 : Int32) (p2 : Int32) (σ : MMem) : Option (Int32 × MMem) :=
  bnd (uI σ 0 9 0) fun (σ_1 : MMem) =>
  b1 (f_X12_in p2.toInt64 0 1) fun r_3 =>
  jn (fun (v_4 : Int32) (σ_5 : MMem) =>
    if 0 ≤ v_4 then
      if p1 < 0 ∨ 8 ≤ p1.toNatClampNeg then none else
      bnd ((σ_5 18).1 p1.toNatClampNeg) fun (y_8 : Int32) =>
      if (y_8 - y_8 / 3 * 3) = 0 then
        f_X12_measures_L53 5000 0 σ_5 fun (u_16 : Int32) (σ_17 : MMem) =>
          f_X12_measures_L77 p1 5000 (-4) 0 σ_17 fun (x4_52 : Int32) (u_53 : Int32) (σ_54 : MMem) =>
            f_X12_measures_L212 5000 (-4) 0 σ_54 fun (x5_69 : Int32) (u_70 : Int32) (σ_71 : MMem) =>
              if p2 = 0 then
                some (x4_52, σ_71)
              else
                some (x5_69, σ_71)
      else
        some ((-13), σ_5)
    else
      some (v_4, σ_5)) fun J25 =>
  if r_3 = 0 then
    J25 (-1) σ_1
  else
    b1 (f_X12_wrongSort p1 1 σ_1) fun r_75 =>
    J25 r_75 σ_1
def rm_X12_measures : Room := { frames := 3, cells := 0, slots := 0, locals := 68 }
set_option maxHeartbeats 4000000 in
set_option maxRecDepth 100000 in
theorem c_X12_measures {l : Launch} {D : va_G} {ca : Nat → ClassId} {a : Nat → Nat} (hI : InjN 21 a) {p1 : Int32} {p2 : Int32} {σ : MMem} {r : Int32} {σ' : MMem}  (h : f_X12_measures p1 p2 σ = some (r, σ')) : XMM l D ca a Bt yX12_measures cX12_measures 8 (some .int) rm_X12_measures [.ref (a 0), .int p1, .int p2] σ (some (.int r)) σ' := by
  refine XM.of pn_X12 (Nat.le_of_ble_eq_true rfl) ?_
  intro p e s m args below meth c ls Q hQ C0 hK hB hP hS hl
  have C0 : Cx p s m args meth c RX12 cX12_measures 8 (some .int) := C0
  have hx := C0.1
  have hb := C0.2.1
  have hl : lv_has ls 8 [(0, .ref (a 0)), (1, .int p1), (2, .int p2)] := hl
  rw [f_X12_measures] at h
  refine lv_aload_n hx hb dX12_measures_0 rfl (lv_at hl 0 rfl) ?_
  refine lv_iconst (v := 0) hx hb dX12_measures_1 (by decide) ?_
  obtain ⟨σ_1, eσ_1, h⟩ := bnd_e h
  refine pX12_9 C0 hK hP tw951 hI hS dX12_measures_2 (fun H locs hP hS => ?_)
  rw [← eσ_1] at hP
  refine lv_iload_n hx hb dX12_measures_5 rfl (lv_at hl 2 rfl) ?_
  refine lv_i2l (v := p2.toInt64) hx hb dX12_measures_6 rfl ?_
  refine lv_lconst (v := 0) hx hb dX12_measures_7 (by decide) ?_
  refine lv_lconst (v := 1) hx hb dX12_measures_8 (by decide) ?_
  obtain ⟨r_3, h_2, h⟩ := b1_e h
  refine xcall (rS C0 hK hP hl.1 (fun _ _ _ => trivial) Bt_b (c_X12_in hI h_2) cs_X12_in tw1091 (rest := []) rfl (Nat.le_of_ble_eq_true rfl) ⟨rfl, rfl, Nat.le_of_ble_eq_true rfl, Nat.le_of_ble_eq_true rfl⟩ ⟨Nat.zero_le _, Nat.zero_le _⟩ dX12_measures_9) hS (fun H locs hP hS => ?_)
  obtain ⟨J25, eJ25, h⟩ := jn_e h
  have hJ25 : ∀ (v_4 : Int32) (σ_5 : MMem) (H : Heap) (locs : List Loc) (ls : Array Slot), J25 v_4 σ_5 = some (r, σ') → va_P D vwCl (wM ca a σ_5) H → va_S (AW 21 a) s.heap H locs → lv_has ls 8 [(0, .ref (a 0)), (1, .int p1), (2, .int p2)] → W p l e rm_X12_measures s m args below meth c H locs 0 0 Q (F0 m 25 ls [.int v_4]) := by
    intro v_4 σ_5 H locs ls h hP hS hl
    have h := ap2 eJ25 h
    refine lv_istore_n (lv' := [(3, .int v_4), (0, .ref (a 0)), (1, .int p1), (2, .int p2)]) hx hb dX12_measures_25 rfl hl (by decide) rfl (fun ls hl => ?_)
    refine lv_iload_n hx hb dX12_measures_26 rfl (lv_at hl 0 rfl) ?_
    refine lv_if_ge (tgt := 32) hx hb dX12_measures_27 (by decide) (fun c_6 => ?_) (fun c_6 => ?_)
    · have h := it c_6 h
      refine lv_aload_n hx hb dX12_measures_32 rfl (lv_at hl 1 rfl) ?_
      refine gX12_35 C0 hK hP tw977 dX12_measures_33 ?_
      refine lv_iload_n hx hb dX12_measures_36 rfl (lv_at hl 2 rfl) ?_
      obtain ⟨b_7, h⟩ := ck h
      refine mald (i := 18) (N := 8) C0 hK hP (by decide) (by decide) rfl b_7 dX12_measures_37 ?_
      refine lv_iconst (v := 3) hx hb dX12_measures_38 (by decide) ?_
      obtain ⟨y_8, ey_8, h⟩ := bnd_e h
      rw [← ey_8]
      refine lv_irem hx hb dX12_measures_39 (by decide) ?_
      refine lv_if_eq (tgt := 46) hx hb dX12_measures_40 (by decide) (fun c_9 => ?_) (fun c_9 => ?_)
      · have h := it c_9 h
        refine lv_bipush (v := (-4)) hx hb dX12_measures_46 (by decide) ?_
        refine lv_istore (lv' := [(4, .int (-4)), (3, .int v_4), (0, .ref (a 0)), (1, .int p1), (2, .int p2)]) hx hb dX12_measures_48 hl (by decide) rfl (fun ls hl => ?_)
        refine lv_iconst (v := 0) hx hb dX12_measures_50 (by decide) ?_
        refine lv_istore (lv' := [(5, .int 0), (4, .int (-4)), (3, .int v_4), (0, .ref (a 0)), (1, .int p1), (2, .int p2)]) hx hb dX12_measures_51 hl (by decide) rfl (fun ls hl => ?_)
        obtain ⟨K1, eK1, h⟩ := lp_e (f := fun K => f_X12_measures_L53 5000 0 σ_5 K) h
        have h : f_X12_measures_L53 5000 0 σ_5 K1 = some (r, σ') := h
        have hX1 : ∀ (u_16 : Int32) (σ_17 : MMem) (H : Heap) (locs : List Loc) (ls : Array Slot), K1 u_16 σ_17 = some (r, σ') → va_P D vwCl (wM ca a σ_17) H → va_S (AW 21 a) s.heap H locs → lv_has ls 8 [(0, .ref (a 0)), (1, .int p1), (2, .int p2), (4, .int (-4))] → W p l e rm_X12_measures s m args below meth c H locs 0 0 Q (F0 m 74 ls []) := by
          intro u_16 σ_17 H locs ls h hP hS hl
          have h := ap2 eK1 h
          refine lv_iconst (v := 0) hx hb dX12_measures_74 (by decide) ?_
          refine lv_istore (lv' := [(5, .int 0), (0, .ref (a 0)), (1, .int p1), (2, .int p2), (4, .int (-4))]) hx hb dX12_measures_75 hl (by decide) rfl (fun ls hl => ?_)
          obtain ⟨K2, eK2, h⟩ := lp_e (f := fun K => f_X12_measures_L77 p1 5000 (-4) 0 σ_17 K) h
          have h : f_X12_measures_L77 p1 5000 (-4) 0 σ_17 K2 = some (r, σ') := h
          have hX2 : ∀ (x4_52 : Int32) (u_53 : Int32) (σ_54 : MMem) (H : Heap) (locs : List Loc) (ls : Array Slot), K2 x4_52 u_53 σ_54 = some (r, σ') → va_P D vwCl (wM ca a σ_54) H → va_S (AW 21 a) s.heap H locs → lv_has ls 8 [(0, .ref (a 0)), (2, .int p2), (4, .int x4_52)] → W p l e rm_X12_measures s m args below meth c H locs 0 0 Q (F0 m 205 ls []) := by
            intro x4_52 u_53 σ_54 H locs ls h hP hS hl
            have h := ap3 eK2 h
            refine lv_bipush (v := (-4)) hx hb dX12_measures_205 (by decide) ?_
            refine lv_istore (lv' := [(5, .int (-4)), (0, .ref (a 0)), (2, .int p2), (4, .int x4_52)]) hx hb dX12_measures_207 hl (by decide) rfl (fun ls hl => ?_)
            refine lv_iconst (v := 0) hx hb dX12_measures_209 (by decide) ?_
            refine lv_istore (lv' := [(6, .int 0), (5, .int (-4)), (0, .ref (a 0)), (2, .int p2), (4, .int x4_52)]) hx hb dX12_measures_210 hl (by decide) rfl (fun ls hl => ?_)
            obtain ⟨K3, eK3, h⟩ := lp_e (f := fun K => f_X12_measures_L212 5000 (-4) 0 σ_54 K) h
            have h : f_X12_measures_L212 5000 (-4) 0 σ_54 K3 = some (r, σ') := h
            have hX3 : ∀ (x5_69 : Int32) (u_70 : Int32) (σ_71 : MMem) (H : Heap) (locs : List Loc) (ls : Array Slot), K3 x5_69 u_70 σ_71 = some (r, σ') → va_P D vwCl (wM ca a σ_71) H → va_S (AW 21 a) s.heap H locs → lv_has ls 8 [(2, .int p2), (4, .int x4_52), (5, .int x5_69)] → W p l e rm_X12_measures s m args below meth c H locs 0 0 Q (F0 m 268 ls []) := by
              intro x5_69 u_70 σ_71 H locs ls h hP hS hl
              have h := ap3 eK3 h
              refine lv_iload_n hx hb dX12_measures_268 rfl (lv_at hl 0 rfl) ?_
              refine lv_if_ne (tgt := 277) hx hb dX12_measures_269 (by decide) (fun c_72 => ?_) (fun c_72 => ?_)
              · have h := ie c_72 h
                refine lv_iload hx hb dX12_measures_277 (lv_at hl 2 rfl) ?_
                rw [hQ]
                exact xzret C0 hP hS rfl h dX12_measures_279
              · have h := it c_72 h
                refine lv_iload hx hb dX12_measures_272 (lv_at hl 1 rfl) ?_
                refine lv_goto (tgt := 279) hx hb dX12_measures_274 (by decide) ?_
                rw [hQ]
                exact xzret C0 hP hS rfl h dX12_measures_279
            have hL3 : ∀ (n : Nat) (x5_55 : Int32) (x6_56 : Int32) (σ_57 : MMem) (H : Heap) (locs : List Loc) (ls : Array Slot), f_X12_measures_L212 n x5_55 x6_56 σ_57 K3 = some (r, σ') → va_P D vwCl (wM ca a σ_57) H → va_S (AW 21 a) s.heap H locs → lv_has ls 8 [(0, .ref (a 0)), (2, .int p2), (4, .int x4_52), (5, .int x5_55), (6, .int x6_56)] → W p l e rm_X12_measures s m args below meth c H locs 0 0 Q (F0 m 212 ls []) := by
              intro n
              induction n with
              | zero => intro x5_55 x6_56 σ_57 H locs ls h; rw [f_X12_measures_L212] at h; cases h
              | succ n ih3 =>
                intro x5_55 x6_56 σ_57 H locs ls h hP hS hl
                rw [f_X12_measures_L212] at h
                refine lv_iload hx hb dX12_measures_212 (lv_at hl 4 rfl) ?_
                refine lv_aload_n hx hb dX12_measures_214 rfl (lv_at hl 0 rfl) ?_
                refine gX12_0 C0 hK hP tw942 dX12_measures_215 ?_
                refine lv_icmp_ge (tgt := 268) hx hb dX12_measures_218 (by decide) (fun c_58 => ?_) (fun c_58 => ?_)
                · have h := it c_58 h
                  exact hX3 x5_55 x6_56 σ_57 _ _ ls h hP hS (lv_sub hl [1, 2, 3] rfl)
                · have h := ie c_58 h
                  refine lv_aload_n hx hb dX12_measures_221 rfl (lv_at hl 0 rfl) ?_
                  refine gX12_27 C0 hK hP tw969 dX12_measures_222 ?_
                  refine lv_iload hx hb dX12_measures_225 (lv_at hl 4 rfl) ?_
                  obtain ⟨b_59, h⟩ := ck h
                  refine mald (i := 13) (N := 6) C0 hK hP (by decide) (by decide) rfl b_59 dX12_measures_227 ?_
                  refine lv_if_le (tgt := 258) hx hb dX12_measures_228 (by decide) (fun c_60 => ?_) (fun c_60 => ?_)
                  · have h := it c_60 h
                    refine lv_iload hx hb dX12_measures_258 (lv_at hl 3 rfl) ?_
                    refine lv_istore (lv' := [(5, .int x5_55), (0, .ref (a 0)), (2, .int p2), (4, .int x4_52), (6, .int x6_56)]) hx hb dX12_measures_260 hl (by decide) rfl (fun ls hl => ?_)
                    obtain ⟨x6_61, ex6_61, h⟩ := bnd_e h
                    refine lv_iinc (v := x6_61) (lv' := [(6, .int x6_61), (5, .int x5_55), (0, .ref (a 0)), (2, .int p2), (4, .int x4_52)]) hx hb dX12_measures_262 hl (k := 4) rfl (by rw [ex6_61]; rfl) (by decide) rfl (fun ls hl => ?_)
                    refine lv_goto (tgt := 212) hx hb dX12_measures_265 (by decide) ?_
                    exact ih3 x5_55 x6_61 σ_57 _ _ ls h hP hS (lv_sub hl [2, 3, 4, 1, 0] rfl)
                  · have h := ie c_60 h
                    refine lv_iload hx hb dX12_measures_231 (lv_at hl 3 rfl) ?_
                    refine lv_if_lt (tgt := 253) hx hb dX12_measures_233 (by decide) (fun c_62 => ?_) (fun c_62 => ?_)
                    · have h := it c_62 h
                      refine lv_iload hx hb dX12_measures_253 (lv_at hl 4 rfl) ?_
                      refine lv_goto (tgt := 260) hx hb dX12_measures_255 (by decide) ?_
                      refine lv_istore (lv' := [(5, .int x6_56), (0, .ref (a 0)), (2, .int p2), (4, .int x4_52), (6, .int x6_56)]) hx hb dX12_measures_260 hl (by decide) rfl (fun ls hl => ?_)
                      obtain ⟨x6_63, ex6_63, h⟩ := bnd_e h
                      refine lv_iinc (v := x6_63) (lv' := [(6, .int x6_63), (5, .int x6_56), (0, .ref (a 0)), (2, .int p2), (4, .int x4_52)]) hx hb dX12_measures_262 hl (k := 4) rfl (by rw [ex6_63]; rfl) (by decide) rfl (fun ls hl => ?_)
                      refine lv_goto (tgt := 212) hx hb dX12_measures_265 (by decide) ?_
                      exact ih3 x6_56 x6_63 σ_57 _ _ ls h hP hS (lv_sub hl [2, 3, 4, 1, 0] rfl)
                    · have h := ie c_62 h
                      refine lv_aload_n hx hb dX12_measures_236 rfl (lv_at hl 0 rfl) ?_
                      refine gX12_27 C0 hK hP tw969 dX12_measures_237 ?_
                      refine lv_iload hx hb dX12_measures_240 (lv_at hl 4 rfl) ?_
                      obtain ⟨b_64, h⟩ := ck h
                      refine mald (i := 13) (N := 6) C0 hK hP (by decide) (by decide) rfl b_64 dX12_measures_242 ?_
                      refine lv_aload_n hx hb dX12_measures_243 rfl (lv_at hl 0 rfl) ?_
                      refine gX12_27 C0 hK hP tw969 dX12_measures_244 ?_
                      refine lv_iload hx hb dX12_measures_247 (lv_at hl 3 rfl) ?_
                      obtain ⟨b_65, h⟩ := ck h
                      refine mald (i := 13) (N := 6) C0 hK hP (by decide) (by decide) rfl b_65 dX12_measures_249 ?_
                      refine lv_icmp_le (tgt := 258) hx hb dX12_measures_250 (by decide) (fun c_66 => ?_) (fun c_66 => ?_)
                      · have h := it c_66 h
                        refine lv_iload hx hb dX12_measures_258 (lv_at hl 3 rfl) ?_
                        refine lv_istore (lv' := [(5, .int x5_55), (0, .ref (a 0)), (2, .int p2), (4, .int x4_52), (6, .int x6_56)]) hx hb dX12_measures_260 hl (by decide) rfl (fun ls hl => ?_)
                        obtain ⟨x6_67, ex6_67, h⟩ := bnd_e h
                        refine lv_iinc (v := x6_67) (lv' := [(6, .int x6_67), (5, .int x5_55), (0, .ref (a 0)), (2, .int p2), (4, .int x4_52)]) hx hb dX12_measures_262 hl (k := 4) rfl (by rw [ex6_67]; rfl) (by decide) rfl (fun ls hl => ?_)
                        refine lv_goto (tgt := 212) hx hb dX12_measures_265 (by decide) ?_
                        exact ih3 x5_55 x6_67 σ_57 _ _ ls h hP hS (lv_sub hl [2, 3, 4, 1, 0] rfl)
                      · have h := ie c_66 h
                        refine lv_iload hx hb dX12_measures_253 (lv_at hl 4 rfl) ?_
                        refine lv_goto (tgt := 260) hx hb dX12_measures_255 (by decide) ?_
                        refine lv_istore (lv' := [(5, .int x6_56), (0, .ref (a 0)), (2, .int p2), (4, .int x4_52), (6, .int x6_56)]) hx hb dX12_measures_260 hl (by decide) rfl (fun ls hl => ?_)
                        obtain ⟨x6_68, ex6_68, h⟩ := bnd_e h
                        refine lv_iinc (v := x6_68) (lv' := [(6, .int x6_68), (5, .int x6_56), (0, .ref (a 0)), (2, .int p2), (4, .int x4_52)]) hx hb dX12_measures_262 hl (k := 4) rfl (by rw [ex6_68]; rfl) (by decide) rfl (fun ls hl => ?_)
                        refine lv_goto (tgt := 212) hx hb dX12_measures_265 (by decide) ?_
                        exact ih3 x6_56 x6_68 σ_57 _ _ ls h hP hS (lv_sub hl [2, 3, 4, 1, 0] rfl)
            exact hL3 5000 (-4) 0 σ_54 _ _ ls h hP hS (lv_sub hl [2, 3, 4, 1, 0] rfl)
          have hL2 : ∀ (n : Nat) (x4_18 : Int32) (x5_19 : Int32) (σ_20 : MMem) (H : Heap) (locs : List Loc) (ls : Array Slot), f_X12_measures_L77 p1 n x4_18 x5_19 σ_20 K2 = some (r, σ') → va_P D vwCl (wM ca a σ_20) H → va_S (AW 21 a) s.heap H locs → lv_has ls 8 [(0, .ref (a 0)), (1, .int p1), (2, .int p2), (4, .int x4_18), (5, .int x5_19)] → W p l e rm_X12_measures s m args below meth c H locs 0 0 Q (F0 m 77 ls []) := by
            intro n
            induction n with
            | zero => intro x4_18 x5_19 σ_20 H locs ls h; rw [f_X12_measures_L77] at h; cases h
            | succ n ih2 =>
              intro x4_18 x5_19 σ_20 H locs ls h hP hS hl
              rw [f_X12_measures_L77] at h
              refine lv_iload hx hb dX12_measures_77 (lv_at hl 4 rfl) ?_
              refine lv_aload_n hx hb dX12_measures_79 rfl (lv_at hl 0 rfl) ?_
              refine gX12_35 C0 hK hP tw977 dX12_measures_80 ?_
              refine lv_iload_n hx hb dX12_measures_83 rfl (lv_at hl 1 rfl) ?_
              obtain ⟨b_21, h⟩ := ck h
              refine mald (i := 18) (N := 8) C0 hK hP (by decide) (by decide) rfl b_21 dX12_measures_84 ?_
              refine lv_icmp_ge (tgt := 205) hx hb dX12_measures_85 (by decide) (fun c_22 => ?_) (fun c_22 => ?_)
              · have h := it c_22 h
                exact hX2 x4_18 x5_19 σ_20 _ _ ls h hP hS (lv_sub hl [0, 2, 3] rfl)
              · have h := ie c_22 h
                refine lv_aload_n hx hb dX12_measures_88 rfl (lv_at hl 0 rfl) ?_
                refine lv_iload_n hx hb dX12_measures_89 rfl (lv_at hl 1 rfl) ?_
                refine lv_iload hx hb dX12_measures_90 (lv_at hl 4 rfl) ?_
                obtain ⟨r_24, h_23, h⟩ := b1_e h
                refine xcall (rV C0 hK hP hl.1 (fun _ _ _ => trivial) Bt_b (c_X12_told hI h_23) cv_X12_told tw1215 (rcX12 hK hP) (rest := []) rfl (Nat.le_of_ble_eq_true rfl) ⟨rfl, rfl, Nat.le_of_ble_eq_true rfl, Nat.le_of_ble_eq_true rfl⟩ ⟨Nat.zero_le _, Nat.zero_le _⟩ dX12_measures_92) hS (fun H locs hP hS => ?_)
                refine lv_istore (lv' := [(6, .int r_24), (0, .ref (a 0)), (1, .int p1), (2, .int p2), (4, .int x4_18), (5, .int x5_19)]) hx hb dX12_measures_95 hl (by decide) rfl (fun ls hl => ?_)
                refine lv_aload_n hx hb dX12_measures_97 rfl (lv_at hl 1 rfl) ?_
                refine lv_iload_n hx hb dX12_measures_98 rfl (lv_at hl 2 rfl) ?_
                refine lv_iload hx hb dX12_measures_99 (lv_at hl 5 rfl) ?_
                refine lv_iconst (v := 1) hx hb dX12_measures_101 (by decide) ?_
                refine lv_iadd hx hb dX12_measures_102 ?_
                obtain ⟨r_26, h_25, h⟩ := b1_e h
                refine xcall (rV C0 hK hP hl.1 (fun _ _ _ => trivial) Bt_b (c_X12_told hI h_25) cv_X12_told tw1215 (rcX12 hK hP) (rest := []) rfl (Nat.le_of_ble_eq_true rfl) ⟨rfl, rfl, Nat.le_of_ble_eq_true rfl, Nat.le_of_ble_eq_true rfl⟩ ⟨Nat.zero_le _, Nat.zero_le _⟩ dX12_measures_103) hS (fun H locs hP hS => ?_)
                refine lv_istore (lv' := [(7, .int r_26), (6, .int r_24), (0, .ref (a 0)), (1, .int p1), (2, .int p2), (4, .int x4_18), (5, .int x5_19)]) hx hb dX12_measures_106 hl (by decide) rfl (fun ls hl => ?_)
                refine lv_aload_n hx hb dX12_measures_108 rfl (lv_at hl 2 rfl) ?_
                refine lv_iload hx hb dX12_measures_109 (lv_at hl 1 rfl) ?_
                obtain ⟨r_28, h_27, h⟩ := b1_e h
                refine xcall (rV C0 hK hP hl.1 (fun _ _ _ => trivial) Bt_b (c_X12_isRing hI h_27) cv_X12_isRing tw1128 (rcX12 hK hP) (rest := []) rfl (Nat.le_of_ble_eq_true rfl) ⟨rfl, rfl, Nat.le_of_ble_eq_true rfl, Nat.le_of_ble_eq_true rfl⟩ ⟨Nat.zero_le _, Nat.zero_le _⟩ dX12_measures_111) hS (fun H locs hP hS => ?_)
                refine lv_if_eq (tgt := 133) hx hb dX12_measures_114 (by decide) (fun c_29 => ?_) (fun c_29 => ?_)
                · have h := it c_29 h
                  refine lv_bipush (v := (-13)) hx hb dX12_measures_133 (by decide) ?_
                  rw [hQ]
                  exact xzret C0 hP hS rfl h dX12_measures_135
                · have h := ie c_29 h
                  refine lv_aload_n hx hb dX12_measures_117 rfl (lv_at hl 2 rfl) ?_
                  refine lv_iload hx hb dX12_measures_118 (lv_at hl 0 rfl) ?_
                  obtain ⟨r_31, h_30, h⟩ := b1_e h
                  refine xcall (rV C0 hK hP hl.1 (fun _ _ _ => trivial) Bt_b (c_X12_isRing hI h_30) cv_X12_isRing tw1128 (rcX12 hK hP) (rest := []) rfl (Nat.le_of_ble_eq_true rfl) ⟨rfl, rfl, Nat.le_of_ble_eq_true rfl, Nat.le_of_ble_eq_true rfl⟩ ⟨Nat.zero_le _, Nat.zero_le _⟩ dX12_measures_120) hS (fun H locs hP hS => ?_)
                  refine lv_if_eq (tgt := 133) hx hb dX12_measures_123 (by decide) (fun c_32 => ?_) (fun c_32 => ?_)
                  · have h := it c_32 h
                    refine lv_bipush (v := (-13)) hx hb dX12_measures_133 (by decide) ?_
                    rw [hQ]
                    exact xzret C0 hP hS rfl h dX12_measures_135
                  · have h := ie c_32 h
                    refine lv_iload hx hb dX12_measures_126 (lv_at hl 1 rfl) ?_
                    refine lv_iload hx hb dX12_measures_128 (lv_at hl 0 rfl) ?_
                    refine lv_icmp_ne (tgt := 136) hx hb dX12_measures_130 (by decide) (fun c_33 => ?_) (fun c_33 => ?_)
                    · have h := ie c_33 h
                      refine lv_aload_n hx hb dX12_measures_136 rfl (lv_at hl 2 rfl) ?_
                      refine gX12_5 C0 hK hP tw947 dX12_measures_137 ?_
                      refine lv_iload hx hb dX12_measures_140 (lv_at hl 1 rfl) ?_
                      obtain ⟨b_34, h⟩ := ck h
                      refine mald (i := 1) (N := 6) C0 hK hP (by decide) (by decide) rfl b_34 dX12_measures_142 ?_
                      refine lv_aload_n hx hb dX12_measures_143 rfl (lv_at hl 2 rfl) ?_
                      refine gX12_5 C0 hK hP tw947 dX12_measures_144 ?_
                      refine lv_iload hx hb dX12_measures_147 (lv_at hl 0 rfl) ?_
                      obtain ⟨b_35, h⟩ := ck h
                      refine mald (i := 1) (N := 6) C0 hK hP (by decide) (by decide) rfl b_35 dX12_measures_149 ?_
                      refine lv_isub hx hb dX12_measures_150 ?_
                      refine lv_aload_n hx hb dX12_measures_151 rfl (lv_at hl 2 rfl) ?_
                      refine lv_iload_n hx hb dX12_measures_152 rfl (lv_at hl 3 rfl) ?_
                      refine lv_iload hx hb dX12_measures_153 (lv_at hl 6 rfl) ?_
                      refine lv_iconst (v := 2) hx hb dX12_measures_155 (by decide) ?_
                      refine lv_iadd hx hb dX12_measures_156 ?_
                      obtain ⟨r_37, h_36, h⟩ := b1_e h
                      refine xcall (rV C0 hK hP hl.1 (fun _ _ _ => trivial) Bt_b (c_X12_told hI h_36) cv_X12_told tw1215 (rcX12 hK hP) (rest := [.int (((σ_20 1).1 r_24.toNatClampNeg) - ((σ_20 1).1 r_26.toNatClampNeg))]) rfl (Nat.le_of_ble_eq_true rfl) ⟨rfl, rfl, Nat.le_of_ble_eq_true rfl, Nat.le_of_ble_eq_true rfl⟩ ⟨Nat.zero_le _, Nat.zero_le _⟩ dX12_measures_157) hS (fun H locs hP hS => ?_)
                      refine lv_icmp_eq (tgt := 199) hx hb dX12_measures_160 (by decide) (fun c_38 => ?_) (fun c_38 => ?_)
                      · have h := it c_38 h
                        obtain ⟨x5_39, ex5_39, h⟩ := bnd_e h
                        refine lv_iinc (v := x5_39) (lv' := [(5, .int x5_39), (7, .int r_26), (6, .int r_24), (0, .ref (a 0)), (1, .int p1), (2, .int p2), (4, .int x4_18)]) hx hb dX12_measures_199 hl (k := 6) rfl (by rw [ex5_39]; rfl) (by decide) rfl (fun ls hl => ?_)
                        refine lv_goto (tgt := 77) hx hb dX12_measures_202 (by decide) ?_
                        exact ih2 x4_18 x5_39 σ_20 _ _ ls h hP hS (lv_sub hl [3, 4, 5, 6, 0] rfl)
                      · have h := ie c_38 h
                        refine lv_iload hx hb dX12_measures_163 (lv_at hl 5 rfl) ?_
                        obtain ⟨J175, eJ175, h⟩ := jn_e h
                        have hJ175 : ∀ (v_40 : Int32) (σ_41 : MMem) (H : Heap) (locs : List Loc) (ls : Array Slot), J175 v_40 σ_41 = some (r, σ') → va_P D vwCl (wM ca a σ_41) H → va_S (AW 21 a) s.heap H locs → lv_has ls 8 [(0, .ref (a 0)), (1, .int p1), (2, .int p2), (5, .int x5_19), (6, .int r_24), (7, .int r_26)] → W p l e rm_X12_measures s m args below meth c H locs 0 0 Q (F0 m 175 ls [.int v_40]) := by
                          intro v_40 σ_41 H locs ls h hP hS hl
                          have h := ap2 eJ175 h
                          refine lv_istore (lv' := [(4, .int v_40), (0, .ref (a 0)), (1, .int p1), (2, .int p2), (5, .int x5_19), (6, .int r_24), (7, .int r_26)]) hx hb dX12_measures_175 hl (by decide) rfl (fun ls hl => ?_)
                          refine lv_aload_n hx hb dX12_measures_177 rfl (lv_at hl 1 rfl) ?_
                          refine gX12_27 C0 hK hP tw969 dX12_measures_178 ?_
                          refine lv_iload hx hb dX12_measures_181 (lv_at hl 5 rfl) ?_
                          refine lv_dup2_11 hx hb dX12_measures_183 rfl rfl ?_
                          obtain ⟨b_42, h⟩ := ck h
                          refine mald (i := 13) (N := 6) C0 hK hP (by decide) (by decide) rfl b_42 dX12_measures_184 ?_
                          refine lv_iconst (v := 1) hx hb dX12_measures_185 (by decide) ?_
                          refine lv_iadd hx hb dX12_measures_186 ?_
                          obtain ⟨y_43, ey_43, h⟩ := bnd_e h
                          refine nm_i ey_43 ?_
                          obtain ⟨b_44, h⟩ := ck h
                          obtain ⟨σ_45, eσ_45, h⟩ := bnd_e h
                          refine mast (i := 13) (N := 6) C0 hK hP hI hS (by decide) (by decide) rfl b_44 dX12_measures_187 (fun H locs hP hS => ?_)
                          rw [← eσ_45] at hP
                          refine lv_aload_n hx hb dX12_measures_188 rfl (lv_at hl 1 rfl) ?_
                          refine gX12_27 C0 hK hP tw969 dX12_measures_189 ?_
                          refine lv_iload hx hb dX12_measures_192 (lv_at hl 6 rfl) ?_
                          refine lv_dup2_11 hx hb dX12_measures_194 rfl rfl ?_
                          obtain ⟨b_46, h⟩ := ck h
                          refine mald (i := 13) (N := 6) C0 hK hP (by decide) (by decide) rfl b_46 dX12_measures_195 ?_
                          refine lv_iconst (v := 1) hx hb dX12_measures_196 (by decide) ?_
                          refine lv_iadd hx hb dX12_measures_197 ?_
                          obtain ⟨y_47, ey_47, h⟩ := bnd_e h
                          refine nm_i ey_47 ?_
                          obtain ⟨b_48, h⟩ := ck h
                          obtain ⟨σ_49, eσ_49, h⟩ := bnd_e h
                          refine mast (i := 13) (N := 6) C0 hK hP hI hS (by decide) (by decide) rfl b_48 dX12_measures_198 (fun H locs hP hS => ?_)
                          rw [← eσ_49] at hP
                          obtain ⟨x5_50, ex5_50, h⟩ := bnd_e h
                          refine lv_iinc (v := x5_50) (lv' := [(5, .int x5_50), (4, .int v_40), (0, .ref (a 0)), (1, .int p1), (2, .int p2), (6, .int r_24), (7, .int r_26)]) hx hb dX12_measures_199 hl (k := 4) rfl (by rw [ex5_50]; rfl) (by decide) rfl (fun ls hl => ?_)
                          refine lv_goto (tgt := 77) hx hb dX12_measures_202 (by decide) ?_
                          exact ih2 v_40 x5_50 σ_49 _ _ ls h hP hS (lv_sub hl [2, 3, 4, 1, 0] rfl)
                        refine lv_if_ge (tgt := 173) hx hb dX12_measures_165 (by decide) (fun c_51 => ?_) (fun c_51 => ?_)
                        · have h := it c_51 h
                          refine lv_iload hx hb dX12_measures_173 (lv_at hl 5 rfl) ?_
                          exact hJ175 x4_18 σ_20 _ _ ls h hP hS (lv_sub hl [2, 3, 4, 6, 1, 0] rfl)
                        · have h := ie c_51 h
                          refine lv_iload hx hb dX12_measures_168 (lv_at hl 6 rfl) ?_
                          refine lv_goto (tgt := 175) hx hb dX12_measures_170 (by decide) ?_
                          exact hJ175 x5_19 σ_20 _ _ ls h hP hS (lv_sub hl [2, 3, 4, 6, 1, 0] rfl)
                    · have h := it c_33 h
                      refine lv_bipush (v := (-13)) hx hb dX12_measures_133 (by decide) ?_
                      rw [hQ]
                      exact xzret C0 hP hS rfl h dX12_measures_135
          exact hL2 5000 (-4) 0 σ_17 _ _ ls h hP hS (lv_sub hl [1, 2, 3, 4, 0] rfl)
        have hL1 : ∀ (n : Nat) (x5_10 : Int32) (σ_11 : MMem) (H : Heap) (locs : List Loc) (ls : Array Slot), f_X12_measures_L53 n x5_10 σ_11 K1 = some (r, σ') → va_P D vwCl (wM ca a σ_11) H → va_S (AW 21 a) s.heap H locs → lv_has ls 8 [(0, .ref (a 0)), (1, .int p1), (2, .int p2), (4, .int (-4)), (5, .int x5_10)] → W p l e rm_X12_measures s m args below meth c H locs 0 0 Q (F0 m 53 ls []) := by
          intro n
          induction n with
          | zero => intro x5_10 σ_11 H locs ls h; rw [f_X12_measures_L53] at h; cases h
          | succ n ih1 =>
            intro x5_10 σ_11 H locs ls h hP hS hl
            rw [f_X12_measures_L53] at h
            refine lv_iload hx hb dX12_measures_53 (lv_at hl 4 rfl) ?_
            refine lv_bipush (v := 6) hx hb dX12_measures_55 (by decide) ?_
            refine lv_icmp_ge (tgt := 74) hx hb dX12_measures_57 (by decide) (fun c_12 => ?_) (fun c_12 => ?_)
            · have h := it c_12 h
              exact hX1 x5_10 σ_11 _ _ ls h hP hS (lv_sub hl [0, 1, 2, 3] rfl)
            · have h := ie c_12 h
              refine lv_aload_n hx hb dX12_measures_60 rfl (lv_at hl 0 rfl) ?_
              refine gX12_27 C0 hK hP tw969 dX12_measures_61 ?_
              refine lv_iload hx hb dX12_measures_64 (lv_at hl 4 rfl) ?_
              refine lv_iconst (v := 0) hx hb dX12_measures_66 (by decide) ?_
              obtain ⟨b_13, h⟩ := ck h
              obtain ⟨σ_14, eσ_14, h⟩ := bnd_e h
              refine mast (i := 13) (N := 6) C0 hK hP hI hS (by decide) (by decide) rfl b_13 dX12_measures_67 (fun H locs hP hS => ?_)
              rw [← eσ_14] at hP
              obtain ⟨x5_15, ex5_15, h⟩ := bnd_e h
              refine lv_iinc (v := x5_15) (lv' := [(5, .int x5_15), (0, .ref (a 0)), (1, .int p1), (2, .int p2), (4, .int (-4))]) hx hb dX12_measures_68 hl (k := 4) rfl (by rw [ex5_15]; rfl) (by decide) rfl (fun ls hl => ?_)
              refine lv_goto (tgt := 53) hx hb dX12_measures_71 (by decide) ?_
              exact ih1 x5_15 σ_14 _ _ ls h hP hS (lv_sub hl [1, 2, 3, 4, 0] rfl)
        exact hL1 5000 0 σ_5 _ _ ls h hP hS (lv_sub hl [3, 4, 5, 1, 0] rfl)
      · have h := ie c_9 h
        refine lv_bipush (v := (-13)) hx hb dX12_measures_43 (by decide) ?_
        rw [hQ]
        exact xzret C0 hP hS rfl h dX12_measures_45
    · have h := ie c_6 h
      refine lv_iload_n hx hb dX12_measures_30 rfl (lv_at hl 0 rfl) ?_
      rw [hQ]
      exact xzret C0 hP hS rfl h dX12_measures_31
  refine lv_if_eq (tgt := 24) hx hb dX12_measures_12 (by decide) (fun c_73 => ?_) (fun c_73 => ?_)
  · have h := it c_73 h
    refine lv_iconst (v := (-1)) hx hb dX12_measures_24 (by decide) ?_
    exact hJ25 (-1) σ_1 _ _ ls h hP hS (lv_sub hl [0, 1, 2] rfl)
  · have h := ie c_73 h
    refine lv_aload_n hx hb dX12_measures_15 rfl (lv_at hl 0 rfl) ?_
    refine lv_iload_n hx hb dX12_measures_16 rfl (lv_at hl 1 rfl) ?_
    refine lv_iconst (v := 1) hx hb dX12_measures_17 (by decide) ?_
    obtain ⟨r_75, h_74, h⟩ := b1_e h
    refine xcall (rV C0 hK hP hl.1 (fun _ _ _ => trivial) Bt_b (c_X12_wrongSort hI h_74) cv_X12_wrongSort tw1082 (rcX12 hK hP) (rest := []) rfl (Nat.le_of_ble_eq_true rfl) ⟨rfl, rfl, Nat.le_of_ble_eq_true rfl, Nat.le_of_ble_eq_true rfl⟩ ⟨Nat.zero_le _, Nat.zero_le _⟩ dX12_measures_18) hS (fun H locs hP hS => ?_)
    refine lv_goto (tgt := 25) hx hb dX12_measures_21 (by decide) ?_
    exact hJ25 r_75 σ_1 _ _ ls h hP hS (lv_sub hl [0, 1, 2] rfl)
def f_X12_wrongList_L31 (p1 : Int32) (σ : MMem) : Nat → Int32 → Int32 → (Int32 → Int32 → Option (Int32)) → Option (Int32)
  | 0, _, _, _ => none
  | n + 1, x4_8, x5_9, K1 =>
    if p1 < 0 ∨ 8 ≤ p1.toNatClampNeg then none else
    if ((σ 18).1 p1.toNatClampNeg) ≤ x5_9 then
      K1 x4_8 x5_9
    else
      if x4_8 = 0 then
        K1 x4_8 x5_9
      else
        bnd ((100 * p1) + x5_9) fun (i_13 : Int32) =>
        if i_13 < 0 ∨ 800 ≤ i_13.toNatClampNeg then none else
        bnd ((σ 19).2 i_13.toNatClampNeg) fun (y_15 : Int64) =>
        b1 (f_X12_in y_15 1 99) fun r_17 =>
        bnd (x5_9 + 1) fun (x5_18 : Int32) =>
        f_X12_wrongList_L31 p1 σ n r_17 x5_18 K1
def f_X12_wrongList (p1 : Int32) (p2 : Int32) (σ : MMem) : Option (Int32) :=
  b1 (f_X12_wrongSort p1 0 σ) fun r_2 =>
  if 0 ≤ r_2 then
    if p1 < 0 ∨ 8 ≤ p1.toNatClampNeg then none else
    bnd (((σ 18).1 p1.toNatClampNeg).toInt64) fun (y_5 : Int64) =>
    b1 (f_X12_in y_5 1 p2.toInt64) fun r_7 =>
    f_X12_wrongList_L31 p1 σ 5000 r_7 0 fun (x4_19 : Int32) (u_20 : Int32) =>
      if x4_19 = 0 then
        some (-13)
      else
        some 0
  else
    some r_2
def rm_X12_wrongList : Room := { frames := 3, cells := 0, slots := 0, locals := 68 }
set_option maxHeartbeats 4000000 in
set_option maxRecDepth 100000 in
theorem c_X12_wrongList {l : Launch} {D : va_G} {ca : Nat → ClassId} {a : Nat → Nat} (hI : InjN 21 a) {p1 : Int32} {p2 : Int32} {σ : MMem} {r : Int32}  (h : f_X12_wrongList p1 p2 σ = some r) : XMM l D ca a Bt yX12_wrongList cX12_wrongList 6 (some .int) rm_X12_wrongList [.ref (a 0), .int p1, .int p2] σ (some (.int r)) σ := by
  refine XM.of pn_X12 (Nat.le_of_ble_eq_true rfl) ?_
  intro p e s m args below meth c ls Q hQ C0 hK hB hP hS hl
  have C0 : Cx p s m args meth c RX12 cX12_wrongList 6 (some .int) := C0
  have hx := C0.1
  have hb := C0.2.1
  have hl : lv_has ls 6 [(0, .ref (a 0)), (1, .int p1), (2, .int p2)] := hl
  rw [f_X12_wrongList] at h
  refine lv_aload_n hx hb dX12_wrongList_0 rfl (lv_at hl 0 rfl) ?_
  refine lv_iload_n hx hb dX12_wrongList_1 rfl (lv_at hl 1 rfl) ?_
  refine lv_iconst (v := 0) hx hb dX12_wrongList_2 (by decide) ?_
  obtain ⟨r_2, h_1, h⟩ := b1_e h
  refine xcall (rV C0 hK hP hl.1 (fun _ _ _ => trivial) Bt_b (c_X12_wrongSort hI h_1) cv_X12_wrongSort tw1082 (rcX12 hK hP) (rest := []) rfl (Nat.le_of_ble_eq_true rfl) ⟨rfl, rfl, Nat.le_of_ble_eq_true rfl, Nat.le_of_ble_eq_true rfl⟩ ⟨Nat.zero_le _, Nat.zero_le _⟩ dX12_wrongList_3) hS (fun H locs hP hS => ?_)
  refine lv_istore_n (lv' := [(3, .int r_2), (0, .ref (a 0)), (1, .int p1), (2, .int p2)]) hx hb dX12_wrongList_6 rfl hl (by decide) rfl (fun ls hl => ?_)
  refine lv_iload_n hx hb dX12_wrongList_7 rfl (lv_at hl 0 rfl) ?_
  refine lv_if_ge (tgt := 13) hx hb dX12_wrongList_8 (by decide) (fun c_3 => ?_) (fun c_3 => ?_)
  · have h := it c_3 h
    refine lv_aload_n hx hb dX12_wrongList_13 rfl (lv_at hl 1 rfl) ?_
    refine gX12_35 C0 hK hP tw977 dX12_wrongList_14 ?_
    refine lv_iload_n hx hb dX12_wrongList_17 rfl (lv_at hl 2 rfl) ?_
    obtain ⟨b_4, h⟩ := ck h
    refine mald (i := 18) (N := 8) C0 hK hP (by decide) (by decide) rfl b_4 dX12_wrongList_18 ?_
    refine lv_i2l (v := ((σ 18).1 p1.toNatClampNeg).toInt64) hx hb dX12_wrongList_19 rfl ?_
    refine lv_lconst (v := 1) hx hb dX12_wrongList_20 (by decide) ?_
    refine lv_iload_n hx hb dX12_wrongList_21 rfl (lv_at hl 3 rfl) ?_
    refine lv_i2l (v := p2.toInt64) hx hb dX12_wrongList_22 rfl ?_
    obtain ⟨y_5, ey_5, h⟩ := bnd_e h
    rw [← ey_5]
    obtain ⟨r_7, h_6, h⟩ := b1_e h
    refine xcall (rS C0 hK hP hl.1 (fun _ _ _ => trivial) Bt_b (c_X12_in hI h_6) cs_X12_in tw1091 (rest := []) rfl (Nat.le_of_ble_eq_true rfl) ⟨rfl, rfl, Nat.le_of_ble_eq_true rfl, Nat.le_of_ble_eq_true rfl⟩ ⟨Nat.zero_le _, Nat.zero_le _⟩ dX12_wrongList_23) hS (fun H locs hP hS => ?_)
    refine lv_istore (lv' := [(4, .int r_7), (3, .int r_2), (0, .ref (a 0)), (1, .int p1), (2, .int p2)]) hx hb dX12_wrongList_26 hl (by decide) rfl (fun ls hl => ?_)
    refine lv_iconst (v := 0) hx hb dX12_wrongList_28 (by decide) ?_
    refine lv_istore (lv' := [(5, .int 0), (4, .int r_7), (3, .int r_2), (0, .ref (a 0)), (1, .int p1), (2, .int p2)]) hx hb dX12_wrongList_29 hl (by decide) rfl (fun ls hl => ?_)
    obtain ⟨K1, eK1, h⟩ := lp_e (f := fun K => f_X12_wrongList_L31 p1 σ 5000 r_7 0 K) h
    have h : f_X12_wrongList_L31 p1 σ 5000 r_7 0 K1 = some r := h
    have hX1 : ∀ (x4_19 : Int32) (u_20 : Int32) (H : Heap) (locs : List Loc) (ls : Array Slot), K1 x4_19 u_20 = some r → va_P D vwCl (wM ca a σ) H → va_S (AW 21 a) s.heap H locs → lv_has ls 6 [(4, .int x4_19)] → W p l e rm_X12_wrongList s m args below meth c H locs 0 0 Q (F0 m 74 ls []) := by
      intro x4_19 u_20 H locs ls h hP hS hl
      have h := ap2 eK1 h
      refine lv_iload hx hb dX12_wrongList_74 (lv_at hl 0 rfl) ?_
      refine lv_if_eq (tgt := 83) hx hb dX12_wrongList_76 (by decide) (fun c_21 => ?_) (fun c_21 => ?_)
      · have h := it c_21 h
        refine lv_bipush (v := (-13)) hx hb dX12_wrongList_83 (by decide) ?_
        rw [hQ]
        exact xzretr C0 hP hS rfl h dX12_wrongList_85
      · have h := ie c_21 h
        refine lv_iconst (v := 0) hx hb dX12_wrongList_79 (by decide) ?_
        refine lv_goto (tgt := 85) hx hb dX12_wrongList_80 (by decide) ?_
        rw [hQ]
        exact xzretr C0 hP hS rfl h dX12_wrongList_85
    have hL1 : ∀ (n : Nat) (x4_8 : Int32) (x5_9 : Int32) (H : Heap) (locs : List Loc) (ls : Array Slot), f_X12_wrongList_L31 p1 σ n x4_8 x5_9 K1 = some r → va_P D vwCl (wM ca a σ) H → va_S (AW 21 a) s.heap H locs → lv_has ls 6 [(0, .ref (a 0)), (1, .int p1), (4, .int x4_8), (5, .int x5_9)] → W p l e rm_X12_wrongList s m args below meth c H locs 0 0 Q (F0 m 31 ls []) := by
      intro n
      induction n with
      | zero => intro x4_8 x5_9 H locs ls h; rw [f_X12_wrongList_L31] at h; cases h
      | succ n ih1 =>
        intro x4_8 x5_9 H locs ls h hP hS hl
        rw [f_X12_wrongList_L31] at h
        refine lv_iload hx hb dX12_wrongList_31 (lv_at hl 3 rfl) ?_
        refine lv_aload_n hx hb dX12_wrongList_33 rfl (lv_at hl 0 rfl) ?_
        refine gX12_35 C0 hK hP tw977 dX12_wrongList_34 ?_
        refine lv_iload_n hx hb dX12_wrongList_37 rfl (lv_at hl 1 rfl) ?_
        obtain ⟨b_10, h⟩ := ck h
        refine mald (i := 18) (N := 8) C0 hK hP (by decide) (by decide) rfl b_10 dX12_wrongList_38 ?_
        refine lv_icmp_ge (tgt := 74) hx hb dX12_wrongList_39 (by decide) (fun c_11 => ?_) (fun c_11 => ?_)
        · have h := it c_11 h
          exact hX1 x4_8 x5_9 _ _ ls h hP hS (lv_sub hl [2] rfl)
        · have h := ie c_11 h
          refine lv_iload hx hb dX12_wrongList_42 (lv_at hl 2 rfl) ?_
          refine lv_if_eq (tgt := 74) hx hb dX12_wrongList_44 (by decide) (fun c_12 => ?_) (fun c_12 => ?_)
          · have h := it c_12 h
            exact hX1 x4_8 x5_9 _ _ ls h hP hS (lv_sub hl [2] rfl)
          · have h := ie c_12 h
            refine lv_aload_n hx hb dX12_wrongList_47 rfl (lv_at hl 0 rfl) ?_
            refine gX12_36 C0 hK hP tw978 dX12_wrongList_48 ?_
            refine lv_bipush (v := 100) hx hb dX12_wrongList_51 (by decide) ?_
            refine lv_iload_n hx hb dX12_wrongList_53 rfl (lv_at hl 1 rfl) ?_
            refine lv_imul hx hb dX12_wrongList_54 ?_
            refine lv_iload hx hb dX12_wrongList_55 (lv_at hl 3 rfl) ?_
            refine lv_iadd hx hb dX12_wrongList_57 ?_
            obtain ⟨i_13, ei_13, h⟩ := bnd_e h
            refine nm_i ei_13 ?_
            obtain ⟨b_14, h⟩ := ck h
            refine mlald (i := 19) (N := 800) C0 hK hP (by decide) (by decide) rfl b_14 dX12_wrongList_58 ?_
            refine lv_lconst (v := 1) hx hb dX12_wrongList_59 (by decide) ?_
            refine lv_ldc2 (v := 99) hx hb C0.2.2.2.1 (C0.2.2.2.2.1 _ tw1239) dX12_wrongList_60 ?_
            obtain ⟨y_15, ey_15, h⟩ := bnd_e h
            rw [← ey_15]
            obtain ⟨r_17, h_16, h⟩ := b1_e h
            refine xcall (rS C0 hK hP hl.1 (fun _ _ _ => trivial) Bt_b (c_X12_in hI h_16) cs_X12_in tw1091 (rest := []) rfl (Nat.le_of_ble_eq_true rfl) ⟨rfl, rfl, Nat.le_of_ble_eq_true rfl, Nat.le_of_ble_eq_true rfl⟩ ⟨Nat.zero_le _, Nat.zero_le _⟩ dX12_wrongList_63) hS (fun H locs hP hS => ?_)
            refine lv_istore (lv' := [(4, .int r_17), (0, .ref (a 0)), (1, .int p1), (5, .int x5_9)]) hx hb dX12_wrongList_66 hl (by decide) rfl (fun ls hl => ?_)
            obtain ⟨x5_18, ex5_18, h⟩ := bnd_e h
            refine lv_iinc (v := x5_18) (lv' := [(5, .int x5_18), (4, .int r_17), (0, .ref (a 0)), (1, .int p1)]) hx hb dX12_wrongList_68 hl (k := 3) rfl (by rw [ex5_18]; rfl) (by decide) rfl (fun ls hl => ?_)
            refine lv_goto (tgt := 31) hx hb dX12_wrongList_71 (by decide) ?_
            exact ih1 r_17 x5_18 _ _ ls h hP hS (lv_sub hl [2, 3, 1, 0] rfl)
    exact hL1 5000 r_7 0 _ _ ls h hP hS (lv_sub hl [3, 4, 1, 0] rfl)
  · have h := ie c_3 h
    refine lv_iload_n hx hb dX12_wrongList_11 rfl (lv_at hl 0 rfl) ?_
    rw [hQ]
    exact xzretr C0 hP hS rfl h dX12_wrongList_12
def f_X12_dressGirls_L56 (p1 : Int32) (x5_9 : Int32) : Nat → Int32 → Int32 → MMem → (Int32 → Int32 → MMem → Option (MMem)) → Option (MMem)
  | 0, _, _, _, _ => none
  | n + 1, x6_12, x7_13, σ_14, K2 =>
    if p1 < 0 ∨ 8 ≤ p1.toNatClampNeg then none else
    if ((σ_14 18).1 p1.toNatClampNeg) ≤ x7_13 then
      K2 x6_12 x7_13 σ_14
    else
      b1 (f_X12_told p1 x7_13 σ_14) fun r_18 =>
      if r_18 < x5_9 then
        bnd (x7_13 + 1) fun (x7_20 : Int32) =>
        f_X12_dressGirls_L56 p1 x5_9 n x6_12 x7_20 σ_14 K2
      else
        if x6_12 ≤ r_18 then
          bnd (x7_13 + 1) fun (x7_22 : Int32) =>
          f_X12_dressGirls_L56 p1 x5_9 n x6_12 x7_22 σ_14 K2
        else
          bnd (x7_13 + 1) fun (x7_23 : Int32) =>
          f_X12_dressGirls_L56 p1 x5_9 n r_18 x7_23 σ_14 K2
def f_X12_dressGirls_L13 (p1 : Int32) (p2 : Int32) (p3 : Int32) : Nat → Int32 → MMem → (Int32 → MMem → Option (MMem)) → Option (MMem)
  | 0, _, _, _ => none
  | n + 1, x4_3, σ_4, K1 =>
    if p2 < 0 ∨ 8 ≤ p2.toNatClampNeg then none else
    if ((σ_4 18).1 p2.toNatClampNeg) ≤ x4_3 then
      K1 x4_3 σ_4
    else
      b1 (f_X12_told p2 x4_3 σ_4) fun r_8 =>
      bnd (r_8 + ((σ_4 0).1 3)) fun (x5_9 : Int32) =>
      jn (fun (v_10 : Int32) (σ_11 : MMem) =>
        f_X12_dressGirls_L56 p1 x5_9 5000 v_10 0 σ_11 fun (x6_24 : Int32) (u_25 : Int32) (σ_26 : MMem) =>
          jn (fun (v_27 : Int32) (σ_28 : MMem) =>
            bnd (((σ_26 0).1 28) + v_27) fun (y_29 : Int32) =>
            bnd (uI σ_28 0 28 y_29) fun (σ_30 : MMem) =>
            if x6_24 = 1000 then
              bnd (((σ_30 0).1 29) + 0) fun (y_35 : Int32) =>
              bnd (uI σ_30 0 29 y_35) fun (σ_36 : MMem) =>
              bnd (x4_3 + 1) fun (x4_37 : Int32) =>
              f_X12_dressGirls_L13 p1 p2 p3 n x4_37 σ_36 K1
            else
              bnd (((σ_30 0).1 29) + (x6_24 - x5_9)) fun (y_32 : Int32) =>
              bnd (uI σ_30 0 29 y_32) fun (σ_33 : MMem) =>
              bnd (x4_3 + 1) fun (x4_34 : Int32) =>
              f_X12_dressGirls_L13 p1 p2 p3 n x4_34 σ_33 K1) fun J123 =>
          if x6_24 = 1000 then
            J123 1 σ_26
          else
            J123 0 σ_26) fun J51 =>
      if p3 < x5_9 then
        J51 1000 σ_4
      else
        J51 p3 σ_4
def f_X12_dressGirls (p1 : Int32) (p2 : Int32) (p3 : Int32) (σ : MMem) : Option (MMem) :=
  bnd (uI σ 0 28 0) fun (σ_1 : MMem) =>
  bnd (uI σ_1 0 29 0) fun (σ_2 : MMem) =>
  f_X12_dressGirls_L13 p1 p2 p3 5000 0 σ_2 fun (u_40 : Int32) (σ_41 : MMem) =>
    some σ_41
def rm_X12_dressGirls : Room := { frames := 1, cells := 0, slots := 0, locals := 22 }
set_option maxHeartbeats 4000000 in
set_option maxRecDepth 100000 in
theorem c_X12_dressGirls {l : Launch} {D : va_G} {ca : Nat → ClassId} {a : Nat → Nat} (hI : InjN 21 a) {p1 : Int32} {p2 : Int32} {p3 : Int32} {σ : MMem} {σ' : MMem}  (h : f_X12_dressGirls p1 p2 p3 σ = some σ') : XMM l D ca a Bt yX12_dressGirls cX12_dressGirls 9 none rm_X12_dressGirls [.ref (a 0), .int p1, .int p2, .int p3] σ none σ' := by
  refine XM.of pn_X12 (Nat.le_of_ble_eq_true rfl) ?_
  intro p e s m args below meth c ls Q hQ C0 hK hB hP hS hl
  have C0 : Cx p s m args meth c RX12 cX12_dressGirls 9 none := C0
  have hx := C0.1
  have hb := C0.2.1
  have hl : lv_has ls 9 [(0, .ref (a 0)), (1, .int p1), (2, .int p2), (3, .int p3)] := hl
  rw [f_X12_dressGirls] at h
  refine lv_aload_n hx hb dX12_dressGirls_0 rfl (lv_at hl 0 rfl) ?_
  refine lv_iconst (v := 0) hx hb dX12_dressGirls_1 (by decide) ?_
  obtain ⟨σ_1, eσ_1, h⟩ := bnd_e h
  refine pX12_28 C0 hK hP tw970 hI hS dX12_dressGirls_2 (fun H locs hP hS => ?_)
  rw [← eσ_1] at hP
  refine lv_aload_n hx hb dX12_dressGirls_5 rfl (lv_at hl 0 rfl) ?_
  refine lv_iconst (v := 0) hx hb dX12_dressGirls_6 (by decide) ?_
  obtain ⟨σ_2, eσ_2, h⟩ := bnd_e h
  refine pX12_29 C0 hK hP tw971 hI hS dX12_dressGirls_7 (fun H locs hP hS => ?_)
  rw [← eσ_2] at hP
  refine lv_iconst (v := 0) hx hb dX12_dressGirls_10 (by decide) ?_
  refine lv_istore (lv' := [(4, .int 0), (0, .ref (a 0)), (1, .int p1), (2, .int p2), (3, .int p3)]) hx hb dX12_dressGirls_11 hl (by decide) rfl (fun ls hl => ?_)
  obtain ⟨K1, eK1, h⟩ := lp_e (f := fun K => f_X12_dressGirls_L13 p1 p2 p3 5000 0 σ_2 K) h
  have h : f_X12_dressGirls_L13 p1 p2 p3 5000 0 σ_2 K1 = some σ' := h
  have hX1 : ∀ (u_40 : Int32) (σ_41 : MMem) (H : Heap) (locs : List Loc) (ls : Array Slot), K1 u_40 σ_41 = some σ' → va_P D vwCl (wM ca a σ_41) H → va_S (AW 21 a) s.heap H locs → lv_has ls 9 [] → W p l e rm_X12_dressGirls s m args below meth c H locs 0 0 Q (F0 m 159 ls []) := by
    intro u_40 σ_41 H locs ls h hP hS hl
    have h := ap2 eK1 h
    rw [hQ]
    exact xvret C0 hP hS h dX12_dressGirls_159
  have hL1 : ∀ (n : Nat) (x4_3 : Int32) (σ_4 : MMem) (H : Heap) (locs : List Loc) (ls : Array Slot), f_X12_dressGirls_L13 p1 p2 p3 n x4_3 σ_4 K1 = some σ' → va_P D vwCl (wM ca a σ_4) H → va_S (AW 21 a) s.heap H locs → lv_has ls 9 [(0, .ref (a 0)), (1, .int p1), (2, .int p2), (3, .int p3), (4, .int x4_3)] → W p l e rm_X12_dressGirls s m args below meth c H locs 0 0 Q (F0 m 13 ls []) := by
    intro n
    induction n with
    | zero => intro x4_3 σ_4 H locs ls h; rw [f_X12_dressGirls_L13] at h; cases h
    | succ n ih1 =>
      intro x4_3 σ_4 H locs ls h hP hS hl
      rw [f_X12_dressGirls_L13] at h
      refine lv_iload hx hb dX12_dressGirls_13 (lv_at hl 4 rfl) ?_
      refine lv_aload_n hx hb dX12_dressGirls_15 rfl (lv_at hl 0 rfl) ?_
      refine gX12_35 C0 hK hP tw977 dX12_dressGirls_16 ?_
      refine lv_iload_n hx hb dX12_dressGirls_19 rfl (lv_at hl 2 rfl) ?_
      obtain ⟨b_5, h⟩ := ck h
      refine mald (i := 18) (N := 8) C0 hK hP (by decide) (by decide) rfl b_5 dX12_dressGirls_20 ?_
      refine lv_icmp_ge (tgt := 159) hx hb dX12_dressGirls_21 (by decide) (fun c_6 => ?_) (fun c_6 => ?_)
      · have h := it c_6 h
        exact hX1 x4_3 σ_4 _ _ ls h hP hS (lv_sub hl [] rfl)
      · have h := ie c_6 h
        refine lv_aload_n hx hb dX12_dressGirls_24 rfl (lv_at hl 0 rfl) ?_
        refine lv_iload_n hx hb dX12_dressGirls_25 rfl (lv_at hl 2 rfl) ?_
        refine lv_iload hx hb dX12_dressGirls_26 (lv_at hl 4 rfl) ?_
        obtain ⟨r_8, h_7, h⟩ := b1_e h
        refine xcall (rV C0 hK hP hl.1 (fun _ _ _ => trivial) Bt_b (c_X12_told hI h_7) cv_X12_told tw1215 (rcX12 hK hP) (rest := []) rfl (Nat.le_of_ble_eq_true rfl) ⟨rfl, rfl, Nat.le_of_ble_eq_true rfl, Nat.le_of_ble_eq_true rfl⟩ ⟨Nat.zero_le _, Nat.zero_le _⟩ dX12_dressGirls_28) hS (fun H locs hP hS => ?_)
        refine lv_aload_n hx hb dX12_dressGirls_31 rfl (lv_at hl 0 rfl) ?_
        refine gX12_3 C0 hK hP tw945 dX12_dressGirls_32 ?_
        refine lv_iadd hx hb dX12_dressGirls_35 ?_
        obtain ⟨x5_9, ex5_9, h⟩ := bnd_e h
        refine nm_i ex5_9 ?_
        refine lv_istore (lv' := [(5, .int x5_9), (0, .ref (a 0)), (1, .int p1), (2, .int p2), (3, .int p3), (4, .int x4_3)]) hx hb dX12_dressGirls_36 hl (by decide) rfl (fun ls hl => ?_)
        refine lv_iload_n hx hb dX12_dressGirls_38 rfl (lv_at hl 4 rfl) ?_
        refine lv_iload hx hb dX12_dressGirls_39 (lv_at hl 0 rfl) ?_
        obtain ⟨J51, eJ51, h⟩ := jn_e h
        have hJ51 : ∀ (v_10 : Int32) (σ_11 : MMem) (H : Heap) (locs : List Loc) (ls : Array Slot), J51 v_10 σ_11 = some σ' → va_P D vwCl (wM ca a σ_11) H → va_S (AW 21 a) s.heap H locs → lv_has ls 9 [(0, .ref (a 0)), (1, .int p1), (2, .int p2), (3, .int p3), (4, .int x4_3), (5, .int x5_9)] → W p l e rm_X12_dressGirls s m args below meth c H locs 0 0 Q (F0 m 51 ls [.int v_10]) := by
          intro v_10 σ_11 H locs ls h hP hS hl
          have h := ap2 eJ51 h
          refine lv_istore (lv' := [(6, .int v_10), (0, .ref (a 0)), (1, .int p1), (2, .int p2), (3, .int p3), (4, .int x4_3), (5, .int x5_9)]) hx hb dX12_dressGirls_51 hl (by decide) rfl (fun ls hl => ?_)
          refine lv_iconst (v := 0) hx hb dX12_dressGirls_53 (by decide) ?_
          refine lv_istore (lv' := [(7, .int 0), (6, .int v_10), (0, .ref (a 0)), (1, .int p1), (2, .int p2), (3, .int p3), (4, .int x4_3), (5, .int x5_9)]) hx hb dX12_dressGirls_54 hl (by decide) rfl (fun ls hl => ?_)
          obtain ⟨K2, eK2, h⟩ := lp_e (f := fun K => f_X12_dressGirls_L56 p1 x5_9 5000 v_10 0 σ_11 K) h
          have h : f_X12_dressGirls_L56 p1 x5_9 5000 v_10 0 σ_11 K2 = some σ' := h
          have hX2 : ∀ (x6_24 : Int32) (u_25 : Int32) (σ_26 : MMem) (H : Heap) (locs : List Loc) (ls : Array Slot), K2 x6_24 u_25 σ_26 = some σ' → va_P D vwCl (wM ca a σ_26) H → va_S (AW 21 a) s.heap H locs → lv_has ls 9 [(0, .ref (a 0)), (1, .int p1), (2, .int p2), (3, .int p3), (4, .int x4_3), (5, .int x5_9), (6, .int x6_24)] → W p l e rm_X12_dressGirls s m args below meth c H locs 0 0 Q (F0 m 105 ls []) := by
            intro x6_24 u_25 σ_26 H locs ls h hP hS hl
            have h := ap3 eK2 h
            refine lv_aload_n hx hb dX12_dressGirls_105 rfl (lv_at hl 0 rfl) ?_
            refine lv_dup hx hb dX12_dressGirls_106 rfl ?_
            refine gX12_28 C0 hK hP tw970 dX12_dressGirls_107 ?_
            refine lv_iload hx hb dX12_dressGirls_110 (lv_at hl 6 rfl) ?_
            refine lv_sipush (v := 1000) hx hb dX12_dressGirls_112 (by decide) ?_
            obtain ⟨J123, eJ123, h⟩ := jn_e h
            have hJ123 : ∀ (v_27 : Int32) (σ_28 : MMem) (H : Heap) (locs : List Loc) (ls : Array Slot), J123 v_27 σ_28 = some σ' → va_P D vwCl (wM ca a σ_28) H → va_S (AW 21 a) s.heap H locs → lv_has ls 9 [(0, .ref (a 0)), (1, .int p1), (2, .int p2), (3, .int p3), (4, .int x4_3), (5, .int x5_9), (6, .int x6_24)] → W p l e rm_X12_dressGirls s m args below meth c H locs 0 0 Q (F0 m 123 ls [.int v_27, .int ((σ_26 0).1 28), .ref (a 0)]) := by
              intro v_27 σ_28 H locs ls h hP hS hl
              have h := ap2 eJ123 h
              refine lv_iadd hx hb dX12_dressGirls_123 ?_
              obtain ⟨y_29, ey_29, h⟩ := bnd_e h
              refine nm_i ey_29 ?_
              obtain ⟨σ_30, eσ_30, h⟩ := bnd_e h
              refine pX12_28 C0 hK hP tw970 hI hS dX12_dressGirls_124 (fun H locs hP hS => ?_)
              rw [← eσ_30] at hP
              refine lv_aload_n hx hb dX12_dressGirls_127 rfl (lv_at hl 0 rfl) ?_
              refine lv_dup hx hb dX12_dressGirls_128 rfl ?_
              refine gX12_29 C0 hK hP tw971 dX12_dressGirls_129 ?_
              refine lv_iload hx hb dX12_dressGirls_132 (lv_at hl 6 rfl) ?_
              refine lv_sipush (v := 1000) hx hb dX12_dressGirls_134 (by decide) ?_
              refine lv_icmp_ne (tgt := 144) hx hb dX12_dressGirls_137 (by decide) (fun c_31 => ?_) (fun c_31 => ?_)
              · have h := ie c_31 h
                refine lv_iload hx hb dX12_dressGirls_144 (lv_at hl 6 rfl) ?_
                refine lv_iload hx hb dX12_dressGirls_146 (lv_at hl 5 rfl) ?_
                refine lv_isub hx hb dX12_dressGirls_148 ?_
                refine lv_iadd hx hb dX12_dressGirls_149 ?_
                obtain ⟨y_32, ey_32, h⟩ := bnd_e h
                refine nm_i ey_32 ?_
                obtain ⟨σ_33, eσ_33, h⟩ := bnd_e h
                refine pX12_29 C0 hK hP tw971 hI hS dX12_dressGirls_150 (fun H locs hP hS => ?_)
                rw [← eσ_33] at hP
                obtain ⟨x4_34, ex4_34, h⟩ := bnd_e h
                refine lv_iinc (v := x4_34) (lv' := [(4, .int x4_34), (0, .ref (a 0)), (1, .int p1), (2, .int p2), (3, .int p3), (5, .int x5_9), (6, .int x6_24)]) hx hb dX12_dressGirls_153 hl (k := 4) rfl (by rw [ex4_34]; rfl) (by decide) rfl (fun ls hl => ?_)
                refine lv_goto (tgt := 13) hx hb dX12_dressGirls_156 (by decide) ?_
                exact ih1 x4_34 σ_33 _ _ ls h hP hS (lv_sub hl [1, 2, 3, 4, 0] rfl)
              · have h := it c_31 h
                refine lv_iconst (v := 0) hx hb dX12_dressGirls_140 (by decide) ?_
                refine lv_goto (tgt := 149) hx hb dX12_dressGirls_141 (by decide) ?_
                refine lv_iadd hx hb dX12_dressGirls_149 ?_
                obtain ⟨y_35, ey_35, h⟩ := bnd_e h
                refine nm_i ey_35 ?_
                obtain ⟨σ_36, eσ_36, h⟩ := bnd_e h
                refine pX12_29 C0 hK hP tw971 hI hS dX12_dressGirls_150 (fun H locs hP hS => ?_)
                rw [← eσ_36] at hP
                obtain ⟨x4_37, ex4_37, h⟩ := bnd_e h
                refine lv_iinc (v := x4_37) (lv' := [(4, .int x4_37), (0, .ref (a 0)), (1, .int p1), (2, .int p2), (3, .int p3), (5, .int x5_9), (6, .int x6_24)]) hx hb dX12_dressGirls_153 hl (k := 4) rfl (by rw [ex4_37]; rfl) (by decide) rfl (fun ls hl => ?_)
                refine lv_goto (tgt := 13) hx hb dX12_dressGirls_156 (by decide) ?_
                exact ih1 x4_37 σ_36 _ _ ls h hP hS (lv_sub hl [1, 2, 3, 4, 0] rfl)
            refine lv_icmp_ne (tgt := 122) hx hb dX12_dressGirls_115 (by decide) (fun c_38 => ?_) (fun c_38 => ?_)
            · have h := ie c_38 h
              refine lv_iconst (v := 0) hx hb dX12_dressGirls_122 (by decide) ?_
              exact hJ123 0 σ_26 _ _ ls h hP hS (lv_sub hl [0, 1, 2, 3, 4, 5, 6] rfl)
            · have h := it c_38 h
              refine lv_iconst (v := 1) hx hb dX12_dressGirls_118 (by decide) ?_
              refine lv_goto (tgt := 123) hx hb dX12_dressGirls_119 (by decide) ?_
              exact hJ123 1 σ_26 _ _ ls h hP hS (lv_sub hl [0, 1, 2, 3, 4, 5, 6] rfl)
          have hL2 : ∀ (n : Nat) (x6_12 : Int32) (x7_13 : Int32) (σ_14 : MMem) (H : Heap) (locs : List Loc) (ls : Array Slot), f_X12_dressGirls_L56 p1 x5_9 n x6_12 x7_13 σ_14 K2 = some σ' → va_P D vwCl (wM ca a σ_14) H → va_S (AW 21 a) s.heap H locs → lv_has ls 9 [(0, .ref (a 0)), (1, .int p1), (2, .int p2), (3, .int p3), (4, .int x4_3), (5, .int x5_9), (6, .int x6_12), (7, .int x7_13)] → W p l e rm_X12_dressGirls s m args below meth c H locs 0 0 Q (F0 m 56 ls []) := by
            intro n
            induction n with
            | zero => intro x6_12 x7_13 σ_14 H locs ls h; rw [f_X12_dressGirls_L56] at h; cases h
            | succ n ih2 =>
              intro x6_12 x7_13 σ_14 H locs ls h hP hS hl
              rw [f_X12_dressGirls_L56] at h
              refine lv_iload hx hb dX12_dressGirls_56 (lv_at hl 7 rfl) ?_
              refine lv_aload_n hx hb dX12_dressGirls_58 rfl (lv_at hl 0 rfl) ?_
              refine gX12_35 C0 hK hP tw977 dX12_dressGirls_59 ?_
              refine lv_iload_n hx hb dX12_dressGirls_62 rfl (lv_at hl 1 rfl) ?_
              obtain ⟨b_15, h⟩ := ck h
              refine mald (i := 18) (N := 8) C0 hK hP (by decide) (by decide) rfl b_15 dX12_dressGirls_63 ?_
              refine lv_icmp_ge (tgt := 105) hx hb dX12_dressGirls_64 (by decide) (fun c_16 => ?_) (fun c_16 => ?_)
              · have h := it c_16 h
                exact hX2 x6_12 x7_13 σ_14 _ _ ls h hP hS (lv_sub hl [0, 1, 2, 3, 4, 5, 6] rfl)
              · have h := ie c_16 h
                refine lv_aload_n hx hb dX12_dressGirls_67 rfl (lv_at hl 0 rfl) ?_
                refine lv_iload_n hx hb dX12_dressGirls_68 rfl (lv_at hl 1 rfl) ?_
                refine lv_iload hx hb dX12_dressGirls_69 (lv_at hl 7 rfl) ?_
                obtain ⟨r_18, h_17, h⟩ := b1_e h
                refine xcall (rV C0 hK hP hl.1 (fun _ _ _ => trivial) Bt_b (c_X12_told hI h_17) cv_X12_told tw1215 (rcX12 hK hP) (rest := []) rfl (Nat.le_of_ble_eq_true rfl) ⟨rfl, rfl, Nat.le_of_ble_eq_true rfl, Nat.le_of_ble_eq_true rfl⟩ ⟨Nat.zero_le _, Nat.zero_le _⟩ dX12_dressGirls_71) hS (fun H locs hP hS => ?_)
                refine lv_istore (lv' := [(8, .int r_18), (0, .ref (a 0)), (1, .int p1), (2, .int p2), (3, .int p3), (4, .int x4_3), (5, .int x5_9), (6, .int x6_12), (7, .int x7_13)]) hx hb dX12_dressGirls_74 hl (by decide) rfl (fun ls hl => ?_)
                refine lv_iload hx hb dX12_dressGirls_76 (lv_at hl 0 rfl) ?_
                refine lv_iload hx hb dX12_dressGirls_78 (lv_at hl 6 rfl) ?_
                refine lv_icmp_lt (tgt := 95) hx hb dX12_dressGirls_80 (by decide) (fun c_19 => ?_) (fun c_19 => ?_)
                · have h := it c_19 h
                  refine lv_iload hx hb dX12_dressGirls_95 (lv_at hl 7 rfl) ?_
                  refine lv_istore (lv' := [(6, .int x6_12), (8, .int r_18), (0, .ref (a 0)), (1, .int p1), (2, .int p2), (3, .int p3), (4, .int x4_3), (5, .int x5_9), (7, .int x7_13)]) hx hb dX12_dressGirls_97 hl (by decide) rfl (fun ls hl => ?_)
                  obtain ⟨x7_20, ex7_20, h⟩ := bnd_e h
                  refine lv_iinc (v := x7_20) (lv' := [(7, .int x7_20), (6, .int x6_12), (8, .int r_18), (0, .ref (a 0)), (1, .int p1), (2, .int p2), (3, .int p3), (4, .int x4_3), (5, .int x5_9)]) hx hb dX12_dressGirls_99 hl (k := 8) rfl (by rw [ex7_20]; rfl) (by decide) rfl (fun ls hl => ?_)
                  refine lv_goto (tgt := 56) hx hb dX12_dressGirls_102 (by decide) ?_
                  exact ih2 x6_12 x7_20 σ_14 _ _ ls h hP hS (lv_sub hl [3, 4, 5, 6, 7, 8, 1, 0] rfl)
                · have h := ie c_19 h
                  refine lv_iload hx hb dX12_dressGirls_83 (lv_at hl 0 rfl) ?_
                  refine lv_iload hx hb dX12_dressGirls_85 (lv_at hl 7 rfl) ?_
                  refine lv_icmp_ge (tgt := 95) hx hb dX12_dressGirls_87 (by decide) (fun c_21 => ?_) (fun c_21 => ?_)
                  · have h := it c_21 h
                    refine lv_iload hx hb dX12_dressGirls_95 (lv_at hl 7 rfl) ?_
                    refine lv_istore (lv' := [(6, .int x6_12), (8, .int r_18), (0, .ref (a 0)), (1, .int p1), (2, .int p2), (3, .int p3), (4, .int x4_3), (5, .int x5_9), (7, .int x7_13)]) hx hb dX12_dressGirls_97 hl (by decide) rfl (fun ls hl => ?_)
                    obtain ⟨x7_22, ex7_22, h⟩ := bnd_e h
                    refine lv_iinc (v := x7_22) (lv' := [(7, .int x7_22), (6, .int x6_12), (8, .int r_18), (0, .ref (a 0)), (1, .int p1), (2, .int p2), (3, .int p3), (4, .int x4_3), (5, .int x5_9)]) hx hb dX12_dressGirls_99 hl (k := 8) rfl (by rw [ex7_22]; rfl) (by decide) rfl (fun ls hl => ?_)
                    refine lv_goto (tgt := 56) hx hb dX12_dressGirls_102 (by decide) ?_
                    exact ih2 x6_12 x7_22 σ_14 _ _ ls h hP hS (lv_sub hl [3, 4, 5, 6, 7, 8, 1, 0] rfl)
                  · have h := ie c_21 h
                    refine lv_iload hx hb dX12_dressGirls_90 (lv_at hl 0 rfl) ?_
                    refine lv_goto (tgt := 97) hx hb dX12_dressGirls_92 (by decide) ?_
                    refine lv_istore (lv' := [(6, .int r_18), (8, .int r_18), (0, .ref (a 0)), (1, .int p1), (2, .int p2), (3, .int p3), (4, .int x4_3), (5, .int x5_9), (7, .int x7_13)]) hx hb dX12_dressGirls_97 hl (by decide) rfl (fun ls hl => ?_)
                    obtain ⟨x7_23, ex7_23, h⟩ := bnd_e h
                    refine lv_iinc (v := x7_23) (lv' := [(7, .int x7_23), (6, .int r_18), (8, .int r_18), (0, .ref (a 0)), (1, .int p1), (2, .int p2), (3, .int p3), (4, .int x4_3), (5, .int x5_9)]) hx hb dX12_dressGirls_99 hl (k := 8) rfl (by rw [ex7_23]; rfl) (by decide) rfl (fun ls hl => ?_)
                    refine lv_goto (tgt := 56) hx hb dX12_dressGirls_102 (by decide) ?_
                    exact ih2 r_18 x7_23 σ_14 _ _ ls h hP hS (lv_sub hl [3, 4, 5, 6, 7, 8, 1, 0] rfl)
          exact hL2 5000 v_10 0 σ_11 _ _ ls h hP hS (lv_sub hl [2, 3, 4, 5, 6, 7, 1, 0] rfl)
        refine lv_icmp_lt (tgt := 48) hx hb dX12_dressGirls_41 (by decide) (fun c_39 => ?_) (fun c_39 => ?_)
        · have h := it c_39 h
          refine lv_sipush (v := 1000) hx hb dX12_dressGirls_48 (by decide) ?_
          exact hJ51 1000 σ_4 _ _ ls h hP hS (lv_sub hl [1, 2, 3, 4, 5, 0] rfl)
        · have h := ie c_39 h
          refine lv_iload_n hx hb dX12_dressGirls_44 rfl (lv_at hl 4 rfl) ?_
          refine lv_goto (tgt := 51) hx hb dX12_dressGirls_45 (by decide) ?_
          exact hJ51 p3 σ_4 _ _ ls h hP hS (lv_sub hl [1, 2, 3, 4, 5, 0] rfl)
  exact hL1 5000 0 σ_2 _ _ ls h hP hS (lv_sub hl [1, 2, 3, 4, 0] rfl)
def f_X12_sizes_L93 (p1 : Int32) (p2 : Int32) : Nat → Int32 → Int32 → Int32 → Int32 → MMem → (Int32 → Int32 → Int32 → Int32 → MMem → Option (Int32 × MMem)) → Option (Int32 × MMem)
  | 0, _, _, _, _, _, _ => none
  | n + 1, x5_9, x6_10, x7_11, x8_12, σ_13, K1 =>
    if 100 ≤ x8_12 then
      K1 x5_9 x6_10 x7_11 x8_12 σ_13
    else
      b1 (f_X12_dressGirls p1 p2 x8_12 σ_13) fun σ_16 =>
      if x5_9 = 0 then
        bnd ((σ_16 0).1 28) fun (x6_18 : Int32) =>
        bnd ((σ_16 0).1 29) fun (x7_19 : Int32) =>
        bnd (x8_12 + 1) fun (x8_20 : Int32) =>
        f_X12_sizes_L93 p1 p2 n x8_12 x6_18 x7_19 x8_20 σ_16 K1
      else
        if ((σ_16 0).1 28) < x6_10 then
          bnd ((σ_16 0).1 28) fun (x6_22 : Int32) =>
          bnd ((σ_16 0).1 29) fun (x7_23 : Int32) =>
          bnd (x8_12 + 1) fun (x8_24 : Int32) =>
          f_X12_sizes_L93 p1 p2 n x8_12 x6_22 x7_23 x8_24 σ_16 K1
        else
          if ((σ_16 0).1 28) = x6_10 then
            if x7_11 ≤ ((σ_16 0).1 29) then
              bnd (x8_12 + 1) fun (x8_28 : Int32) =>
              f_X12_sizes_L93 p1 p2 n x5_9 x6_10 x7_11 x8_28 σ_16 K1
            else
              bnd ((σ_16 0).1 28) fun (x6_29 : Int32) =>
              bnd ((σ_16 0).1 29) fun (x7_30 : Int32) =>
              bnd (x8_12 + 1) fun (x8_31 : Int32) =>
              f_X12_sizes_L93 p1 p2 n x8_12 x6_29 x7_30 x8_31 σ_16 K1
          else
            bnd (x8_12 + 1) fun (x8_26 : Int32) =>
            f_X12_sizes_L93 p1 p2 n x5_9 x6_10 x7_11 x8_26 σ_16 K1
def f_X12_sizes (p1 : Int32) (p2 : Int32) (p3 : Int32) (σ : MMem) : Option (Int32 × MMem) :=
  bnd (uI σ 0 9 0) fun (σ_1 : MMem) =>
  b1 (f_X12_in p1.toInt64 0 7) fun r_3 =>
  jn (fun (v_4 : Int32) (σ_5 : MMem) =>
    jn (fun (v_6 : Int32) (σ_7 : MMem) =>
      if 0 ≤ v_6 then
        f_X12_sizes_L93 p1 p2 5000 0 0 0 1 σ_7 fun (x5_32 : Int32) (u_33 : Int32) (u_34 : Int32) (u_35 : Int32) (σ_36 : MMem) =>
          b1 (f_X12_dressGirls p1 p2 0 σ_36) fun σ_38 =>
          if p3 = 0 then
            some ((σ_38 0).1 28, σ_38)
          else
            if p3 = 1 then
              some ((σ_38 0).1 29, σ_38)
            else
              some (x5_32, σ_38)
      else
        some (v_6, σ_7)) fun J71 =>
    if 0 ≤ v_4 then
      b1 (f_X12_wrongList p2 20 σ_5) fun r_43 =>
      J71 r_43 σ_5
    else
      J71 v_4 σ_5) fun J52 =>
  jn (fun (σ_44 : MMem) =>
    J52 (-1) σ_44) fun J41 =>
  if r_3 = 0 then
    J41 σ_1
  else
    b1 (f_X12_in p2.toInt64 0 7) fun r_47 =>
    if r_47 = 0 then
      J41 σ_1
    else
      b1 (f_X12_in p3.toInt64 0 2) fun r_50 =>
      if r_50 = 0 then
        J41 σ_1
      else
        b1 (f_X12_wrongList p1 6 σ_1) fun r_53 =>
        J52 r_53 σ_1
def rm_X12_sizes : Room := { frames := 4, cells := 0, slots := 0, locals := 93 }
set_option maxHeartbeats 4000000 in
set_option maxRecDepth 100000 in
theorem c_X12_sizes {l : Launch} {D : va_G} {ca : Nat → ClassId} {a : Nat → Nat} (hI : InjN 21 a) {p1 : Int32} {p2 : Int32} {p3 : Int32} {σ : MMem} {r : Int32} {σ' : MMem}  (h : f_X12_sizes p1 p2 p3 σ = some (r, σ')) : XMM l D ca a Bt yX12_sizes cX12_sizes 9 (some .int) rm_X12_sizes [.ref (a 0), .int p1, .int p2, .int p3] σ (some (.int r)) σ' := by
  refine XM.of pn_X12 (Nat.le_of_ble_eq_true rfl) ?_
  intro p e s m args below meth c ls Q hQ C0 hK hB hP hS hl
  have C0 : Cx p s m args meth c RX12 cX12_sizes 9 (some .int) := C0
  have hx := C0.1
  have hb := C0.2.1
  have hl : lv_has ls 9 [(0, .ref (a 0)), (1, .int p1), (2, .int p2), (3, .int p3)] := hl
  rw [f_X12_sizes] at h
  refine lv_aload_n hx hb dX12_sizes_0 rfl (lv_at hl 0 rfl) ?_
  refine lv_iconst (v := 0) hx hb dX12_sizes_1 (by decide) ?_
  obtain ⟨σ_1, eσ_1, h⟩ := bnd_e h
  refine pX12_9 C0 hK hP tw951 hI hS dX12_sizes_2 (fun H locs hP hS => ?_)
  rw [← eσ_1] at hP
  refine lv_iload_n hx hb dX12_sizes_5 rfl (lv_at hl 1 rfl) ?_
  refine lv_i2l (v := p1.toInt64) hx hb dX12_sizes_6 rfl ?_
  refine lv_lconst (v := 0) hx hb dX12_sizes_7 (by decide) ?_
  refine lv_ldc2 (v := 7) hx hb C0.2.2.2.1 (C0.2.2.2.2.1 _ tw1090) dX12_sizes_8 ?_
  obtain ⟨r_3, h_2, h⟩ := b1_e h
  refine xcall (rS C0 hK hP hl.1 (fun _ _ _ => trivial) Bt_b (c_X12_in hI h_2) cs_X12_in tw1091 (rest := []) rfl (Nat.le_of_ble_eq_true rfl) ⟨rfl, rfl, Nat.le_of_ble_eq_true rfl, Nat.le_of_ble_eq_true rfl⟩ ⟨Nat.zero_le _, Nat.zero_le _⟩ dX12_sizes_11) hS (fun H locs hP hS => ?_)
  obtain ⟨J52, eJ52, h⟩ := jn_e h
  have hJ52 : ∀ (v_4 : Int32) (σ_5 : MMem) (H : Heap) (locs : List Loc) (ls : Array Slot), J52 v_4 σ_5 = some (r, σ') → va_P D vwCl (wM ca a σ_5) H → va_S (AW 21 a) s.heap H locs → lv_has ls 9 [(0, .ref (a 0)), (1, .int p1), (2, .int p2), (3, .int p3)] → W p l e rm_X12_sizes s m args below meth c H locs 0 0 Q (F0 m 52 ls [.int v_4]) := by
    intro v_4 σ_5 H locs ls h hP hS hl
    have h := ap2 eJ52 h
    refine lv_istore (lv' := [(4, .int v_4), (0, .ref (a 0)), (1, .int p1), (2, .int p2), (3, .int p3)]) hx hb dX12_sizes_52 hl (by decide) rfl (fun ls hl => ?_)
    refine lv_iload hx hb dX12_sizes_54 (lv_at hl 0 rfl) ?_
    obtain ⟨J71, eJ71, h⟩ := jn_e h
    have hJ71 : ∀ (v_6 : Int32) (σ_7 : MMem) (H : Heap) (locs : List Loc) (ls : Array Slot), J71 v_6 σ_7 = some (r, σ') → va_P D vwCl (wM ca a σ_7) H → va_S (AW 21 a) s.heap H locs → lv_has ls 9 [(0, .ref (a 0)), (1, .int p1), (2, .int p2), (3, .int p3)] → W p l e rm_X12_sizes s m args below meth c H locs 0 0 Q (F0 m 71 ls [.int v_6]) := by
      intro v_6 σ_7 H locs ls h hP hS hl
      have h := ap2 eJ71 h
      refine lv_istore (lv' := [(4, .int v_6), (0, .ref (a 0)), (1, .int p1), (2, .int p2), (3, .int p3)]) hx hb dX12_sizes_71 hl (by decide) rfl (fun ls hl => ?_)
      refine lv_iload hx hb dX12_sizes_73 (lv_at hl 0 rfl) ?_
      refine lv_if_ge (tgt := 81) hx hb dX12_sizes_75 (by decide) (fun c_8 => ?_) (fun c_8 => ?_)
      · have h := it c_8 h
        refine lv_iconst (v := 0) hx hb dX12_sizes_81 (by decide) ?_
        refine lv_istore (lv' := [(5, .int 0), (4, .int v_6), (0, .ref (a 0)), (1, .int p1), (2, .int p2), (3, .int p3)]) hx hb dX12_sizes_82 hl (by decide) rfl (fun ls hl => ?_)
        refine lv_iconst (v := 0) hx hb dX12_sizes_84 (by decide) ?_
        refine lv_istore (lv' := [(6, .int 0), (5, .int 0), (4, .int v_6), (0, .ref (a 0)), (1, .int p1), (2, .int p2), (3, .int p3)]) hx hb dX12_sizes_85 hl (by decide) rfl (fun ls hl => ?_)
        refine lv_iconst (v := 0) hx hb dX12_sizes_87 (by decide) ?_
        refine lv_istore (lv' := [(7, .int 0), (6, .int 0), (5, .int 0), (4, .int v_6), (0, .ref (a 0)), (1, .int p1), (2, .int p2), (3, .int p3)]) hx hb dX12_sizes_88 hl (by decide) rfl (fun ls hl => ?_)
        refine lv_iconst (v := 1) hx hb dX12_sizes_90 (by decide) ?_
        refine lv_istore (lv' := [(8, .int 1), (7, .int 0), (6, .int 0), (5, .int 0), (4, .int v_6), (0, .ref (a 0)), (1, .int p1), (2, .int p2), (3, .int p3)]) hx hb dX12_sizes_91 hl (by decide) rfl (fun ls hl => ?_)
        obtain ⟨K1, eK1, h⟩ := lp_e (f := fun K => f_X12_sizes_L93 p1 p2 5000 0 0 0 1 σ_7 K) h
        have h : f_X12_sizes_L93 p1 p2 5000 0 0 0 1 σ_7 K1 = some (r, σ') := h
        have hX1 : ∀ (x5_32 : Int32) (u_33 : Int32) (u_34 : Int32) (u_35 : Int32) (σ_36 : MMem) (H : Heap) (locs : List Loc) (ls : Array Slot), K1 x5_32 u_33 u_34 u_35 σ_36 = some (r, σ') → va_P D vwCl (wM ca a σ_36) H → va_S (AW 21 a) s.heap H locs → lv_has ls 9 [(0, .ref (a 0)), (1, .int p1), (2, .int p2), (3, .int p3), (5, .int x5_32)] → W p l e rm_X12_sizes s m args below meth c H locs 0 0 Q (F0 m 162 ls []) := by
          intro x5_32 u_33 u_34 u_35 σ_36 H locs ls h hP hS hl
          have h := ap5 eK1 h
          refine lv_aload_n hx hb dX12_sizes_162 rfl (lv_at hl 0 rfl) ?_
          refine lv_iload_n hx hb dX12_sizes_163 rfl (lv_at hl 1 rfl) ?_
          refine lv_iload_n hx hb dX12_sizes_164 rfl (lv_at hl 2 rfl) ?_
          refine lv_iconst (v := 0) hx hb dX12_sizes_165 (by decide) ?_
          obtain ⟨σ_38, h_37, h⟩ := b1_e h
          refine xcall (rV C0 hK hP hl.1 (fun _ _ _ => trivial) Bt_b (c_X12_dressGirls hI h_37) cv_X12_dressGirls tw1263 (rcX12 hK hP) (rest := []) rfl (Nat.le_of_ble_eq_true rfl) ⟨rfl, rfl, Nat.le_of_ble_eq_true rfl, Nat.le_of_ble_eq_true rfl⟩ ⟨Nat.zero_le _, Nat.zero_le _⟩ dX12_sizes_166) hS (fun H locs hP hS => ?_)
          refine lv_iload_n hx hb dX12_sizes_169 rfl (lv_at hl 3 rfl) ?_
          refine lv_if_ne (tgt := 180) hx hb dX12_sizes_170 (by decide) (fun c_39 => ?_) (fun c_39 => ?_)
          · have h := ie c_39 h
            refine lv_iload_n hx hb dX12_sizes_180 rfl (lv_at hl 3 rfl) ?_
            refine lv_iconst (v := 1) hx hb dX12_sizes_181 (by decide) ?_
            refine lv_icmp_ne (tgt := 192) hx hb dX12_sizes_182 (by decide) (fun c_40 => ?_) (fun c_40 => ?_)
            · have h := ie c_40 h
              refine lv_iload hx hb dX12_sizes_192 (lv_at hl 4 rfl) ?_
              rw [hQ]
              exact xzret C0 hP hS rfl h dX12_sizes_194
            · have h := it c_40 h
              refine lv_aload_n hx hb dX12_sizes_185 rfl (lv_at hl 0 rfl) ?_
              refine gX12_29 C0 hK hP tw971 dX12_sizes_186 ?_
              refine lv_goto (tgt := 194) hx hb dX12_sizes_189 (by decide) ?_
              rw [hQ]
              exact xzret C0 hP hS rfl h dX12_sizes_194
          · have h := it c_39 h
            refine lv_aload_n hx hb dX12_sizes_173 rfl (lv_at hl 0 rfl) ?_
            refine gX12_28 C0 hK hP tw970 dX12_sizes_174 ?_
            refine lv_goto (tgt := 194) hx hb dX12_sizes_177 (by decide) ?_
            rw [hQ]
            exact xzret C0 hP hS rfl h dX12_sizes_194
        have hL1 : ∀ (n : Nat) (x5_9 : Int32) (x6_10 : Int32) (x7_11 : Int32) (x8_12 : Int32) (σ_13 : MMem) (H : Heap) (locs : List Loc) (ls : Array Slot), f_X12_sizes_L93 p1 p2 n x5_9 x6_10 x7_11 x8_12 σ_13 K1 = some (r, σ') → va_P D vwCl (wM ca a σ_13) H → va_S (AW 21 a) s.heap H locs → lv_has ls 9 [(0, .ref (a 0)), (1, .int p1), (2, .int p2), (3, .int p3), (5, .int x5_9), (6, .int x6_10), (7, .int x7_11), (8, .int x8_12)] → W p l e rm_X12_sizes s m args below meth c H locs 0 0 Q (F0 m 93 ls []) := by
          intro n
          induction n with
          | zero => intro x5_9 x6_10 x7_11 x8_12 σ_13 H locs ls h; rw [f_X12_sizes_L93] at h; cases h
          | succ n ih1 =>
            intro x5_9 x6_10 x7_11 x8_12 σ_13 H locs ls h hP hS hl
            rw [f_X12_sizes_L93] at h
            refine lv_iload hx hb dX12_sizes_93 (lv_at hl 7 rfl) ?_
            refine lv_bipush (v := 100) hx hb dX12_sizes_95 (by decide) ?_
            refine lv_icmp_ge (tgt := 162) hx hb dX12_sizes_97 (by decide) (fun c_14 => ?_) (fun c_14 => ?_)
            · have h := it c_14 h
              exact hX1 x5_9 x6_10 x7_11 x8_12 σ_13 _ _ ls h hP hS (lv_sub hl [0, 1, 2, 3, 4] rfl)
            · have h := ie c_14 h
              refine lv_aload_n hx hb dX12_sizes_100 rfl (lv_at hl 0 rfl) ?_
              refine lv_iload_n hx hb dX12_sizes_101 rfl (lv_at hl 1 rfl) ?_
              refine lv_iload_n hx hb dX12_sizes_102 rfl (lv_at hl 2 rfl) ?_
              refine lv_iload hx hb dX12_sizes_103 (lv_at hl 7 rfl) ?_
              obtain ⟨σ_16, h_15, h⟩ := b1_e h
              refine xcall (rV C0 hK hP hl.1 (fun _ _ _ => trivial) Bt_b (c_X12_dressGirls hI h_15) cv_X12_dressGirls tw1263 (rcX12 hK hP) (rest := []) rfl (Nat.le_of_ble_eq_true rfl) ⟨rfl, rfl, Nat.le_of_ble_eq_true rfl, Nat.le_of_ble_eq_true rfl⟩ ⟨Nat.zero_le _, Nat.zero_le _⟩ dX12_sizes_105) hS (fun H locs hP hS => ?_)
              refine lv_iload hx hb dX12_sizes_108 (lv_at hl 4 rfl) ?_
              refine lv_if_eq (tgt := 140) hx hb dX12_sizes_110 (by decide) (fun c_17 => ?_) (fun c_17 => ?_)
              · have h := it c_17 h
                refine lv_iload hx hb dX12_sizes_140 (lv_at hl 7 rfl) ?_
                refine lv_istore (lv' := [(5, .int x8_12), (0, .ref (a 0)), (1, .int p1), (2, .int p2), (3, .int p3), (6, .int x6_10), (7, .int x7_11), (8, .int x8_12)]) hx hb dX12_sizes_142 hl (by decide) rfl (fun ls hl => ?_)
                refine lv_aload_n hx hb dX12_sizes_144 rfl (lv_at hl 1 rfl) ?_
                refine gX12_28 C0 hK hP tw970 dX12_sizes_145 ?_
                obtain ⟨x6_18, ex6_18, h⟩ := bnd_e h
                refine nm_i ex6_18 ?_
                refine lv_istore (lv' := [(6, .int x6_18), (5, .int x8_12), (0, .ref (a 0)), (1, .int p1), (2, .int p2), (3, .int p3), (7, .int x7_11), (8, .int x8_12)]) hx hb dX12_sizes_148 hl (by decide) rfl (fun ls hl => ?_)
                refine lv_aload_n hx hb dX12_sizes_150 rfl (lv_at hl 2 rfl) ?_
                refine gX12_29 C0 hK hP tw971 dX12_sizes_151 ?_
                obtain ⟨x7_19, ex7_19, h⟩ := bnd_e h
                refine nm_i ex7_19 ?_
                refine lv_istore (lv' := [(7, .int x7_19), (6, .int x6_18), (5, .int x8_12), (0, .ref (a 0)), (1, .int p1), (2, .int p2), (3, .int p3), (8, .int x8_12)]) hx hb dX12_sizes_154 hl (by decide) rfl (fun ls hl => ?_)
                obtain ⟨x8_20, ex8_20, h⟩ := bnd_e h
                refine lv_iinc (v := x8_20) (lv' := [(8, .int x8_20), (7, .int x7_19), (6, .int x6_18), (5, .int x8_12), (0, .ref (a 0)), (1, .int p1), (2, .int p2), (3, .int p3)]) hx hb dX12_sizes_156 hl (k := 7) rfl (by rw [ex8_20]; rfl) (by decide) rfl (fun ls hl => ?_)
                refine lv_goto (tgt := 93) hx hb dX12_sizes_159 (by decide) ?_
                exact ih1 x8_12 x6_18 x7_19 x8_20 σ_16 _ _ ls h hP hS (lv_sub hl [4, 5, 6, 7, 3, 2, 1, 0] rfl)
              · have h := ie c_17 h
                refine lv_aload_n hx hb dX12_sizes_113 rfl (lv_at hl 0 rfl) ?_
                refine gX12_28 C0 hK hP tw970 dX12_sizes_114 ?_
                refine lv_iload hx hb dX12_sizes_117 (lv_at hl 5 rfl) ?_
                refine lv_icmp_lt (tgt := 140) hx hb dX12_sizes_119 (by decide) (fun c_21 => ?_) (fun c_21 => ?_)
                · have h := it c_21 h
                  refine lv_iload hx hb dX12_sizes_140 (lv_at hl 7 rfl) ?_
                  refine lv_istore (lv' := [(5, .int x8_12), (0, .ref (a 0)), (1, .int p1), (2, .int p2), (3, .int p3), (6, .int x6_10), (7, .int x7_11), (8, .int x8_12)]) hx hb dX12_sizes_142 hl (by decide) rfl (fun ls hl => ?_)
                  refine lv_aload_n hx hb dX12_sizes_144 rfl (lv_at hl 1 rfl) ?_
                  refine gX12_28 C0 hK hP tw970 dX12_sizes_145 ?_
                  obtain ⟨x6_22, ex6_22, h⟩ := bnd_e h
                  refine nm_i ex6_22 ?_
                  refine lv_istore (lv' := [(6, .int x6_22), (5, .int x8_12), (0, .ref (a 0)), (1, .int p1), (2, .int p2), (3, .int p3), (7, .int x7_11), (8, .int x8_12)]) hx hb dX12_sizes_148 hl (by decide) rfl (fun ls hl => ?_)
                  refine lv_aload_n hx hb dX12_sizes_150 rfl (lv_at hl 2 rfl) ?_
                  refine gX12_29 C0 hK hP tw971 dX12_sizes_151 ?_
                  obtain ⟨x7_23, ex7_23, h⟩ := bnd_e h
                  refine nm_i ex7_23 ?_
                  refine lv_istore (lv' := [(7, .int x7_23), (6, .int x6_22), (5, .int x8_12), (0, .ref (a 0)), (1, .int p1), (2, .int p2), (3, .int p3), (8, .int x8_12)]) hx hb dX12_sizes_154 hl (by decide) rfl (fun ls hl => ?_)
                  obtain ⟨x8_24, ex8_24, h⟩ := bnd_e h
                  refine lv_iinc (v := x8_24) (lv' := [(8, .int x8_24), (7, .int x7_23), (6, .int x6_22), (5, .int x8_12), (0, .ref (a 0)), (1, .int p1), (2, .int p2), (3, .int p3)]) hx hb dX12_sizes_156 hl (k := 7) rfl (by rw [ex8_24]; rfl) (by decide) rfl (fun ls hl => ?_)
                  refine lv_goto (tgt := 93) hx hb dX12_sizes_159 (by decide) ?_
                  exact ih1 x8_12 x6_22 x7_23 x8_24 σ_16 _ _ ls h hP hS (lv_sub hl [4, 5, 6, 7, 3, 2, 1, 0] rfl)
                · have h := ie c_21 h
                  refine lv_aload_n hx hb dX12_sizes_122 rfl (lv_at hl 0 rfl) ?_
                  refine gX12_28 C0 hK hP tw970 dX12_sizes_123 ?_
                  refine lv_iload hx hb dX12_sizes_126 (lv_at hl 5 rfl) ?_
                  refine lv_icmp_ne (tgt := 156) hx hb dX12_sizes_128 (by decide) (fun c_25 => ?_) (fun c_25 => ?_)
                  · have h := ie c_25 h
                    obtain ⟨x8_26, ex8_26, h⟩ := bnd_e h
                    refine lv_iinc (v := x8_26) (lv' := [(8, .int x8_26), (0, .ref (a 0)), (1, .int p1), (2, .int p2), (3, .int p3), (5, .int x5_9), (6, .int x6_10), (7, .int x7_11)]) hx hb dX12_sizes_156 hl (k := 7) rfl (by rw [ex8_26]; rfl) (by decide) rfl (fun ls hl => ?_)
                    refine lv_goto (tgt := 93) hx hb dX12_sizes_159 (by decide) ?_
                    exact ih1 x5_9 x6_10 x7_11 x8_26 σ_16 _ _ ls h hP hS (lv_sub hl [1, 2, 3, 4, 5, 6, 7, 0] rfl)
                  · have h := it c_25 h
                    refine lv_aload_n hx hb dX12_sizes_131 rfl (lv_at hl 0 rfl) ?_
                    refine gX12_29 C0 hK hP tw971 dX12_sizes_132 ?_
                    refine lv_iload hx hb dX12_sizes_135 (lv_at hl 6 rfl) ?_
                    refine lv_icmp_ge (tgt := 156) hx hb dX12_sizes_137 (by decide) (fun c_27 => ?_) (fun c_27 => ?_)
                    · have h := it c_27 h
                      obtain ⟨x8_28, ex8_28, h⟩ := bnd_e h
                      refine lv_iinc (v := x8_28) (lv' := [(8, .int x8_28), (0, .ref (a 0)), (1, .int p1), (2, .int p2), (3, .int p3), (5, .int x5_9), (6, .int x6_10), (7, .int x7_11)]) hx hb dX12_sizes_156 hl (k := 7) rfl (by rw [ex8_28]; rfl) (by decide) rfl (fun ls hl => ?_)
                      refine lv_goto (tgt := 93) hx hb dX12_sizes_159 (by decide) ?_
                      exact ih1 x5_9 x6_10 x7_11 x8_28 σ_16 _ _ ls h hP hS (lv_sub hl [1, 2, 3, 4, 5, 6, 7, 0] rfl)
                    · have h := ie c_27 h
                      refine lv_iload hx hb dX12_sizes_140 (lv_at hl 7 rfl) ?_
                      refine lv_istore (lv' := [(5, .int x8_12), (0, .ref (a 0)), (1, .int p1), (2, .int p2), (3, .int p3), (6, .int x6_10), (7, .int x7_11), (8, .int x8_12)]) hx hb dX12_sizes_142 hl (by decide) rfl (fun ls hl => ?_)
                      refine lv_aload_n hx hb dX12_sizes_144 rfl (lv_at hl 1 rfl) ?_
                      refine gX12_28 C0 hK hP tw970 dX12_sizes_145 ?_
                      obtain ⟨x6_29, ex6_29, h⟩ := bnd_e h
                      refine nm_i ex6_29 ?_
                      refine lv_istore (lv' := [(6, .int x6_29), (5, .int x8_12), (0, .ref (a 0)), (1, .int p1), (2, .int p2), (3, .int p3), (7, .int x7_11), (8, .int x8_12)]) hx hb dX12_sizes_148 hl (by decide) rfl (fun ls hl => ?_)
                      refine lv_aload_n hx hb dX12_sizes_150 rfl (lv_at hl 2 rfl) ?_
                      refine gX12_29 C0 hK hP tw971 dX12_sizes_151 ?_
                      obtain ⟨x7_30, ex7_30, h⟩ := bnd_e h
                      refine nm_i ex7_30 ?_
                      refine lv_istore (lv' := [(7, .int x7_30), (6, .int x6_29), (5, .int x8_12), (0, .ref (a 0)), (1, .int p1), (2, .int p2), (3, .int p3), (8, .int x8_12)]) hx hb dX12_sizes_154 hl (by decide) rfl (fun ls hl => ?_)
                      obtain ⟨x8_31, ex8_31, h⟩ := bnd_e h
                      refine lv_iinc (v := x8_31) (lv' := [(8, .int x8_31), (7, .int x7_30), (6, .int x6_29), (5, .int x8_12), (0, .ref (a 0)), (1, .int p1), (2, .int p2), (3, .int p3)]) hx hb dX12_sizes_156 hl (k := 7) rfl (by rw [ex8_31]; rfl) (by decide) rfl (fun ls hl => ?_)
                      refine lv_goto (tgt := 93) hx hb dX12_sizes_159 (by decide) ?_
                      exact ih1 x8_12 x6_29 x7_30 x8_31 σ_16 _ _ ls h hP hS (lv_sub hl [4, 5, 6, 7, 3, 2, 1, 0] rfl)
        exact hL1 5000 0 0 0 1 σ_7 _ _ ls h hP hS (lv_sub hl [5, 6, 7, 8, 3, 2, 1, 0] rfl)
      · have h := ie c_8 h
        refine lv_iload hx hb dX12_sizes_78 (lv_at hl 0 rfl) ?_
        rw [hQ]
        exact xzret C0 hP hS rfl h dX12_sizes_80
    refine lv_if_ge (tgt := 64) hx hb dX12_sizes_56 (by decide) (fun c_41 => ?_) (fun c_41 => ?_)
    · have h := it c_41 h
      refine lv_aload_n hx hb dX12_sizes_64 rfl (lv_at hl 1 rfl) ?_
      refine lv_iload_n hx hb dX12_sizes_65 rfl (lv_at hl 3 rfl) ?_
      refine lv_bipush (v := 20) hx hb dX12_sizes_66 (by decide) ?_
      obtain ⟨r_43, h_42, h⟩ := b1_e h
      refine xcall (rV C0 hK hP hl.1 (fun _ _ _ => trivial) Bt_b (c_X12_wrongList hI h_42) cv_X12_wrongList tw1259 (rcX12 hK hP) (rest := []) rfl (Nat.le_of_ble_eq_true rfl) ⟨rfl, rfl, Nat.le_of_ble_eq_true rfl, Nat.le_of_ble_eq_true rfl⟩ ⟨Nat.zero_le _, Nat.zero_le _⟩ dX12_sizes_68) hS (fun H locs hP hS => ?_)
      exact hJ71 r_43 σ_5 _ _ ls h hP hS (lv_sub hl [1, 2, 3, 4] rfl)
    · have h := ie c_41 h
      refine lv_iload hx hb dX12_sizes_59 (lv_at hl 0 rfl) ?_
      refine lv_goto (tgt := 71) hx hb dX12_sizes_61 (by decide) ?_
      exact hJ71 v_4 σ_5 _ _ ls h hP hS (lv_sub hl [1, 2, 3, 4] rfl)
  obtain ⟨J41, eJ41, h⟩ := jn_e h
  have hJ41 : ∀ (σ_44 : MMem) (H : Heap) (locs : List Loc) (ls : Array Slot), J41 σ_44 = some (r, σ') → va_P D vwCl (wM ca a σ_44) H → va_S (AW 21 a) s.heap H locs → lv_has ls 9 [(0, .ref (a 0)), (1, .int p1), (2, .int p2), (3, .int p3)] → W p l e rm_X12_sizes s m args below meth c H locs 0 0 Q (F0 m 41 ls []) := by
    intro σ_44 H locs ls h hP hS hl
    have h := ap1 eJ41 h
    refine lv_iconst (v := (-1)) hx hb dX12_sizes_41 (by decide) ?_
    refine lv_goto (tgt := 52) hx hb dX12_sizes_42 (by decide) ?_
    exact hJ52 (-1) σ_44 _ _ ls h hP hS (lv_sub hl [0, 1, 2, 3] rfl)
  refine lv_if_eq (tgt := 41) hx hb dX12_sizes_14 (by decide) (fun c_45 => ?_) (fun c_45 => ?_)
  · have h := it c_45 h
    exact hJ41 σ_1 _ _ ls h hP hS (lv_sub hl [0, 1, 2, 3] rfl)
  · have h := ie c_45 h
    refine lv_iload_n hx hb dX12_sizes_17 rfl (lv_at hl 2 rfl) ?_
    refine lv_i2l (v := p2.toInt64) hx hb dX12_sizes_18 rfl ?_
    refine lv_lconst (v := 0) hx hb dX12_sizes_19 (by decide) ?_
    refine lv_ldc2 (v := 7) hx hb C0.2.2.2.1 (C0.2.2.2.2.1 _ tw1090) dX12_sizes_20 ?_
    obtain ⟨r_47, h_46, h⟩ := b1_e h
    refine xcall (rS C0 hK hP hl.1 (fun _ _ _ => trivial) Bt_b (c_X12_in hI h_46) cs_X12_in tw1091 (rest := []) rfl (Nat.le_of_ble_eq_true rfl) ⟨rfl, rfl, Nat.le_of_ble_eq_true rfl, Nat.le_of_ble_eq_true rfl⟩ ⟨Nat.zero_le _, Nat.zero_le _⟩ dX12_sizes_23) hS (fun H locs hP hS => ?_)
    refine lv_if_eq (tgt := 41) hx hb dX12_sizes_26 (by decide) (fun c_48 => ?_) (fun c_48 => ?_)
    · have h := it c_48 h
      exact hJ41 σ_1 _ _ ls h hP hS (lv_sub hl [0, 1, 2, 3] rfl)
    · have h := ie c_48 h
      refine lv_iload_n hx hb dX12_sizes_29 rfl (lv_at hl 3 rfl) ?_
      refine lv_i2l (v := p3.toInt64) hx hb dX12_sizes_30 rfl ?_
      refine lv_lconst (v := 0) hx hb dX12_sizes_31 (by decide) ?_
      refine lv_ldc2 (v := 2) hx hb C0.2.2.2.1 (C0.2.2.2.2.1 _ tw1258) dX12_sizes_32 ?_
      obtain ⟨r_50, h_49, h⟩ := b1_e h
      refine xcall (rS C0 hK hP hl.1 (fun _ _ _ => trivial) Bt_b (c_X12_in hI h_49) cs_X12_in tw1091 (rest := []) rfl (Nat.le_of_ble_eq_true rfl) ⟨rfl, rfl, Nat.le_of_ble_eq_true rfl, Nat.le_of_ble_eq_true rfl⟩ ⟨Nat.zero_le _, Nat.zero_le _⟩ dX12_sizes_35) hS (fun H locs hP hS => ?_)
      refine lv_if_ne (tgt := 45) hx hb dX12_sizes_38 (by decide) (fun c_51 => ?_) (fun c_51 => ?_)
      · have h := ie c_51 h
        refine lv_aload_n hx hb dX12_sizes_45 rfl (lv_at hl 0 rfl) ?_
        refine lv_iload_n hx hb dX12_sizes_46 rfl (lv_at hl 1 rfl) ?_
        refine lv_bipush (v := 6) hx hb dX12_sizes_47 (by decide) ?_
        obtain ⟨r_53, h_52, h⟩ := b1_e h
        refine xcall (rV C0 hK hP hl.1 (fun _ _ _ => trivial) Bt_b (c_X12_wrongList hI h_52) cv_X12_wrongList tw1259 (rcX12 hK hP) (rest := []) rfl (Nat.le_of_ble_eq_true rfl) ⟨rfl, rfl, Nat.le_of_ble_eq_true rfl, Nat.le_of_ble_eq_true rfl⟩ ⟨Nat.zero_le _, Nat.zero_le _⟩ dX12_sizes_49) hS (fun H locs hP hS => ?_)
        exact hJ52 r_53 σ_1 _ _ ls h hP hS (lv_sub hl [0, 1, 2, 3] rfl)
      · have h := it c_51 h
        exact hJ41 σ_1 _ _ ls h hP hS (lv_sub hl [0, 1, 2, 3] rfl)
def f_X12_old_L132 (p1 : Int32) (x3_5 : Int32) (x7_32 : Int32) : Nat → Int32 → Int32 → MMem → (Int32 → Int32 → MMem → Option (Int32 × MMem)) → Option (Int32 × MMem)
  | 0, _, _, _, _ => none
  | n + 1, x8_36, x9_37, σ_38, K3 =>
    if ((σ_38 0).1 0) ≤ x9_37 then
      K3 x8_36 x9_37 σ_38
    else
      if x9_37 < 0 ∨ 6 ≤ x9_37.toNatClampNeg then none else
      if x9_37 < 0 ∨ 6 ≤ x9_37.toNatClampNeg then none else
      bnd (((σ_38 2).1 x9_37.toNatClampNeg) + ((σ_38 3).1 x9_37.toNatClampNeg)) fun (x10_42 : Int32) =>
      jn (fun (v_43 : Int32) (σ_44 : MMem) =>
        if v_43 = 0 then
          bnd (x9_37 + 1) fun (x9_46 : Int32) =>
          f_X12_old_L132 p1 x3_5 x7_32 n x8_36 x9_46 σ_44 K3
        else
          if x8_36 < 0 then
            bnd (x9_37 + 1) fun (x9_48 : Int32) =>
            f_X12_old_L132 p1 x3_5 x7_32 n x9_37 x9_48 σ_44 K3
          else
            if x8_36 < 0 ∨ 6 ≤ x8_36.toNatClampNeg then none else
            if x8_36 < 0 ∨ 6 ≤ x8_36.toNatClampNeg then none else
            if (((σ_44 2).1 x8_36.toNatClampNeg) + ((σ_44 3).1 x8_36.toNatClampNeg)) ≤ x10_42 then
              bnd (x9_37 + 1) fun (x9_52 : Int32) =>
              f_X12_old_L132 p1 x3_5 x7_32 n x8_36 x9_52 σ_44 K3
            else
              bnd (x9_37 + 1) fun (x9_53 : Int32) =>
              f_X12_old_L132 p1 x3_5 x7_32 n x9_37 x9_53 σ_44 K3) fun J184 =>
      jn (fun (σ_54 : MMem) =>
        J184 0 σ_54) fun J183 =>
      if ((x3_5 >>> (x9_37 &&& 31)) &&& 1) = 0 then
        b1 (f_X12_told p1 x7_32 σ_38) fun r_57 =>
        if x10_42 < r_57 then
          J183 σ_38
        else
          J184 1 σ_38
      else
        J183 σ_38
def f_X12_old_L47 (p1 : Int32) (x4_6 : Int32) : Nat → Int32 → Int32 → MMem → (Int32 → Int32 → MMem → Option (Int32 × MMem)) → Option (Int32 × MMem)
  | 0, _, _, _, _ => none
  | n + 1, x7_12, x8_13, σ_14, K2 =>
    if p1 < 0 ∨ 8 ≤ p1.toNatClampNeg then none else
    if ((σ_14 18).1 p1.toNatClampNeg) ≤ x8_13 then
      K2 x7_12 x8_13 σ_14
    else
      jn (fun (σ_17 : MMem) =>
        if (0 : Int32) = 0 then
          bnd (x8_13 + 1) fun (x8_19 : Int32) =>
          f_X12_old_L47 p1 x4_6 n x7_12 x8_19 σ_17 K2
        else
          bnd (x8_13 + 1) fun (x8_20 : Int32) =>
          f_X12_old_L47 p1 x4_6 n x8_13 x8_20 σ_17 K2) fun J94 =>
      if ((x4_6 >>> (x8_13 &&& 31)) &&& 1) = 0 then
        jn (fun (σ_22 : MMem) =>
          if (1 : Int32) = 0 then
            bnd (x8_13 + 1) fun (x8_24 : Int32) =>
            f_X12_old_L47 p1 x4_6 n x7_12 x8_24 σ_22 K2
          else
            bnd (x8_13 + 1) fun (x8_25 : Int32) =>
            f_X12_old_L47 p1 x4_6 n x8_13 x8_25 σ_22 K2) fun J90 =>
        if x7_12 < 0 then
          J90 σ_14
        else
          b1 (f_X12_told p1 x8_13 σ_14) fun r_28 =>
          b1 (f_X12_told p1 x7_12 σ_14) fun r_30 =>
          if r_30 ≤ r_28 then
            J94 σ_14
          else
            J90 σ_14
      else
        J94 σ_14
def f_X12_old_L30 (p1 : Int32) : Nat → Int32 → Int32 → Int32 → Int32 → MMem → (Int32 → Int32 → Int32 → Int32 → MMem → Option (Int32 × MMem)) → Option (Int32 × MMem)
  | 0, _, _, _, _, _, _ => none
  | n + 1, x3_5, x4_6, x5_7, x6_8, σ_9, K1 =>
    if p1 < 0 ∨ 8 ≤ p1.toNatClampNeg then none else
    if ((σ_9 18).1 p1.toNatClampNeg) ≤ x6_8 then
      K1 x3_5 x4_6 x5_7 x6_8 σ_9
    else
      f_X12_old_L47 p1 x4_6 5000 (-1) 0 σ_9 fun (x7_32 : Int32) (u_33 : Int32) (σ_34 : MMem) =>
        bnd (x4_6 ||| (1 <<< (x7_32 &&& 31))) fun (x4_35 : Int32) =>
        f_X12_old_L132 p1 x3_5 x7_32 5000 (-1) 0 σ_34 fun (x8_59 : Int32) (u_60 : Int32) (σ_61 : MMem) =>
          jn (fun (v_62 : Int32) (σ_63 : MMem) =>
            bnd (x3_5 ||| v_62) fun (x3_64 : Int32) =>
            if 0 ≤ x8_59 then
              bnd (x5_7 + 1) fun (x5_66 : Int32) =>
              bnd (x6_8 + 1) fun (x6_67 : Int32) =>
              f_X12_old_L30 p1 n x3_64 x4_35 x5_66 x6_67 σ_63 K1
            else
              bnd (x5_7 + 0) fun (x5_68 : Int32) =>
              bnd (x6_8 + 1) fun (x6_69 : Int32) =>
              f_X12_old_L30 p1 n x3_64 x4_35 x5_68 x6_69 σ_63 K1) fun J245 =>
          if 0 ≤ x8_59 then
            J245 (1 <<< (x8_59 &&& 31)) σ_61
          else
            J245 0 σ_61
def f_X12_old (p1 : Int32) (σ : MMem) : Option (Int32 × MMem) :=
  bnd (uI σ 0 9 0) fun (σ_1 : MMem) =>
  b1 (f_X12_wrongList p1 6 σ_1) fun r_3 =>
  if 0 ≤ r_3 then
    f_X12_old_L30 p1 5000 0 0 0 0 σ_1 fun (u_72 : Int32) (u_73 : Int32) (x5_71 : Int32) (u_74 : Int32) (σ_75 : MMem) =>
      some (x5_71, σ_75)
  else
    some (r_3, σ_1)
def rm_X12_old : Room := { frames := 4, cells := 0, slots := 0, locals := 93 }
set_option maxHeartbeats 4000000 in
set_option maxRecDepth 100000 in
theorem c_X12_old {l : Launch} {D : va_G} {ca : Nat → ClassId} {a : Nat → Nat} (hI : InjN 21 a) {p1 : Int32} {σ : MMem} {r : Int32} {σ' : MMem}  (h : f_X12_old p1 σ = some (r, σ')) : XMM l D ca a Bt yX12_old cX12_old 12 (some .int) rm_X12_old [.ref (a 0), .int p1] σ (some (.int r)) σ' := by
  refine XM.of pn_X12 (Nat.le_of_ble_eq_true rfl) ?_
  intro p e s m args below meth c ls Q hQ C0 hK hB hP hS hl
  have C0 : Cx p s m args meth c RX12 cX12_old 12 (some .int) := C0
  have hx := C0.1
  have hb := C0.2.1
  have hl : lv_has ls 12 [(0, .ref (a 0)), (1, .int p1)] := hl
  rw [f_X12_old] at h
  refine lv_aload_n hx hb dX12_old_0 rfl (lv_at hl 0 rfl) ?_
  refine lv_iconst (v := 0) hx hb dX12_old_1 (by decide) ?_
  obtain ⟨σ_1, eσ_1, h⟩ := bnd_e h
  refine pX12_9 C0 hK hP tw951 hI hS dX12_old_2 (fun H locs hP hS => ?_)
  rw [← eσ_1] at hP
  refine lv_aload_n hx hb dX12_old_5 rfl (lv_at hl 0 rfl) ?_
  refine lv_iload_n hx hb dX12_old_6 rfl (lv_at hl 1 rfl) ?_
  refine lv_bipush (v := 6) hx hb dX12_old_7 (by decide) ?_
  obtain ⟨r_3, h_2, h⟩ := b1_e h
  refine xcall (rV C0 hK hP hl.1 (fun _ _ _ => trivial) Bt_b (c_X12_wrongList hI h_2) cv_X12_wrongList tw1259 (rcX12 hK hP) (rest := []) rfl (Nat.le_of_ble_eq_true rfl) ⟨rfl, rfl, Nat.le_of_ble_eq_true rfl, Nat.le_of_ble_eq_true rfl⟩ ⟨Nat.zero_le _, Nat.zero_le _⟩ dX12_old_9) hS (fun H locs hP hS => ?_)
  refine lv_istore_n (lv' := [(2, .int r_3), (0, .ref (a 0)), (1, .int p1)]) hx hb dX12_old_12 rfl hl (by decide) rfl (fun ls hl => ?_)
  refine lv_iload_n hx hb dX12_old_13 rfl (lv_at hl 0 rfl) ?_
  refine lv_if_ge (tgt := 19) hx hb dX12_old_14 (by decide) (fun c_4 => ?_) (fun c_4 => ?_)
  · have h := it c_4 h
    refine lv_iconst (v := 0) hx hb dX12_old_19 (by decide) ?_
    refine lv_istore_n (lv' := [(3, .int 0), (2, .int r_3), (0, .ref (a 0)), (1, .int p1)]) hx hb dX12_old_20 rfl hl (by decide) rfl (fun ls hl => ?_)
    refine lv_iconst (v := 0) hx hb dX12_old_21 (by decide) ?_
    refine lv_istore (lv' := [(4, .int 0), (3, .int 0), (2, .int r_3), (0, .ref (a 0)), (1, .int p1)]) hx hb dX12_old_22 hl (by decide) rfl (fun ls hl => ?_)
    refine lv_iconst (v := 0) hx hb dX12_old_24 (by decide) ?_
    refine lv_istore (lv' := [(5, .int 0), (4, .int 0), (3, .int 0), (2, .int r_3), (0, .ref (a 0)), (1, .int p1)]) hx hb dX12_old_25 hl (by decide) rfl (fun ls hl => ?_)
    refine lv_iconst (v := 0) hx hb dX12_old_27 (by decide) ?_
    refine lv_istore (lv' := [(6, .int 0), (5, .int 0), (4, .int 0), (3, .int 0), (2, .int r_3), (0, .ref (a 0)), (1, .int p1)]) hx hb dX12_old_28 hl (by decide) rfl (fun ls hl => ?_)
    obtain ⟨K1, eK1, h⟩ := lp_e (f := fun K => f_X12_old_L30 p1 5000 0 0 0 0 σ_1 K) h
    have h : f_X12_old_L30 p1 5000 0 0 0 0 σ_1 K1 = some (r, σ') := h
    have hX1 : ∀ (u_72 : Int32) (u_73 : Int32) (x5_71 : Int32) (u_74 : Int32) (σ_75 : MMem) (H : Heap) (locs : List Loc) (ls : Array Slot), K1 u_72 u_73 x5_71 u_74 σ_75 = some (r, σ') → va_P D vwCl (wM ca a σ_75) H → va_S (AW 21 a) s.heap H locs → lv_has ls 12 [(5, .int x5_71)] → W p l e rm_X12_old s m args below meth c H locs 0 0 Q (F0 m 268 ls []) := by
      intro u_72 u_73 x5_71 u_74 σ_75 H locs ls h hP hS hl
      have h := ap5 eK1 h
      refine lv_iload hx hb dX12_old_268 (lv_at hl 0 rfl) ?_
      rw [hQ]
      exact xzret C0 hP hS rfl h dX12_old_270
    have hL1 : ∀ (n : Nat) (x3_5 : Int32) (x4_6 : Int32) (x5_7 : Int32) (x6_8 : Int32) (σ_9 : MMem) (H : Heap) (locs : List Loc) (ls : Array Slot), f_X12_old_L30 p1 n x3_5 x4_6 x5_7 x6_8 σ_9 K1 = some (r, σ') → va_P D vwCl (wM ca a σ_9) H → va_S (AW 21 a) s.heap H locs → lv_has ls 12 [(0, .ref (a 0)), (1, .int p1), (3, .int x3_5), (4, .int x4_6), (5, .int x5_7), (6, .int x6_8)] → W p l e rm_X12_old s m args below meth c H locs 0 0 Q (F0 m 30 ls []) := by
      intro n
      induction n with
      | zero => intro x3_5 x4_6 x5_7 x6_8 σ_9 H locs ls h; rw [f_X12_old_L30] at h; cases h
      | succ n ih1 =>
        intro x3_5 x4_6 x5_7 x6_8 σ_9 H locs ls h hP hS hl
        rw [f_X12_old_L30] at h
        refine lv_iload hx hb dX12_old_30 (lv_at hl 5 rfl) ?_
        refine lv_aload_n hx hb dX12_old_32 rfl (lv_at hl 0 rfl) ?_
        refine gX12_35 C0 hK hP tw977 dX12_old_33 ?_
        refine lv_iload_n hx hb dX12_old_36 rfl (lv_at hl 1 rfl) ?_
        obtain ⟨b_10, h⟩ := ck h
        refine mald (i := 18) (N := 8) C0 hK hP (by decide) (by decide) rfl b_10 dX12_old_37 ?_
        refine lv_icmp_ge (tgt := 268) hx hb dX12_old_38 (by decide) (fun c_11 => ?_) (fun c_11 => ?_)
        · have h := it c_11 h
          exact hX1 x3_5 x4_6 x5_7 x6_8 σ_9 _ _ ls h hP hS (lv_sub hl [4] rfl)
        · have h := ie c_11 h
          refine lv_iconst (v := (-1)) hx hb dX12_old_41 (by decide) ?_
          refine lv_istore (lv' := [(7, .int (-1)), (0, .ref (a 0)), (1, .int p1), (3, .int x3_5), (4, .int x4_6), (5, .int x5_7), (6, .int x6_8)]) hx hb dX12_old_42 hl (by decide) rfl (fun ls hl => ?_)
          refine lv_iconst (v := 0) hx hb dX12_old_44 (by decide) ?_
          refine lv_istore (lv' := [(8, .int 0), (7, .int (-1)), (0, .ref (a 0)), (1, .int p1), (3, .int x3_5), (4, .int x4_6), (5, .int x5_7), (6, .int x6_8)]) hx hb dX12_old_45 hl (by decide) rfl (fun ls hl => ?_)
          obtain ⟨K2, eK2, h⟩ := lp_e (f := fun K => f_X12_old_L47 p1 x4_6 5000 (-1) 0 σ_9 K) h
          have h : f_X12_old_L47 p1 x4_6 5000 (-1) 0 σ_9 K2 = some (r, σ') := h
          have hX2 : ∀ (x7_32 : Int32) (u_33 : Int32) (σ_34 : MMem) (H : Heap) (locs : List Loc) (ls : Array Slot), K2 x7_32 u_33 σ_34 = some (r, σ') → va_P D vwCl (wM ca a σ_34) H → va_S (AW 21 a) s.heap H locs → lv_has ls 12 [(0, .ref (a 0)), (1, .int p1), (3, .int x3_5), (4, .int x4_6), (5, .int x5_7), (6, .int x6_8), (7, .int x7_32)] → W p l e rm_X12_old s m args below meth c H locs 0 0 Q (F0 m 117 ls []) := by
            intro x7_32 u_33 σ_34 H locs ls h hP hS hl
            have h := ap3 eK2 h
            refine lv_iload hx hb dX12_old_117 (lv_at hl 3 rfl) ?_
            refine lv_iconst (v := 1) hx hb dX12_old_119 (by decide) ?_
            refine lv_iload hx hb dX12_old_120 (lv_at hl 6 rfl) ?_
            refine lv_ishl hx hb dX12_old_122 ?_
            refine lv_ior hx hb dX12_old_123 ?_
            obtain ⟨x4_35, ex4_35, h⟩ := bnd_e h
            refine nm_i ex4_35 ?_
            refine lv_istore (lv' := [(4, .int x4_35), (0, .ref (a 0)), (1, .int p1), (3, .int x3_5), (5, .int x5_7), (6, .int x6_8), (7, .int x7_32)]) hx hb dX12_old_124 hl (by decide) rfl (fun ls hl => ?_)
            refine lv_iconst (v := (-1)) hx hb dX12_old_126 (by decide) ?_
            refine lv_istore (lv' := [(8, .int (-1)), (4, .int x4_35), (0, .ref (a 0)), (1, .int p1), (3, .int x3_5), (5, .int x5_7), (6, .int x6_8), (7, .int x7_32)]) hx hb dX12_old_127 hl (by decide) rfl (fun ls hl => ?_)
            refine lv_iconst (v := 0) hx hb dX12_old_129 (by decide) ?_
            refine lv_istore (lv' := [(9, .int 0), (8, .int (-1)), (4, .int x4_35), (0, .ref (a 0)), (1, .int p1), (3, .int x3_5), (5, .int x5_7), (6, .int x6_8), (7, .int x7_32)]) hx hb dX12_old_130 hl (by decide) rfl (fun ls hl => ?_)
            obtain ⟨K3, eK3, h⟩ := lp_e (f := fun K => f_X12_old_L132 p1 x3_5 x7_32 5000 (-1) 0 σ_34 K) h
            have h : f_X12_old_L132 p1 x3_5 x7_32 5000 (-1) 0 σ_34 K3 = some (r, σ') := h
            have hX3 : ∀ (x8_59 : Int32) (u_60 : Int32) (σ_61 : MMem) (H : Heap) (locs : List Loc) (ls : Array Slot), K3 x8_59 u_60 σ_61 = some (r, σ') → va_P D vwCl (wM ca a σ_61) H → va_S (AW 21 a) s.heap H locs → lv_has ls 12 [(0, .ref (a 0)), (1, .int p1), (3, .int x3_5), (4, .int x4_35), (5, .int x5_7), (6, .int x6_8), (8, .int x8_59)] → W p l e rm_X12_old s m args below meth c H locs 0 0 Q (F0 m 231 ls []) := by
              intro x8_59 u_60 σ_61 H locs ls h hP hS hl
              have h := ap3 eK3 h
              refine lv_iload_n hx hb dX12_old_231 rfl (lv_at hl 2 rfl) ?_
              refine lv_iload hx hb dX12_old_232 (lv_at hl 6 rfl) ?_
              obtain ⟨J245, eJ245, h⟩ := jn_e h
              have hJ245 : ∀ (v_62 : Int32) (σ_63 : MMem) (H : Heap) (locs : List Loc) (ls : Array Slot), J245 v_62 σ_63 = some (r, σ') → va_P D vwCl (wM ca a σ_63) H → va_S (AW 21 a) s.heap H locs → lv_has ls 12 [(0, .ref (a 0)), (1, .int p1), (4, .int x4_35), (5, .int x5_7), (6, .int x6_8), (8, .int x8_59)] → W p l e rm_X12_old s m args below meth c H locs 0 0 Q (F0 m 245 ls [.int v_62, .int x3_5]) := by
                intro v_62 σ_63 H locs ls h hP hS hl
                have h := ap2 eJ245 h
                refine lv_ior hx hb dX12_old_245 ?_
                obtain ⟨x3_64, ex3_64, h⟩ := bnd_e h
                refine nm_i ex3_64 ?_
                refine lv_istore_n (lv' := [(3, .int x3_64), (0, .ref (a 0)), (1, .int p1), (4, .int x4_35), (5, .int x5_7), (6, .int x6_8), (8, .int x8_59)]) hx hb dX12_old_246 rfl hl (by decide) rfl (fun ls hl => ?_)
                refine lv_iload hx hb dX12_old_247 (lv_at hl 4 rfl) ?_
                refine lv_iload hx hb dX12_old_249 (lv_at hl 6 rfl) ?_
                refine lv_if_ge (tgt := 258) hx hb dX12_old_251 (by decide) (fun c_65 => ?_) (fun c_65 => ?_)
                · have h := it c_65 h
                  refine lv_iconst (v := 1) hx hb dX12_old_258 (by decide) ?_
                  refine lv_iadd hx hb dX12_old_259 ?_
                  obtain ⟨x5_66, ex5_66, h⟩ := bnd_e h
                  refine nm_i ex5_66 ?_
                  refine lv_istore (lv' := [(5, .int x5_66), (3, .int x3_64), (0, .ref (a 0)), (1, .int p1), (4, .int x4_35), (6, .int x6_8), (8, .int x8_59)]) hx hb dX12_old_260 hl (by decide) rfl (fun ls hl => ?_)
                  obtain ⟨x6_67, ex6_67, h⟩ := bnd_e h
                  refine lv_iinc (v := x6_67) (lv' := [(6, .int x6_67), (5, .int x5_66), (3, .int x3_64), (0, .ref (a 0)), (1, .int p1), (4, .int x4_35), (8, .int x8_59)]) hx hb dX12_old_262 hl (k := 5) rfl (by rw [ex6_67]; rfl) (by decide) rfl (fun ls hl => ?_)
                  refine lv_goto (tgt := 30) hx hb dX12_old_265 (by decide) ?_
                  exact ih1 x3_64 x4_35 x5_66 x6_67 σ_63 _ _ ls h hP hS (lv_sub hl [3, 4, 2, 5, 1, 0] rfl)
                · have h := ie c_65 h
                  refine lv_iconst (v := 0) hx hb dX12_old_254 (by decide) ?_
                  refine lv_goto (tgt := 259) hx hb dX12_old_255 (by decide) ?_
                  refine lv_iadd hx hb dX12_old_259 ?_
                  obtain ⟨x5_68, ex5_68, h⟩ := bnd_e h
                  refine nm_i ex5_68 ?_
                  refine lv_istore (lv' := [(5, .int x5_68), (3, .int x3_64), (0, .ref (a 0)), (1, .int p1), (4, .int x4_35), (6, .int x6_8), (8, .int x8_59)]) hx hb dX12_old_260 hl (by decide) rfl (fun ls hl => ?_)
                  obtain ⟨x6_69, ex6_69, h⟩ := bnd_e h
                  refine lv_iinc (v := x6_69) (lv' := [(6, .int x6_69), (5, .int x5_68), (3, .int x3_64), (0, .ref (a 0)), (1, .int p1), (4, .int x4_35), (8, .int x8_59)]) hx hb dX12_old_262 hl (k := 5) rfl (by rw [ex6_69]; rfl) (by decide) rfl (fun ls hl => ?_)
                  refine lv_goto (tgt := 30) hx hb dX12_old_265 (by decide) ?_
                  exact ih1 x3_64 x4_35 x5_68 x6_69 σ_63 _ _ ls h hP hS (lv_sub hl [3, 4, 2, 5, 1, 0] rfl)
              refine lv_if_ge (tgt := 241) hx hb dX12_old_234 (by decide) (fun c_70 => ?_) (fun c_70 => ?_)
              · have h := it c_70 h
                refine lv_iconst (v := 1) hx hb dX12_old_241 (by decide) ?_
                refine lv_iload hx hb dX12_old_242 (lv_at hl 6 rfl) ?_
                refine lv_ishl hx hb dX12_old_244 ?_
                exact hJ245 (1 <<< (x8_59 &&& 31)) σ_61 _ _ ls h hP hS (lv_sub hl [0, 1, 3, 4, 5, 6] rfl)
              · have h := ie c_70 h
                refine lv_iconst (v := 0) hx hb dX12_old_237 (by decide) ?_
                refine lv_goto (tgt := 245) hx hb dX12_old_238 (by decide) ?_
                exact hJ245 0 σ_61 _ _ ls h hP hS (lv_sub hl [0, 1, 3, 4, 5, 6] rfl)
            have hL3 : ∀ (n : Nat) (x8_36 : Int32) (x9_37 : Int32) (σ_38 : MMem) (H : Heap) (locs : List Loc) (ls : Array Slot), f_X12_old_L132 p1 x3_5 x7_32 n x8_36 x9_37 σ_38 K3 = some (r, σ') → va_P D vwCl (wM ca a σ_38) H → va_S (AW 21 a) s.heap H locs → lv_has ls 12 [(0, .ref (a 0)), (1, .int p1), (3, .int x3_5), (4, .int x4_35), (5, .int x5_7), (6, .int x6_8), (7, .int x7_32), (8, .int x8_36), (9, .int x9_37)] → W p l e rm_X12_old s m args below meth c H locs 0 0 Q (F0 m 132 ls []) := by
              intro n
              induction n with
              | zero => intro x8_36 x9_37 σ_38 H locs ls h; rw [f_X12_old_L132] at h; cases h
              | succ n ih3 =>
                intro x8_36 x9_37 σ_38 H locs ls h hP hS hl
                rw [f_X12_old_L132] at h
                refine lv_iload hx hb dX12_old_132 (lv_at hl 8 rfl) ?_
                refine lv_aload_n hx hb dX12_old_134 rfl (lv_at hl 0 rfl) ?_
                refine gX12_0 C0 hK hP tw942 dX12_old_135 ?_
                refine lv_icmp_ge (tgt := 231) hx hb dX12_old_138 (by decide) (fun c_39 => ?_) (fun c_39 => ?_)
                · have h := it c_39 h
                  exact hX3 x8_36 x9_37 σ_38 _ _ ls h hP hS (lv_sub hl [0, 1, 2, 3, 4, 5, 7] rfl)
                · have h := ie c_39 h
                  refine lv_aload_n hx hb dX12_old_141 rfl (lv_at hl 0 rfl) ?_
                  refine gX12_6 C0 hK hP tw948 dX12_old_142 ?_
                  refine lv_iload hx hb dX12_old_145 (lv_at hl 8 rfl) ?_
                  obtain ⟨b_40, h⟩ := ck h
                  refine mald (i := 2) (N := 6) C0 hK hP (by decide) (by decide) rfl b_40 dX12_old_147 ?_
                  refine lv_aload_n hx hb dX12_old_148 rfl (lv_at hl 0 rfl) ?_
                  refine gX12_7 C0 hK hP tw949 dX12_old_149 ?_
                  refine lv_iload hx hb dX12_old_152 (lv_at hl 8 rfl) ?_
                  obtain ⟨b_41, h⟩ := ck h
                  refine mald (i := 3) (N := 6) C0 hK hP (by decide) (by decide) rfl b_41 dX12_old_154 ?_
                  refine lv_iadd hx hb dX12_old_155 ?_
                  obtain ⟨x10_42, ex10_42, h⟩ := bnd_e h
                  refine nm_i ex10_42 ?_
                  refine lv_istore (lv' := [(10, .int x10_42), (0, .ref (a 0)), (1, .int p1), (3, .int x3_5), (4, .int x4_35), (5, .int x5_7), (6, .int x6_8), (7, .int x7_32), (8, .int x8_36), (9, .int x9_37)]) hx hb dX12_old_156 hl (by decide) rfl (fun ls hl => ?_)
                  refine lv_iload_n hx hb dX12_old_158 rfl (lv_at hl 3 rfl) ?_
                  refine lv_iload hx hb dX12_old_159 (lv_at hl 9 rfl) ?_
                  refine lv_ishr hx hb dX12_old_161 ?_
                  refine lv_iconst (v := 1) hx hb dX12_old_162 (by decide) ?_
                  refine lv_iand hx hb dX12_old_163 ?_
                  obtain ⟨J184, eJ184, h⟩ := jn_e h
                  have hJ184 : ∀ (v_43 : Int32) (σ_44 : MMem) (H : Heap) (locs : List Loc) (ls : Array Slot), J184 v_43 σ_44 = some (r, σ') → va_P D vwCl (wM ca a σ_44) H → va_S (AW 21 a) s.heap H locs → lv_has ls 12 [(0, .ref (a 0)), (1, .int p1), (3, .int x3_5), (4, .int x4_35), (5, .int x5_7), (6, .int x6_8), (7, .int x7_32), (8, .int x8_36), (9, .int x9_37), (10, .int x10_42)] → W p l e rm_X12_old s m args below meth c H locs 0 0 Q (F0 m 184 ls [.int v_43]) := by
                    intro v_43 σ_44 H locs ls h hP hS hl
                    have h := ap2 eJ184 h
                    refine lv_istore (lv' := [(11, .int v_43), (0, .ref (a 0)), (1, .int p1), (3, .int x3_5), (4, .int x4_35), (5, .int x5_7), (6, .int x6_8), (7, .int x7_32), (8, .int x8_36), (9, .int x9_37), (10, .int x10_42)]) hx hb dX12_old_184 hl (by decide) rfl (fun ls hl => ?_)
                    refine lv_iload hx hb dX12_old_186 (lv_at hl 0 rfl) ?_
                    refine lv_if_eq (tgt := 221) hx hb dX12_old_188 (by decide) (fun c_45 => ?_) (fun c_45 => ?_)
                    · have h := it c_45 h
                      refine lv_iload hx hb dX12_old_221 (lv_at hl 8 rfl) ?_
                      refine lv_istore (lv' := [(8, .int x8_36), (11, .int v_43), (0, .ref (a 0)), (1, .int p1), (3, .int x3_5), (4, .int x4_35), (5, .int x5_7), (6, .int x6_8), (7, .int x7_32), (9, .int x9_37), (10, .int x10_42)]) hx hb dX12_old_223 hl (by decide) rfl (fun ls hl => ?_)
                      obtain ⟨x9_46, ex9_46, h⟩ := bnd_e h
                      refine lv_iinc (v := x9_46) (lv' := [(9, .int x9_46), (8, .int x8_36), (11, .int v_43), (0, .ref (a 0)), (1, .int p1), (3, .int x3_5), (4, .int x4_35), (5, .int x5_7), (6, .int x6_8), (7, .int x7_32), (10, .int x10_42)]) hx hb dX12_old_225 hl (k := 9) rfl (by rw [ex9_46]; rfl) (by decide) rfl (fun ls hl => ?_)
                      refine lv_goto (tgt := 132) hx hb dX12_old_228 (by decide) ?_
                      exact ih3 x8_36 x9_46 σ_44 _ _ ls h hP hS (lv_sub hl [3, 4, 5, 6, 7, 8, 9, 1, 0] rfl)
                    · have h := ie c_45 h
                      refine lv_iload hx hb dX12_old_191 (lv_at hl 8 rfl) ?_
                      refine lv_if_lt (tgt := 216) hx hb dX12_old_193 (by decide) (fun c_47 => ?_) (fun c_47 => ?_)
                      · have h := it c_47 h
                        refine lv_iload hx hb dX12_old_216 (lv_at hl 9 rfl) ?_
                        refine lv_goto (tgt := 223) hx hb dX12_old_218 (by decide) ?_
                        refine lv_istore (lv' := [(8, .int x9_37), (11, .int v_43), (0, .ref (a 0)), (1, .int p1), (3, .int x3_5), (4, .int x4_35), (5, .int x5_7), (6, .int x6_8), (7, .int x7_32), (9, .int x9_37), (10, .int x10_42)]) hx hb dX12_old_223 hl (by decide) rfl (fun ls hl => ?_)
                        obtain ⟨x9_48, ex9_48, h⟩ := bnd_e h
                        refine lv_iinc (v := x9_48) (lv' := [(9, .int x9_48), (8, .int x9_37), (11, .int v_43), (0, .ref (a 0)), (1, .int p1), (3, .int x3_5), (4, .int x4_35), (5, .int x5_7), (6, .int x6_8), (7, .int x7_32), (10, .int x10_42)]) hx hb dX12_old_225 hl (k := 9) rfl (by rw [ex9_48]; rfl) (by decide) rfl (fun ls hl => ?_)
                        refine lv_goto (tgt := 132) hx hb dX12_old_228 (by decide) ?_
                        exact ih3 x9_37 x9_48 σ_44 _ _ ls h hP hS (lv_sub hl [3, 4, 5, 6, 7, 8, 9, 1, 0] rfl)
                      · have h := ie c_47 h
                        refine lv_iload hx hb dX12_old_196 (lv_at hl 10 rfl) ?_
                        refine lv_aload_n hx hb dX12_old_198 rfl (lv_at hl 1 rfl) ?_
                        refine gX12_6 C0 hK hP tw948 dX12_old_199 ?_
                        refine lv_iload hx hb dX12_old_202 (lv_at hl 8 rfl) ?_
                        obtain ⟨b_49, h⟩ := ck h
                        refine mald (i := 2) (N := 6) C0 hK hP (by decide) (by decide) rfl b_49 dX12_old_204 ?_
                        refine lv_aload_n hx hb dX12_old_205 rfl (lv_at hl 1 rfl) ?_
                        refine gX12_7 C0 hK hP tw949 dX12_old_206 ?_
                        refine lv_iload hx hb dX12_old_209 (lv_at hl 8 rfl) ?_
                        obtain ⟨b_50, h⟩ := ck h
                        refine mald (i := 3) (N := 6) C0 hK hP (by decide) (by decide) rfl b_50 dX12_old_211 ?_
                        refine lv_iadd hx hb dX12_old_212 ?_
                        refine lv_icmp_ge (tgt := 221) hx hb dX12_old_213 (by decide) (fun c_51 => ?_) (fun c_51 => ?_)
                        · have h := it c_51 h
                          refine lv_iload hx hb dX12_old_221 (lv_at hl 8 rfl) ?_
                          refine lv_istore (lv' := [(8, .int x8_36), (11, .int v_43), (0, .ref (a 0)), (1, .int p1), (3, .int x3_5), (4, .int x4_35), (5, .int x5_7), (6, .int x6_8), (7, .int x7_32), (9, .int x9_37), (10, .int x10_42)]) hx hb dX12_old_223 hl (by decide) rfl (fun ls hl => ?_)
                          obtain ⟨x9_52, ex9_52, h⟩ := bnd_e h
                          refine lv_iinc (v := x9_52) (lv' := [(9, .int x9_52), (8, .int x8_36), (11, .int v_43), (0, .ref (a 0)), (1, .int p1), (3, .int x3_5), (4, .int x4_35), (5, .int x5_7), (6, .int x6_8), (7, .int x7_32), (10, .int x10_42)]) hx hb dX12_old_225 hl (k := 9) rfl (by rw [ex9_52]; rfl) (by decide) rfl (fun ls hl => ?_)
                          refine lv_goto (tgt := 132) hx hb dX12_old_228 (by decide) ?_
                          exact ih3 x8_36 x9_52 σ_44 _ _ ls h hP hS (lv_sub hl [3, 4, 5, 6, 7, 8, 9, 1, 0] rfl)
                        · have h := ie c_51 h
                          refine lv_iload hx hb dX12_old_216 (lv_at hl 9 rfl) ?_
                          refine lv_goto (tgt := 223) hx hb dX12_old_218 (by decide) ?_
                          refine lv_istore (lv' := [(8, .int x9_37), (11, .int v_43), (0, .ref (a 0)), (1, .int p1), (3, .int x3_5), (4, .int x4_35), (5, .int x5_7), (6, .int x6_8), (7, .int x7_32), (9, .int x9_37), (10, .int x10_42)]) hx hb dX12_old_223 hl (by decide) rfl (fun ls hl => ?_)
                          obtain ⟨x9_53, ex9_53, h⟩ := bnd_e h
                          refine lv_iinc (v := x9_53) (lv' := [(9, .int x9_53), (8, .int x9_37), (11, .int v_43), (0, .ref (a 0)), (1, .int p1), (3, .int x3_5), (4, .int x4_35), (5, .int x5_7), (6, .int x6_8), (7, .int x7_32), (10, .int x10_42)]) hx hb dX12_old_225 hl (k := 9) rfl (by rw [ex9_53]; rfl) (by decide) rfl (fun ls hl => ?_)
                          refine lv_goto (tgt := 132) hx hb dX12_old_228 (by decide) ?_
                          exact ih3 x9_37 x9_53 σ_44 _ _ ls h hP hS (lv_sub hl [3, 4, 5, 6, 7, 8, 9, 1, 0] rfl)
                  obtain ⟨J183, eJ183, h⟩ := jn_e h
                  have hJ183 : ∀ (σ_54 : MMem) (H : Heap) (locs : List Loc) (ls : Array Slot), J183 σ_54 = some (r, σ') → va_P D vwCl (wM ca a σ_54) H → va_S (AW 21 a) s.heap H locs → lv_has ls 12 [(0, .ref (a 0)), (1, .int p1), (3, .int x3_5), (4, .int x4_35), (5, .int x5_7), (6, .int x6_8), (7, .int x7_32), (8, .int x8_36), (9, .int x9_37), (10, .int x10_42)] → W p l e rm_X12_old s m args below meth c H locs 0 0 Q (F0 m 183 ls []) := by
                    intro σ_54 H locs ls h hP hS hl
                    have h := ap1 eJ183 h
                    refine lv_iconst (v := 0) hx hb dX12_old_183 (by decide) ?_
                    exact hJ184 0 σ_54 _ _ ls h hP hS (lv_sub hl [0, 1, 2, 3, 4, 5, 6, 7, 8, 9] rfl)
                  refine lv_if_ne (tgt := 183) hx hb dX12_old_164 (by decide) (fun c_55 => ?_) (fun c_55 => ?_)
                  · have h := ie c_55 h
                    exact hJ183 σ_38 _ _ ls h hP hS (lv_sub hl [1, 2, 3, 4, 5, 6, 7, 8, 9, 0] rfl)
                  · have h := it c_55 h
                    refine lv_iload hx hb dX12_old_167 (lv_at hl 0 rfl) ?_
                    refine lv_aload_n hx hb dX12_old_169 rfl (lv_at hl 1 rfl) ?_
                    refine lv_iload_n hx hb dX12_old_170 rfl (lv_at hl 2 rfl) ?_
                    refine lv_iload hx hb dX12_old_171 (lv_at hl 7 rfl) ?_
                    obtain ⟨r_57, h_56, h⟩ := b1_e h
                    refine xcall (rV C0 hK hP hl.1 (fun _ _ _ => trivial) Bt_b (c_X12_told hI h_56) cv_X12_told tw1215 (rcX12 hK hP) (rest := [.int x10_42]) rfl (Nat.le_of_ble_eq_true rfl) ⟨rfl, rfl, Nat.le_of_ble_eq_true rfl, Nat.le_of_ble_eq_true rfl⟩ ⟨Nat.zero_le _, Nat.zero_le _⟩ dX12_old_173) hS (fun H locs hP hS => ?_)
                    refine lv_icmp_lt (tgt := 183) hx hb dX12_old_176 (by decide) (fun c_58 => ?_) (fun c_58 => ?_)
                    · have h := it c_58 h
                      exact hJ183 σ_38 _ _ ls h hP hS (lv_sub hl [1, 2, 3, 4, 5, 6, 7, 8, 9, 0] rfl)
                    · have h := ie c_58 h
                      refine lv_iconst (v := 1) hx hb dX12_old_179 (by decide) ?_
                      refine lv_goto (tgt := 184) hx hb dX12_old_180 (by decide) ?_
                      exact hJ184 1 σ_38 _ _ ls h hP hS (lv_sub hl [1, 2, 3, 4, 5, 6, 7, 8, 9, 0] rfl)
            exact hL3 5000 (-1) 0 σ_34 _ _ ls h hP hS (lv_sub hl [3, 4, 5, 2, 6, 7, 8, 1, 0] rfl)
          have hL2 : ∀ (n : Nat) (x7_12 : Int32) (x8_13 : Int32) (σ_14 : MMem) (H : Heap) (locs : List Loc) (ls : Array Slot), f_X12_old_L47 p1 x4_6 n x7_12 x8_13 σ_14 K2 = some (r, σ') → va_P D vwCl (wM ca a σ_14) H → va_S (AW 21 a) s.heap H locs → lv_has ls 12 [(0, .ref (a 0)), (1, .int p1), (3, .int x3_5), (4, .int x4_6), (5, .int x5_7), (6, .int x6_8), (7, .int x7_12), (8, .int x8_13)] → W p l e rm_X12_old s m args below meth c H locs 0 0 Q (F0 m 47 ls []) := by
            intro n
            induction n with
            | zero => intro x7_12 x8_13 σ_14 H locs ls h; rw [f_X12_old_L47] at h; cases h
            | succ n ih2 =>
              intro x7_12 x8_13 σ_14 H locs ls h hP hS hl
              rw [f_X12_old_L47] at h
              refine lv_iload hx hb dX12_old_47 (lv_at hl 7 rfl) ?_
              refine lv_aload_n hx hb dX12_old_49 rfl (lv_at hl 0 rfl) ?_
              refine gX12_35 C0 hK hP tw977 dX12_old_50 ?_
              refine lv_iload_n hx hb dX12_old_53 rfl (lv_at hl 1 rfl) ?_
              obtain ⟨b_15, h⟩ := ck h
              refine mald (i := 18) (N := 8) C0 hK hP (by decide) (by decide) rfl b_15 dX12_old_54 ?_
              refine lv_icmp_ge (tgt := 117) hx hb dX12_old_55 (by decide) (fun c_16 => ?_) (fun c_16 => ?_)
              · have h := it c_16 h
                exact hX2 x7_12 x8_13 σ_14 _ _ ls h hP hS (lv_sub hl [0, 1, 2, 3, 4, 5, 6] rfl)
              · have h := ie c_16 h
                refine lv_iload hx hb dX12_old_58 (lv_at hl 3 rfl) ?_
                refine lv_iload hx hb dX12_old_60 (lv_at hl 7 rfl) ?_
                refine lv_ishr hx hb dX12_old_62 ?_
                refine lv_iconst (v := 1) hx hb dX12_old_63 (by decide) ?_
                refine lv_iand hx hb dX12_old_64 ?_
                obtain ⟨J94, eJ94, h⟩ := jn_e h
                have hJ94 : ∀ (σ_17 : MMem) (H : Heap) (locs : List Loc) (ls : Array Slot), J94 σ_17 = some (r, σ') → va_P D vwCl (wM ca a σ_17) H → va_S (AW 21 a) s.heap H locs → lv_has ls 12 [(0, .ref (a 0)), (1, .int p1), (3, .int x3_5), (4, .int x4_6), (5, .int x5_7), (6, .int x6_8), (7, .int x7_12), (8, .int x8_13)] → W p l e rm_X12_old s m args below meth c H locs 0 0 Q (F0 m 94 ls []) := by
                  intro σ_17 H locs ls h hP hS hl
                  have h := ap1 eJ94 h
                  refine lv_iconst (v := 0) hx hb dX12_old_94 (by decide) ?_
                  refine lv_istore (lv' := [(9, .int 0), (0, .ref (a 0)), (1, .int p1), (3, .int x3_5), (4, .int x4_6), (5, .int x5_7), (6, .int x6_8), (7, .int x7_12), (8, .int x8_13)]) hx hb dX12_old_95 hl (by decide) rfl (fun ls hl => ?_)
                  refine lv_iload hx hb dX12_old_97 (lv_at hl 0 rfl) ?_
                  refine lv_if_eq (tgt := 107) hx hb dX12_old_99 (by decide) (fun c_18 => ?_) (fun c_18 => ?_)
                  · have h := it c_18 h
                    refine lv_iload hx hb dX12_old_107 (lv_at hl 7 rfl) ?_
                    refine lv_istore (lv' := [(7, .int x7_12), (9, .int 0), (0, .ref (a 0)), (1, .int p1), (3, .int x3_5), (4, .int x4_6), (5, .int x5_7), (6, .int x6_8), (8, .int x8_13)]) hx hb dX12_old_109 hl (by decide) rfl (fun ls hl => ?_)
                    obtain ⟨x8_19, ex8_19, h⟩ := bnd_e h
                    refine lv_iinc (v := x8_19) (lv' := [(8, .int x8_19), (7, .int x7_12), (9, .int 0), (0, .ref (a 0)), (1, .int p1), (3, .int x3_5), (4, .int x4_6), (5, .int x5_7), (6, .int x6_8)]) hx hb dX12_old_111 hl (k := 8) rfl (by rw [ex8_19]; rfl) (by decide) rfl (fun ls hl => ?_)
                    refine lv_goto (tgt := 47) hx hb dX12_old_114 (by decide) ?_
                    exact ih2 x7_12 x8_19 σ_17 _ _ ls h hP hS (lv_sub hl [3, 4, 5, 6, 7, 8, 1, 0] rfl)
                  · have h := ie c_18 h
                    refine lv_iload hx hb dX12_old_102 (lv_at hl 8 rfl) ?_
                    refine lv_goto (tgt := 109) hx hb dX12_old_104 (by decide) ?_
                    refine lv_istore (lv' := [(7, .int x8_13), (9, .int 0), (0, .ref (a 0)), (1, .int p1), (3, .int x3_5), (4, .int x4_6), (5, .int x5_7), (6, .int x6_8), (8, .int x8_13)]) hx hb dX12_old_109 hl (by decide) rfl (fun ls hl => ?_)
                    obtain ⟨x8_20, ex8_20, h⟩ := bnd_e h
                    refine lv_iinc (v := x8_20) (lv' := [(8, .int x8_20), (7, .int x8_13), (9, .int 0), (0, .ref (a 0)), (1, .int p1), (3, .int x3_5), (4, .int x4_6), (5, .int x5_7), (6, .int x6_8)]) hx hb dX12_old_111 hl (k := 8) rfl (by rw [ex8_20]; rfl) (by decide) rfl (fun ls hl => ?_)
                    refine lv_goto (tgt := 47) hx hb dX12_old_114 (by decide) ?_
                    exact ih2 x8_13 x8_20 σ_17 _ _ ls h hP hS (lv_sub hl [3, 4, 5, 6, 7, 8, 1, 0] rfl)
                refine lv_if_ne (tgt := 94) hx hb dX12_old_65 (by decide) (fun c_21 => ?_) (fun c_21 => ?_)
                · have h := ie c_21 h
                  exact hJ94 σ_14 _ _ ls h hP hS (lv_sub hl [0, 1, 2, 3, 4, 5, 6, 7] rfl)
                · have h := it c_21 h
                  refine lv_iload hx hb dX12_old_68 (lv_at hl 6 rfl) ?_
                  obtain ⟨J90, eJ90, h⟩ := jn_e h
                  have hJ90 : ∀ (σ_22 : MMem) (H : Heap) (locs : List Loc) (ls : Array Slot), J90 σ_22 = some (r, σ') → va_P D vwCl (wM ca a σ_22) H → va_S (AW 21 a) s.heap H locs → lv_has ls 12 [(0, .ref (a 0)), (1, .int p1), (3, .int x3_5), (4, .int x4_6), (5, .int x5_7), (6, .int x6_8), (7, .int x7_12), (8, .int x8_13)] → W p l e rm_X12_old s m args below meth c H locs 0 0 Q (F0 m 90 ls []) := by
                    intro σ_22 H locs ls h hP hS hl
                    have h := ap1 eJ90 h
                    refine lv_iconst (v := 1) hx hb dX12_old_90 (by decide) ?_
                    refine lv_goto (tgt := 95) hx hb dX12_old_91 (by decide) ?_
                    refine lv_istore (lv' := [(9, .int 1), (0, .ref (a 0)), (1, .int p1), (3, .int x3_5), (4, .int x4_6), (5, .int x5_7), (6, .int x6_8), (7, .int x7_12), (8, .int x8_13)]) hx hb dX12_old_95 hl (by decide) rfl (fun ls hl => ?_)
                    refine lv_iload hx hb dX12_old_97 (lv_at hl 0 rfl) ?_
                    refine lv_if_eq (tgt := 107) hx hb dX12_old_99 (by decide) (fun c_23 => ?_) (fun c_23 => ?_)
                    · have h := it c_23 h
                      refine lv_iload hx hb dX12_old_107 (lv_at hl 7 rfl) ?_
                      refine lv_istore (lv' := [(7, .int x7_12), (9, .int 1), (0, .ref (a 0)), (1, .int p1), (3, .int x3_5), (4, .int x4_6), (5, .int x5_7), (6, .int x6_8), (8, .int x8_13)]) hx hb dX12_old_109 hl (by decide) rfl (fun ls hl => ?_)
                      obtain ⟨x8_24, ex8_24, h⟩ := bnd_e h
                      refine lv_iinc (v := x8_24) (lv' := [(8, .int x8_24), (7, .int x7_12), (9, .int 1), (0, .ref (a 0)), (1, .int p1), (3, .int x3_5), (4, .int x4_6), (5, .int x5_7), (6, .int x6_8)]) hx hb dX12_old_111 hl (k := 8) rfl (by rw [ex8_24]; rfl) (by decide) rfl (fun ls hl => ?_)
                      refine lv_goto (tgt := 47) hx hb dX12_old_114 (by decide) ?_
                      exact ih2 x7_12 x8_24 σ_22 _ _ ls h hP hS (lv_sub hl [3, 4, 5, 6, 7, 8, 1, 0] rfl)
                    · have h := ie c_23 h
                      refine lv_iload hx hb dX12_old_102 (lv_at hl 8 rfl) ?_
                      refine lv_goto (tgt := 109) hx hb dX12_old_104 (by decide) ?_
                      refine lv_istore (lv' := [(7, .int x8_13), (9, .int 1), (0, .ref (a 0)), (1, .int p1), (3, .int x3_5), (4, .int x4_6), (5, .int x5_7), (6, .int x6_8), (8, .int x8_13)]) hx hb dX12_old_109 hl (by decide) rfl (fun ls hl => ?_)
                      obtain ⟨x8_25, ex8_25, h⟩ := bnd_e h
                      refine lv_iinc (v := x8_25) (lv' := [(8, .int x8_25), (7, .int x8_13), (9, .int 1), (0, .ref (a 0)), (1, .int p1), (3, .int x3_5), (4, .int x4_6), (5, .int x5_7), (6, .int x6_8)]) hx hb dX12_old_111 hl (k := 8) rfl (by rw [ex8_25]; rfl) (by decide) rfl (fun ls hl => ?_)
                      refine lv_goto (tgt := 47) hx hb dX12_old_114 (by decide) ?_
                      exact ih2 x8_13 x8_25 σ_22 _ _ ls h hP hS (lv_sub hl [3, 4, 5, 6, 7, 8, 1, 0] rfl)
                  refine lv_if_lt (tgt := 90) hx hb dX12_old_70 (by decide) (fun c_26 => ?_) (fun c_26 => ?_)
                  · have h := it c_26 h
                    exact hJ90 σ_14 _ _ ls h hP hS (lv_sub hl [0, 1, 2, 3, 4, 5, 6, 7] rfl)
                  · have h := ie c_26 h
                    refine lv_aload_n hx hb dX12_old_73 rfl (lv_at hl 0 rfl) ?_
                    refine lv_iload_n hx hb dX12_old_74 rfl (lv_at hl 1 rfl) ?_
                    refine lv_iload hx hb dX12_old_75 (lv_at hl 7 rfl) ?_
                    obtain ⟨r_28, h_27, h⟩ := b1_e h
                    refine xcall (rV C0 hK hP hl.1 (fun _ _ _ => trivial) Bt_b (c_X12_told hI h_27) cv_X12_told tw1215 (rcX12 hK hP) (rest := []) rfl (Nat.le_of_ble_eq_true rfl) ⟨rfl, rfl, Nat.le_of_ble_eq_true rfl, Nat.le_of_ble_eq_true rfl⟩ ⟨Nat.zero_le _, Nat.zero_le _⟩ dX12_old_77) hS (fun H locs hP hS => ?_)
                    refine lv_aload_n hx hb dX12_old_80 rfl (lv_at hl 0 rfl) ?_
                    refine lv_iload_n hx hb dX12_old_81 rfl (lv_at hl 1 rfl) ?_
                    refine lv_iload hx hb dX12_old_82 (lv_at hl 6 rfl) ?_
                    obtain ⟨r_30, h_29, h⟩ := b1_e h
                    refine xcall (rV C0 hK hP hl.1 (fun _ _ _ => trivial) Bt_b (c_X12_told hI h_29) cv_X12_told tw1215 (rcX12 hK hP) (rest := [.int r_28]) rfl (Nat.le_of_ble_eq_true rfl) ⟨rfl, rfl, Nat.le_of_ble_eq_true rfl, Nat.le_of_ble_eq_true rfl⟩ ⟨Nat.zero_le _, Nat.zero_le _⟩ dX12_old_84) hS (fun H locs hP hS => ?_)
                    refine lv_icmp_ge (tgt := 94) hx hb dX12_old_87 (by decide) (fun c_31 => ?_) (fun c_31 => ?_)
                    · have h := it c_31 h
                      exact hJ94 σ_14 _ _ ls h hP hS (lv_sub hl [0, 1, 2, 3, 4, 5, 6, 7] rfl)
                    · have h := ie c_31 h
                      exact hJ90 σ_14 _ _ ls h hP hS (lv_sub hl [0, 1, 2, 3, 4, 5, 6, 7] rfl)
          exact hL2 5000 (-1) 0 σ_9 _ _ ls h hP hS (lv_sub hl [2, 3, 4, 5, 6, 7, 1, 0] rfl)
    exact hL1 5000 0 0 0 0 σ_1 _ _ ls h hP hS (lv_sub hl [5, 6, 3, 2, 1, 0] rfl)
  · have h := ie c_4 h
    refine lv_iload_n hx hb dX12_old_17 rfl (lv_at hl 0 rfl) ?_
    rw [hQ]
    exact xzret C0 hP hS rfl h dX12_old_18
def f_X12_shape (p1 : Int32) (p2 : Int32) (σ : MMem) : Option (Int32 × MMem) :=
  bnd (uI σ 0 9 0) fun (σ_1 : MMem) =>
  b1 (f_X12_isRing p1 σ_1) fun r_3 =>
  if r_3 = 0 then
    some ((-1000000001), σ_1)
  else
    b1 (f_X12_in p2.toInt64 0 9) fun r_6 =>
    if r_6 = 0 then
      some ((-1000000001), σ_1)
    else
      if p1 < 0 ∨ 6 ≤ p1.toNatClampNeg then none else
      if p1 < 0 ∨ 6 ≤ p1.toNatClampNeg then none else
      some (((((σ_1 2).1 p1.toNatClampNeg) + p2) - ((σ_1 0).1 3)) - ((σ_1 1).1 p1.toNatClampNeg), σ_1)
def rm_X12_shape : Room := { frames := 2, cells := 0, slots := 0, locals := 46 }
set_option maxHeartbeats 4000000 in
set_option maxRecDepth 100000 in
theorem c_X12_shape {l : Launch} {D : va_G} {ca : Nat → ClassId} {a : Nat → Nat} (hI : InjN 21 a) {p1 : Int32} {p2 : Int32} {σ : MMem} {r : Int32} {σ' : MMem}  (h : f_X12_shape p1 p2 σ = some (r, σ')) : XMM l D ca a Bt yX12_shape cX12_shape 3 (some .int) rm_X12_shape [.ref (a 0), .int p1, .int p2] σ (some (.int r)) σ' := by
  refine XM.of pn_X12 (Nat.le_of_ble_eq_true rfl) ?_
  intro p e s m args below meth c ls Q hQ C0 hK hB hP hS hl
  have C0 : Cx p s m args meth c RX12 cX12_shape 3 (some .int) := C0
  have hx := C0.1
  have hb := C0.2.1
  have hl : lv_has ls 3 [(0, .ref (a 0)), (1, .int p1), (2, .int p2)] := hl
  rw [f_X12_shape] at h
  refine lv_aload_n hx hb dX12_shape_0 rfl (lv_at hl 0 rfl) ?_
  refine lv_iconst (v := 0) hx hb dX12_shape_1 (by decide) ?_
  obtain ⟨σ_1, eσ_1, h⟩ := bnd_e h
  refine pX12_9 C0 hK hP tw951 hI hS dX12_shape_2 (fun H locs hP hS => ?_)
  rw [← eσ_1] at hP
  refine lv_aload_n hx hb dX12_shape_5 rfl (lv_at hl 0 rfl) ?_
  refine lv_iload_n hx hb dX12_shape_6 rfl (lv_at hl 1 rfl) ?_
  obtain ⟨r_3, h_2, h⟩ := b1_e h
  refine xcall (rV C0 hK hP hl.1 (fun _ _ _ => trivial) Bt_b (c_X12_isRing hI h_2) cv_X12_isRing tw1128 (rcX12 hK hP) (rest := []) rfl (Nat.le_of_ble_eq_true rfl) ⟨rfl, rfl, Nat.le_of_ble_eq_true rfl, Nat.le_of_ble_eq_true rfl⟩ ⟨Nat.zero_le _, Nat.zero_le _⟩ dX12_shape_7) hS (fun H locs hP hS => ?_)
  refine lv_if_eq (tgt := 48) hx hb dX12_shape_10 (by decide) (fun c_4 => ?_) (fun c_4 => ?_)
  · have h := it c_4 h
    refine lv_ldc (v := (-1000000001)) hx hb C0.2.2.2.1 (C0.2.2.2.2.1 _ tw1189) dX12_shape_48 ?_
    rw [hQ]
    exact xzret C0 hP hS rfl h dX12_shape_50
  · have h := ie c_4 h
    refine lv_iload_n hx hb dX12_shape_13 rfl (lv_at hl 2 rfl) ?_
    refine lv_i2l (v := p2.toInt64) hx hb dX12_shape_14 rfl ?_
    refine lv_lconst (v := 0) hx hb dX12_shape_15 (by decide) ?_
    refine lv_ldc2 (v := 9) hx hb C0.2.2.2.1 (C0.2.2.2.2.1 _ tw1163) dX12_shape_16 ?_
    obtain ⟨r_6, h_5, h⟩ := b1_e h
    refine xcall (rS C0 hK hP hl.1 (fun _ _ _ => trivial) Bt_b (c_X12_in hI h_5) cs_X12_in tw1091 (rest := []) rfl (Nat.le_of_ble_eq_true rfl) ⟨rfl, rfl, Nat.le_of_ble_eq_true rfl, Nat.le_of_ble_eq_true rfl⟩ ⟨Nat.zero_le _, Nat.zero_le _⟩ dX12_shape_19) hS (fun H locs hP hS => ?_)
    refine lv_if_eq (tgt := 48) hx hb dX12_shape_22 (by decide) (fun c_7 => ?_) (fun c_7 => ?_)
    · have h := it c_7 h
      refine lv_ldc (v := (-1000000001)) hx hb C0.2.2.2.1 (C0.2.2.2.2.1 _ tw1189) dX12_shape_48 ?_
      rw [hQ]
      exact xzret C0 hP hS rfl h dX12_shape_50
    · have h := ie c_7 h
      refine lv_aload_n hx hb dX12_shape_25 rfl (lv_at hl 0 rfl) ?_
      refine gX12_6 C0 hK hP tw948 dX12_shape_26 ?_
      refine lv_iload_n hx hb dX12_shape_29 rfl (lv_at hl 1 rfl) ?_
      obtain ⟨b_8, h⟩ := ck h
      refine mald (i := 2) (N := 6) C0 hK hP (by decide) (by decide) rfl b_8 dX12_shape_30 ?_
      refine lv_iload_n hx hb dX12_shape_31 rfl (lv_at hl 2 rfl) ?_
      refine lv_iadd hx hb dX12_shape_32 ?_
      refine lv_aload_n hx hb dX12_shape_33 rfl (lv_at hl 0 rfl) ?_
      refine gX12_3 C0 hK hP tw945 dX12_shape_34 ?_
      refine lv_isub hx hb dX12_shape_37 ?_
      refine lv_aload_n hx hb dX12_shape_38 rfl (lv_at hl 0 rfl) ?_
      refine gX12_5 C0 hK hP tw947 dX12_shape_39 ?_
      refine lv_iload_n hx hb dX12_shape_42 rfl (lv_at hl 1 rfl) ?_
      obtain ⟨b_9, h⟩ := ck h
      refine mald (i := 1) (N := 6) C0 hK hP (by decide) (by decide) rfl b_9 dX12_shape_43 ?_
      refine lv_isub hx hb dX12_shape_44 ?_
      refine lv_goto (tgt := 50) hx hb dX12_shape_45 (by decide) ?_
      rw [hQ]
      exact xzret C0 hP hS rfl h dX12_shape_50
def f_X12_draw (p1 : Int32) (σ : MMem) : Option (Int32 × MMem) :=
  bnd ((((σ 0).1 30) * 1103515245) + 12345) fun (y_1 : Int32) =>
  bnd (uI σ 0 30 y_1) fun (σ_2 : MMem) =>
  if p1 = 0 then none else
  bnd ((((σ_2 0).1 30) &&& 2147483647) / 65536) fun (y_4 : Int32) =>
  some (y_4 - y_4 / p1 * p1, σ_2)
def rm_X12_draw : Room := { frames := 0, cells := 0, slots := 0, locals := 0 }
set_option maxHeartbeats 4000000 in
set_option maxRecDepth 100000 in
theorem c_X12_draw {l : Launch} {D : va_G} {ca : Nat → ClassId} {a : Nat → Nat} (hI : InjN 21 a) {p1 : Int32} {σ : MMem} {r : Int32} {σ' : MMem}  (h : f_X12_draw p1 σ = some (r, σ')) : XMM l D ca a Bt yX12_draw cX12_draw 2 (some .int) rm_X12_draw [.ref (a 0), .int p1] σ (some (.int r)) σ' := by
  refine XM.of pn_X12 (Nat.le_of_ble_eq_true rfl) ?_
  intro p e s m args below meth c ls Q hQ C0 hK hB hP hS hl
  have C0 : Cx p s m args meth c RX12 cX12_draw 2 (some .int) := C0
  have hx := C0.1
  have hb := C0.2.1
  have hl : lv_has ls 2 [(0, .ref (a 0)), (1, .int p1)] := hl
  rw [f_X12_draw] at h
  refine lv_aload_n hx hb dX12_draw_0 rfl (lv_at hl 0 rfl) ?_
  refine lv_aload_n hx hb dX12_draw_1 rfl (lv_at hl 0 rfl) ?_
  refine gX12_30 C0 hK hP tw972 dX12_draw_2 ?_
  refine lv_ldc (v := 1103515245) hx hb C0.2.2.2.1 (C0.2.2.2.2.1 _ tw1283) dX12_draw_5 ?_
  refine lv_imul hx hb dX12_draw_7 ?_
  refine lv_sipush (v := 12345) hx hb dX12_draw_8 (by decide) ?_
  refine lv_iadd hx hb dX12_draw_11 ?_
  obtain ⟨y_1, ey_1, h⟩ := bnd_e h
  refine nm_i ey_1 ?_
  obtain ⟨σ_2, eσ_2, h⟩ := bnd_e h
  refine pX12_30 C0 hK hP tw972 hI hS dX12_draw_12 (fun H locs hP hS => ?_)
  rw [← eσ_2] at hP
  refine lv_aload_n hx hb dX12_draw_15 rfl (lv_at hl 0 rfl) ?_
  refine gX12_30 C0 hK hP tw972 dX12_draw_16 ?_
  refine lv_ldc (v := 2147483647) hx hb C0.2.2.2.1 (C0.2.2.2.2.1 _ tw1284) dX12_draw_19 ?_
  refine lv_iand hx hb dX12_draw_21 ?_
  refine lv_ldc (v := 65536) hx hb C0.2.2.2.1 (C0.2.2.2.2.1 _ tw1285) dX12_draw_22 ?_
  refine lv_idiv hx hb dX12_draw_24 (by decide) ?_
  refine lv_iload_n hx hb dX12_draw_25 rfl (lv_at hl 1 rfl) ?_
  obtain ⟨b_3, h⟩ := ck h
  obtain ⟨y_4, ey_4, h⟩ := bnd_e h
  rw [← ey_4]
  refine lv_irem hx hb dX12_draw_26 b_3 ?_
  rw [hQ]
  exact xzret C0 hP hS rfl h dX12_draw_27
def f_X12_seeded_L54 (p1 : Int32) : Nat → Int32 → Int32 → MMem → (Int32 → Int32 → MMem → Option (Int32 × MMem)) → Option (Int32 × MMem)
  | 0, _, _, _, _ => none
  | n + 1, x4_12, x5_13, σ_14, K1 =>
    if p1 ≤ x5_13 then
      K1 x4_12 x5_13 σ_14
    else
      b2 (f_X12_draw ((σ_14 0).1 0) σ_14) fun r_17 σ_18 =>
      b2 (f_X12_draw 8 σ_18) fun r_20 σ_21 =>
      b2 (f_X12_draw 10 σ_21) fun r_23 σ_24 =>
      b1 (f_X12_mayBe r_20 r_23 r_17 σ_24) fun r_26 =>
      if r_26 = 0 then
        bnd (x5_13 + 1) fun (x5_28 : Int32) =>
        f_X12_seeded_L54 p1 n x4_12 x5_28 σ_24 K1
      else
        b1 (f_X12_does r_20 r_23 r_17 σ_24) fun σ_30 =>
        bnd (x4_12 + 1) fun (x4_31 : Int32) =>
        bnd (x5_13 + 1) fun (x5_32 : Int32) =>
        f_X12_seeded_L54 p1 n x4_31 x5_32 σ_30 K1
def f_X12_seeded (p1 : Int32) (p2 : Int32) (p3 : Int32) (σ : MMem) : Option (Int32 × MMem) :=
  bnd (uI σ 0 9 0) fun (σ_1 : MMem) =>
  b1 (f_X12_in p1.toInt64 1 30) fun r_3 =>
  if r_3 = 0 then
    some ((-1), σ_1)
  else
    b1 (f_X12_in p3.toInt64 0 1) fun r_6 =>
    if r_6 = 0 then
      some ((-1), σ_1)
    else
      if ((σ_1 0).1 0) = 0 then
        some ((-3), σ_1)
      else
        b1 (f_X12_open σ_1) fun σ_10 =>
        bnd (uI σ_10 0 30 p2) fun (σ_11 : MMem) =>
        f_X12_seeded_L54 p1 5000 0 0 σ_11 fun (x4_33 : Int32) (u_34 : Int32) (σ_35 : MMem) =>
          b1 (f_X12_lacksNow σ_35) fun r_37 =>
          b1 (f_X12_close σ_35) fun σ_39 =>
          if p3 = 0 then
            some (r_37, σ_39)
          else
            some (x4_33, σ_39)
def rm_X12_seeded : Room := { frames := 3, cells := 0, slots := 0, locals := 67 }
set_option maxHeartbeats 4000000 in
set_option maxRecDepth 100000 in
theorem c_X12_seeded {l : Launch} {D : va_G} {ca : Nat → ClassId} {a : Nat → Nat} (hI : InjN 21 a) {p1 : Int32} {p2 : Int32} {p3 : Int32} {σ : MMem} {r : Int32} {σ' : MMem}  (h : f_X12_seeded p1 p2 p3 σ = some (r, σ')) : XMM l D ca a Bt yX12_seeded cX12_seeded 9 (some .int) rm_X12_seeded [.ref (a 0), .int p1, .int p2, .int p3] σ (some (.int r)) σ' := by
  refine XM.of pn_X12 (Nat.le_of_ble_eq_true rfl) ?_
  intro p e s m args below meth c ls Q hQ C0 hK hB hP hS hl
  have C0 : Cx p s m args meth c RX12 cX12_seeded 9 (some .int) := C0
  have hx := C0.1
  have hb := C0.2.1
  have hl : lv_has ls 9 [(0, .ref (a 0)), (1, .int p1), (2, .int p2), (3, .int p3)] := hl
  rw [f_X12_seeded] at h
  refine lv_aload_n hx hb dX12_seeded_0 rfl (lv_at hl 0 rfl) ?_
  refine lv_iconst (v := 0) hx hb dX12_seeded_1 (by decide) ?_
  obtain ⟨σ_1, eσ_1, h⟩ := bnd_e h
  refine pX12_9 C0 hK hP tw951 hI hS dX12_seeded_2 (fun H locs hP hS => ?_)
  rw [← eσ_1] at hP
  refine lv_iload_n hx hb dX12_seeded_5 rfl (lv_at hl 1 rfl) ?_
  refine lv_i2l (v := p1.toInt64) hx hb dX12_seeded_6 rfl ?_
  refine lv_lconst (v := 1) hx hb dX12_seeded_7 (by decide) ?_
  refine lv_ldc2 (v := 30) hx hb C0.2.2.2.1 (C0.2.2.2.2.1 _ tw1164) dX12_seeded_8 ?_
  obtain ⟨r_3, h_2, h⟩ := b1_e h
  refine xcall (rS C0 hK hP hl.1 (fun _ _ _ => trivial) Bt_b (c_X12_in hI h_2) cs_X12_in tw1091 (rest := []) rfl (Nat.le_of_ble_eq_true rfl) ⟨rfl, rfl, Nat.le_of_ble_eq_true rfl, Nat.le_of_ble_eq_true rfl⟩ ⟨Nat.zero_le _, Nat.zero_le _⟩ dX12_seeded_11) hS (fun H locs hP hS => ?_)
  refine lv_if_eq (tgt := 27) hx hb dX12_seeded_14 (by decide) (fun c_4 => ?_) (fun c_4 => ?_)
  · have h := it c_4 h
    refine lv_iconst (v := (-1)) hx hb dX12_seeded_27 (by decide) ?_
    rw [hQ]
    exact xzret C0 hP hS rfl h dX12_seeded_28
  · have h := ie c_4 h
    refine lv_iload_n hx hb dX12_seeded_17 rfl (lv_at hl 3 rfl) ?_
    refine lv_i2l (v := p3.toInt64) hx hb dX12_seeded_18 rfl ?_
    refine lv_lconst (v := 0) hx hb dX12_seeded_19 (by decide) ?_
    refine lv_lconst (v := 1) hx hb dX12_seeded_20 (by decide) ?_
    obtain ⟨r_6, h_5, h⟩ := b1_e h
    refine xcall (rS C0 hK hP hl.1 (fun _ _ _ => trivial) Bt_b (c_X12_in hI h_5) cs_X12_in tw1091 (rest := []) rfl (Nat.le_of_ble_eq_true rfl) ⟨rfl, rfl, Nat.le_of_ble_eq_true rfl, Nat.le_of_ble_eq_true rfl⟩ ⟨Nat.zero_le _, Nat.zero_le _⟩ dX12_seeded_21) hS (fun H locs hP hS => ?_)
    refine lv_if_ne (tgt := 29) hx hb dX12_seeded_24 (by decide) (fun c_7 => ?_) (fun c_7 => ?_)
    · have h := ie c_7 h
      refine lv_aload_n hx hb dX12_seeded_29 rfl (lv_at hl 0 rfl) ?_
      refine gX12_0 C0 hK hP tw942 dX12_seeded_30 ?_
      refine lv_if_ne (tgt := 39) hx hb dX12_seeded_33 (by decide) (fun c_8 => ?_) (fun c_8 => ?_)
      · have h := ie c_8 h
        refine lv_aload_n hx hb dX12_seeded_39 rfl (lv_at hl 0 rfl) ?_
        obtain ⟨σ_10, h_9, h⟩ := b1_e h
        refine xcall (rV C0 hK hP hl.1 (fun _ _ _ => trivial) Bt_b (c_X12_open hI h_9) cv_X12_open tw1116 (rcX12 hK hP) (rest := []) rfl (Nat.le_of_ble_eq_true rfl) ⟨rfl, rfl, Nat.le_of_ble_eq_true rfl, Nat.le_of_ble_eq_true rfl⟩ ⟨Nat.zero_le _, Nat.zero_le _⟩ dX12_seeded_40) hS (fun H locs hP hS => ?_)
        refine lv_aload_n hx hb dX12_seeded_43 rfl (lv_at hl 0 rfl) ?_
        refine lv_iload_n hx hb dX12_seeded_44 rfl (lv_at hl 2 rfl) ?_
        obtain ⟨σ_11, eσ_11, h⟩ := bnd_e h
        refine pX12_30 C0 hK hP tw972 hI hS dX12_seeded_45 (fun H locs hP hS => ?_)
        rw [← eσ_11] at hP
        refine lv_iconst (v := 0) hx hb dX12_seeded_48 (by decide) ?_
        refine lv_istore (lv' := [(4, .int 0), (0, .ref (a 0)), (1, .int p1), (2, .int p2), (3, .int p3)]) hx hb dX12_seeded_49 hl (by decide) rfl (fun ls hl => ?_)
        refine lv_iconst (v := 0) hx hb dX12_seeded_51 (by decide) ?_
        refine lv_istore (lv' := [(5, .int 0), (4, .int 0), (0, .ref (a 0)), (1, .int p1), (2, .int p2), (3, .int p3)]) hx hb dX12_seeded_52 hl (by decide) rfl (fun ls hl => ?_)
        obtain ⟨K1, eK1, h⟩ := lp_e (f := fun K => f_X12_seeded_L54 p1 5000 0 0 σ_11 K) h
        have h : f_X12_seeded_L54 p1 5000 0 0 σ_11 K1 = some (r, σ') := h
        have hX1 : ∀ (x4_33 : Int32) (u_34 : Int32) (σ_35 : MMem) (H : Heap) (locs : List Loc) (ls : Array Slot), K1 x4_33 u_34 σ_35 = some (r, σ') → va_P D vwCl (wM ca a σ_35) H → va_S (AW 21 a) s.heap H locs → lv_has ls 9 [(0, .ref (a 0)), (3, .int p3), (4, .int x4_33)] → W p l e rm_X12_seeded s m args below meth c H locs 0 0 Q (F0 m 118 ls []) := by
          intro x4_33 u_34 σ_35 H locs ls h hP hS hl
          have h := ap3 eK1 h
          refine lv_aload_n hx hb dX12_seeded_118 rfl (lv_at hl 0 rfl) ?_
          obtain ⟨r_37, h_36, h⟩ := b1_e h
          refine xcall (rV C0 hK hP hl.1 (fun _ _ _ => trivial) Bt_b (c_X12_lacksNow hI h_36) cv_X12_lacksNow tw1177 (rcX12 hK hP) (rest := []) rfl (Nat.le_of_ble_eq_true rfl) ⟨rfl, rfl, Nat.le_of_ble_eq_true rfl, Nat.le_of_ble_eq_true rfl⟩ ⟨Nat.zero_le _, Nat.zero_le _⟩ dX12_seeded_119) hS (fun H locs hP hS => ?_)
          refine lv_istore (lv' := [(5, .int r_37), (0, .ref (a 0)), (3, .int p3), (4, .int x4_33)]) hx hb dX12_seeded_122 hl (by decide) rfl (fun ls hl => ?_)
          refine lv_aload_n hx hb dX12_seeded_124 rfl (lv_at hl 1 rfl) ?_
          obtain ⟨σ_39, h_38, h⟩ := b1_e h
          refine xcall (rV C0 hK hP hl.1 (fun _ _ _ => trivial) Bt_b (c_X12_close hI h_38) cv_X12_close tw1150 (rcX12 hK hP) (rest := []) rfl (Nat.le_of_ble_eq_true rfl) ⟨rfl, rfl, Nat.le_of_ble_eq_true rfl, Nat.le_of_ble_eq_true rfl⟩ ⟨Nat.zero_le _, Nat.zero_le _⟩ dX12_seeded_125) hS (fun H locs hP hS => ?_)
          refine lv_iload_n hx hb dX12_seeded_128 rfl (lv_at hl 2 rfl) ?_
          refine lv_if_ne (tgt := 137) hx hb dX12_seeded_129 (by decide) (fun c_40 => ?_) (fun c_40 => ?_)
          · have h := ie c_40 h
            refine lv_iload hx hb dX12_seeded_137 (lv_at hl 3 rfl) ?_
            rw [hQ]
            exact xzret C0 hP hS rfl h dX12_seeded_139
          · have h := it c_40 h
            refine lv_iload hx hb dX12_seeded_132 (lv_at hl 0 rfl) ?_
            refine lv_goto (tgt := 139) hx hb dX12_seeded_134 (by decide) ?_
            rw [hQ]
            exact xzret C0 hP hS rfl h dX12_seeded_139
        have hL1 : ∀ (n : Nat) (x4_12 : Int32) (x5_13 : Int32) (σ_14 : MMem) (H : Heap) (locs : List Loc) (ls : Array Slot), f_X12_seeded_L54 p1 n x4_12 x5_13 σ_14 K1 = some (r, σ') → va_P D vwCl (wM ca a σ_14) H → va_S (AW 21 a) s.heap H locs → lv_has ls 9 [(0, .ref (a 0)), (1, .int p1), (3, .int p3), (4, .int x4_12), (5, .int x5_13)] → W p l e rm_X12_seeded s m args below meth c H locs 0 0 Q (F0 m 54 ls []) := by
          intro n
          induction n with
          | zero => intro x4_12 x5_13 σ_14 H locs ls h; rw [f_X12_seeded_L54] at h; cases h
          | succ n ih1 =>
            intro x4_12 x5_13 σ_14 H locs ls h hP hS hl
            rw [f_X12_seeded_L54] at h
            refine lv_iload hx hb dX12_seeded_54 (lv_at hl 4 rfl) ?_
            refine lv_iload_n hx hb dX12_seeded_56 rfl (lv_at hl 1 rfl) ?_
            refine lv_icmp_ge (tgt := 118) hx hb dX12_seeded_57 (by decide) (fun c_15 => ?_) (fun c_15 => ?_)
            · have h := it c_15 h
              exact hX1 x4_12 x5_13 σ_14 _ _ ls h hP hS (lv_sub hl [0, 2, 3] rfl)
            · have h := ie c_15 h
              refine lv_aload_n hx hb dX12_seeded_60 rfl (lv_at hl 0 rfl) ?_
              refine lv_aload_n hx hb dX12_seeded_61 rfl (lv_at hl 0 rfl) ?_
              refine gX12_0 C0 hK hP tw942 dX12_seeded_62 ?_
              obtain ⟨r_17, σ_18, h_16, h⟩ := b2_e h
              refine xcall (rV C0 hK hP hl.1 (fun _ _ _ => trivial) Bt_b (c_X12_draw hI h_16) cv_X12_draw tw1279 (rcX12 hK hP) (rest := []) rfl (Nat.le_of_ble_eq_true rfl) ⟨rfl, rfl, Nat.le_of_ble_eq_true rfl, Nat.le_of_ble_eq_true rfl⟩ ⟨Nat.zero_le _, Nat.zero_le _⟩ dX12_seeded_65) hS (fun H locs hP hS => ?_)
              refine lv_istore (lv' := [(6, .int r_17), (0, .ref (a 0)), (1, .int p1), (3, .int p3), (4, .int x4_12), (5, .int x5_13)]) hx hb dX12_seeded_68 hl (by decide) rfl (fun ls hl => ?_)
              refine lv_aload_n hx hb dX12_seeded_70 rfl (lv_at hl 1 rfl) ?_
              refine lv_bipush (v := 8) hx hb dX12_seeded_71 (by decide) ?_
              obtain ⟨r_20, σ_21, h_19, h⟩ := b2_e h
              refine xcall (rV C0 hK hP hl.1 (fun _ _ _ => trivial) Bt_b (c_X12_draw hI h_19) cv_X12_draw tw1279 (rcX12 hK hP) (rest := []) rfl (Nat.le_of_ble_eq_true rfl) ⟨rfl, rfl, Nat.le_of_ble_eq_true rfl, Nat.le_of_ble_eq_true rfl⟩ ⟨Nat.zero_le _, Nat.zero_le _⟩ dX12_seeded_73) hS (fun H locs hP hS => ?_)
              refine lv_istore (lv' := [(7, .int r_20), (6, .int r_17), (0, .ref (a 0)), (1, .int p1), (3, .int p3), (4, .int x4_12), (5, .int x5_13)]) hx hb dX12_seeded_76 hl (by decide) rfl (fun ls hl => ?_)
              refine lv_aload_n hx hb dX12_seeded_78 rfl (lv_at hl 2 rfl) ?_
              refine lv_bipush (v := 10) hx hb dX12_seeded_79 (by decide) ?_
              obtain ⟨r_23, σ_24, h_22, h⟩ := b2_e h
              refine xcall (rV C0 hK hP hl.1 (fun _ _ _ => trivial) Bt_b (c_X12_draw hI h_22) cv_X12_draw tw1279 (rcX12 hK hP) (rest := []) rfl (Nat.le_of_ble_eq_true rfl) ⟨rfl, rfl, Nat.le_of_ble_eq_true rfl, Nat.le_of_ble_eq_true rfl⟩ ⟨Nat.zero_le _, Nat.zero_le _⟩ dX12_seeded_81) hS (fun H locs hP hS => ?_)
              refine lv_istore (lv' := [(8, .int r_23), (7, .int r_20), (6, .int r_17), (0, .ref (a 0)), (1, .int p1), (3, .int p3), (4, .int x4_12), (5, .int x5_13)]) hx hb dX12_seeded_84 hl (by decide) rfl (fun ls hl => ?_)
              refine lv_aload_n hx hb dX12_seeded_86 rfl (lv_at hl 3 rfl) ?_
              refine lv_iload hx hb dX12_seeded_87 (lv_at hl 1 rfl) ?_
              refine lv_iload hx hb dX12_seeded_89 (lv_at hl 0 rfl) ?_
              refine lv_iload hx hb dX12_seeded_91 (lv_at hl 2 rfl) ?_
              obtain ⟨r_26, h_25, h⟩ := b1_e h
              refine xcall (rV C0 hK hP hl.1 (fun _ _ _ => trivial) Bt_b (c_X12_mayBe hI h_25) cv_X12_mayBe tw1132 (rcX12 hK hP) (rest := []) rfl (Nat.le_of_ble_eq_true rfl) ⟨rfl, rfl, Nat.le_of_ble_eq_true rfl, Nat.le_of_ble_eq_true rfl⟩ ⟨Nat.zero_le _, Nat.zero_le _⟩ dX12_seeded_93) hS (fun H locs hP hS => ?_)
              refine lv_if_eq (tgt := 112) hx hb dX12_seeded_96 (by decide) (fun c_27 => ?_) (fun c_27 => ?_)
              · have h := it c_27 h
                obtain ⟨x5_28, ex5_28, h⟩ := bnd_e h
                refine lv_iinc (v := x5_28) (lv' := [(5, .int x5_28), (8, .int r_23), (7, .int r_20), (6, .int r_17), (0, .ref (a 0)), (1, .int p1), (3, .int p3), (4, .int x4_12)]) hx hb dX12_seeded_112 hl (k := 7) rfl (by rw [ex5_28]; rfl) (by decide) rfl (fun ls hl => ?_)
                refine lv_goto (tgt := 54) hx hb dX12_seeded_115 (by decide) ?_
                exact ih1 x4_12 x5_28 σ_24 _ _ ls h hP hS (lv_sub hl [4, 5, 6, 7, 0] rfl)
              · have h := ie c_27 h
                refine lv_aload_n hx hb dX12_seeded_99 rfl (lv_at hl 3 rfl) ?_
                refine lv_iload hx hb dX12_seeded_100 (lv_at hl 1 rfl) ?_
                refine lv_iload hx hb dX12_seeded_102 (lv_at hl 0 rfl) ?_
                refine lv_iload hx hb dX12_seeded_104 (lv_at hl 2 rfl) ?_
                obtain ⟨σ_30, h_29, h⟩ := b1_e h
                refine xcall (rV C0 hK hP hl.1 (fun _ _ _ => trivial) Bt_b (c_X12_does hI h_29) cv_X12_does tw1136 (rcX12 hK hP) (rest := []) rfl (Nat.le_of_ble_eq_true rfl) ⟨rfl, rfl, Nat.le_of_ble_eq_true rfl, Nat.le_of_ble_eq_true rfl⟩ ⟨Nat.zero_le _, Nat.zero_le _⟩ dX12_seeded_106) hS (fun H locs hP hS => ?_)
                obtain ⟨x4_31, ex4_31, h⟩ := bnd_e h
                refine lv_iinc (v := x4_31) (lv' := [(4, .int x4_31), (8, .int r_23), (7, .int r_20), (6, .int r_17), (0, .ref (a 0)), (1, .int p1), (3, .int p3), (5, .int x5_13)]) hx hb dX12_seeded_109 hl (k := 6) rfl (by rw [ex4_31]; rfl) (by decide) rfl (fun ls hl => ?_)
                obtain ⟨x5_32, ex5_32, h⟩ := bnd_e h
                refine lv_iinc (v := x5_32) (lv' := [(5, .int x5_32), (4, .int x4_31), (8, .int r_23), (7, .int r_20), (6, .int r_17), (0, .ref (a 0)), (1, .int p1), (3, .int p3)]) hx hb dX12_seeded_112 hl (k := 7) rfl (by rw [ex5_32]; rfl) (by decide) rfl (fun ls hl => ?_)
                refine lv_goto (tgt := 54) hx hb dX12_seeded_115 (by decide) ?_
                exact ih1 x4_31 x5_32 σ_30 _ _ ls h hP hS (lv_sub hl [5, 6, 7, 1, 0] rfl)
        exact hL1 5000 0 0 σ_11 _ _ ls h hP hS (lv_sub hl [2, 3, 5, 1, 0] rfl)
      · have h := it c_8 h
        refine lv_bipush (v := (-3)) hx hb dX12_seeded_36 (by decide) ?_
        rw [hQ]
        exact xzret C0 hP hS rfl h dX12_seeded_38
    · have h := it c_7 h
      refine lv_iconst (v := (-1)) hx hb dX12_seeded_27 (by decide) ?_
      rw [hQ]
      exact xzret C0 hP hS rfl h dX12_seeded_28
def f_X12_skippedIn (p1 : Int32) (σ : MMem) : Option (Int64) :=
  if p1 < 0 ∨ 8 ≤ p1.toNatClampNeg then none else
  if ((σ 17).1 p1.toNatClampNeg) = 0 then
    some (-128)
  else
    if p1 < 0 ∨ 8 ≤ p1.toNatClampNeg then none else
    if ((σ 17).1 p1.toNatClampNeg) = 1 then
      some (-32768)
    else
      some (-2147483648)
def rm_X12_skippedIn : Room := { frames := 0, cells := 0, slots := 0, locals := 0 }
set_option maxHeartbeats 4000000 in
set_option maxRecDepth 100000 in
theorem c_X12_skippedIn {l : Launch} {D : va_G} {ca : Nat → ClassId} {a : Nat → Nat} (hI : InjN 21 a) {p1 : Int32} {σ : MMem} {r : Int64}  (h : f_X12_skippedIn p1 σ = some r) : XMM l D ca a Bt yX12_skippedIn cX12_skippedIn 2 (some .long) rm_X12_skippedIn [.ref (a 0), .int p1] σ (some (.long r)) σ := by
  refine XM.of pn_X12 (Nat.le_of_ble_eq_true rfl) ?_
  intro p e s m args below meth c ls Q hQ C0 hK hB hP hS hl
  have C0 : Cx p s m args meth c RX12 cX12_skippedIn 2 (some .long) := C0
  have hx := C0.1
  have hb := C0.2.1
  have hl : lv_has ls 2 [(0, .ref (a 0)), (1, .int p1)] := hl
  rw [f_X12_skippedIn] at h
  refine lv_aload_n hx hb dX12_skippedIn_0 rfl (lv_at hl 0 rfl) ?_
  refine gX12_34 C0 hK hP tw976 dX12_skippedIn_1 ?_
  refine lv_iload_n hx hb dX12_skippedIn_4 rfl (lv_at hl 1 rfl) ?_
  obtain ⟨b_1, h⟩ := ck h
  refine mald (i := 17) (N := 8) C0 hK hP (by decide) (by decide) rfl b_1 dX12_skippedIn_5 ?_
  refine lv_if_ne (tgt := 15) hx hb dX12_skippedIn_6 (by decide) (fun c_2 => ?_) (fun c_2 => ?_)
  · have h := ie c_2 h
    refine lv_aload_n hx hb dX12_skippedIn_15 rfl (lv_at hl 0 rfl) ?_
    refine gX12_34 C0 hK hP tw976 dX12_skippedIn_16 ?_
    refine lv_iload_n hx hb dX12_skippedIn_19 rfl (lv_at hl 1 rfl) ?_
    obtain ⟨b_3, h⟩ := ck h
    refine mald (i := 17) (N := 8) C0 hK hP (by decide) (by decide) rfl b_3 dX12_skippedIn_20 ?_
    refine lv_iconst (v := 1) hx hb dX12_skippedIn_21 (by decide) ?_
    refine lv_icmp_ne (tgt := 31) hx hb dX12_skippedIn_22 (by decide) (fun c_4 => ?_) (fun c_4 => ?_)
    · have h := ie c_4 h
      refine lv_ldc2 (v := (-2147483648)) hx hb C0.2.2.2.1 (C0.2.2.2.2.1 _ tw1296) dX12_skippedIn_31 ?_
      rw [hQ]
      exact xlretr C0 hP hS h dX12_skippedIn_34
    · have h := it c_4 h
      refine lv_ldc2 (v := (-32768)) hx hb C0.2.2.2.1 (C0.2.2.2.2.1 _ tw1295) dX12_skippedIn_25 ?_
      refine lv_goto (tgt := 34) hx hb dX12_skippedIn_28 (by decide) ?_
      rw [hQ]
      exact xlretr C0 hP hS h dX12_skippedIn_34
  · have h := it c_2 h
    refine lv_ldc2 (v := (-128)) hx hb C0.2.2.2.1 (C0.2.2.2.2.1 _ tw1294) dX12_skippedIn_9 ?_
    refine lv_goto (tgt := 34) hx hb dX12_skippedIn_12 (by decide) ?_
    rw [hQ]
    exact xlretr C0 hP hS h dX12_skippedIn_34
def f_X12_judge_L36 (p1 : Int32) (p2 : Int32) : Nat → Int32 → MMem → (Int32 → MMem → Option (Int32 × MMem)) → Option (Int32 × MMem)
  | 0, _, _, _ => none
  | n + 1, x4_7, σ_8, K1 =>
    if ((σ_8 0).1 0) ≤ x4_7 then
      K1 x4_7 σ_8
    else
      if p2 < 0 ∨ 8 ≤ p2.toNatClampNeg then none else
      if ((σ_8 18).1 p2.toNatClampNeg) ≤ x4_7 then
        K1 x4_7 σ_8
      else
        bnd ((100 * p2) + x4_7) fun (i_12 : Int32) =>
        if i_12 < 0 ∨ 800 ≤ i_12.toNatClampNeg then none else
        bnd ((σ_8 19).2 i_12.toNatClampNeg) fun (x5_14 : Int64) =>
        b1 (f_X12_skippedIn p2 σ_8) fun r_16 =>
        if (lg_cmp x5_14 r_16) = 0 then
          bnd (x4_7 + 1) fun (x4_18 : Int32) =>
          f_X12_judge_L36 p1 p2 n x4_18 σ_8 K1
        else
          b1 (f_X12_easeOf x4_7 p1 σ_8) fun r_20 =>
          if (lg_cmp x5_14 r_20.toInt64) = 0 then
            bnd (x4_7 + 1) fun (x4_22 : Int32) =>
            f_X12_judge_L36 p1 p2 n x4_22 σ_8 K1
          else
            some (x4_7, σ_8)
def f_X12_judge (p1 : Int32) (p2 : Int32) (σ : MMem) : Option (Int32 × MMem) :=
  bnd (uI σ 0 9 0) fun (σ_1 : MMem) =>
  b1 (f_X12_in p1.toInt64 0 3) fun r_3 =>
  jn (fun (v_4 : Int32) (σ_5 : MMem) =>
    if 0 ≤ v_4 then
      f_X12_judge_L36 p1 p2 5000 0 σ_5 fun (u_23 : Int32) (σ_24 : MMem) =>
        if p2 < 0 ∨ 8 ≤ p2.toNatClampNeg then none else
        if ((σ_24 0).1 0) ≤ ((σ_24 18).1 p2.toNatClampNeg) then
          if p2 < 0 ∨ 8 ≤ p2.toNatClampNeg then none else
          if ((σ_24 18).1 p2.toNatClampNeg) ≤ ((σ_24 0).1 0) then
            some ((-4), σ_24)
          else
            some ((σ_24 0).1 0, σ_24)
        else
          if p2 < 0 ∨ 8 ≤ p2.toNatClampNeg then none else
          some ((σ_24 18).1 p2.toNatClampNeg, σ_24)
    else
      some (v_4, σ_5)) fun J26 =>
  if r_3 = 0 then
    J26 (-1) σ_1
  else
    b1 (f_X12_wrongRow p2 σ_1) fun r_32 =>
    J26 r_32 σ_1
def rm_X12_judge : Room := { frames := 2, cells := 0, slots := 0, locals := 46 }
set_option maxHeartbeats 4000000 in
set_option maxRecDepth 100000 in
theorem c_X12_judge {l : Launch} {D : va_G} {ca : Nat → ClassId} {a : Nat → Nat} (hI : InjN 21 a) {p1 : Int32} {p2 : Int32} {σ : MMem} {r : Int32} {σ' : MMem}  (h : f_X12_judge p1 p2 σ = some (r, σ')) : XMM l D ca a Bt yX12_judge cX12_judge 7 (some .int) rm_X12_judge [.ref (a 0), .int p1, .int p2] σ (some (.int r)) σ' := by
  refine XM.of pn_X12 (Nat.le_of_ble_eq_true rfl) ?_
  intro p e s m args below meth c ls Q hQ C0 hK hB hP hS hl
  have C0 : Cx p s m args meth c RX12 cX12_judge 7 (some .int) := C0
  have hx := C0.1
  have hb := C0.2.1
  have hl : lv_has ls 7 [(0, .ref (a 0)), (1, .int p1), (2, .int p2)] := hl
  rw [f_X12_judge] at h
  refine lv_aload_n hx hb dX12_judge_0 rfl (lv_at hl 0 rfl) ?_
  refine lv_iconst (v := 0) hx hb dX12_judge_1 (by decide) ?_
  obtain ⟨σ_1, eσ_1, h⟩ := bnd_e h
  refine pX12_9 C0 hK hP tw951 hI hS dX12_judge_2 (fun H locs hP hS => ?_)
  rw [← eσ_1] at hP
  refine lv_iload_n hx hb dX12_judge_5 rfl (lv_at hl 1 rfl) ?_
  refine lv_i2l (v := p1.toInt64) hx hb dX12_judge_6 rfl ?_
  refine lv_lconst (v := 0) hx hb dX12_judge_7 (by decide) ?_
  refine lv_ldc2 (v := 3) hx hb C0.2.2.2.1 (C0.2.2.2.2.1 _ tw1158) dX12_judge_8 ?_
  obtain ⟨r_3, h_2, h⟩ := b1_e h
  refine xcall (rS C0 hK hP hl.1 (fun _ _ _ => trivial) Bt_b (c_X12_in hI h_2) cs_X12_in tw1091 (rest := []) rfl (Nat.le_of_ble_eq_true rfl) ⟨rfl, rfl, Nat.le_of_ble_eq_true rfl, Nat.le_of_ble_eq_true rfl⟩ ⟨Nat.zero_le _, Nat.zero_le _⟩ dX12_judge_11) hS (fun H locs hP hS => ?_)
  obtain ⟨J26, eJ26, h⟩ := jn_e h
  have hJ26 : ∀ (v_4 : Int32) (σ_5 : MMem) (H : Heap) (locs : List Loc) (ls : Array Slot), J26 v_4 σ_5 = some (r, σ') → va_P D vwCl (wM ca a σ_5) H → va_S (AW 21 a) s.heap H locs → lv_has ls 7 [(0, .ref (a 0)), (1, .int p1), (2, .int p2)] → W p l e rm_X12_judge s m args below meth c H locs 0 0 Q (F0 m 26 ls [.int v_4]) := by
    intro v_4 σ_5 H locs ls h hP hS hl
    have h := ap2 eJ26 h
    refine lv_istore_n (lv' := [(3, .int v_4), (0, .ref (a 0)), (1, .int p1), (2, .int p2)]) hx hb dX12_judge_26 rfl hl (by decide) rfl (fun ls hl => ?_)
    refine lv_iload_n hx hb dX12_judge_27 rfl (lv_at hl 0 rfl) ?_
    refine lv_if_ge (tgt := 33) hx hb dX12_judge_28 (by decide) (fun c_6 => ?_) (fun c_6 => ?_)
    · have h := it c_6 h
      refine lv_iconst (v := 0) hx hb dX12_judge_33 (by decide) ?_
      refine lv_istore (lv' := [(4, .int 0), (3, .int v_4), (0, .ref (a 0)), (1, .int p1), (2, .int p2)]) hx hb dX12_judge_34 hl (by decide) rfl (fun ls hl => ?_)
      obtain ⟨K1, eK1, h⟩ := lp_e (f := fun K => f_X12_judge_L36 p1 p2 5000 0 σ_5 K) h
      have h : f_X12_judge_L36 p1 p2 5000 0 σ_5 K1 = some (r, σ') := h
      have hX1 : ∀ (u_23 : Int32) (σ_24 : MMem) (H : Heap) (locs : List Loc) (ls : Array Slot), K1 u_23 σ_24 = some (r, σ') → va_P D vwCl (wM ca a σ_24) H → va_S (AW 21 a) s.heap H locs → lv_has ls 7 [(0, .ref (a 0)), (2, .int p2)] → W p l e rm_X12_judge s m args below meth c H locs 0 0 Q (F0 m 104 ls []) := by
        intro u_23 σ_24 H locs ls h hP hS hl
        have h := ap2 eK1 h
        refine lv_aload_n hx hb dX12_judge_104 rfl (lv_at hl 0 rfl) ?_
        refine gX12_35 C0 hK hP tw977 dX12_judge_105 ?_
        refine lv_iload_n hx hb dX12_judge_108 rfl (lv_at hl 1 rfl) ?_
        obtain ⟨b_25, h⟩ := ck h
        refine mald (i := 18) (N := 8) C0 hK hP (by decide) (by decide) rfl b_25 dX12_judge_109 ?_
        refine lv_aload_n hx hb dX12_judge_110 rfl (lv_at hl 0 rfl) ?_
        refine gX12_0 C0 hK hP tw942 dX12_judge_111 ?_
        refine lv_icmp_ge (tgt := 126) hx hb dX12_judge_114 (by decide) (fun c_26 => ?_) (fun c_26 => ?_)
        · have h := it c_26 h
          refine lv_aload_n hx hb dX12_judge_126 rfl (lv_at hl 0 rfl) ?_
          refine gX12_35 C0 hK hP tw977 dX12_judge_127 ?_
          refine lv_iload_n hx hb dX12_judge_130 rfl (lv_at hl 1 rfl) ?_
          obtain ⟨b_27, h⟩ := ck h
          refine mald (i := 18) (N := 8) C0 hK hP (by decide) (by decide) rfl b_27 dX12_judge_131 ?_
          refine lv_aload_n hx hb dX12_judge_132 rfl (lv_at hl 0 rfl) ?_
          refine gX12_0 C0 hK hP tw942 dX12_judge_133 ?_
          refine lv_icmp_le (tgt := 146) hx hb dX12_judge_136 (by decide) (fun c_28 => ?_) (fun c_28 => ?_)
          · have h := it c_28 h
            refine lv_bipush (v := (-4)) hx hb dX12_judge_146 (by decide) ?_
            rw [hQ]
            exact xzret C0 hP hS rfl h dX12_judge_148
          · have h := ie c_28 h
            refine lv_aload_n hx hb dX12_judge_139 rfl (lv_at hl 0 rfl) ?_
            refine gX12_0 C0 hK hP tw942 dX12_judge_140 ?_
            refine lv_goto (tgt := 148) hx hb dX12_judge_143 (by decide) ?_
            rw [hQ]
            exact xzret C0 hP hS rfl h dX12_judge_148
        · have h := ie c_26 h
          refine lv_aload_n hx hb dX12_judge_117 rfl (lv_at hl 0 rfl) ?_
          refine gX12_35 C0 hK hP tw977 dX12_judge_118 ?_
          refine lv_iload_n hx hb dX12_judge_121 rfl (lv_at hl 1 rfl) ?_
          obtain ⟨b_29, h⟩ := ck h
          refine mald (i := 18) (N := 8) C0 hK hP (by decide) (by decide) rfl b_29 dX12_judge_122 ?_
          refine lv_goto (tgt := 148) hx hb dX12_judge_123 (by decide) ?_
          rw [hQ]
          exact xzret C0 hP hS rfl h dX12_judge_148
      have hL1 : ∀ (n : Nat) (x4_7 : Int32) (σ_8 : MMem) (H : Heap) (locs : List Loc) (ls : Array Slot), f_X12_judge_L36 p1 p2 n x4_7 σ_8 K1 = some (r, σ') → va_P D vwCl (wM ca a σ_8) H → va_S (AW 21 a) s.heap H locs → lv_has ls 7 [(0, .ref (a 0)), (1, .int p1), (2, .int p2), (4, .int x4_7)] → W p l e rm_X12_judge s m args below meth c H locs 0 0 Q (F0 m 36 ls []) := by
        intro n
        induction n with
        | zero => intro x4_7 σ_8 H locs ls h; rw [f_X12_judge_L36] at h; cases h
        | succ n ih1 =>
          intro x4_7 σ_8 H locs ls h hP hS hl
          rw [f_X12_judge_L36] at h
          refine lv_iload hx hb dX12_judge_36 (lv_at hl 3 rfl) ?_
          refine lv_aload_n hx hb dX12_judge_38 rfl (lv_at hl 0 rfl) ?_
          refine gX12_0 C0 hK hP tw942 dX12_judge_39 ?_
          refine lv_icmp_ge (tgt := 104) hx hb dX12_judge_42 (by decide) (fun c_9 => ?_) (fun c_9 => ?_)
          · have h := it c_9 h
            exact hX1 x4_7 σ_8 _ _ ls h hP hS (lv_sub hl [0, 2] rfl)
          · have h := ie c_9 h
            refine lv_iload hx hb dX12_judge_45 (lv_at hl 3 rfl) ?_
            refine lv_aload_n hx hb dX12_judge_47 rfl (lv_at hl 0 rfl) ?_
            refine gX12_35 C0 hK hP tw977 dX12_judge_48 ?_
            refine lv_iload_n hx hb dX12_judge_51 rfl (lv_at hl 2 rfl) ?_
            obtain ⟨b_10, h⟩ := ck h
            refine mald (i := 18) (N := 8) C0 hK hP (by decide) (by decide) rfl b_10 dX12_judge_52 ?_
            refine lv_icmp_ge (tgt := 104) hx hb dX12_judge_53 (by decide) (fun c_11 => ?_) (fun c_11 => ?_)
            · have h := it c_11 h
              exact hX1 x4_7 σ_8 _ _ ls h hP hS (lv_sub hl [0, 2] rfl)
            · have h := ie c_11 h
              refine lv_aload_n hx hb dX12_judge_56 rfl (lv_at hl 0 rfl) ?_
              refine gX12_36 C0 hK hP tw978 dX12_judge_57 ?_
              refine lv_bipush (v := 100) hx hb dX12_judge_60 (by decide) ?_
              refine lv_iload_n hx hb dX12_judge_62 rfl (lv_at hl 2 rfl) ?_
              refine lv_imul hx hb dX12_judge_63 ?_
              refine lv_iload hx hb dX12_judge_64 (lv_at hl 3 rfl) ?_
              refine lv_iadd hx hb dX12_judge_66 ?_
              obtain ⟨i_12, ei_12, h⟩ := bnd_e h
              refine nm_i ei_12 ?_
              obtain ⟨b_13, h⟩ := ck h
              refine mlald (i := 19) (N := 800) C0 hK hP (by decide) (by decide) rfl b_13 dX12_judge_67 ?_
              obtain ⟨x5_14, ex5_14, h⟩ := bnd_e h
              refine nm_l ex5_14 ?_
              refine lv_lstore (lv' := [(5, .long x5_14), (0, .ref (a 0)), (1, .int p1), (2, .int p2), (4, .int x4_7)]) hx hb dX12_judge_68 hl (by decide) rfl (fun ls hl => ?_)
              refine lv_lload hx hb dX12_judge_70 (lv_at hl 0 rfl) ?_
              refine lv_aload_n hx hb dX12_judge_72 rfl (lv_at hl 1 rfl) ?_
              refine lv_iload_n hx hb dX12_judge_73 rfl (lv_at hl 3 rfl) ?_
              obtain ⟨r_16, h_15, h⟩ := b1_e h
              refine xcall (rV C0 hK hP hl.1 (fun _ _ _ => trivial) Bt_b (c_X12_skippedIn hI h_15) cv_X12_skippedIn tw1290 (rcX12 hK hP) (rest := [.long x5_14]) rfl (Nat.le_of_ble_eq_true rfl) ⟨rfl, rfl, Nat.le_of_ble_eq_true rfl, Nat.le_of_ble_eq_true rfl⟩ ⟨Nat.zero_le _, Nat.zero_le _⟩ dX12_judge_74) hS (fun H locs hP hS => ?_)
              refine W.lcmp hx hb dX12_judge_77 ?_
              refine lv_if_eq (tgt := 98) hx hb dX12_judge_78 (by decide) (fun c_17 => ?_) (fun c_17 => ?_)
              · have h := it c_17 h
                obtain ⟨x4_18, ex4_18, h⟩ := bnd_e h
                refine lv_iinc (v := x4_18) (lv' := [(4, .int x4_18), (5, .long x5_14), (0, .ref (a 0)), (1, .int p1), (2, .int p2)]) hx hb dX12_judge_98 hl (k := 4) rfl (by rw [ex4_18]; rfl) (by decide) rfl (fun ls hl => ?_)
                refine lv_goto (tgt := 36) hx hb dX12_judge_101 (by decide) ?_
                exact ih1 x4_18 σ_8 _ _ ls h hP hS (lv_sub hl [2, 3, 4, 0] rfl)
              · have h := ie c_17 h
                refine lv_lload hx hb dX12_judge_81 (lv_at hl 0 rfl) ?_
                refine lv_aload_n hx hb dX12_judge_83 rfl (lv_at hl 1 rfl) ?_
                refine lv_iload hx hb dX12_judge_84 (lv_at hl 4 rfl) ?_
                refine lv_iload_n hx hb dX12_judge_86 rfl (lv_at hl 2 rfl) ?_
                obtain ⟨r_20, h_19, h⟩ := b1_e h
                refine xcall (rV C0 hK hP hl.1 (fun _ _ _ => trivial) Bt_b (c_X12_easeOf hI h_19) cv_X12_easeOf tw1181 (rcX12 hK hP) (rest := [.long x5_14]) rfl (Nat.le_of_ble_eq_true rfl) ⟨rfl, rfl, Nat.le_of_ble_eq_true rfl, Nat.le_of_ble_eq_true rfl⟩ ⟨Nat.zero_le _, Nat.zero_le _⟩ dX12_judge_87) hS (fun H locs hP hS => ?_)
                refine lv_i2l (v := r_20.toInt64) hx hb dX12_judge_90 rfl ?_
                refine W.lcmp hx hb dX12_judge_91 ?_
                refine lv_if_eq (tgt := 98) hx hb dX12_judge_92 (by decide) (fun c_21 => ?_) (fun c_21 => ?_)
                · have h := it c_21 h
                  obtain ⟨x4_22, ex4_22, h⟩ := bnd_e h
                  refine lv_iinc (v := x4_22) (lv' := [(4, .int x4_22), (5, .long x5_14), (0, .ref (a 0)), (1, .int p1), (2, .int p2)]) hx hb dX12_judge_98 hl (k := 4) rfl (by rw [ex4_22]; rfl) (by decide) rfl (fun ls hl => ?_)
                  refine lv_goto (tgt := 36) hx hb dX12_judge_101 (by decide) ?_
                  exact ih1 x4_22 σ_8 _ _ ls h hP hS (lv_sub hl [2, 3, 4, 0] rfl)
                · have h := ie c_21 h
                  refine lv_iload hx hb dX12_judge_95 (lv_at hl 4 rfl) ?_
                  rw [hQ]
                  exact xzret C0 hP hS rfl h dX12_judge_97
      exact hL1 5000 0 σ_5 _ _ ls h hP hS (lv_sub hl [2, 3, 4, 0] rfl)
    · have h := ie c_6 h
      refine lv_iload_n hx hb dX12_judge_31 rfl (lv_at hl 0 rfl) ?_
      rw [hQ]
      exact xzret C0 hP hS rfl h dX12_judge_32
  refine lv_if_eq (tgt := 25) hx hb dX12_judge_14 (by decide) (fun c_30 => ?_) (fun c_30 => ?_)
  · have h := it c_30 h
    refine lv_iconst (v := (-1)) hx hb dX12_judge_25 (by decide) ?_
    exact hJ26 (-1) σ_1 _ _ ls h hP hS (lv_sub hl [0, 1, 2] rfl)
  · have h := ie c_30 h
    refine lv_aload_n hx hb dX12_judge_17 rfl (lv_at hl 0 rfl) ?_
    refine lv_iload_n hx hb dX12_judge_18 rfl (lv_at hl 2 rfl) ?_
    obtain ⟨r_32, h_31, h⟩ := b1_e h
    refine xcall (rV C0 hK hP hl.1 (fun _ _ _ => trivial) Bt_b (c_X12_wrongRow hI h_31) cv_X12_wrongRow tw1086 (rcX12 hK hP) (rest := []) rfl (Nat.le_of_ble_eq_true rfl) ⟨rfl, rfl, Nat.le_of_ble_eq_true rfl, Nat.le_of_ble_eq_true rfl⟩ ⟨Nat.zero_le _, Nat.zero_le _⟩ dX12_judge_19) hS (fun H locs hP hS => ?_)
    refine lv_goto (tgt := 26) hx hb dX12_judge_22 (by decide) ?_
    exact hJ26 r_32 σ_1 _ _ ls h hP hS (lv_sub hl [0, 1, 2] rfl)
def f_X12_count_L12  : Nat → Int32 → Int32 → Int32 → MMem → (Int32 → Int32 → Int32 → MMem → Option (Int32 × MMem)) → Option (Int32 × MMem)
  | 0, _, _, _, _, _ => none
  | n + 1, x2_2, x3_3, x4_4, σ_5, K1 =>
    if ((σ_5 0).1 0) ≤ x4_4 then
      K1 x2_2 x3_3 x4_4 σ_5
    else
      if x4_4 < 0 ∨ 6 ≤ x4_4.toNatClampNeg then none else
      bnd (x2_2 + ((σ_5 3).1 x4_4.toNatClampNeg)) fun (x2_8 : Int32) =>
      if x4_4 < 0 ∨ 6 ≤ x4_4.toNatClampNeg then none else
      bnd (x3_3 + ((σ_5 2).1 x4_4.toNatClampNeg)) fun (x3_10 : Int32) =>
      bnd (x4_4 + 1) fun (x4_11 : Int32) =>
      f_X12_count_L12 n x2_8 x3_10 x4_11 σ_5 K1
def f_X12_count (p1 : Int32) (σ : MMem) : Option (Int32 × MMem) :=
  bnd (uI σ 0 9 0) fun (σ_1 : MMem) =>
  f_X12_count_L12 5000 0 0 0 σ_1 fun (x2_12 : Int32) (x3_13 : Int32) (u_14 : Int32) (σ_15 : MMem) =>
    if p1 = 0 then
      some ((σ_15 0).1 0, σ_15)
    else
      if p1 = 1 then
        some ((σ_15 0).1 1, σ_15)
      else
        if p1 = 2 then
          some ((σ_15 0).1 2, σ_15)
        else
          if p1 = 3 then
            some ((σ_15 0).1 3, σ_15)
          else
            if p1 = 4 then
              some ((σ_15 0).1 4, σ_15)
            else
              if p1 = 5 then
                some (x2_12, σ_15)
              else
                if p1 = 6 then
                  some (x3_13, σ_15)
                else
                  some ((-1), σ_15)
def rm_X12_count : Room := { frames := 0, cells := 0, slots := 0, locals := 0 }
set_option maxHeartbeats 4000000 in
set_option maxRecDepth 100000 in
theorem c_X12_count {l : Launch} {D : va_G} {ca : Nat → ClassId} {a : Nat → Nat} (hI : InjN 21 a) {p1 : Int32} {σ : MMem} {r : Int32} {σ' : MMem}  (h : f_X12_count p1 σ = some (r, σ')) : XMM l D ca a Bt yX12_count cX12_count 5 (some .int) rm_X12_count [.ref (a 0), .int p1] σ (some (.int r)) σ' := by
  refine XM.of pn_X12 (Nat.le_of_ble_eq_true rfl) ?_
  intro p e s m args below meth c ls Q hQ C0 hK hB hP hS hl
  have C0 : Cx p s m args meth c RX12 cX12_count 5 (some .int) := C0
  have hx := C0.1
  have hb := C0.2.1
  have hl : lv_has ls 5 [(0, .ref (a 0)), (1, .int p1)] := hl
  rw [f_X12_count] at h
  refine lv_aload_n hx hb dX12_count_0 rfl (lv_at hl 0 rfl) ?_
  refine lv_iconst (v := 0) hx hb dX12_count_1 (by decide) ?_
  obtain ⟨σ_1, eσ_1, h⟩ := bnd_e h
  refine pX12_9 C0 hK hP tw951 hI hS dX12_count_2 (fun H locs hP hS => ?_)
  rw [← eσ_1] at hP
  refine lv_iconst (v := 0) hx hb dX12_count_5 (by decide) ?_
  refine lv_istore_n (lv' := [(2, .int 0), (0, .ref (a 0)), (1, .int p1)]) hx hb dX12_count_6 rfl hl (by decide) rfl (fun ls hl => ?_)
  refine lv_iconst (v := 0) hx hb dX12_count_7 (by decide) ?_
  refine lv_istore_n (lv' := [(3, .int 0), (2, .int 0), (0, .ref (a 0)), (1, .int p1)]) hx hb dX12_count_8 rfl hl (by decide) rfl (fun ls hl => ?_)
  refine lv_iconst (v := 0) hx hb dX12_count_9 (by decide) ?_
  refine lv_istore (lv' := [(4, .int 0), (3, .int 0), (2, .int 0), (0, .ref (a 0)), (1, .int p1)]) hx hb dX12_count_10 hl (by decide) rfl (fun ls hl => ?_)
  obtain ⟨K1, eK1, h⟩ := lp_e (f := fun K => f_X12_count_L12 5000 0 0 0 σ_1 K) h
  have h : f_X12_count_L12 5000 0 0 0 σ_1 K1 = some (r, σ') := h
  have hX1 : ∀ (x2_12 : Int32) (x3_13 : Int32) (u_14 : Int32) (σ_15 : MMem) (H : Heap) (locs : List Loc) (ls : Array Slot), K1 x2_12 x3_13 u_14 σ_15 = some (r, σ') → va_P D vwCl (wM ca a σ_15) H → va_S (AW 21 a) s.heap H locs → lv_has ls 5 [(0, .ref (a 0)), (1, .int p1), (2, .int x2_12), (3, .int x3_13)] → W p l e rm_X12_count s m args below meth c H locs 0 0 Q (F0 m 47 ls []) := by
    intro x2_12 x3_13 u_14 σ_15 H locs ls h hP hS hl
    have h := ap4 eK1 h
    refine lv_iload_n hx hb dX12_count_47 rfl (lv_at hl 1 rfl) ?_
    by_cases c_16 : p1 = 0
    · have h := it c_16 h
      refine lv_tableIn (off := 44) (tgt := 92) hx hb dX12_count_48 (by rw [c_16]; decide) (by rw [c_16]; decide) (by rw [c_16]; rfl) (by decide) ?_
      refine lv_aload_n hx hb dX12_count_92 rfl (lv_at hl 0 rfl) ?_
      refine gX12_0 C0 hK hP tw942 dX12_count_93 ?_
      rw [hQ]
      exact xzret C0 hP hS rfl h dX12_count_96
    · have h := ie c_16 h
      by_cases c_17 : p1 = 1
      · have h := it c_17 h
        refine lv_tableIn (off := 49) (tgt := 97) hx hb dX12_count_48 (by rw [c_17]; decide) (by rw [c_17]; decide) (by rw [c_17]; rfl) (by decide) ?_
        refine lv_aload_n hx hb dX12_count_97 rfl (lv_at hl 0 rfl) ?_
        refine gX12_1 C0 hK hP tw943 dX12_count_98 ?_
        rw [hQ]
        exact xzret C0 hP hS rfl h dX12_count_101
      · have h := ie c_17 h
        by_cases c_18 : p1 = 2
        · have h := it c_18 h
          refine lv_tableIn (off := 54) (tgt := 102) hx hb dX12_count_48 (by rw [c_18]; decide) (by rw [c_18]; decide) (by rw [c_18]; rfl) (by decide) ?_
          refine lv_aload_n hx hb dX12_count_102 rfl (lv_at hl 0 rfl) ?_
          refine gX12_2 C0 hK hP tw944 dX12_count_103 ?_
          rw [hQ]
          exact xzret C0 hP hS rfl h dX12_count_106
        · have h := ie c_18 h
          by_cases c_19 : p1 = 3
          · have h := it c_19 h
            refine lv_tableIn (off := 59) (tgt := 107) hx hb dX12_count_48 (by rw [c_19]; decide) (by rw [c_19]; decide) (by rw [c_19]; rfl) (by decide) ?_
            refine lv_aload_n hx hb dX12_count_107 rfl (lv_at hl 0 rfl) ?_
            refine gX12_3 C0 hK hP tw945 dX12_count_108 ?_
            rw [hQ]
            exact xzret C0 hP hS rfl h dX12_count_111
          · have h := ie c_19 h
            by_cases c_20 : p1 = 4
            · have h := it c_20 h
              refine lv_tableIn (off := 64) (tgt := 112) hx hb dX12_count_48 (by rw [c_20]; decide) (by rw [c_20]; decide) (by rw [c_20]; rfl) (by decide) ?_
              refine lv_aload_n hx hb dX12_count_112 rfl (lv_at hl 0 rfl) ?_
              refine gX12_4 C0 hK hP tw946 dX12_count_113 ?_
              rw [hQ]
              exact xzret C0 hP hS rfl h dX12_count_116
            · have h := ie c_20 h
              by_cases c_21 : p1 = 5
              · have h := it c_21 h
                refine lv_tableIn (off := 69) (tgt := 117) hx hb dX12_count_48 (by rw [c_21]; decide) (by rw [c_21]; decide) (by rw [c_21]; rfl) (by decide) ?_
                refine lv_iload_n hx hb dX12_count_117 rfl (lv_at hl 2 rfl) ?_
                rw [hQ]
                exact xzret C0 hP hS rfl h dX12_count_118
              · have h := ie c_21 h
                by_cases c_22 : p1 = 6
                · have h := it c_22 h
                  refine lv_tableIn (off := 71) (tgt := 119) hx hb dX12_count_48 (by rw [c_22]; decide) (by rw [c_22]; decide) (by rw [c_22]; rfl) (by decide) ?_
                  refine lv_iload_n hx hb dX12_count_119 rfl (lv_at hl 3 rfl) ?_
                  rw [hQ]
                  exact xzret C0 hP hS rfl h dX12_count_120
                · have h := ie c_22 h
                  refine lv_tableOut (tgt := 121) hx hb dX12_count_48 (by have := sw_ne (k := 0) (by decide) c_16; have := sw_ne (k := 1) (by decide) c_17; have := sw_ne (k := 2) (by decide) c_18; have := sw_ne (k := 3) (by decide) c_19; have := sw_ne (k := 4) (by decide) c_20; have := sw_ne (k := 5) (by decide) c_21; have := sw_ne (k := 6) (by decide) c_22; omega) (by decide) ?_
                  refine lv_iconst (v := (-1)) hx hb dX12_count_121 (by decide) ?_
                  rw [hQ]
                  exact xzret C0 hP hS rfl h dX12_count_122
  have hL1 : ∀ (n : Nat) (x2_2 : Int32) (x3_3 : Int32) (x4_4 : Int32) (σ_5 : MMem) (H : Heap) (locs : List Loc) (ls : Array Slot), f_X12_count_L12 n x2_2 x3_3 x4_4 σ_5 K1 = some (r, σ') → va_P D vwCl (wM ca a σ_5) H → va_S (AW 21 a) s.heap H locs → lv_has ls 5 [(0, .ref (a 0)), (1, .int p1), (2, .int x2_2), (3, .int x3_3), (4, .int x4_4)] → W p l e rm_X12_count s m args below meth c H locs 0 0 Q (F0 m 12 ls []) := by
    intro n
    induction n with
    | zero => intro x2_2 x3_3 x4_4 σ_5 H locs ls h; rw [f_X12_count_L12] at h; cases h
    | succ n ih1 =>
      intro x2_2 x3_3 x4_4 σ_5 H locs ls h hP hS hl
      rw [f_X12_count_L12] at h
      refine lv_iload hx hb dX12_count_12 (lv_at hl 4 rfl) ?_
      refine lv_aload_n hx hb dX12_count_14 rfl (lv_at hl 0 rfl) ?_
      refine gX12_0 C0 hK hP tw942 dX12_count_15 ?_
      refine lv_icmp_ge (tgt := 47) hx hb dX12_count_18 (by decide) (fun c_6 => ?_) (fun c_6 => ?_)
      · have h := it c_6 h
        exact hX1 x2_2 x3_3 x4_4 σ_5 _ _ ls h hP hS (lv_sub hl [0, 1, 2, 3] rfl)
      · have h := ie c_6 h
        refine lv_iload_n hx hb dX12_count_21 rfl (lv_at hl 2 rfl) ?_
        refine lv_aload_n hx hb dX12_count_22 rfl (lv_at hl 0 rfl) ?_
        refine gX12_7 C0 hK hP tw949 dX12_count_23 ?_
        refine lv_iload hx hb dX12_count_26 (lv_at hl 4 rfl) ?_
        obtain ⟨b_7, h⟩ := ck h
        refine mald (i := 3) (N := 6) C0 hK hP (by decide) (by decide) rfl b_7 dX12_count_28 ?_
        refine lv_iadd hx hb dX12_count_29 ?_
        obtain ⟨x2_8, ex2_8, h⟩ := bnd_e h
        refine nm_i ex2_8 ?_
        refine lv_istore_n (lv' := [(2, .int x2_8), (0, .ref (a 0)), (1, .int p1), (3, .int x3_3), (4, .int x4_4)]) hx hb dX12_count_30 rfl hl (by decide) rfl (fun ls hl => ?_)
        refine lv_iload_n hx hb dX12_count_31 rfl (lv_at hl 3 rfl) ?_
        refine lv_aload_n hx hb dX12_count_32 rfl (lv_at hl 1 rfl) ?_
        refine gX12_6 C0 hK hP tw948 dX12_count_33 ?_
        refine lv_iload hx hb dX12_count_36 (lv_at hl 4 rfl) ?_
        obtain ⟨b_9, h⟩ := ck h
        refine mald (i := 2) (N := 6) C0 hK hP (by decide) (by decide) rfl b_9 dX12_count_38 ?_
        refine lv_iadd hx hb dX12_count_39 ?_
        obtain ⟨x3_10, ex3_10, h⟩ := bnd_e h
        refine nm_i ex3_10 ?_
        refine lv_istore_n (lv' := [(3, .int x3_10), (2, .int x2_8), (0, .ref (a 0)), (1, .int p1), (4, .int x4_4)]) hx hb dX12_count_40 rfl hl (by decide) rfl (fun ls hl => ?_)
        obtain ⟨x4_11, ex4_11, h⟩ := bnd_e h
        refine lv_iinc (v := x4_11) (lv' := [(4, .int x4_11), (3, .int x3_10), (2, .int x2_8), (0, .ref (a 0)), (1, .int p1)]) hx hb dX12_count_41 hl (k := 4) rfl (by rw [ex4_11]; rfl) (by decide) rfl (fun ls hl => ?_)
        refine lv_goto (tgt := 12) hx hb dX12_count_44 (by decide) ?_
        exact ih1 x2_8 x3_10 x4_11 σ_5 _ _ ls h hP hS (lv_sub hl [3, 4, 2, 1, 0] rfl)
  exact hL1 5000 0 0 0 σ_1 _ _ ls h hP hS (lv_sub hl [3, 4, 2, 1, 0] rfl)
def f_X12_keep (p1 : Int32) (p2 : Int32) (p3 : Int32) (p4 : Int32) (σ : MMem) : Option (Int32 × MMem) :=
  bnd (uI σ 0 9 0) fun (σ_1 : MMem) =>
  b1 (f_X12_in p1.toInt64 0 7) fun r_3 =>
  if r_3 = 0 then
    some ((-1), σ_1)
  else
    b1 (f_X12_in p2.toInt64 0 1) fun r_6 =>
    if r_6 = 0 then
      some ((-1), σ_1)
    else
      jn (fun (σ_8 : MMem) =>
        if p1 < 0 ∨ 8 ≤ p1.toNatClampNeg then none else
        bnd (uI σ_8 14 p1.toNatClampNeg p2) fun (σ_10 : MMem) =>
        jn (fun (v_11 : Int32) (σ_12 : MMem) =>
          if p1 < 0 ∨ 8 ≤ p1.toNatClampNeg then none else
          bnd (uI σ_12 15 p1.toNatClampNeg v_11) fun (σ_14 : MMem) =>
          if p2 = 1 then
            if p1 < 0 ∨ 8 ≤ p1.toNatClampNeg then none else
            bnd (uI σ_14 16 p1.toNatClampNeg p4) fun (σ_19 : MMem) =>
            some (0, σ_19)
          else
            if p1 < 0 ∨ 8 ≤ p1.toNatClampNeg then none else
            bnd (uI σ_14 16 p1.toNatClampNeg 0) fun (σ_17 : MMem) =>
            some (0, σ_17)) fun J81 =>
        if p2 = 1 then
          J81 p3 σ_10
        else
          J81 0 σ_10) fun J59 =>
      if p2 = 1 then
        b1 (f_X12_in p3.toInt64 0 7) fun r_23 =>
        if r_23 = 0 then
          some ((-1), σ_1)
        else
          b1 (f_X12_in p4.toInt64 0 9) fun r_26 =>
          if r_26 = 0 then
            some ((-1), σ_1)
          else
            J59 σ_1
      else
        J59 σ_1
def rm_X12_keep : Room := { frames := 1, cells := 0, slots := 0, locals := 25 }
set_option maxHeartbeats 4000000 in
set_option maxRecDepth 100000 in
theorem c_X12_keep {l : Launch} {D : va_G} {ca : Nat → ClassId} {a : Nat → Nat} (hI : InjN 21 a) {p1 : Int32} {p2 : Int32} {p3 : Int32} {p4 : Int32} {σ : MMem} {r : Int32} {σ' : MMem}  (h : f_X12_keep p1 p2 p3 p4 σ = some (r, σ')) : XMM l D ca a Bt yX12_keep cX12_keep 5 (some .int) rm_X12_keep [.ref (a 0), .int p1, .int p2, .int p3, .int p4] σ (some (.int r)) σ' := by
  refine XM.of pn_X12 (Nat.le_of_ble_eq_true rfl) ?_
  intro p e s m args below meth c ls Q hQ C0 hK hB hP hS hl
  have C0 : Cx p s m args meth c RX12 cX12_keep 5 (some .int) := C0
  have hx := C0.1
  have hb := C0.2.1
  have hl : lv_has ls 5 [(0, .ref (a 0)), (1, .int p1), (2, .int p2), (3, .int p3), (4, .int p4)] := hl
  rw [f_X12_keep] at h
  refine lv_aload_n hx hb dX12_keep_0 rfl (lv_at hl 0 rfl) ?_
  refine lv_iconst (v := 0) hx hb dX12_keep_1 (by decide) ?_
  obtain ⟨σ_1, eσ_1, h⟩ := bnd_e h
  refine pX12_9 C0 hK hP tw951 hI hS dX12_keep_2 (fun H locs hP hS => ?_)
  rw [← eσ_1] at hP
  refine lv_iload_n hx hb dX12_keep_5 rfl (lv_at hl 1 rfl) ?_
  refine lv_i2l (v := p1.toInt64) hx hb dX12_keep_6 rfl ?_
  refine lv_lconst (v := 0) hx hb dX12_keep_7 (by decide) ?_
  refine lv_ldc2 (v := 7) hx hb C0.2.2.2.1 (C0.2.2.2.2.1 _ tw1090) dX12_keep_8 ?_
  obtain ⟨r_3, h_2, h⟩ := b1_e h
  refine xcall (rS C0 hK hP hl.1 (fun _ _ _ => trivial) Bt_b (c_X12_in hI h_2) cs_X12_in tw1091 (rest := []) rfl (Nat.le_of_ble_eq_true rfl) ⟨rfl, rfl, Nat.le_of_ble_eq_true rfl, Nat.le_of_ble_eq_true rfl⟩ ⟨Nat.zero_le _, Nat.zero_le _⟩ dX12_keep_11) hS (fun H locs hP hS => ?_)
  refine lv_if_eq (tgt := 57) hx hb dX12_keep_14 (by decide) (fun c_4 => ?_) (fun c_4 => ?_)
  · have h := it c_4 h
    refine lv_iconst (v := (-1)) hx hb dX12_keep_57 (by decide) ?_
    rw [hQ]
    exact xzret C0 hP hS rfl h dX12_keep_58
  · have h := ie c_4 h
    refine lv_iload_n hx hb dX12_keep_17 rfl (lv_at hl 2 rfl) ?_
    refine lv_i2l (v := p2.toInt64) hx hb dX12_keep_18 rfl ?_
    refine lv_lconst (v := 0) hx hb dX12_keep_19 (by decide) ?_
    refine lv_lconst (v := 1) hx hb dX12_keep_20 (by decide) ?_
    obtain ⟨r_6, h_5, h⟩ := b1_e h
    refine xcall (rS C0 hK hP hl.1 (fun _ _ _ => trivial) Bt_b (c_X12_in hI h_5) cs_X12_in tw1091 (rest := []) rfl (Nat.le_of_ble_eq_true rfl) ⟨rfl, rfl, Nat.le_of_ble_eq_true rfl, Nat.le_of_ble_eq_true rfl⟩ ⟨Nat.zero_le _, Nat.zero_le _⟩ dX12_keep_21) hS (fun H locs hP hS => ?_)
    refine lv_if_eq (tgt := 57) hx hb dX12_keep_24 (by decide) (fun c_7 => ?_) (fun c_7 => ?_)
    · have h := it c_7 h
      refine lv_iconst (v := (-1)) hx hb dX12_keep_57 (by decide) ?_
      rw [hQ]
      exact xzret C0 hP hS rfl h dX12_keep_58
    · have h := ie c_7 h
      refine lv_iload_n hx hb dX12_keep_27 rfl (lv_at hl 2 rfl) ?_
      refine lv_iconst (v := 1) hx hb dX12_keep_28 (by decide) ?_
      obtain ⟨J59, eJ59, h⟩ := jn_e h
      have hJ59 : ∀ (σ_8 : MMem) (H : Heap) (locs : List Loc) (ls : Array Slot), J59 σ_8 = some (r, σ') → va_P D vwCl (wM ca a σ_8) H → va_S (AW 21 a) s.heap H locs → lv_has ls 5 [(0, .ref (a 0)), (1, .int p1), (2, .int p2), (3, .int p3), (4, .int p4)] → W p l e rm_X12_keep s m args below meth c H locs 0 0 Q (F0 m 59 ls []) := by
        intro σ_8 H locs ls h hP hS hl
        have h := ap1 eJ59 h
        refine lv_aload_n hx hb dX12_keep_59 rfl (lv_at hl 0 rfl) ?_
        refine gX12_31 C0 hK hP tw973 dX12_keep_60 ?_
        refine lv_iload_n hx hb dX12_keep_63 rfl (lv_at hl 1 rfl) ?_
        refine lv_iload_n hx hb dX12_keep_64 rfl (lv_at hl 2 rfl) ?_
        obtain ⟨b_9, h⟩ := ck h
        obtain ⟨σ_10, eσ_10, h⟩ := bnd_e h
        refine mast (i := 14) (N := 8) C0 hK hP hI hS (by decide) (by decide) rfl b_9 dX12_keep_65 (fun H locs hP hS => ?_)
        rw [← eσ_10] at hP
        refine lv_aload_n hx hb dX12_keep_66 rfl (lv_at hl 0 rfl) ?_
        refine gX12_32 C0 hK hP tw974 dX12_keep_67 ?_
        refine lv_iload_n hx hb dX12_keep_70 rfl (lv_at hl 1 rfl) ?_
        refine lv_iload_n hx hb dX12_keep_71 rfl (lv_at hl 2 rfl) ?_
        refine lv_iconst (v := 1) hx hb dX12_keep_72 (by decide) ?_
        obtain ⟨J81, eJ81, h⟩ := jn_e h
        have hJ81 : ∀ (v_11 : Int32) (σ_12 : MMem) (H : Heap) (locs : List Loc) (ls : Array Slot), J81 v_11 σ_12 = some (r, σ') → va_P D vwCl (wM ca a σ_12) H → va_S (AW 21 a) s.heap H locs → lv_has ls 5 [(0, .ref (a 0)), (1, .int p1), (2, .int p2), (4, .int p4)] → W p l e rm_X12_keep s m args below meth c H locs 0 0 Q (F0 m 81 ls [.int v_11, .int p1, .ref (a 15)]) := by
          intro v_11 σ_12 H locs ls h hP hS hl
          have h := ap2 eJ81 h
          obtain ⟨b_13, h⟩ := ck h
          obtain ⟨σ_14, eσ_14, h⟩ := bnd_e h
          refine mast (i := 15) (N := 8) C0 hK hP hI hS (by decide) (by decide) rfl b_13 dX12_keep_81 (fun H locs hP hS => ?_)
          rw [← eσ_14] at hP
          refine lv_aload_n hx hb dX12_keep_82 rfl (lv_at hl 0 rfl) ?_
          refine gX12_33 C0 hK hP tw975 dX12_keep_83 ?_
          refine lv_iload_n hx hb dX12_keep_86 rfl (lv_at hl 1 rfl) ?_
          refine lv_iload_n hx hb dX12_keep_87 rfl (lv_at hl 2 rfl) ?_
          refine lv_iconst (v := 1) hx hb dX12_keep_88 (by decide) ?_
          refine lv_icmp_ne (tgt := 97) hx hb dX12_keep_89 (by decide) (fun c_15 => ?_) (fun c_15 => ?_)
          · have h := ie c_15 h
            refine lv_iconst (v := 0) hx hb dX12_keep_97 (by decide) ?_
            obtain ⟨b_16, h⟩ := ck h
            obtain ⟨σ_17, eσ_17, h⟩ := bnd_e h
            refine mast (i := 16) (N := 8) C0 hK hP hI hS (by decide) (by decide) rfl b_16 dX12_keep_98 (fun H locs hP hS => ?_)
            rw [← eσ_17] at hP
            refine lv_iconst (v := 0) hx hb dX12_keep_99 (by decide) ?_
            rw [hQ]
            exact xzret C0 hP hS rfl h dX12_keep_100
          · have h := it c_15 h
            refine lv_iload hx hb dX12_keep_92 (lv_at hl 3 rfl) ?_
            refine lv_goto (tgt := 98) hx hb dX12_keep_94 (by decide) ?_
            obtain ⟨b_18, h⟩ := ck h
            obtain ⟨σ_19, eσ_19, h⟩ := bnd_e h
            refine mast (i := 16) (N := 8) C0 hK hP hI hS (by decide) (by decide) rfl b_18 dX12_keep_98 (fun H locs hP hS => ?_)
            rw [← eσ_19] at hP
            refine lv_iconst (v := 0) hx hb dX12_keep_99 (by decide) ?_
            rw [hQ]
            exact xzret C0 hP hS rfl h dX12_keep_100
        refine lv_icmp_ne (tgt := 80) hx hb dX12_keep_73 (by decide) (fun c_20 => ?_) (fun c_20 => ?_)
        · have h := ie c_20 h
          refine lv_iconst (v := 0) hx hb dX12_keep_80 (by decide) ?_
          exact hJ81 0 σ_10 _ _ ls h hP hS (lv_sub hl [0, 1, 2, 4] rfl)
        · have h := it c_20 h
          refine lv_iload_n hx hb dX12_keep_76 rfl (lv_at hl 3 rfl) ?_
          refine lv_goto (tgt := 81) hx hb dX12_keep_77 (by decide) ?_
          exact hJ81 p3 σ_10 _ _ ls h hP hS (lv_sub hl [0, 1, 2, 4] rfl)
      refine lv_icmp_ne (tgt := 59) hx hb dX12_keep_29 (by decide) (fun c_21 => ?_) (fun c_21 => ?_)
      · have h := ie c_21 h
        exact hJ59 σ_1 _ _ ls h hP hS (lv_sub hl [0, 1, 2, 3, 4] rfl)
      · have h := it c_21 h
        refine lv_iload_n hx hb dX12_keep_32 rfl (lv_at hl 3 rfl) ?_
        refine lv_i2l (v := p3.toInt64) hx hb dX12_keep_33 rfl ?_
        refine lv_lconst (v := 0) hx hb dX12_keep_34 (by decide) ?_
        refine lv_ldc2 (v := 7) hx hb C0.2.2.2.1 (C0.2.2.2.2.1 _ tw1090) dX12_keep_35 ?_
        obtain ⟨r_23, h_22, h⟩ := b1_e h
        refine xcall (rS C0 hK hP hl.1 (fun _ _ _ => trivial) Bt_b (c_X12_in hI h_22) cs_X12_in tw1091 (rest := []) rfl (Nat.le_of_ble_eq_true rfl) ⟨rfl, rfl, Nat.le_of_ble_eq_true rfl, Nat.le_of_ble_eq_true rfl⟩ ⟨Nat.zero_le _, Nat.zero_le _⟩ dX12_keep_38) hS (fun H locs hP hS => ?_)
        refine lv_if_eq (tgt := 57) hx hb dX12_keep_41 (by decide) (fun c_24 => ?_) (fun c_24 => ?_)
        · have h := it c_24 h
          refine lv_iconst (v := (-1)) hx hb dX12_keep_57 (by decide) ?_
          rw [hQ]
          exact xzret C0 hP hS rfl h dX12_keep_58
        · have h := ie c_24 h
          refine lv_iload hx hb dX12_keep_44 (lv_at hl 4 rfl) ?_
          refine lv_i2l (v := p4.toInt64) hx hb dX12_keep_46 rfl ?_
          refine lv_lconst (v := 0) hx hb dX12_keep_47 (by decide) ?_
          refine lv_ldc2 (v := 9) hx hb C0.2.2.2.1 (C0.2.2.2.2.1 _ tw1163) dX12_keep_48 ?_
          obtain ⟨r_26, h_25, h⟩ := b1_e h
          refine xcall (rS C0 hK hP hl.1 (fun _ _ _ => trivial) Bt_b (c_X12_in hI h_25) cs_X12_in tw1091 (rest := []) rfl (Nat.le_of_ble_eq_true rfl) ⟨rfl, rfl, Nat.le_of_ble_eq_true rfl, Nat.le_of_ble_eq_true rfl⟩ ⟨Nat.zero_le _, Nat.zero_le _⟩ dX12_keep_51) hS (fun H locs hP hS => ?_)
          refine lv_if_ne (tgt := 59) hx hb dX12_keep_54 (by decide) (fun c_27 => ?_) (fun c_27 => ?_)
          · have h := ie c_27 h
            exact hJ59 σ_1 _ _ ls h hP hS (lv_sub hl [0, 1, 2, 3, 4] rfl)
          · have h := it c_27 h
            refine lv_iconst (v := (-1)) hx hb dX12_keep_57 (by decide) ?_
            rw [hQ]
            exact xzret C0 hP hS rfl h dX12_keep_58
