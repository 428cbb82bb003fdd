def f_X12_wrongRow (p1 : Int32) (σ : MMem) : Option (Int32) :=
  b1 (f_X12_in p1.toInt64 0 7) fun r_2 =>
  if r_2 = 0 then
    some (-1)
  else
    if p1 < 0 ∨ 8 ≤ p1.toNatClampNeg then none else
    if ((σ 14).1 p1.toNatClampNeg) = 0 then
      some (-11)
    else
      if p1 < 0 ∨ 8 ≤ p1.toNatClampNeg then none else
      if ((σ 14).1 p1.toNatClampNeg) = 2 then
        some 0
      else
        some (-12)
def rm_X12_wrongRow : Room := { frames := 1, cells := 0, slots := 0, locals := 25 }
set_option maxHeartbeats 4000000 in
set_option maxRecDepth 100000 in
theorem c_X12_wrongRow {l : Launch} {D : va_G} {ca : Nat → ClassId} {a : Nat → Nat} (hI : InjN 21 a) {p1 : Int32} {σ : MMem} {r : Int32}  (h : f_X12_wrongRow p1 σ = some r) : XMM l D ca a Bt yX12_wrongRow cX12_wrongRow 2 (some .int) rm_X12_wrongRow [.ref (a 0), .int p1] σ (some (.int r)) σ := by
  refine XM.of pn_X12 (Nat.le_of_ble_eq_true rfl) ?_
  intro p e s m args below meth c ls Q hQ C0 hK hB hP hS hl
  have C0 : Cx p s m args meth c RX12 cX12_wrongRow 2 (some .int) := C0
  have hx := C0.1
  have hb := C0.2.1
  have hl : lv_has ls 2 [(0, .ref (a 0)), (1, .int p1)] := hl
  rw [f_X12_wrongRow] at h
  refine lv_iload_n hx hb dX12_wrongRow_0 rfl (lv_at hl 1 rfl) ?_
  refine lv_i2l (v := p1.toInt64) hx hb dX12_wrongRow_1 rfl ?_
  refine lv_lconst (v := 0) hx hb dX12_wrongRow_2 (by decide) ?_
  refine lv_ldc2 (v := 7) hx hb C0.2.2.2.1 (C0.2.2.2.2.1 _ tw1090) dX12_wrongRow_3 ?_
  obtain ⟨r_2, h_1, h⟩ := b1_e h
  refine xcall (rS C0 hK hP hl.1 (fun _ _ _ => trivial) Bt_b (c_X12_in hI h_1) cs_X12_in tw1091 (rest := []) rfl (Nat.le_of_ble_eq_true rfl) ⟨rfl, rfl, Nat.le_of_ble_eq_true rfl, Nat.le_of_ble_eq_true rfl⟩ ⟨Nat.zero_le _, Nat.zero_le _⟩ dX12_wrongRow_6) hS (fun H locs hP hS => ?_)
  refine lv_if_ne (tgt := 16) hx hb dX12_wrongRow_9 (by decide) (fun c_3 => ?_) (fun c_3 => ?_)
  · have h := ie c_3 h
    refine lv_aload_n hx hb dX12_wrongRow_16 rfl (lv_at hl 0 rfl) ?_
    refine gX12_31 C0 hK hP tw973 dX12_wrongRow_17 ?_
    refine lv_iload_n hx hb dX12_wrongRow_20 rfl (lv_at hl 1 rfl) ?_
    obtain ⟨b_4, h⟩ := ck h
    refine mald (i := 14) (N := 8) C0 hK hP (by decide) (by decide) rfl b_4 dX12_wrongRow_21 ?_
    refine lv_if_ne (tgt := 30) hx hb dX12_wrongRow_22 (by decide) (fun c_5 => ?_) (fun c_5 => ?_)
    · have h := ie c_5 h
      refine lv_aload_n hx hb dX12_wrongRow_30 rfl (lv_at hl 0 rfl) ?_
      refine gX12_31 C0 hK hP tw973 dX12_wrongRow_31 ?_
      refine lv_iload_n hx hb dX12_wrongRow_34 rfl (lv_at hl 1 rfl) ?_
      obtain ⟨b_6, h⟩ := ck h
      refine mald (i := 14) (N := 8) C0 hK hP (by decide) (by decide) rfl b_6 dX12_wrongRow_35 ?_
      refine lv_iconst (v := 2) hx hb dX12_wrongRow_36 (by decide) ?_
      refine lv_icmp_eq (tgt := 45) hx hb dX12_wrongRow_37 (by decide) (fun c_7 => ?_) (fun c_7 => ?_)
      · have h := it c_7 h
        refine lv_iconst (v := 0) hx hb dX12_wrongRow_45 (by decide) ?_
        rw [hQ]
        exact xzretr C0 hP hS rfl h dX12_wrongRow_46
      · have h := ie c_7 h
        refine lv_bipush (v := (-12)) hx hb dX12_wrongRow_40 (by decide) ?_
        refine lv_goto (tgt := 46) hx hb dX12_wrongRow_42 (by decide) ?_
        rw [hQ]
        exact xzretr C0 hP hS rfl h dX12_wrongRow_46
    · have h := it c_5 h
      refine lv_bipush (v := (-11)) hx hb dX12_wrongRow_25 (by decide) ?_
      refine lv_goto (tgt := 46) hx hb dX12_wrongRow_27 (by decide) ?_
      rw [hQ]
      exact xzretr C0 hP hS rfl h dX12_wrongRow_46
  · have h := it c_3 h
    refine lv_iconst (v := (-1)) hx hb dX12_wrongRow_12 (by decide) ?_
    refine lv_goto (tgt := 46) hx hb dX12_wrongRow_13 (by decide) ?_
    rw [hQ]
    exact xzretr C0 hP hS rfl h dX12_wrongRow_46
def f_X12_wrongSort (p1 : Int32) (p2 : Int32) (σ : MMem) : Option (Int32) :=
  b1 (f_X12_wrongRow p1 σ) fun r_2 =>
  if 0 ≤ r_2 then
    if p1 < 0 ∨ 8 ≤ p1.toNatClampNeg then none else
    if ((σ 17).1 p1.toNatClampNeg) = p2 then
      some 0
    else
      some (-12)
  else
    b1 (f_X12_wrongRow p1 σ) fun r_7 =>
    some r_7
def rm_X12_wrongSort : Room := { frames := 2, cells := 0, slots := 0, locals := 46 }
set_option maxHeartbeats 4000000 in
set_option maxRecDepth 100000 in
theorem c_X12_wrongSort {l : Launch} {D : va_G} {ca : Nat → ClassId} {a : Nat → Nat} (hI : InjN 21 a) {p1 : Int32} {p2 : Int32} {σ : MMem} {r : Int32}  (h : f_X12_wrongSort p1 p2 σ = some r) : XMM l D ca a Bt yX12_wrongSort cX12_wrongSort 3 (some .int) rm_X12_wrongSort [.ref (a 0), .int p1, .int p2] σ (some (.int r)) σ := by
  refine XM.of pn_X12 (Nat.le_of_ble_eq_true rfl) ?_
  intro p e s m args below meth c ls Q hQ C0 hK hB hP hS hl
  have C0 : Cx p s m args meth c RX12 cX12_wrongSort 3 (some .int) := C0
  have hx := C0.1
  have hb := C0.2.1
  have hl : lv_has ls 3 [(0, .ref (a 0)), (1, .int p1), (2, .int p2)] := hl
  rw [f_X12_wrongSort] at h
  refine lv_aload_n hx hb dX12_wrongSort_0 rfl (lv_at hl 0 rfl) ?_
  refine lv_iload_n hx hb dX12_wrongSort_1 rfl (lv_at hl 1 rfl) ?_
  obtain ⟨r_2, h_1, h⟩ := b1_e h
  refine xcall (rV C0 hK hP hl.1 (fun _ _ _ => trivial) Bt_b (c_X12_wrongRow hI h_1) cv_X12_wrongRow tw1086 (rcX12 hK hP) (rest := []) rfl (Nat.le_of_ble_eq_true rfl) ⟨rfl, rfl, Nat.le_of_ble_eq_true rfl, Nat.le_of_ble_eq_true rfl⟩ ⟨Nat.zero_le _, Nat.zero_le _⟩ dX12_wrongSort_2) hS (fun H locs hP hS => ?_)
  refine lv_if_ge (tgt := 16) hx hb dX12_wrongSort_5 (by decide) (fun c_3 => ?_) (fun c_3 => ?_)
  · have h := it c_3 h
    refine lv_aload_n hx hb dX12_wrongSort_16 rfl (lv_at hl 0 rfl) ?_
    refine gX12_34 C0 hK hP tw976 dX12_wrongSort_17 ?_
    refine lv_iload_n hx hb dX12_wrongSort_20 rfl (lv_at hl 1 rfl) ?_
    obtain ⟨b_4, h⟩ := ck h
    refine mald (i := 17) (N := 8) C0 hK hP (by decide) (by decide) rfl b_4 dX12_wrongSort_21 ?_
    refine lv_iload_n hx hb dX12_wrongSort_22 rfl (lv_at hl 2 rfl) ?_
    refine lv_icmp_eq (tgt := 31) hx hb dX12_wrongSort_23 (by decide) (fun c_5 => ?_) (fun c_5 => ?_)
    · have h := it c_5 h
      refine lv_iconst (v := 0) hx hb dX12_wrongSort_31 (by decide) ?_
      rw [hQ]
      exact xzretr C0 hP hS rfl h dX12_wrongSort_32
    · have h := ie c_5 h
      refine lv_bipush (v := (-12)) hx hb dX12_wrongSort_26 (by decide) ?_
      refine lv_goto (tgt := 32) hx hb dX12_wrongSort_28 (by decide) ?_
      rw [hQ]
      exact xzretr C0 hP hS rfl h dX12_wrongSort_32
  · have h := ie c_3 h
    refine lv_aload_n hx hb dX12_wrongSort_8 rfl (lv_at hl 0 rfl) ?_
    refine lv_iload_n hx hb dX12_wrongSort_9 rfl (lv_at hl 1 rfl) ?_
    obtain ⟨r_7, h_6, h⟩ := b1_e h
    refine xcall (rV C0 hK hP hl.1 (fun _ _ _ => trivial) Bt_b (c_X12_wrongRow hI h_6) cv_X12_wrongRow tw1086 (rcX12 hK hP) (rest := []) rfl (Nat.le_of_ble_eq_true rfl) ⟨rfl, rfl, Nat.le_of_ble_eq_true rfl, Nat.le_of_ble_eq_true rfl⟩ ⟨Nat.zero_le _, Nat.zero_le _⟩ dX12_wrongSort_10) hS (fun H locs hP hS => ?_)
    refine lv_goto (tgt := 32) hx hb dX12_wrongSort_13 (by decide) ?_
    rw [hQ]
    exact xzretr C0 hP hS rfl h dX12_wrongSort_32
def f_X12_dress_L105  : Nat → Int32 → MMem → (Int32 → MMem → Option (Int32 × MMem)) → Option (Int32 × MMem)
  | 0, _, _, _ => none
  | n + 1, x3_25, σ_26, K2 =>
    if ((σ_26 0).1 20) ≤ x3_25 then
      some ((σ_26 0).1 20, σ_26)
    else
      b2 (f_X12_comes x3_25 σ_26) fun r_29 σ_30 =>
      if r_29 = 0 then
        K2 x3_25 σ_30
      else
        bnd (x3_25 + 1) fun (x3_32 : Int32) =>
        f_X12_dress_L105 n x3_32 σ_30 K2
def f_X12_dress_L51  : Nat → MMem → (MMem → Option (Int32 × MMem)) → Option (Int32 × MMem)
  | 0, _, _ => none
  | n + 1, σ_13, K1 =>
    if ((σ_13 0).1 19) = 0 then
      if ((σ_13 0).1 20) = 0 then
        b1 (f_X12_readStatement σ_13) fun σ_17 =>
        f_X12_dress_L51 n σ_17 K1
      else
        if ((σ_13 0).1 17) ≤ ((σ_13 0).1 18) then
          K1 σ_13
        else
          b1 (f_X12_readStatement σ_13) fun σ_20 =>
          f_X12_dress_L51 n σ_20 K1
    else
      K1 σ_13
def f_X12_dress (p1 : Int32) (σ : MMem) : Option (Int32 × MMem) :=
  bnd (uI σ 0 9 0) fun (σ_1 : MMem) =>
  b1 (f_X12_wrongSort p1 0 σ_1) fun r_3 =>
  if 0 ≤ r_3 then
    bnd (100 * p1) fun (y_5 : Int32) =>
    bnd (uI σ_1 0 16 y_5) fun (σ_6 : MMem) =>
    if p1 < 0 ∨ 8 ≤ p1.toNatClampNeg then none else
    bnd ((σ_6 18).1 p1.toNatClampNeg) fun (y_8 : Int32) =>
    bnd (uI σ_6 0 17 y_8) fun (σ_9 : MMem) =>
    bnd (uI σ_9 0 18 0) fun (σ_10 : MMem) =>
    bnd (uI σ_10 0 19 0) fun (σ_11 : MMem) =>
    bnd (uI σ_11 0 20 0) fun (σ_12 : MMem) =>
    f_X12_dress_L51 5000 σ_12 fun (σ_21 : MMem) =>
      if ((σ_21 0).1 19) = 0 then
        b1 (f_X12_open σ_21) fun σ_24 =>
        f_X12_dress_L105 5000 0 σ_24 fun (x3_33 : Int32) (σ_34 : MMem) =>
          b1 (f_X12_close σ_34) fun σ_36 =>
          if x3_33 < 0 ∨ 51 ≤ x3_33.toNatClampNeg then none else
          some ((-2000) - ((σ_36 7).1 x3_33.toNatClampNeg), σ_36)
      else
        some ((-1000) - ((σ_21 0).1 18), σ_21)
  else
    some (r_3, σ_1)
def rm_X12_dress : Room := { frames := 4, cells := 0, slots := 0, locals := 89 }
set_option maxHeartbeats 4000000 in
set_option maxRecDepth 100000 in
theorem c_X12_dress {l : Launch} {D : va_G} {ca : Nat → ClassId} {a : Nat → Nat} (hI : InjN 21 a) {p1 : Int32} {σ : MMem} {r : Int32} {σ' : MMem}  (h : f_X12_dress p1 σ = some (r, σ')) : XMM l D ca a Bt yX12_dress cX12_dress 4 (some .int) rm_X12_dress [.ref (a 0), .int p1] σ (some (.int r)) σ' := by
  refine XM.of pn_X12 (Nat.le_of_ble_eq_true rfl) ?_
  intro p e s m args below meth c ls Q hQ C0 hK hB hP hS hl
  have C0 : Cx p s m args meth c RX12 cX12_dress 4 (some .int) := C0
  have hx := C0.1
  have hb := C0.2.1
  have hl : lv_has ls 4 [(0, .ref (a 0)), (1, .int p1)] := hl
  rw [f_X12_dress] at h
  refine lv_aload_n hx hb dX12_dress_0 rfl (lv_at hl 0 rfl) ?_
  refine lv_iconst (v := 0) hx hb dX12_dress_1 (by decide) ?_
  obtain ⟨σ_1, eσ_1, h⟩ := bnd_e h
  refine pX12_9 C0 hK hP tw951 hI hS dX12_dress_2 (fun H locs hP hS => ?_)
  rw [← eσ_1] at hP
  refine lv_aload_n hx hb dX12_dress_5 rfl (lv_at hl 0 rfl) ?_
  refine lv_iload_n hx hb dX12_dress_6 rfl (lv_at hl 1 rfl) ?_
  refine lv_iconst (v := 0) hx hb dX12_dress_7 (by decide) ?_
  obtain ⟨r_3, h_2, h⟩ := b1_e h
  refine xcall (rV C0 hK hP hl.1 (fun _ _ _ => trivial) Bt_b (c_X12_wrongSort hI h_2) cv_X12_wrongSort tw1082 (rcX12 hK hP) (rest := []) rfl (Nat.le_of_ble_eq_true rfl) ⟨rfl, rfl, Nat.le_of_ble_eq_true rfl, Nat.le_of_ble_eq_true rfl⟩ ⟨Nat.zero_le _, Nat.zero_le _⟩ dX12_dress_8) hS (fun H locs hP hS => ?_)
  refine lv_istore_n (lv' := [(2, .int r_3), (0, .ref (a 0)), (1, .int p1)]) hx hb dX12_dress_11 rfl hl (by decide) rfl (fun ls hl => ?_)
  refine lv_iload_n hx hb dX12_dress_12 rfl (lv_at hl 0 rfl) ?_
  refine lv_if_ge (tgt := 18) hx hb dX12_dress_13 (by decide) (fun c_4 => ?_) (fun c_4 => ?_)
  · have h := it c_4 h
    refine lv_aload_n hx hb dX12_dress_18 rfl (lv_at hl 1 rfl) ?_
    refine lv_bipush (v := 100) hx hb dX12_dress_19 (by decide) ?_
    refine lv_iload_n hx hb dX12_dress_21 rfl (lv_at hl 2 rfl) ?_
    refine lv_imul hx hb dX12_dress_22 ?_
    obtain ⟨y_5, ey_5, h⟩ := bnd_e h
    refine nm_i ey_5 ?_
    obtain ⟨σ_6, eσ_6, h⟩ := bnd_e h
    refine pX12_16 C0 hK hP tw958 hI hS dX12_dress_23 (fun H locs hP hS => ?_)
    rw [← eσ_6] at hP
    refine lv_aload_n hx hb dX12_dress_26 rfl (lv_at hl 1 rfl) ?_
    refine lv_aload_n hx hb dX12_dress_27 rfl (lv_at hl 1 rfl) ?_
    refine gX12_35 C0 hK hP tw977 dX12_dress_28 ?_
    refine lv_iload_n hx hb dX12_dress_31 rfl (lv_at hl 2 rfl) ?_
    obtain ⟨b_7, h⟩ := ck h
    refine mald (i := 18) (N := 8) C0 hK hP (by decide) (by decide) rfl b_7 dX12_dress_32 ?_
    obtain ⟨y_8, ey_8, h⟩ := bnd_e h
    refine nm_i ey_8 ?_
    obtain ⟨σ_9, eσ_9, h⟩ := bnd_e h
    refine pX12_17 C0 hK hP tw959 hI hS dX12_dress_33 (fun H locs hP hS => ?_)
    rw [← eσ_9] at hP
    refine lv_aload_n hx hb dX12_dress_36 rfl (lv_at hl 1 rfl) ?_
    refine lv_iconst (v := 0) hx hb dX12_dress_37 (by decide) ?_
    obtain ⟨σ_10, eσ_10, h⟩ := bnd_e h
    refine pX12_18 C0 hK hP tw960 hI hS dX12_dress_38 (fun H locs hP hS => ?_)
    rw [← eσ_10] at hP
    refine lv_aload_n hx hb dX12_dress_41 rfl (lv_at hl 1 rfl) ?_
    refine lv_iconst (v := 0) hx hb dX12_dress_42 (by decide) ?_
    obtain ⟨σ_11, eσ_11, h⟩ := bnd_e h
    refine pX12_19 C0 hK hP tw961 hI hS (by decide) dX12_dress_43 (fun H locs hP hS => ?_)
    rw [← eσ_11] at hP
    refine lv_aload_n hx hb dX12_dress_46 rfl (lv_at hl 1 rfl) ?_
    refine lv_iconst (v := 0) hx hb dX12_dress_47 (by decide) ?_
    obtain ⟨σ_12, eσ_12, h⟩ := bnd_e h
    refine pX12_20 C0 hK hP tw962 hI hS dX12_dress_48 (fun H locs hP hS => ?_)
    rw [← eσ_12] at hP
    obtain ⟨K1, eK1, h⟩ := lp_e (f := fun K => f_X12_dress_L51 5000 σ_12 K) h
    have h : f_X12_dress_L51 5000 σ_12 K1 = some (r, σ') := h
    have hX1 : ∀ (σ_21 : MMem) (H : Heap) (locs : List Loc) (ls : Array Slot), K1 σ_21 = some (r, σ') → va_P D vwCl (wM ca a σ_21) H → va_S (AW 21 a) s.heap H locs → lv_has ls 4 [(0, .ref (a 0))] → W p l e rm_X12_dress s m args below meth c H locs 0 0 Q (F0 m 83 ls []) := by
      intro σ_21 H locs ls h hP hS hl
      have h := ap1 eK1 h
      refine lv_aload_n hx hb dX12_dress_83 rfl (lv_at hl 0 rfl) ?_
      refine gX12_19 C0 hK hP tw961 dX12_dress_84 ?_
      refine lv_if_eq (tgt := 99) hx hb dX12_dress_87 (by decide) (fun c_22 => ?_) (fun c_22 => ?_)
      · have h := it c_22 h
        refine lv_aload_n hx hb dX12_dress_99 rfl (lv_at hl 0 rfl) ?_
        obtain ⟨σ_24, h_23, h⟩ := b1_e h
        refine xcall (rV C0 hK hP hl.1 (fun _ _ _ => trivial) Bt_b (c_X12_open hI h_23) cv_X12_open tw1116 (rcX12 hK hP) (rest := []) rfl (Nat.le_of_ble_eq_true rfl) ⟨rfl, rfl, Nat.le_of_ble_eq_true rfl, Nat.le_of_ble_eq_true rfl⟩ ⟨Nat.zero_le _, Nat.zero_le _⟩ dX12_dress_100) hS (fun H locs hP hS => ?_)
        refine lv_iconst (v := 0) hx hb dX12_dress_103 (by decide) ?_
        refine lv_istore_n (lv' := [(3, .int 0), (0, .ref (a 0))]) hx hb dX12_dress_104 rfl hl (by decide) rfl (fun ls hl => ?_)
        obtain ⟨K2, eK2, h⟩ := lp_e (f := fun K => f_X12_dress_L105 5000 0 σ_24 K) h
        have h : f_X12_dress_L105 5000 0 σ_24 K2 = some (r, σ') := h
        have hX2 : ∀ (x3_33 : Int32) (σ_34 : MMem) (H : Heap) (locs : List Loc) (ls : Array Slot), K2 x3_33 σ_34 = some (r, σ') → va_P D vwCl (wM ca a σ_34) H → va_S (AW 21 a) s.heap H locs → lv_has ls 4 [(0, .ref (a 0)), (3, .int x3_33)] → W p l e rm_X12_dress s m args below meth c H locs 0 0 Q (F0 m 121 ls []) := by
          intro x3_33 σ_34 H locs ls h hP hS hl
          have h := ap2 eK2 h
          refine lv_aload_n hx hb dX12_dress_121 rfl (lv_at hl 0 rfl) ?_
          obtain ⟨σ_36, h_35, h⟩ := b1_e h
          refine xcall (rV C0 hK hP hl.1 (fun _ _ _ => trivial) Bt_b (c_X12_close hI h_35) cv_X12_close tw1150 (rcX12 hK hP) (rest := []) rfl (Nat.le_of_ble_eq_true rfl) ⟨rfl, rfl, Nat.le_of_ble_eq_true rfl, Nat.le_of_ble_eq_true rfl⟩ ⟨Nat.zero_le _, Nat.zero_le _⟩ dX12_dress_122) hS (fun H locs hP hS => ?_)
          refine lv_sipush (v := (-2000)) hx hb dX12_dress_125 (by decide) ?_
          refine lv_aload_n hx hb dX12_dress_128 rfl (lv_at hl 0 rfl) ?_
          refine gX12_21 C0 hK hP tw963 dX12_dress_129 ?_
          refine lv_iload_n hx hb dX12_dress_132 rfl (lv_at hl 1 rfl) ?_
          obtain ⟨b_37, h⟩ := ck h
          refine mald (i := 7) (N := 51) C0 hK hP (by decide) (by decide) rfl b_37 dX12_dress_133 ?_
          refine lv_isub hx hb dX12_dress_134 ?_
          rw [hQ]
          exact xzret C0 hP hS rfl h dX12_dress_135
        have hL2 : ∀ (n : Nat) (x3_25 : Int32) (σ_26 : MMem) (H : Heap) (locs : List Loc) (ls : Array Slot), f_X12_dress_L105 n x3_25 σ_26 K2 = some (r, σ') → va_P D vwCl (wM ca a σ_26) H → va_S (AW 21 a) s.heap H locs → lv_has ls 4 [(0, .ref (a 0)), (3, .int x3_25)] → W p l e rm_X12_dress s m args below meth c H locs 0 0 Q (F0 m 105 ls []) := by
          intro n
          induction n with
          | zero => intro x3_25 σ_26 H locs ls h; rw [f_X12_dress_L105] at h; cases h
          | succ n ih2 =>
            intro x3_25 σ_26 H locs ls h hP hS hl
            rw [f_X12_dress_L105] at h
            refine lv_iload_n hx hb dX12_dress_105 rfl (lv_at hl 1 rfl) ?_
            refine lv_aload_n hx hb dX12_dress_106 rfl (lv_at hl 0 rfl) ?_
            refine gX12_20 C0 hK hP tw962 dX12_dress_107 ?_
            refine lv_icmp_ge (tgt := 142) hx hb dX12_dress_110 (by decide) (fun c_27 => ?_) (fun c_27 => ?_)
            · have h := it c_27 h
              refine lv_aload_n hx hb dX12_dress_142 rfl (lv_at hl 0 rfl) ?_
              refine gX12_20 C0 hK hP tw962 dX12_dress_143 ?_
              rw [hQ]
              exact xzret C0 hP hS rfl h dX12_dress_146
            · have h := ie c_27 h
              refine lv_aload_n hx hb dX12_dress_113 rfl (lv_at hl 0 rfl) ?_
              refine lv_iload_n hx hb dX12_dress_114 rfl (lv_at hl 1 rfl) ?_
              obtain ⟨r_29, σ_30, h_28, h⟩ := b2_e h
              refine xcall (rV C0 hK hP hl.1 (fun _ _ _ => trivial) Bt_b (c_X12_comes hI h_28) cv_X12_comes tw1120 (rcX12 hK hP) (rest := []) rfl (Nat.le_of_ble_eq_true rfl) ⟨rfl, rfl, Nat.le_of_ble_eq_true rfl, Nat.le_of_ble_eq_true rfl⟩ ⟨Nat.zero_le _, Nat.zero_le _⟩ dX12_dress_115) hS (fun H locs hP hS => ?_)
              refine lv_if_ne (tgt := 136) hx hb dX12_dress_118 (by decide) (fun c_31 => ?_) (fun c_31 => ?_)
              · have h := ie c_31 h
                obtain ⟨x3_32, ex3_32, h⟩ := bnd_e h
                refine lv_iinc (v := x3_32) (lv' := [(3, .int x3_32), (0, .ref (a 0))]) hx hb dX12_dress_136 hl (k := 1) rfl (by rw [ex3_32]; rfl) (by decide) rfl (fun ls hl => ?_)
                refine lv_goto (tgt := 105) hx hb dX12_dress_139 (by decide) ?_
                exact ih2 x3_32 σ_30 _ _ ls h hP hS (lv_sub hl [1, 0] rfl)
              · have h := it c_31 h
                exact hX2 x3_25 σ_30 _ _ ls h hP hS (lv_sub hl [0, 1] rfl)
        exact hL2 5000 0 σ_24 _ _ ls h hP hS (lv_sub hl [1, 0] rfl)
      · have h := ie c_22 h
        refine lv_sipush (v := (-1000)) hx hb dX12_dress_90 (by decide) ?_
        refine lv_aload_n hx hb dX12_dress_93 rfl (lv_at hl 0 rfl) ?_
        refine gX12_18 C0 hK hP tw960 dX12_dress_94 ?_
        refine lv_isub hx hb dX12_dress_97 ?_
        rw [hQ]
        exact xzret C0 hP hS rfl h dX12_dress_98
    have hL1 : ∀ (n : Nat) (σ_13 : MMem) (H : Heap) (locs : List Loc) (ls : Array Slot), f_X12_dress_L51 n σ_13 K1 = some (r, σ') → va_P D vwCl (wM ca a σ_13) H → va_S (AW 21 a) s.heap H locs → lv_has ls 4 [(0, .ref (a 0))] → W p l e rm_X12_dress s m args below meth c H locs 0 0 Q (F0 m 51 ls []) := by
      intro n
      induction n with
      | zero => intro σ_13 H locs ls h; rw [f_X12_dress_L51] at h; cases h
      | succ n ih1 =>
        intro σ_13 H locs ls h hP hS hl
        rw [f_X12_dress_L51] at h
        refine lv_aload_n hx hb dX12_dress_51 rfl (lv_at hl 0 rfl) ?_
        refine gX12_19 C0 hK hP tw961 dX12_dress_52 ?_
        refine lv_if_ne (tgt := 83) hx hb dX12_dress_55 (by decide) (fun c_14 => ?_) (fun c_14 => ?_)
        · have h := ie c_14 h
          exact hX1 σ_13 _ _ ls h hP hS (lv_sub hl [0] rfl)
        · have h := it c_14 h
          refine lv_aload_n hx hb dX12_dress_58 rfl (lv_at hl 0 rfl) ?_
          refine gX12_20 C0 hK hP tw962 dX12_dress_59 ?_
          refine lv_if_eq (tgt := 76) hx hb dX12_dress_62 (by decide) (fun c_15 => ?_) (fun c_15 => ?_)
          · have h := it c_15 h
            refine lv_aload_n hx hb dX12_dress_76 rfl (lv_at hl 0 rfl) ?_
            obtain ⟨σ_17, h_16, h⟩ := b1_e h
            refine xcall (rV C0 hK hP hl.1 (fun _ _ _ => trivial) Bt_b (c_X12_readStatement hI h_16) cv_X12_readStatement tw1094 (rcX12 hK hP) (rest := []) rfl (Nat.le_of_ble_eq_true rfl) ⟨rfl, rfl, Nat.le_of_ble_eq_true rfl, Nat.le_of_ble_eq_true rfl⟩ ⟨Nat.zero_le _, Nat.zero_le _⟩ dX12_dress_77) hS (fun H locs hP hS => ?_)
            refine lv_goto (tgt := 51) hx hb dX12_dress_80 (by decide) ?_
            exact ih1 σ_17 _ _ ls h hP hS (lv_sub hl [0] rfl)
          · have h := ie c_15 h
            refine lv_aload_n hx hb dX12_dress_65 rfl (lv_at hl 0 rfl) ?_
            refine gX12_18 C0 hK hP tw960 dX12_dress_66 ?_
            refine lv_aload_n hx hb dX12_dress_69 rfl (lv_at hl 0 rfl) ?_
            refine gX12_17 C0 hK hP tw959 dX12_dress_70 ?_
            refine lv_icmp_ge (tgt := 83) hx hb dX12_dress_73 (by decide) (fun c_18 => ?_) (fun c_18 => ?_)
            · have h := it c_18 h
              exact hX1 σ_13 _ _ ls h hP hS (lv_sub hl [0] rfl)
            · have h := ie c_18 h
              refine lv_aload_n hx hb dX12_dress_76 rfl (lv_at hl 0 rfl) ?_
              obtain ⟨σ_20, h_19, h⟩ := b1_e h
              refine xcall (rV C0 hK hP hl.1 (fun _ _ _ => trivial) Bt_b (c_X12_readStatement hI h_19) cv_X12_readStatement tw1094 (rcX12 hK hP) (rest := []) rfl (Nat.le_of_ble_eq_true rfl) ⟨rfl, rfl, Nat.le_of_ble_eq_true rfl, Nat.le_of_ble_eq_true rfl⟩ ⟨Nat.zero_le _, Nat.zero_le _⟩ dX12_dress_77) hS (fun H locs hP hS => ?_)
              refine lv_goto (tgt := 51) hx hb dX12_dress_80 (by decide) ?_
              exact ih1 σ_20 _ _ ls h hP hS (lv_sub hl [0] rfl)
    exact hL1 5000 σ_12 _ _ ls h hP hS (lv_sub hl [1] rfl)
  · have h := ie c_4 h
    refine lv_iload_n hx hb dX12_dress_16 rfl (lv_at hl 0 rfl) ?_
    rw [hQ]
    exact xzret C0 hP hS rfl h dX12_dress_17
def f_X12_ring (p1 : Int32) (p2 : Int32) (σ : MMem) : Option (Int32 × MMem) :=
  bnd (uI σ 0 9 0) fun (σ_1 : MMem) =>
  b1 (f_X12_isRing p1 σ_1) fun r_3 =>
  if r_3 = 0 then
    some ((-1), σ_1)
  else
    b1 (f_X12_in p2.toInt64 0 3) fun r_6 =>
    if r_6 = 0 then
      some ((-1), σ_1)
    else
      if p2 = 0 then
        if p1 < 0 ∨ 6 ≤ p1.toNatClampNeg then none else
        some ((σ_1 1).1 p1.toNatClampNeg, σ_1)
      else
        if p2 = 1 then
          if p1 < 0 ∨ 6 ≤ p1.toNatClampNeg then none else
          some ((σ_1 2).1 p1.toNatClampNeg, σ_1)
        else
          if p2 = 2 then
            if p1 < 0 ∨ 6 ≤ p1.toNatClampNeg then none else
            some ((σ_1 3).1 p1.toNatClampNeg, σ_1)
          else
            if p1 < 0 ∨ 6 ≤ p1.toNatClampNeg then none else
            some ((σ_1 4).1 p1.toNatClampNeg, σ_1)
def rm_X12_ring : Room := { frames := 2, cells := 0, slots := 0, locals := 46 }
set_option maxHeartbeats 4000000 in
set_option maxRecDepth 100000 in
theorem c_X12_ring {l : Launch} {D : va_G} {ca : Nat → ClassId} {a : Nat → Nat} (hI : InjN 21 a) {p1 : Int32} {p2 : Int32} {σ : MMem} {r : Int32} {σ' : MMem}  (h : f_X12_ring p1 p2 σ = some (r, σ')) : XMM l D ca a Bt yX12_ring cX12_ring 3 (some .int) rm_X12_ring [.ref (a 0), .int p1, .int p2] σ (some (.int r)) σ' := by
  refine XM.of pn_X12 (Nat.le_of_ble_eq_true rfl) ?_
  intro p e s m args below meth c ls Q hQ C0 hK hB hP hS hl
  have C0 : Cx p s m args meth c RX12 cX12_ring 3 (some .int) := C0
  have hx := C0.1
  have hb := C0.2.1
  have hl : lv_has ls 3 [(0, .ref (a 0)), (1, .int p1), (2, .int p2)] := hl
  rw [f_X12_ring] at h
  refine lv_aload_n hx hb dX12_ring_0 rfl (lv_at hl 0 rfl) ?_
  refine lv_iconst (v := 0) hx hb dX12_ring_1 (by decide) ?_
  obtain ⟨σ_1, eσ_1, h⟩ := bnd_e h
  refine pX12_9 C0 hK hP tw951 hI hS dX12_ring_2 (fun H locs hP hS => ?_)
  rw [← eσ_1] at hP
  refine lv_aload_n hx hb dX12_ring_5 rfl (lv_at hl 0 rfl) ?_
  refine lv_iload_n hx hb dX12_ring_6 rfl (lv_at hl 1 rfl) ?_
  obtain ⟨r_3, h_2, h⟩ := b1_e h
  refine xcall (rV C0 hK hP hl.1 (fun _ _ _ => trivial) Bt_b (c_X12_isRing hI h_2) cv_X12_isRing tw1128 (rcX12 hK hP) (rest := []) rfl (Nat.le_of_ble_eq_true rfl) ⟨rfl, rfl, Nat.le_of_ble_eq_true rfl, Nat.le_of_ble_eq_true rfl⟩ ⟨Nat.zero_le _, Nat.zero_le _⟩ dX12_ring_7) hS (fun H locs hP hS => ?_)
  refine lv_if_eq (tgt := 25) hx hb dX12_ring_10 (by decide) (fun c_4 => ?_) (fun c_4 => ?_)
  · have h := it c_4 h
    refine lv_iconst (v := (-1)) hx hb dX12_ring_25 (by decide) ?_
    rw [hQ]
    exact xzret C0 hP hS rfl h dX12_ring_26
  · have h := ie c_4 h
    refine lv_iload_n hx hb dX12_ring_13 rfl (lv_at hl 2 rfl) ?_
    refine lv_i2l (v := p2.toInt64) hx hb dX12_ring_14 rfl ?_
    refine lv_lconst (v := 0) hx hb dX12_ring_15 (by decide) ?_
    refine lv_ldc2 (v := 3) hx hb C0.2.2.2.1 (C0.2.2.2.2.1 _ tw1158) dX12_ring_16 ?_
    obtain ⟨r_6, h_5, h⟩ := b1_e h
    refine xcall (rS C0 hK hP hl.1 (fun _ _ _ => trivial) Bt_b (c_X12_in hI h_5) cs_X12_in tw1091 (rest := []) rfl (Nat.le_of_ble_eq_true rfl) ⟨rfl, rfl, Nat.le_of_ble_eq_true rfl, Nat.le_of_ble_eq_true rfl⟩ ⟨Nat.zero_le _, Nat.zero_le _⟩ dX12_ring_19) hS (fun H locs hP hS => ?_)
    refine lv_if_ne (tgt := 27) hx hb dX12_ring_22 (by decide) (fun c_7 => ?_) (fun c_7 => ?_)
    · have h := ie c_7 h
      refine lv_iload_n hx hb dX12_ring_27 rfl (lv_at hl 2 rfl) ?_
      refine lv_if_ne (tgt := 40) hx hb dX12_ring_28 (by decide) (fun c_8 => ?_) (fun c_8 => ?_)
      · have h := ie c_8 h
        refine lv_iload_n hx hb dX12_ring_40 rfl (lv_at hl 2 rfl) ?_
        refine lv_iconst (v := 1) hx hb dX12_ring_41 (by decide) ?_
        refine lv_icmp_ne (tgt := 54) hx hb dX12_ring_42 (by decide) (fun c_9 => ?_) (fun c_9 => ?_)
        · have h := ie c_9 h
          refine lv_iload_n hx hb dX12_ring_54 rfl (lv_at hl 2 rfl) ?_
          refine lv_iconst (v := 2) hx hb dX12_ring_55 (by decide) ?_
          refine lv_icmp_ne (tgt := 68) hx hb dX12_ring_56 (by decide) (fun c_10 => ?_) (fun c_10 => ?_)
          · have h := ie c_10 h
            refine lv_aload_n hx hb dX12_ring_68 rfl (lv_at hl 0 rfl) ?_
            refine gX12_8 C0 hK hP tw950 dX12_ring_69 ?_
            refine lv_iload_n hx hb dX12_ring_72 rfl (lv_at hl 1 rfl) ?_
            obtain ⟨b_11, h⟩ := ck h
            refine mald (i := 4) (N := 6) C0 hK hP (by decide) (by decide) rfl b_11 dX12_ring_73 ?_
            rw [hQ]
            exact xzret C0 hP hS rfl h dX12_ring_74
          · have h := it c_10 h
            refine lv_aload_n hx hb dX12_ring_59 rfl (lv_at hl 0 rfl) ?_
            refine gX12_7 C0 hK hP tw949 dX12_ring_60 ?_
            refine lv_iload_n hx hb dX12_ring_63 rfl (lv_at hl 1 rfl) ?_
            obtain ⟨b_12, h⟩ := ck h
            refine mald (i := 3) (N := 6) C0 hK hP (by decide) (by decide) rfl b_12 dX12_ring_64 ?_
            refine lv_goto (tgt := 74) hx hb dX12_ring_65 (by decide) ?_
            rw [hQ]
            exact xzret C0 hP hS rfl h dX12_ring_74
        · have h := it c_9 h
          refine lv_aload_n hx hb dX12_ring_45 rfl (lv_at hl 0 rfl) ?_
          refine gX12_6 C0 hK hP tw948 dX12_ring_46 ?_
          refine lv_iload_n hx hb dX12_ring_49 rfl (lv_at hl 1 rfl) ?_
          obtain ⟨b_13, h⟩ := ck h
          refine mald (i := 2) (N := 6) C0 hK hP (by decide) (by decide) rfl b_13 dX12_ring_50 ?_
          refine lv_goto (tgt := 74) hx hb dX12_ring_51 (by decide) ?_
          rw [hQ]
          exact xzret C0 hP hS rfl h dX12_ring_74
      · have h := it c_8 h
        refine lv_aload_n hx hb dX12_ring_31 rfl (lv_at hl 0 rfl) ?_
        refine gX12_5 C0 hK hP tw947 dX12_ring_32 ?_
        refine lv_iload_n hx hb dX12_ring_35 rfl (lv_at hl 1 rfl) ?_
        obtain ⟨b_14, h⟩ := ck h
        refine mald (i := 1) (N := 6) C0 hK hP (by decide) (by decide) rfl b_14 dX12_ring_36 ?_
        refine lv_goto (tgt := 74) hx hb dX12_ring_37 (by decide) ?_
        rw [hQ]
        exact xzret C0 hP hS rfl h dX12_ring_74
    · have h := it c_7 h
      refine lv_iconst (v := (-1)) hx hb dX12_ring_25 (by decide) ?_
      rw [hQ]
      exact xzret C0 hP hS rfl h dX12_ring_26
def f_X12_line (p1 : Int32) (p2 : Int32) (σ : MMem) : Option (Int32 × MMem) :=
  bnd (uI σ 0 9 0) fun (σ_1 : MMem) =>
  b1 (f_X12_in p1.toInt64 0 1) fun r_3 =>
  if r_3 = 0 then
    some ((-1), σ_1)
  else
    jn (fun (v_5 : Int64) (σ_6 : MMem) =>
      b1 (f_X12_in p2.toInt64 0 v_5) fun r_8 =>
      if r_8 = 0 then
        some ((-1), σ_6)
      else
        jn (fun (v_10 : Int32) (σ_11 : MMem) =>
          jn (fun (v_12 : Int32) (σ_13 : MMem) =>
            bnd (uI σ_13 0 3 v_12) fun (σ_14 : MMem) =>
            if p1 = 1 then
              bnd (uI σ_14 0 4 p2) fun (σ_18 : MMem) =>
              some (v_10, σ_18)
            else
              bnd ((σ_14 0).1 4) fun (y_16 : Int32) =>
              bnd (uI σ_14 0 4 y_16) fun (σ_17 : MMem) =>
              some (v_10, σ_17)) fun J68 =>
          if p1 = 0 then
            J68 p2 σ_11
          else
            J68 ((σ_11 0).1 3) σ_11) fun J54 =>
        if p1 = 0 then
          J54 ((σ_6 0).1 3) σ_6
        else
          J54 ((σ_6 0).1 4) σ_6) fun J31 =>
    if p1 = 0 then
      J31 9 σ_1
    else
      J31 30 σ_1
def rm_X12_line : Room := { frames := 1, cells := 0, slots := 0, locals := 25 }
set_option maxHeartbeats 4000000 in
set_option maxRecDepth 100000 in
theorem c_X12_line {l : Launch} {D : va_G} {ca : Nat → ClassId} {a : Nat → Nat} (hI : InjN 21 a) {p1 : Int32} {p2 : Int32} {σ : MMem} {r : Int32} {σ' : MMem}  (h : f_X12_line p1 p2 σ = some (r, σ')) : XMM l D ca a Bt yX12_line cX12_line 4 (some .int) rm_X12_line [.ref (a 0), .int p1, .int p2] σ (some (.int r)) σ' := by
  refine XM.of pn_X12 (Nat.le_of_ble_eq_true rfl) ?_
  intro p e s m args below meth c ls Q hQ C0 hK hB hP hS hl
  have C0 : Cx p s m args meth c RX12 cX12_line 4 (some .int) := C0
  have hx := C0.1
  have hb := C0.2.1
  have hl : lv_has ls 4 [(0, .ref (a 0)), (1, .int p1), (2, .int p2)] := hl
  rw [f_X12_line] at h
  refine lv_aload_n hx hb dX12_line_0 rfl (lv_at hl 0 rfl) ?_
  refine lv_iconst (v := 0) hx hb dX12_line_1 (by decide) ?_
  obtain ⟨σ_1, eσ_1, h⟩ := bnd_e h
  refine pX12_9 C0 hK hP tw951 hI hS dX12_line_2 (fun H locs hP hS => ?_)
  rw [← eσ_1] at hP
  refine lv_iload_n hx hb dX12_line_5 rfl (lv_at hl 1 rfl) ?_
  refine lv_i2l (v := p1.toInt64) hx hb dX12_line_6 rfl ?_
  refine lv_lconst (v := 0) hx hb dX12_line_7 (by decide) ?_
  refine lv_lconst (v := 1) hx hb dX12_line_8 (by decide) ?_
  obtain ⟨r_3, h_2, h⟩ := b1_e h
  refine xcall (rS C0 hK hP hl.1 (fun _ _ _ => trivial) Bt_b (c_X12_in hI h_2) cs_X12_in tw1091 (rest := []) rfl (Nat.le_of_ble_eq_true rfl) ⟨rfl, rfl, Nat.le_of_ble_eq_true rfl, Nat.le_of_ble_eq_true rfl⟩ ⟨Nat.zero_le _, Nat.zero_le _⟩ dX12_line_9) hS (fun H locs hP hS => ?_)
  refine lv_if_eq (tgt := 37) hx hb dX12_line_12 (by decide) (fun c_4 => ?_) (fun c_4 => ?_)
  · have h := it c_4 h
    refine lv_iconst (v := (-1)) hx hb dX12_line_37 (by decide) ?_
    rw [hQ]
    exact xzret C0 hP hS rfl h dX12_line_38
  · have h := ie c_4 h
    refine lv_iload_n hx hb dX12_line_15 rfl (lv_at hl 2 rfl) ?_
    refine lv_i2l (v := p2.toInt64) hx hb dX12_line_16 rfl ?_
    refine lv_lconst (v := 0) hx hb dX12_line_17 (by decide) ?_
    refine lv_iload_n hx hb dX12_line_18 rfl (lv_at hl 1 rfl) ?_
    obtain ⟨J31, eJ31, h⟩ := jn_e h
    have hJ31 : ∀ (v_5 : Int64) (σ_6 : MMem) (H : Heap) (locs : List Loc) (ls : Array Slot), J31 v_5 σ_6 = some (r, σ') → va_P D vwCl (wM ca a σ_6) H → va_S (AW 21 a) s.heap H locs → lv_has ls 4 [(0, .ref (a 0)), (1, .int p1), (2, .int p2)] → W p l e rm_X12_line s m args below meth c H locs 0 0 Q (F0 m 31 ls [.long v_5, .long 0, .long p2.toInt64]) := by
      intro v_5 σ_6 H locs ls h hP hS hl
      have h := ap2 eJ31 h
      obtain ⟨r_8, h_7, h⟩ := b1_e h
      refine xcall (rS C0 hK hP hl.1 (fun _ _ _ => trivial) Bt_b (c_X12_in hI h_7) cs_X12_in tw1091 (rest := []) rfl (Nat.le_of_ble_eq_true rfl) ⟨rfl, rfl, Nat.le_of_ble_eq_true rfl, Nat.le_of_ble_eq_true rfl⟩ ⟨Nat.zero_le _, Nat.zero_le _⟩ dX12_line_31) hS (fun H locs hP hS => ?_)
      refine lv_if_ne (tgt := 39) hx hb dX12_line_34 (by decide) (fun c_9 => ?_) (fun c_9 => ?_)
      · have h := ie c_9 h
        refine lv_iload_n hx hb dX12_line_39 rfl (lv_at hl 1 rfl) ?_
        obtain ⟨J54, eJ54, h⟩ := jn_e h
        have hJ54 : ∀ (v_10 : Int32) (σ_11 : MMem) (H : Heap) (locs : List Loc) (ls : Array Slot), J54 v_10 σ_11 = some (r, σ') → va_P D vwCl (wM ca a σ_11) H → va_S (AW 21 a) s.heap H locs → lv_has ls 4 [(0, .ref (a 0)), (1, .int p1), (2, .int p2)] → W p l e rm_X12_line s m args below meth c H locs 0 0 Q (F0 m 54 ls [.int v_10]) := by
          intro v_10 σ_11 H locs ls h hP hS hl
          have h := ap2 eJ54 h
          refine lv_istore_n (lv' := [(3, .int v_10), (0, .ref (a 0)), (1, .int p1), (2, .int p2)]) hx hb dX12_line_54 rfl hl (by decide) rfl (fun ls hl => ?_)
          refine lv_aload_n hx hb dX12_line_55 rfl (lv_at hl 1 rfl) ?_
          refine lv_iload_n hx hb dX12_line_56 rfl (lv_at hl 2 rfl) ?_
          obtain ⟨J68, eJ68, h⟩ := jn_e h
          have hJ68 : ∀ (v_12 : Int32) (σ_13 : MMem) (H : Heap) (locs : List Loc) (ls : Array Slot), J68 v_12 σ_13 = some (r, σ') → va_P D vwCl (wM ca a σ_13) H → va_S (AW 21 a) s.heap H locs → lv_has ls 4 [(0, .ref (a 0)), (1, .int p1), (2, .int p2), (3, .int v_10)] → W p l e rm_X12_line s m args below meth c H locs 0 0 Q (F0 m 68 ls [.int v_12, .ref (a 0)]) := by
            intro v_12 σ_13 H locs ls h hP hS hl
            have h := ap2 eJ68 h
            obtain ⟨σ_14, eσ_14, h⟩ := bnd_e h
            refine pX12_3 C0 hK hP tw945 hI hS dX12_line_68 (fun H locs hP hS => ?_)
            rw [← eσ_14] at hP
            refine lv_aload_n hx hb dX12_line_71 rfl (lv_at hl 0 rfl) ?_
            refine lv_iload_n hx hb dX12_line_72 rfl (lv_at hl 1 rfl) ?_
            refine lv_iconst (v := 1) hx hb dX12_line_73 (by decide) ?_
            refine lv_icmp_ne (tgt := 81) hx hb dX12_line_74 (by decide) (fun c_15 => ?_) (fun c_15 => ?_)
            · have h := ie c_15 h
              refine lv_aload_n hx hb dX12_line_81 rfl (lv_at hl 0 rfl) ?_
              refine gX12_4 C0 hK hP tw946 dX12_line_82 ?_
              obtain ⟨y_16, ey_16, h⟩ := bnd_e h
              refine nm_i ey_16 ?_
              obtain ⟨σ_17, eσ_17, h⟩ := bnd_e h
              refine pX12_4 C0 hK hP tw946 hI hS dX12_line_85 (fun H locs hP hS => ?_)
              rw [← eσ_17] at hP
              refine lv_iload_n hx hb dX12_line_88 rfl (lv_at hl 3 rfl) ?_
              rw [hQ]
              exact xzret C0 hP hS rfl h dX12_line_89
            · have h := it c_15 h
              refine lv_iload_n hx hb dX12_line_77 rfl (lv_at hl 2 rfl) ?_
              refine lv_goto (tgt := 85) hx hb dX12_line_78 (by decide) ?_
              obtain ⟨σ_18, eσ_18, h⟩ := bnd_e h
              refine pX12_4 C0 hK hP tw946 hI hS dX12_line_85 (fun H locs hP hS => ?_)
              rw [← eσ_18] at hP
              refine lv_iload_n hx hb dX12_line_88 rfl (lv_at hl 3 rfl) ?_
              rw [hQ]
              exact xzret C0 hP hS rfl h dX12_line_89
          refine lv_if_ne (tgt := 64) hx hb dX12_line_57 (by decide) (fun c_19 => ?_) (fun c_19 => ?_)
          · have h := ie c_19 h
            refine lv_aload_n hx hb dX12_line_64 rfl (lv_at hl 1 rfl) ?_
            refine gX12_3 C0 hK hP tw945 dX12_line_65 ?_
            exact hJ68 ((σ_11 0).1 3) σ_11 _ _ ls h hP hS (lv_sub hl [1, 2, 3, 0] rfl)
          · have h := it c_19 h
            refine lv_iload_n hx hb dX12_line_60 rfl (lv_at hl 3 rfl) ?_
            refine lv_goto (tgt := 68) hx hb dX12_line_61 (by decide) ?_
            exact hJ68 p2 σ_11 _ _ ls h hP hS (lv_sub hl [1, 2, 3, 0] rfl)
        refine lv_if_ne (tgt := 50) hx hb dX12_line_40 (by decide) (fun c_20 => ?_) (fun c_20 => ?_)
        · have h := ie c_20 h
          refine lv_aload_n hx hb dX12_line_50 rfl (lv_at hl 0 rfl) ?_
          refine gX12_4 C0 hK hP tw946 dX12_line_51 ?_
          exact hJ54 ((σ_6 0).1 4) σ_6 _ _ ls h hP hS (lv_sub hl [0, 1, 2] rfl)
        · have h := it c_20 h
          refine lv_aload_n hx hb dX12_line_43 rfl (lv_at hl 0 rfl) ?_
          refine gX12_3 C0 hK hP tw945 dX12_line_44 ?_
          refine lv_goto (tgt := 54) hx hb dX12_line_47 (by decide) ?_
          exact hJ54 ((σ_6 0).1 3) σ_6 _ _ ls h hP hS (lv_sub hl [0, 1, 2] rfl)
      · have h := it c_9 h
        refine lv_iconst (v := (-1)) hx hb dX12_line_37 (by decide) ?_
        rw [hQ]
        exact xzret C0 hP hS rfl h dX12_line_38
    refine lv_if_ne (tgt := 28) hx hb dX12_line_19 (by decide) (fun c_21 => ?_) (fun c_21 => ?_)
    · have h := ie c_21 h
      refine lv_ldc2 (v := 30) hx hb C0.2.2.2.1 (C0.2.2.2.2.1 _ tw1164) dX12_line_28 ?_
      exact hJ31 30 σ_1 _ _ ls h hP hS (lv_sub hl [0, 1, 2] rfl)
    · have h := it c_21 h
      refine lv_ldc2 (v := 9) hx hb C0.2.2.2.1 (C0.2.2.2.2.1 _ tw1163) dX12_line_22 ?_
      refine lv_goto (tgt := 31) hx hb dX12_line_25 (by decide) ?_
      exact hJ31 9 σ_1 _ _ ls h hP hS (lv_sub hl [0, 1, 2] rfl)
def f_X12_wrongPin (p1 : Int32) (σ : MMem) : Option (Int32) :=
  b1 (f_X12_in p1.toInt64 0 7) fun r_2 =>
  if r_2 = 0 then
    some (-1)
  else
    if p1 < 0 ∨ 8 ≤ p1.toNatClampNeg then none else
    if ((σ 14).1 p1.toNatClampNeg) = 0 then
      some (-11)
    else
      if p1 < 0 ∨ 8 ≤ p1.toNatClampNeg then none else
      if ((σ 14).1 p1.toNatClampNeg) = 1 then
        some 0
      else
        some (-12)
def rm_X12_wrongPin : Room := { frames := 1, cells := 0, slots := 0, locals := 25 }
set_option maxHeartbeats 4000000 in
set_option maxRecDepth 100000 in
theorem c_X12_wrongPin {l : Launch} {D : va_G} {ca : Nat → ClassId} {a : Nat → Nat} (hI : InjN 21 a) {p1 : Int32} {σ : MMem} {r : Int32}  (h : f_X12_wrongPin p1 σ = some r) : XMM l D ca a Bt yX12_wrongPin cX12_wrongPin 2 (some .int) rm_X12_wrongPin [.ref (a 0), .int p1] σ (some (.int r)) σ := by
  refine XM.of pn_X12 (Nat.le_of_ble_eq_true rfl) ?_
  intro p e s m args below meth c ls Q hQ C0 hK hB hP hS hl
  have C0 : Cx p s m args meth c RX12 cX12_wrongPin 2 (some .int) := C0
  have hx := C0.1
  have hb := C0.2.1
  have hl : lv_has ls 2 [(0, .ref (a 0)), (1, .int p1)] := hl
  rw [f_X12_wrongPin] at h
  refine lv_iload_n hx hb dX12_wrongPin_0 rfl (lv_at hl 1 rfl) ?_
  refine lv_i2l (v := p1.toInt64) hx hb dX12_wrongPin_1 rfl ?_
  refine lv_lconst (v := 0) hx hb dX12_wrongPin_2 (by decide) ?_
  refine lv_ldc2 (v := 7) hx hb C0.2.2.2.1 (C0.2.2.2.2.1 _ tw1090) dX12_wrongPin_3 ?_
  obtain ⟨r_2, h_1, h⟩ := b1_e h
  refine xcall (rS C0 hK hP hl.1 (fun _ _ _ => trivial) Bt_b (c_X12_in hI h_1) cs_X12_in tw1091 (rest := []) rfl (Nat.le_of_ble_eq_true rfl) ⟨rfl, rfl, Nat.le_of_ble_eq_true rfl, Nat.le_of_ble_eq_true rfl⟩ ⟨Nat.zero_le _, Nat.zero_le _⟩ dX12_wrongPin_6) hS (fun H locs hP hS => ?_)
  refine lv_if_ne (tgt := 16) hx hb dX12_wrongPin_9 (by decide) (fun c_3 => ?_) (fun c_3 => ?_)
  · have h := ie c_3 h
    refine lv_aload_n hx hb dX12_wrongPin_16 rfl (lv_at hl 0 rfl) ?_
    refine gX12_31 C0 hK hP tw973 dX12_wrongPin_17 ?_
    refine lv_iload_n hx hb dX12_wrongPin_20 rfl (lv_at hl 1 rfl) ?_
    obtain ⟨b_4, h⟩ := ck h
    refine mald (i := 14) (N := 8) C0 hK hP (by decide) (by decide) rfl b_4 dX12_wrongPin_21 ?_
    refine lv_if_ne (tgt := 30) hx hb dX12_wrongPin_22 (by decide) (fun c_5 => ?_) (fun c_5 => ?_)
    · have h := ie c_5 h
      refine lv_aload_n hx hb dX12_wrongPin_30 rfl (lv_at hl 0 rfl) ?_
      refine gX12_31 C0 hK hP tw973 dX12_wrongPin_31 ?_
      refine lv_iload_n hx hb dX12_wrongPin_34 rfl (lv_at hl 1 rfl) ?_
      obtain ⟨b_6, h⟩ := ck h
      refine mald (i := 14) (N := 8) C0 hK hP (by decide) (by decide) rfl b_6 dX12_wrongPin_35 ?_
      refine lv_iconst (v := 1) hx hb dX12_wrongPin_36 (by decide) ?_
      refine lv_icmp_eq (tgt := 45) hx hb dX12_wrongPin_37 (by decide) (fun c_7 => ?_) (fun c_7 => ?_)
      · have h := it c_7 h
        refine lv_iconst (v := 0) hx hb dX12_wrongPin_45 (by decide) ?_
        rw [hQ]
        exact xzretr C0 hP hS rfl h dX12_wrongPin_46
      · have h := ie c_7 h
        refine lv_bipush (v := (-12)) hx hb dX12_wrongPin_40 (by decide) ?_
        refine lv_goto (tgt := 46) hx hb dX12_wrongPin_42 (by decide) ?_
        rw [hQ]
        exact xzretr C0 hP hS rfl h dX12_wrongPin_46
    · have h := it c_5 h
      refine lv_bipush (v := (-11)) hx hb dX12_wrongPin_25 (by decide) ?_
      refine lv_goto (tgt := 46) hx hb dX12_wrongPin_27 (by decide) ?_
      rw [hQ]
      exact xzretr C0 hP hS rfl h dX12_wrongPin_46
  · have h := it c_3 h
    refine lv_iconst (v := (-1)) hx hb dX12_wrongPin_12 (by decide) ?_
    refine lv_goto (tgt := 46) hx hb dX12_wrongPin_13 (by decide) ?_
    rw [hQ]
    exact xzretr C0 hP hS rfl h dX12_wrongPin_46
def f_X12_may (p1 : Int32) (p2 : Int32) (σ : MMem) : Option (Int32 × MMem) :=
  bnd (uI σ 0 9 0) fun (σ_1 : MMem) =>
  b1 (f_X12_isRing p2 σ_1) fun r_3 =>
  jn (fun (v_4 : Int32) (σ_5 : MMem) =>
    if 0 ≤ v_4 then
      if p1 < 0 ∨ 8 ≤ p1.toNatClampNeg then none else
      if p1 < 0 ∨ 8 ≤ p1.toNatClampNeg then none else
      bnd ((σ_5 15).1 p1.toNatClampNeg) fun (y_9 : Int32) =>
      bnd ((σ_5 16).1 p1.toNatClampNeg) fun (y_10 : Int32) =>
      b1 (f_X12_mayBe y_9 y_10 p2 σ_5) fun r_12 =>
      if r_12 = 0 then
        some (0, σ_5)
      else
        some (1, σ_5)
    else
      some (v_4, σ_5)) fun J22 =>
  if r_3 = 0 then
    J22 (-1) σ_1
  else
    b1 (f_X12_wrongPin p1 σ_1) fun r_16 =>
    J22 r_16 σ_1
def rm_X12_may : Room := { frames := 2, cells := 0, slots := 0, locals := 46 }
set_option maxHeartbeats 4000000 in
set_option maxRecDepth 100000 in
theorem c_X12_may {l : Launch} {D : va_G} {ca : Nat → ClassId} {a : Nat → Nat} (hI : InjN 21 a) {p1 : Int32} {p2 : Int32} {σ : MMem} {r : Int32} {σ' : MMem}  (h : f_X12_may p1 p2 σ = some (r, σ')) : XMM l D ca a Bt yX12_may cX12_may 4 (some .int) rm_X12_may [.ref (a 0), .int p1, .int p2] σ (some (.int r)) σ' := by
  refine XM.of pn_X12 (Nat.le_of_ble_eq_true rfl) ?_
  intro p e s m args below meth c ls Q hQ C0 hK hB hP hS hl
  have C0 : Cx p s m args meth c RX12 cX12_may 4 (some .int) := C0
  have hx := C0.1
  have hb := C0.2.1
  have hl : lv_has ls 4 [(0, .ref (a 0)), (1, .int p1), (2, .int p2)] := hl
  rw [f_X12_may] at h
  refine lv_aload_n hx hb dX12_may_0 rfl (lv_at hl 0 rfl) ?_
  refine lv_iconst (v := 0) hx hb dX12_may_1 (by decide) ?_
  obtain ⟨σ_1, eσ_1, h⟩ := bnd_e h
  refine pX12_9 C0 hK hP tw951 hI hS dX12_may_2 (fun H locs hP hS => ?_)
  rw [← eσ_1] at hP
  refine lv_aload_n hx hb dX12_may_5 rfl (lv_at hl 0 rfl) ?_
  refine lv_iload_n hx hb dX12_may_6 rfl (lv_at hl 2 rfl) ?_
  obtain ⟨r_3, h_2, h⟩ := b1_e h
  refine xcall (rV C0 hK hP hl.1 (fun _ _ _ => trivial) Bt_b (c_X12_isRing hI h_2) cv_X12_isRing tw1128 (rcX12 hK hP) (rest := []) rfl (Nat.le_of_ble_eq_true rfl) ⟨rfl, rfl, Nat.le_of_ble_eq_true rfl, Nat.le_of_ble_eq_true rfl⟩ ⟨Nat.zero_le _, Nat.zero_le _⟩ dX12_may_7) hS (fun H locs hP hS => ?_)
  obtain ⟨J22, eJ22, h⟩ := jn_e h
  have hJ22 : ∀ (v_4 : Int32) (σ_5 : MMem) (H : Heap) (locs : List Loc) (ls : Array Slot), J22 v_4 σ_5 = some (r, σ') → va_P D vwCl (wM ca a σ_5) H → va_S (AW 21 a) s.heap H locs → lv_has ls 4 [(0, .ref (a 0)), (1, .int p1), (2, .int p2)] → W p l e rm_X12_may s m args below meth c H locs 0 0 Q (F0 m 22 ls [.int v_4]) := by
    intro v_4 σ_5 H locs ls h hP hS hl
    have h := ap2 eJ22 h
    refine lv_istore_n (lv' := [(3, .int v_4), (0, .ref (a 0)), (1, .int p1), (2, .int p2)]) hx hb dX12_may_22 rfl hl (by decide) rfl (fun ls hl => ?_)
    refine lv_iload_n hx hb dX12_may_23 rfl (lv_at hl 0 rfl) ?_
    refine lv_if_ge (tgt := 29) hx hb dX12_may_24 (by decide) (fun c_6 => ?_) (fun c_6 => ?_)
    · have h := it c_6 h
      refine lv_aload_n hx hb dX12_may_29 rfl (lv_at hl 1 rfl) ?_
      refine lv_aload_n hx hb dX12_may_30 rfl (lv_at hl 1 rfl) ?_
      refine gX12_32 C0 hK hP tw974 dX12_may_31 ?_
      refine lv_iload_n hx hb dX12_may_34 rfl (lv_at hl 2 rfl) ?_
      obtain ⟨b_7, h⟩ := ck h
      refine mald (i := 15) (N := 8) C0 hK hP (by decide) (by decide) rfl b_7 dX12_may_35 ?_
      refine lv_aload_n hx hb dX12_may_36 rfl (lv_at hl 1 rfl) ?_
      refine gX12_33 C0 hK hP tw975 dX12_may_37 ?_
      refine lv_iload_n hx hb dX12_may_40 rfl (lv_at hl 2 rfl) ?_
      obtain ⟨b_8, h⟩ := ck h
      refine mald (i := 16) (N := 8) C0 hK hP (by decide) (by decide) rfl b_8 dX12_may_41 ?_
      refine lv_iload_n hx hb dX12_may_42 rfl (lv_at hl 3 rfl) ?_
      obtain ⟨y_9, ey_9, h⟩ := bnd_e h
      rw [← ey_9]
      obtain ⟨y_10, ey_10, h⟩ := bnd_e h
      rw [← ey_10]
      obtain ⟨r_12, h_11, h⟩ := b1_e h
      refine xcall (rV C0 hK hP hl.1 (fun _ _ _ => trivial) Bt_b (c_X12_mayBe hI h_11) cv_X12_mayBe tw1132 (rcX12 hK hP) (rest := []) rfl (Nat.le_of_ble_eq_true rfl) ⟨rfl, rfl, Nat.le_of_ble_eq_true rfl, Nat.le_of_ble_eq_true rfl⟩ ⟨Nat.zero_le _, Nat.zero_le _⟩ dX12_may_43) hS (fun H locs hP hS => ?_)
      refine lv_if_eq (tgt := 53) hx hb dX12_may_46 (by decide) (fun c_13 => ?_) (fun c_13 => ?_)
      · have h := it c_13 h
        refine lv_iconst (v := 0) hx hb dX12_may_53 (by decide) ?_
        rw [hQ]
        exact xzret C0 hP hS rfl h dX12_may_54
      · have h := ie c_13 h
        refine lv_iconst (v := 1) hx hb dX12_may_49 (by decide) ?_
        refine lv_goto (tgt := 54) hx hb dX12_may_50 (by decide) ?_
        rw [hQ]
        exact xzret C0 hP hS rfl h dX12_may_54
    · have h := ie c_6 h
      refine lv_iload_n hx hb dX12_may_27 rfl (lv_at hl 0 rfl) ?_
      rw [hQ]
      exact xzret C0 hP hS rfl h dX12_may_28
  refine lv_if_eq (tgt := 21) hx hb dX12_may_10 (by decide) (fun c_14 => ?_) (fun c_14 => ?_)
  · have h := it c_14 h
    refine lv_iconst (v := (-1)) hx hb dX12_may_21 (by decide) ?_
    exact hJ22 (-1) σ_1 _ _ ls h hP hS (lv_sub hl [0, 1, 2] rfl)
  · have h := ie c_14 h
    refine lv_aload_n hx hb dX12_may_13 rfl (lv_at hl 0 rfl) ?_
    refine lv_iload_n hx hb dX12_may_14 rfl (lv_at hl 1 rfl) ?_
    obtain ⟨r_16, h_15, h⟩ := b1_e h
    refine xcall (rV C0 hK hP hl.1 (fun _ _ _ => trivial) Bt_b (c_X12_wrongPin hI h_15) cv_X12_wrongPin tw1169 (rcX12 hK hP) (rest := []) rfl (Nat.le_of_ble_eq_true rfl) ⟨rfl, rfl, Nat.le_of_ble_eq_true rfl, Nat.le_of_ble_eq_true rfl⟩ ⟨Nat.zero_le _, Nat.zero_le _⟩ dX12_may_15) hS (fun H locs hP hS => ?_)
    refine lv_goto (tgt := 22) hx hb dX12_may_18 (by decide) ?_
    exact hJ22 r_16 σ_1 _ _ ls h hP hS (lv_sub hl [0, 1, 2] rfl)
def f_X12_pin (p1 : Int32) (p2 : Int32) (σ : MMem) : Option (Int32 × MMem) :=
  bnd (uI σ 0 9 0) fun (σ_1 : MMem) =>
  b1 (f_X12_isRing p2 σ_1) fun r_3 =>
  jn (fun (v_4 : Int32) (σ_5 : MMem) =>
    if 0 ≤ v_4 then
      if p1 < 0 ∨ 8 ≤ p1.toNatClampNeg then none else
      if p1 < 0 ∨ 8 ≤ p1.toNatClampNeg then none else
      bnd ((σ_5 15).1 p1.toNatClampNeg) fun (y_9 : Int32) =>
      bnd ((σ_5 16).1 p1.toNatClampNeg) fun (y_10 : Int32) =>
      b1 (f_X12_mayBe y_9 y_10 p2 σ_5) fun r_12 =>
      if r_12 = 0 then
        some ((-3), σ_5)
      else
        if p1 < 0 ∨ 8 ≤ p1.toNatClampNeg then none else
        if p1 < 0 ∨ 8 ≤ p1.toNatClampNeg then none else
        bnd ((σ_5 15).1 p1.toNatClampNeg) fun (y_16 : Int32) =>
        bnd ((σ_5 16).1 p1.toNatClampNeg) fun (y_17 : Int32) =>
        b1 (f_X12_does y_16 y_17 p2 σ_5) fun σ_19 =>
        b1 (f_X12_lacksNow σ_19) fun r_21 =>
        some (r_21, σ_19)
    else
      some (v_4, σ_5)) fun J22 =>
  if r_3 = 0 then
    J22 (-1) σ_1
  else
    b1 (f_X12_wrongPin p1 σ_1) fun r_24 =>
    J22 r_24 σ_1
def rm_X12_pin : Room := { frames := 3, cells := 0, slots := 0, locals := 67 }
set_option maxHeartbeats 4000000 in
set_option maxRecDepth 100000 in
theorem c_X12_pin {l : Launch} {D : va_G} {ca : Nat → ClassId} {a : Nat → Nat} (hI : InjN 21 a) {p1 : Int32} {p2 : Int32} {σ : MMem} {r : Int32} {σ' : MMem}  (h : f_X12_pin p1 p2 σ = some (r, σ')) : XMM l D ca a Bt yX12_pin cX12_pin 4 (some .int) rm_X12_pin [.ref (a 0), .int p1, .int p2] σ (some (.int r)) σ' := by
  refine XM.of pn_X12 (Nat.le_of_ble_eq_true rfl) ?_
  intro p e s m args below meth c ls Q hQ C0 hK hB hP hS hl
  have C0 : Cx p s m args meth c RX12 cX12_pin 4 (some .int) := C0
  have hx := C0.1
  have hb := C0.2.1
  have hl : lv_has ls 4 [(0, .ref (a 0)), (1, .int p1), (2, .int p2)] := hl
  rw [f_X12_pin] at h
  refine lv_aload_n hx hb dX12_pin_0 rfl (lv_at hl 0 rfl) ?_
  refine lv_iconst (v := 0) hx hb dX12_pin_1 (by decide) ?_
  obtain ⟨σ_1, eσ_1, h⟩ := bnd_e h
  refine pX12_9 C0 hK hP tw951 hI hS dX12_pin_2 (fun H locs hP hS => ?_)
  rw [← eσ_1] at hP
  refine lv_aload_n hx hb dX12_pin_5 rfl (lv_at hl 0 rfl) ?_
  refine lv_iload_n hx hb dX12_pin_6 rfl (lv_at hl 2 rfl) ?_
  obtain ⟨r_3, h_2, h⟩ := b1_e h
  refine xcall (rV C0 hK hP hl.1 (fun _ _ _ => trivial) Bt_b (c_X12_isRing hI h_2) cv_X12_isRing tw1128 (rcX12 hK hP) (rest := []) rfl (Nat.le_of_ble_eq_true rfl) ⟨rfl, rfl, Nat.le_of_ble_eq_true rfl, Nat.le_of_ble_eq_true rfl⟩ ⟨Nat.zero_le _, Nat.zero_le _⟩ dX12_pin_7) hS (fun H locs hP hS => ?_)
  obtain ⟨J22, eJ22, h⟩ := jn_e h
  have hJ22 : ∀ (v_4 : Int32) (σ_5 : MMem) (H : Heap) (locs : List Loc) (ls : Array Slot), J22 v_4 σ_5 = some (r, σ') → va_P D vwCl (wM ca a σ_5) H → va_S (AW 21 a) s.heap H locs → lv_has ls 4 [(0, .ref (a 0)), (1, .int p1), (2, .int p2)] → W p l e rm_X12_pin s m args below meth c H locs 0 0 Q (F0 m 22 ls [.int v_4]) := by
    intro v_4 σ_5 H locs ls h hP hS hl
    have h := ap2 eJ22 h
    refine lv_istore_n (lv' := [(3, .int v_4), (0, .ref (a 0)), (1, .int p1), (2, .int p2)]) hx hb dX12_pin_22 rfl hl (by decide) rfl (fun ls hl => ?_)
    refine lv_iload_n hx hb dX12_pin_23 rfl (lv_at hl 0 rfl) ?_
    refine lv_if_ge (tgt := 29) hx hb dX12_pin_24 (by decide) (fun c_6 => ?_) (fun c_6 => ?_)
    · have h := it c_6 h
      refine lv_aload_n hx hb dX12_pin_29 rfl (lv_at hl 1 rfl) ?_
      refine lv_aload_n hx hb dX12_pin_30 rfl (lv_at hl 1 rfl) ?_
      refine gX12_32 C0 hK hP tw974 dX12_pin_31 ?_
      refine lv_iload_n hx hb dX12_pin_34 rfl (lv_at hl 2 rfl) ?_
      obtain ⟨b_7, h⟩ := ck h
      refine mald (i := 15) (N := 8) C0 hK hP (by decide) (by decide) rfl b_7 dX12_pin_35 ?_
      refine lv_aload_n hx hb dX12_pin_36 rfl (lv_at hl 1 rfl) ?_
      refine gX12_33 C0 hK hP tw975 dX12_pin_37 ?_
      refine lv_iload_n hx hb dX12_pin_40 rfl (lv_at hl 2 rfl) ?_
      obtain ⟨b_8, h⟩ := ck h
      refine mald (i := 16) (N := 8) C0 hK hP (by decide) (by decide) rfl b_8 dX12_pin_41 ?_
      refine lv_iload_n hx hb dX12_pin_42 rfl (lv_at hl 3 rfl) ?_
      obtain ⟨y_9, ey_9, h⟩ := bnd_e h
      rw [← ey_9]
      obtain ⟨y_10, ey_10, h⟩ := bnd_e h
      rw [← ey_10]
      obtain ⟨r_12, h_11, h⟩ := b1_e h
      refine xcall (rV C0 hK hP hl.1 (fun _ _ _ => trivial) Bt_b (c_X12_mayBe hI h_11) cv_X12_mayBe tw1132 (rcX12 hK hP) (rest := []) rfl (Nat.le_of_ble_eq_true rfl) ⟨rfl, rfl, Nat.le_of_ble_eq_true rfl, Nat.le_of_ble_eq_true rfl⟩ ⟨Nat.zero_le _, Nat.zero_le _⟩ dX12_pin_43) hS (fun H locs hP hS => ?_)
      refine lv_if_ne (tgt := 52) hx hb dX12_pin_46 (by decide) (fun c_13 => ?_) (fun c_13 => ?_)
      · have h := ie c_13 h
        refine lv_aload_n hx hb dX12_pin_52 rfl (lv_at hl 1 rfl) ?_
        refine lv_aload_n hx hb dX12_pin_53 rfl (lv_at hl 1 rfl) ?_
        refine gX12_32 C0 hK hP tw974 dX12_pin_54 ?_
        refine lv_iload_n hx hb dX12_pin_57 rfl (lv_at hl 2 rfl) ?_
        obtain ⟨b_14, h⟩ := ck h
        refine mald (i := 15) (N := 8) C0 hK hP (by decide) (by decide) rfl b_14 dX12_pin_58 ?_
        refine lv_aload_n hx hb dX12_pin_59 rfl (lv_at hl 1 rfl) ?_
        refine gX12_33 C0 hK hP tw975 dX12_pin_60 ?_
        refine lv_iload_n hx hb dX12_pin_63 rfl (lv_at hl 2 rfl) ?_
        obtain ⟨b_15, h⟩ := ck h
        refine mald (i := 16) (N := 8) C0 hK hP (by decide) (by decide) rfl b_15 dX12_pin_64 ?_
        refine lv_iload_n hx hb dX12_pin_65 rfl (lv_at hl 3 rfl) ?_
        obtain ⟨y_16, ey_16, h⟩ := bnd_e h
        rw [← ey_16]
        obtain ⟨y_17, ey_17, h⟩ := bnd_e h
        rw [← ey_17]
        obtain ⟨σ_19, h_18, h⟩ := b1_e h
        refine xcall (rV C0 hK hP hl.1 (fun _ _ _ => trivial) Bt_b (c_X12_does hI h_18) cv_X12_does tw1136 (rcX12 hK hP) (rest := []) rfl (Nat.le_of_ble_eq_true rfl) ⟨rfl, rfl, Nat.le_of_ble_eq_true rfl, Nat.le_of_ble_eq_true rfl⟩ ⟨Nat.zero_le _, Nat.zero_le _⟩ dX12_pin_66) hS (fun H locs hP hS => ?_)
        refine lv_aload_n hx hb dX12_pin_69 rfl (lv_at hl 1 rfl) ?_
        obtain ⟨r_21, h_20, h⟩ := b1_e h
        refine xcall (rV C0 hK hP hl.1 (fun _ _ _ => trivial) Bt_b (c_X12_lacksNow hI h_20) cv_X12_lacksNow tw1177 (rcX12 hK hP) (rest := []) rfl (Nat.le_of_ble_eq_true rfl) ⟨rfl, rfl, Nat.le_of_ble_eq_true rfl, Nat.le_of_ble_eq_true rfl⟩ ⟨Nat.zero_le _, Nat.zero_le _⟩ dX12_pin_70) hS (fun H locs hP hS => ?_)
        rw [hQ]
        exact xzret C0 hP hS rfl h dX12_pin_73
      · have h := it c_13 h
        refine lv_bipush (v := (-3)) hx hb dX12_pin_49 (by decide) ?_
        rw [hQ]
        exact xzret C0 hP hS rfl h dX12_pin_51
    · have h := ie c_6 h
      refine lv_iload_n hx hb dX12_pin_27 rfl (lv_at hl 0 rfl) ?_
      rw [hQ]
      exact xzret C0 hP hS rfl h dX12_pin_28
  refine lv_if_eq (tgt := 21) hx hb dX12_pin_10 (by decide) (fun c_22 => ?_) (fun c_22 => ?_)
  · have h := it c_22 h
    refine lv_iconst (v := (-1)) hx hb dX12_pin_21 (by decide) ?_
    exact hJ22 (-1) σ_1 _ _ ls h hP hS (lv_sub hl [0, 1, 2] rfl)
  · have h := ie c_22 h
    refine lv_aload_n hx hb dX12_pin_13 rfl (lv_at hl 0 rfl) ?_
    refine lv_iload_n hx hb dX12_pin_14 rfl (lv_at hl 1 rfl) ?_
    obtain ⟨r_24, h_23, h⟩ := b1_e h
    refine xcall (rV C0 hK hP hl.1 (fun _ _ _ => trivial) Bt_b (c_X12_wrongPin hI h_23) cv_X12_wrongPin tw1169 (rcX12 hK hP) (rest := []) rfl (Nat.le_of_ble_eq_true rfl) ⟨rfl, rfl, Nat.le_of_ble_eq_true rfl, Nat.le_of_ble_eq_true rfl⟩ ⟨Nat.zero_le _, Nat.zero_le _⟩ dX12_pin_15) hS (fun H locs hP hS => ?_)
    refine lv_goto (tgt := 22) hx hb dX12_pin_18 (by decide) ?_
    exact hJ22 r_24 σ_1 _ _ ls h hP hS (lv_sub hl [0, 1, 2] rfl)
def f_X12_ease (p1 : Int32) (p2 : Int32) (σ : MMem) : Option (Int32 × MMem) :=
  bnd (uI σ 0 9 0) fun (σ_1 : MMem) =>
  b1 (f_X12_isRing p1 σ_1) fun r_3 =>
  if r_3 = 0 then
    some ((-1000000001), σ_1)
  else
    b1 (f_X12_in p2.toInt64 0 3) fun r_6 =>
    if r_6 = 0 then
      some ((-1000000001), σ_1)
    else
      b1 (f_X12_easeOf p1 p2 σ_1) fun r_9 =>
      some (r_9, σ_1)
def rm_X12_ease : Room := { frames := 2, cells := 0, slots := 0, locals := 46 }
set_option maxHeartbeats 4000000 in
set_option maxRecDepth 100000 in
theorem c_X12_ease {l : Launch} {D : va_G} {ca : Nat → ClassId} {a : Nat → Nat} (hI : InjN 21 a) {p1 : Int32} {p2 : Int32} {σ : MMem} {r : Int32} {σ' : MMem}  (h : f_X12_ease p1 p2 σ = some (r, σ')) : XMM l D ca a Bt yX12_ease cX12_ease 3 (some .int) rm_X12_ease [.ref (a 0), .int p1, .int p2] σ (some (.int r)) σ' := by
  refine XM.of pn_X12 (Nat.le_of_ble_eq_true rfl) ?_
  intro p e s m args below meth c ls Q hQ C0 hK hB hP hS hl
  have C0 : Cx p s m args meth c RX12 cX12_ease 3 (some .int) := C0
  have hx := C0.1
  have hb := C0.2.1
  have hl : lv_has ls 3 [(0, .ref (a 0)), (1, .int p1), (2, .int p2)] := hl
  rw [f_X12_ease] at h
  refine lv_aload_n hx hb dX12_ease_0 rfl (lv_at hl 0 rfl) ?_
  refine lv_iconst (v := 0) hx hb dX12_ease_1 (by decide) ?_
  obtain ⟨σ_1, eσ_1, h⟩ := bnd_e h
  refine pX12_9 C0 hK hP tw951 hI hS dX12_ease_2 (fun H locs hP hS => ?_)
  rw [← eσ_1] at hP
  refine lv_aload_n hx hb dX12_ease_5 rfl (lv_at hl 0 rfl) ?_
  refine lv_iload_n hx hb dX12_ease_6 rfl (lv_at hl 1 rfl) ?_
  obtain ⟨r_3, h_2, h⟩ := b1_e h
  refine xcall (rV C0 hK hP hl.1 (fun _ _ _ => trivial) Bt_b (c_X12_isRing hI h_2) cv_X12_isRing tw1128 (rcX12 hK hP) (rest := []) rfl (Nat.le_of_ble_eq_true rfl) ⟨rfl, rfl, Nat.le_of_ble_eq_true rfl, Nat.le_of_ble_eq_true rfl⟩ ⟨Nat.zero_le _, Nat.zero_le _⟩ dX12_ease_7) hS (fun H locs hP hS => ?_)
  refine lv_if_eq (tgt := 34) hx hb dX12_ease_10 (by decide) (fun c_4 => ?_) (fun c_4 => ?_)
  · have h := it c_4 h
    refine lv_ldc (v := (-1000000001)) hx hb C0.2.2.2.1 (C0.2.2.2.2.1 _ tw1189) dX12_ease_34 ?_
    rw [hQ]
    exact xzret C0 hP hS rfl h dX12_ease_36
  · have h := ie c_4 h
    refine lv_iload_n hx hb dX12_ease_13 rfl (lv_at hl 2 rfl) ?_
    refine lv_i2l (v := p2.toInt64) hx hb dX12_ease_14 rfl ?_
    refine lv_lconst (v := 0) hx hb dX12_ease_15 (by decide) ?_
    refine lv_ldc2 (v := 3) hx hb C0.2.2.2.1 (C0.2.2.2.2.1 _ tw1158) dX12_ease_16 ?_
    obtain ⟨r_6, h_5, h⟩ := b1_e h
    refine xcall (rS C0 hK hP hl.1 (fun _ _ _ => trivial) Bt_b (c_X12_in hI h_5) cs_X12_in tw1091 (rest := []) rfl (Nat.le_of_ble_eq_true rfl) ⟨rfl, rfl, Nat.le_of_ble_eq_true rfl, Nat.le_of_ble_eq_true rfl⟩ ⟨Nat.zero_le _, Nat.zero_le _⟩ dX12_ease_19) hS (fun H locs hP hS => ?_)
    refine lv_if_eq (tgt := 34) hx hb dX12_ease_22 (by decide) (fun c_7 => ?_) (fun c_7 => ?_)
    · have h := it c_7 h
      refine lv_ldc (v := (-1000000001)) hx hb C0.2.2.2.1 (C0.2.2.2.2.1 _ tw1189) dX12_ease_34 ?_
      rw [hQ]
      exact xzret C0 hP hS rfl h dX12_ease_36
    · have h := ie c_7 h
      refine lv_aload_n hx hb dX12_ease_25 rfl (lv_at hl 0 rfl) ?_
      refine lv_iload_n hx hb dX12_ease_26 rfl (lv_at hl 1 rfl) ?_
      refine lv_iload_n hx hb dX12_ease_27 rfl (lv_at hl 2 rfl) ?_
      obtain ⟨r_9, h_8, h⟩ := b1_e h
      refine xcall (rV C0 hK hP hl.1 (fun _ _ _ => trivial) Bt_b (c_X12_easeOf hI h_8) cv_X12_easeOf tw1181 (rcX12 hK hP) (rest := []) rfl (Nat.le_of_ble_eq_true rfl) ⟨rfl, rfl, Nat.le_of_ble_eq_true rfl, Nat.le_of_ble_eq_true rfl⟩ ⟨Nat.zero_le _, Nat.zero_le _⟩ dX12_ease_28) hS (fun H locs hP hS => ?_)
      refine lv_goto (tgt := 36) hx hb dX12_ease_31 (by decide) ?_
      rw [hQ]
      exact xzret C0 hP hS rfl h dX12_ease_36
def f_X12_fit_L39 (p1 : Int32) (x3_6 : Int32) : Nat → Int32 → Int32 → MMem → (Int32 → Int32 → MMem → Option (Int32 × MMem)) → Option (Int32 × MMem)
  | 0, _, _, _, _ => none
  | n + 1, x4_9, x5_10, σ_11, K2 =>
    if 4 ≤ x5_10 then
      K2 x4_9 x5_10 σ_11
    else
      if x4_9 = 0 then
        bnd (x5_10 + 1) fun (x5_14 : Int32) =>
        f_X12_fit_L39 p1 x3_6 n 0 x5_14 σ_11 K2
      else
        jn (fun (σ_15 : MMem) =>
          b1 (f_X12_fits x3_6 x5_10 σ_15) fun r_17 =>
          if r_17 = 0 then
            bnd (x5_10 + 1) fun (x5_19 : Int32) =>
            f_X12_fit_L39 p1 x3_6 n 0 x5_19 σ_15 K2
          else
            bnd (x5_10 + 1) fun (x5_20 : Int32) =>
            f_X12_fit_L39 p1 x3_6 n 1 x5_20 σ_15 K2) fun J60 =>
        if p1 < 0 then
          J60 σ_11
        else
          if x5_10 = p1 then
            J60 σ_11
          else
            bnd (x5_10 + 1) fun (x5_23 : Int32) =>
            f_X12_fit_L39 p1 x3_6 n 1 x5_23 σ_11 K2
def f_X12_fit_L25 (p1 : Int32) : Nat → Int32 → Int32 → MMem → (Int32 → Int32 → MMem → Option (Int32 × MMem)) → Option (Int32 × MMem)
  | 0, _, _, _, _ => none
  | n + 1, x2_5, x3_6, σ_7, K1 =>
    if ((σ_7 0).1 0) ≤ x3_6 then
      K1 x2_5 x3_6 σ_7
    else
      f_X12_fit_L39 p1 x3_6 5000 1 0 σ_7 fun (x4_24 : Int32) (u_25 : Int32) (σ_26 : MMem) =>
        if x4_24 = 0 then
          bnd (x2_5 ||| 0) fun (x2_28 : Int32) =>
          bnd (x3_6 + 1) fun (x3_29 : Int32) =>
          f_X12_fit_L25 p1 n x2_28 x3_29 σ_26 K1
        else
          bnd (x2_5 ||| (1 <<< (x3_6 &&& 31))) fun (x2_30 : Int32) =>
          bnd (x3_6 + 1) fun (x3_31 : Int32) =>
          f_X12_fit_L25 p1 n x2_30 x3_31 σ_26 K1
def f_X12_fit (p1 : Int32) (σ : MMem) : Option (Int32 × MMem) :=
  bnd (uI σ 0 9 0) fun (σ_1 : MMem) =>
  b1 (f_X12_in p1.toInt64 (-1) 3) fun r_3 =>
  if r_3 = 0 then
    some ((-1), σ_1)
  else
    f_X12_fit_L25 p1 5000 0 0 σ_1 fun (x2_32 : Int32) (u_33 : Int32) (σ_34 : MMem) =>
      some (x2_32, σ_34)
def rm_X12_fit : Room := { frames := 2, cells := 0, slots := 0, locals := 46 }
set_option maxHeartbeats 4000000 in
set_option maxRecDepth 100000 in
theorem c_X12_fit {l : Launch} {D : va_G} {ca : Nat → ClassId} {a : Nat → Nat} (hI : InjN 21 a) {p1 : Int32} {σ : MMem} {r : Int32} {σ' : MMem}  (h : f_X12_fit p1 σ = some (r, σ')) : XMM l D ca a Bt yX12_fit cX12_fit 6 (some .int) rm_X12_fit [.ref (a 0), .int p1] σ (some (.int r)) σ' := by
  refine XM.of pn_X12 (Nat.le_of_ble_eq_true rfl) ?_
  intro p e s m args below meth c ls Q hQ C0 hK hB hP hS hl
  have C0 : Cx p s m args meth c RX12 cX12_fit 6 (some .int) := C0
  have hx := C0.1
  have hb := C0.2.1
  have hl : lv_has ls 6 [(0, .ref (a 0)), (1, .int p1)] := hl
  rw [f_X12_fit] at h
  refine lv_aload_n hx hb dX12_fit_0 rfl (lv_at hl 0 rfl) ?_
  refine lv_iconst (v := 0) hx hb dX12_fit_1 (by decide) ?_
  obtain ⟨σ_1, eσ_1, h⟩ := bnd_e h
  refine pX12_9 C0 hK hP tw951 hI hS dX12_fit_2 (fun H locs hP hS => ?_)
  rw [← eσ_1] at hP
  refine lv_iload_n hx hb dX12_fit_5 rfl (lv_at hl 1 rfl) ?_
  refine lv_i2l (v := p1.toInt64) hx hb dX12_fit_6 rfl ?_
  refine lv_ldc2 (v := (-1)) hx hb C0.2.2.2.1 (C0.2.2.2.2.1 _ tw1194) dX12_fit_7 ?_
  refine lv_ldc2 (v := 3) hx hb C0.2.2.2.1 (C0.2.2.2.2.1 _ tw1158) dX12_fit_10 ?_
  obtain ⟨r_3, h_2, h⟩ := b1_e h
  refine xcall (rS C0 hK hP hl.1 (fun _ _ _ => trivial) Bt_b (c_X12_in hI h_2) cs_X12_in tw1091 (rest := []) rfl (Nat.le_of_ble_eq_true rfl) ⟨rfl, rfl, Nat.le_of_ble_eq_true rfl, Nat.le_of_ble_eq_true rfl⟩ ⟨Nat.zero_le _, Nat.zero_le _⟩ dX12_fit_13) hS (fun H locs hP hS => ?_)
  refine lv_if_ne (tgt := 21) hx hb dX12_fit_16 (by decide) (fun c_4 => ?_) (fun c_4 => ?_)
  · have h := ie c_4 h
    refine lv_iconst (v := 0) hx hb dX12_fit_21 (by decide) ?_
    refine lv_istore_n (lv' := [(2, .int 0), (0, .ref (a 0)), (1, .int p1)]) hx hb dX12_fit_22 rfl hl (by decide) rfl (fun ls hl => ?_)
    refine lv_iconst (v := 0) hx hb dX12_fit_23 (by decide) ?_
    refine lv_istore_n (lv' := [(3, .int 0), (2, .int 0), (0, .ref (a 0)), (1, .int p1)]) hx hb dX12_fit_24 rfl hl (by decide) rfl (fun ls hl => ?_)
    obtain ⟨K1, eK1, h⟩ := lp_e (f := fun K => f_X12_fit_L25 p1 5000 0 0 σ_1 K) h
    have h : f_X12_fit_L25 p1 5000 0 0 σ_1 K1 = some (r, σ') := h
    have hX1 : ∀ (x2_32 : Int32) (u_33 : Int32) (σ_34 : MMem) (H : Heap) (locs : List Loc) (ls : Array Slot), K1 x2_32 u_33 σ_34 = some (r, σ') → va_P D vwCl (wM ca a σ_34) H → va_S (AW 21 a) s.heap H locs → lv_has ls 6 [(2, .int x2_32)] → W p l e rm_X12_fit s m args below meth c H locs 0 0 Q (F0 m 104 ls []) := by
      intro x2_32 u_33 σ_34 H locs ls h hP hS hl
      have h := ap3 eK1 h
      refine lv_iload_n hx hb dX12_fit_104 rfl (lv_at hl 0 rfl) ?_
      rw [hQ]
      exact xzret C0 hP hS rfl h dX12_fit_105
    have hL1 : ∀ (n : Nat) (x2_5 : Int32) (x3_6 : Int32) (σ_7 : MMem) (H : Heap) (locs : List Loc) (ls : Array Slot), f_X12_fit_L25 p1 n x2_5 x3_6 σ_7 K1 = some (r, σ') → va_P D vwCl (wM ca a σ_7) H → va_S (AW 21 a) s.heap H locs → lv_has ls 6 [(0, .ref (a 0)), (1, .int p1), (2, .int x2_5), (3, .int x3_6)] → W p l e rm_X12_fit s m args below meth c H locs 0 0 Q (F0 m 25 ls []) := by
      intro n
      induction n with
      | zero => intro x2_5 x3_6 σ_7 H locs ls h; rw [f_X12_fit_L25] at h; cases h
      | succ n ih1 =>
        intro x2_5 x3_6 σ_7 H locs ls h hP hS hl
        rw [f_X12_fit_L25] at h
        refine lv_iload_n hx hb dX12_fit_25 rfl (lv_at hl 3 rfl) ?_
        refine lv_aload_n hx hb dX12_fit_26 rfl (lv_at hl 0 rfl) ?_
        refine gX12_0 C0 hK hP tw942 dX12_fit_27 ?_
        refine lv_icmp_ge (tgt := 104) hx hb dX12_fit_30 (by decide) (fun c_8 => ?_) (fun c_8 => ?_)
        · have h := it c_8 h
          exact hX1 x2_5 x3_6 σ_7 _ _ ls h hP hS (lv_sub hl [2] rfl)
        · have h := ie c_8 h
          refine lv_iconst (v := 1) hx hb dX12_fit_33 (by decide) ?_
          refine lv_istore (lv' := [(4, .int 1), (0, .ref (a 0)), (1, .int p1), (2, .int x2_5), (3, .int x3_6)]) hx hb dX12_fit_34 hl (by decide) rfl (fun ls hl => ?_)
          refine lv_iconst (v := 0) hx hb dX12_fit_36 (by decide) ?_
          refine lv_istore (lv' := [(5, .int 0), (4, .int 1), (0, .ref (a 0)), (1, .int p1), (2, .int x2_5), (3, .int x3_6)]) hx hb dX12_fit_37 hl (by decide) rfl (fun ls hl => ?_)
          obtain ⟨K2, eK2, h⟩ := lp_e (f := fun K => f_X12_fit_L39 p1 x3_6 5000 1 0 σ_7 K) h
          have h : f_X12_fit_L39 p1 x3_6 5000 1 0 σ_7 K2 = some (r, σ') := h
          have hX2 : ∀ (x4_24 : Int32) (u_25 : Int32) (σ_26 : MMem) (H : Heap) (locs : List Loc) (ls : Array Slot), K2 x4_24 u_25 σ_26 = some (r, σ') → va_P D vwCl (wM ca a σ_26) H → va_S (AW 21 a) s.heap H locs → lv_has ls 6 [(0, .ref (a 0)), (1, .int p1), (2, .int x2_5), (3, .int x3_6), (4, .int x4_24)] → W p l e rm_X12_fit s m args below meth c H locs 0 0 Q (F0 m 83 ls []) := by
            intro x4_24 u_25 σ_26 H locs ls h hP hS hl
            have h := ap3 eK2 h
            refine lv_iload_n hx hb dX12_fit_83 rfl (lv_at hl 2 rfl) ?_
            refine lv_iload hx hb dX12_fit_84 (lv_at hl 4 rfl) ?_
            refine lv_if_eq (tgt := 95) hx hb dX12_fit_86 (by decide) (fun c_27 => ?_) (fun c_27 => ?_)
            · have h := it c_27 h
              refine lv_iconst (v := 0) hx hb dX12_fit_95 (by decide) ?_
              refine lv_ior hx hb dX12_fit_96 ?_
              obtain ⟨x2_28, ex2_28, h⟩ := bnd_e h
              refine nm_i ex2_28 ?_
              refine lv_istore_n (lv' := [(2, .int x2_28), (0, .ref (a 0)), (1, .int p1), (3, .int x3_6), (4, .int x4_24)]) hx hb dX12_fit_97 rfl hl (by decide) rfl (fun ls hl => ?_)
              obtain ⟨x3_29, ex3_29, h⟩ := bnd_e h
              refine lv_iinc (v := x3_29) (lv' := [(3, .int x3_29), (2, .int x2_28), (0, .ref (a 0)), (1, .int p1), (4, .int x4_24)]) hx hb dX12_fit_98 hl (k := 3) rfl (by rw [ex3_29]; rfl) (by decide) rfl (fun ls hl => ?_)
              refine lv_goto (tgt := 25) hx hb dX12_fit_101 (by decide) ?_
              exact ih1 x2_28 x3_29 σ_26 _ _ ls h hP hS (lv_sub hl [2, 3, 1, 0] rfl)
            · have h := ie c_27 h
              refine lv_iconst (v := 1) hx hb dX12_fit_89 (by decide) ?_
              refine lv_iload_n hx hb dX12_fit_90 rfl (lv_at hl 3 rfl) ?_
              refine lv_ishl hx hb dX12_fit_91 ?_
              refine lv_goto (tgt := 96) hx hb dX12_fit_92 (by decide) ?_
              refine lv_ior hx hb dX12_fit_96 ?_
              obtain ⟨x2_30, ex2_30, h⟩ := bnd_e h
              refine nm_i ex2_30 ?_
              refine lv_istore_n (lv' := [(2, .int x2_30), (0, .ref (a 0)), (1, .int p1), (3, .int x3_6), (4, .int x4_24)]) hx hb dX12_fit_97 rfl hl (by decide) rfl (fun ls hl => ?_)
              obtain ⟨x3_31, ex3_31, h⟩ := bnd_e h
              refine lv_iinc (v := x3_31) (lv' := [(3, .int x3_31), (2, .int x2_30), (0, .ref (a 0)), (1, .int p1), (4, .int x4_24)]) hx hb dX12_fit_98 hl (k := 3) rfl (by rw [ex3_31]; rfl) (by decide) rfl (fun ls hl => ?_)
              refine lv_goto (tgt := 25) hx hb dX12_fit_101 (by decide) ?_
              exact ih1 x2_30 x3_31 σ_26 _ _ ls h hP hS (lv_sub hl [2, 3, 1, 0] rfl)
          have hL2 : ∀ (n : Nat) (x4_9 : Int32) (x5_10 : Int32) (σ_11 : MMem) (H : Heap) (locs : List Loc) (ls : Array Slot), f_X12_fit_L39 p1 x3_6 n x4_9 x5_10 σ_11 K2 = some (r, σ') → va_P D vwCl (wM ca a σ_11) H → va_S (AW 21 a) s.heap H locs → lv_has ls 6 [(0, .ref (a 0)), (1, .int p1), (2, .int x2_5), (3, .int x3_6), (4, .int x4_9), (5, .int x5_10)] → W p l e rm_X12_fit s m args below meth c H locs 0 0 Q (F0 m 39 ls []) := by
            intro n
            induction n with
            | zero => intro x4_9 x5_10 σ_11 H locs ls h; rw [f_X12_fit_L39] at h; cases h
            | succ n ih2 =>
              intro x4_9 x5_10 σ_11 H locs ls h hP hS hl
              rw [f_X12_fit_L39] at h
              refine lv_iload hx hb dX12_fit_39 (lv_at hl 5 rfl) ?_
              refine lv_iconst (v := 4) hx hb dX12_fit_41 (by decide) ?_
              refine lv_icmp_ge (tgt := 83) hx hb dX12_fit_42 (by decide) (fun c_12 => ?_) (fun c_12 => ?_)
              · have h := it c_12 h
                exact hX2 x4_9 x5_10 σ_11 _ _ ls h hP hS (lv_sub hl [0, 1, 2, 3, 4] rfl)
              · have h := ie c_12 h
                refine lv_iload hx hb dX12_fit_45 (lv_at hl 4 rfl) ?_
                refine lv_if_eq (tgt := 74) hx hb dX12_fit_47 (by decide) (fun c_13 => ?_) (fun c_13 => ?_)
                · have h := it c_13 h
                  refine lv_iconst (v := 0) hx hb dX12_fit_74 (by decide) ?_
                  refine lv_istore (lv' := [(4, .int 0), (0, .ref (a 0)), (1, .int p1), (2, .int x2_5), (3, .int x3_6), (5, .int x5_10)]) hx hb dX12_fit_75 hl (by decide) rfl (fun ls hl => ?_)
                  obtain ⟨x5_14, ex5_14, h⟩ := bnd_e h
                  refine lv_iinc (v := x5_14) (lv' := [(5, .int x5_14), (4, .int 0), (0, .ref (a 0)), (1, .int p1), (2, .int x2_5), (3, .int x3_6)]) hx hb dX12_fit_77 hl (k := 5) rfl (by rw [ex5_14]; rfl) (by decide) rfl (fun ls hl => ?_)
                  refine lv_goto (tgt := 39) hx hb dX12_fit_80 (by decide) ?_
                  exact ih2 0 x5_14 σ_11 _ _ ls h hP hS (lv_sub hl [2, 3, 4, 5, 1, 0] rfl)
                · have h := ie c_13 h
                  refine lv_iload_n hx hb dX12_fit_50 rfl (lv_at hl 1 rfl) ?_
                  obtain ⟨J60, eJ60, h⟩ := jn_e h
                  have hJ60 : ∀ (σ_15 : MMem) (H : Heap) (locs : List Loc) (ls : Array Slot), J60 σ_15 = some (r, σ') → va_P D vwCl (wM ca a σ_15) H → va_S (AW 21 a) s.heap H locs → lv_has ls 6 [(0, .ref (a 0)), (1, .int p1), (2, .int x2_5), (3, .int x3_6), (5, .int x5_10)] → W p l e rm_X12_fit s m args below meth c H locs 0 0 Q (F0 m 60 ls []) := by
                    intro σ_15 H locs ls h hP hS hl
                    have h := ap1 eJ60 h
                    refine lv_aload_n hx hb dX12_fit_60 rfl (lv_at hl 0 rfl) ?_
                    refine lv_iload_n hx hb dX12_fit_61 rfl (lv_at hl 3 rfl) ?_
                    refine lv_iload hx hb dX12_fit_62 (lv_at hl 4 rfl) ?_
                    obtain ⟨r_17, h_16, h⟩ := b1_e h
                    refine xcall (rV C0 hK hP hl.1 (fun _ _ _ => trivial) Bt_b (c_X12_fits hI h_16) cv_X12_fits tw1195 (rcX12 hK hP) (rest := []) rfl (Nat.le_of_ble_eq_true rfl) ⟨rfl, rfl, Nat.le_of_ble_eq_true rfl, Nat.le_of_ble_eq_true rfl⟩ ⟨Nat.zero_le _, Nat.zero_le _⟩ dX12_fit_64) hS (fun H locs hP hS => ?_)
                    refine lv_if_eq (tgt := 74) hx hb dX12_fit_67 (by decide) (fun c_18 => ?_) (fun c_18 => ?_)
                    · have h := it c_18 h
                      refine lv_iconst (v := 0) hx hb dX12_fit_74 (by decide) ?_
                      refine lv_istore (lv' := [(4, .int 0), (0, .ref (a 0)), (1, .int p1), (2, .int x2_5), (3, .int x3_6), (5, .int x5_10)]) hx hb dX12_fit_75 hl (by decide) rfl (fun ls hl => ?_)
                      obtain ⟨x5_19, ex5_19, h⟩ := bnd_e h
                      refine lv_iinc (v := x5_19) (lv' := [(5, .int x5_19), (4, .int 0), (0, .ref (a 0)), (1, .int p1), (2, .int x2_5), (3, .int x3_6)]) hx hb dX12_fit_77 hl (k := 5) rfl (by rw [ex5_19]; rfl) (by decide) rfl (fun ls hl => ?_)
                      refine lv_goto (tgt := 39) hx hb dX12_fit_80 (by decide) ?_
                      exact ih2 0 x5_19 σ_15 _ _ ls h hP hS (lv_sub hl [2, 3, 4, 5, 1, 0] rfl)
                    · have h := ie c_18 h
                      refine lv_iconst (v := 1) hx hb dX12_fit_70 (by decide) ?_
                      refine lv_goto (tgt := 75) hx hb dX12_fit_71 (by decide) ?_
                      refine lv_istore (lv' := [(4, .int 1), (0, .ref (a 0)), (1, .int p1), (2, .int x2_5), (3, .int x3_6), (5, .int x5_10)]) hx hb dX12_fit_75 hl (by decide) rfl (fun ls hl => ?_)
                      obtain ⟨x5_20, ex5_20, h⟩ := bnd_e h
                      refine lv_iinc (v := x5_20) (lv' := [(5, .int x5_20), (4, .int 1), (0, .ref (a 0)), (1, .int p1), (2, .int x2_5), (3, .int x3_6)]) hx hb dX12_fit_77 hl (k := 5) rfl (by rw [ex5_20]; rfl) (by decide) rfl (fun ls hl => ?_)
                      refine lv_goto (tgt := 39) hx hb dX12_fit_80 (by decide) ?_
                      exact ih2 1 x5_20 σ_15 _ _ ls h hP hS (lv_sub hl [2, 3, 4, 5, 1, 0] rfl)
                  refine lv_if_lt (tgt := 60) hx hb dX12_fit_51 (by decide) (fun c_21 => ?_) (fun c_21 => ?_)
                  · have h := it c_21 h
                    exact hJ60 σ_11 _ _ ls h hP hS (lv_sub hl [0, 1, 2, 3, 5] rfl)
                  · have h := ie c_21 h
                    refine lv_iload hx hb dX12_fit_54 (lv_at hl 5 rfl) ?_
                    refine lv_iload_n hx hb dX12_fit_56 rfl (lv_at hl 1 rfl) ?_
                    refine lv_icmp_ne (tgt := 70) hx hb dX12_fit_57 (by decide) (fun c_22 => ?_) (fun c_22 => ?_)
                    · have h := ie c_22 h
                      refine lv_iconst (v := 1) hx hb dX12_fit_70 (by decide) ?_
                      refine lv_goto (tgt := 75) hx hb dX12_fit_71 (by decide) ?_
                      refine lv_istore (lv' := [(4, .int 1), (0, .ref (a 0)), (1, .int p1), (2, .int x2_5), (3, .int x3_6), (5, .int x5_10)]) hx hb dX12_fit_75 hl (by decide) rfl (fun ls hl => ?_)
                      obtain ⟨x5_23, ex5_23, h⟩ := bnd_e h
                      refine lv_iinc (v := x5_23) (lv' := [(5, .int x5_23), (4, .int 1), (0, .ref (a 0)), (1, .int p1), (2, .int x2_5), (3, .int x3_6)]) hx hb dX12_fit_77 hl (k := 5) rfl (by rw [ex5_23]; rfl) (by decide) rfl (fun ls hl => ?_)
                      refine lv_goto (tgt := 39) hx hb dX12_fit_80 (by decide) ?_
                      exact ih2 1 x5_23 σ_11 _ _ ls h hP hS (lv_sub hl [2, 3, 4, 5, 1, 0] rfl)
                    · have h := it c_22 h
                      exact hJ60 σ_11 _ _ ls h hP hS (lv_sub hl [0, 1, 2, 3, 5] rfl)
          exact hL2 5000 1 0 σ_7 _ _ ls h hP hS (lv_sub hl [2, 3, 4, 5, 1, 0] rfl)
    exact hL1 5000 0 0 σ_1 _ _ ls h hP hS (lv_sub hl [2, 3, 1, 0] rfl)
  · have h := it c_4 h
    refine lv_iconst (v := (-1)) hx hb dX12_fit_19 (by decide) ?_
    rw [hQ]
    exact xzret C0 hP hS rfl h dX12_fit_20
def f_X12_lacks (σ : MMem) : Option (Int32 × MMem) :=
  bnd (uI σ 0 9 0) fun (σ_1 : MMem) =>
  b1 (f_X12_lacksNow σ_1) fun r_3 =>
  some (r_3, σ_1)
def rm_X12_lacks : Room := { frames := 2, cells := 0, slots := 0, locals := 47 }
set_option maxHeartbeats 4000000 in
set_option maxRecDepth 100000 in
theorem c_X12_lacks {l : Launch} {D : va_G} {ca : Nat → ClassId} {a : Nat → Nat} (hI : InjN 21 a)  {σ : MMem} {r : Int32} {σ' : MMem}  (h : f_X12_lacks σ = some (r, σ')) : XMM l D ca a Bt yX12_lacks cX12_lacks 1 (some .int) rm_X12_lacks [.ref (a 0)] σ (some (.int r)) σ' := by
  refine XM.of pn_X12 (Nat.le_of_ble_eq_true rfl) ?_
  intro p e s m args below meth c ls Q hQ C0 hK hB hP hS hl
  have C0 : Cx p s m args meth c RX12 cX12_lacks 1 (some .int) := C0
  have hx := C0.1
  have hb := C0.2.1
  have hl : lv_has ls 1 [(0, .ref (a 0))] := hl
  rw [f_X12_lacks] at h
  refine lv_aload_n hx hb dX12_lacks_0 rfl (lv_at hl 0 rfl) ?_
  refine lv_iconst (v := 0) hx hb dX12_lacks_1 (by decide) ?_
  obtain ⟨σ_1, eσ_1, h⟩ := bnd_e h
  refine pX12_9 C0 hK hP tw951 hI hS dX12_lacks_2 (fun H locs hP hS => ?_)
  rw [← eσ_1] at hP
  refine lv_aload_n hx hb dX12_lacks_5 rfl (lv_at hl 0 rfl) ?_
  obtain ⟨r_3, h_2, h⟩ := b1_e h
  refine xcall (rV C0 hK hP hl.1 (fun _ _ _ => trivial) Bt_b (c_X12_lacksNow hI h_2) cv_X12_lacksNow tw1177 (rcX12 hK hP) (rest := []) rfl (Nat.le_of_ble_eq_true rfl) ⟨rfl, rfl, Nat.le_of_ble_eq_true rfl, Nat.le_of_ble_eq_true rfl⟩ ⟨Nat.zero_le _, Nat.zero_le _⟩ dX12_lacks_6) hS (fun H locs hP hS => ?_)
  rw [hQ]
  exact xzret C0 hP hS rfl h dX12_lacks_9
def f_X12_bestPin_L42 (p1 : Int32) : Nat → Int32 → Int32 → Int32 → Int32 → MMem → (Int32 → Int32 → Int32 → Int32 → MMem → Option (Int32 × MMem)) → Option (Int32 × MMem)
  | 0, _, _, _, _, _, _ => none
  | n + 1, x3_10, x4_11, x5_12, x6_13, σ_14, K1 =>
    if (100 * ((σ_14 0).1 0)) ≤ x6_13 then
      K1 x3_10 x4_11 x5_12 x6_13 σ_14
    else
      bnd (x6_13 / 10) fun (y_16 : Int32) =>
      bnd (y_16 - y_16 / 10 * 10) fun (x7_17 : Int32) =>
      jn (fun (v_18 : Int32) (σ_19 : MMem) =>
        if v_18 = 0 then
          bnd (x6_13 + 1) fun (x6_21 : Int32) =>
          f_X12_bestPin_L42 p1 n x3_10 x4_11 x5_12 x6_21 σ_19 K1
        else
          b1 (f_X12_open σ_19) fun σ_23 =>
          bnd (x6_13 - x6_13 / 10 * 10) fun (y_24 : Int32) =>
          b1 (f_X12_does x7_17 y_24 (x6_13 / 100) σ_23) fun σ_26 =>
          b1 (f_X12_lacksNow σ_26) fun r_28 =>
          b1 (f_X12_close σ_26) fun σ_30 =>
          bnd (x6_13 - x6_13 / 10 * 10) fun (y_31 : Int32) =>
          b1 (f_X12_minutesOf x7_17 y_31) fun r_33 =>
          if r_28 < x4_11 then
            bnd (x6_13 + 1) fun (x6_35 : Int32) =>
            f_X12_bestPin_L42 p1 n x6_13 r_28 r_33 x6_35 σ_30 K1
          else
            if x3_10 < 0 then
              bnd (x6_13 + 1) fun (x6_37 : Int32) =>
              f_X12_bestPin_L42 p1 n x3_10 x4_11 x5_12 x6_37 σ_30 K1
            else
              if r_28 = x4_11 then
                if x5_12 ≤ r_33 then
                  bnd (x6_13 + 1) fun (x6_41 : Int32) =>
                  f_X12_bestPin_L42 p1 n x3_10 x4_11 x5_12 x6_41 σ_30 K1
                else
                  bnd (x6_13 + 1) fun (x6_42 : Int32) =>
                  f_X12_bestPin_L42 p1 n x6_13 r_28 r_33 x6_42 σ_30 K1
              else
                bnd (x6_13 + 1) fun (x6_39 : Int32) =>
                f_X12_bestPin_L42 p1 n x3_10 x4_11 x5_12 x6_39 σ_30 K1) fun J106 =>
      jn (fun (σ_43 : MMem) =>
        J106 0 σ_43) fun J105 =>
      if 8 ≤ x7_17 then
        J105 σ_14
      else
        jn (fun (σ_45 : MMem) =>
          bnd (x6_13 - x6_13 / 10 * 10) fun (y_46 : Int32) =>
          b1 (f_X12_mayBe x7_17 y_46 (x6_13 / 100) σ_45) fun r_48 =>
          if r_48 = 0 then
            J105 σ_45
          else
            J106 1 σ_45) fun J82 =>
        if x7_17 = 4 then
          if p1 = 1 then
            J82 σ_14
          else
            J105 σ_14
        else
          J82 σ_14
def f_X12_bestPin (p1 : Int32) (p2 : Int32) (σ : MMem) : Option (Int32 × MMem) :=
  bnd (uI σ 0 9 0) fun (σ_1 : MMem) =>
  b1 (f_X12_in p1.toInt64 0 1) fun r_3 =>
  if r_3 = 0 then
    some ((-1), σ_1)
  else
    b1 (f_X12_in p2.toInt64 0 1) fun r_6 =>
    if r_6 = 0 then
      some ((-1), σ_1)
    else
      b1 (f_X12_lacksNow σ_1) fun r_9 =>
      f_X12_bestPin_L42 p1 5000 (-4) r_9 0 0 σ_1 fun (x3_52 : Int32) (x4_53 : Int32) (u_54 : Int32) (u_55 : Int32) (σ_56 : MMem) =>
        if p2 = 0 then
          some (x3_52, σ_56)
        else
          some (x4_53, σ_56)
def rm_X12_bestPin : Room := { frames := 3, cells := 0, slots := 0, locals := 67 }
set_option maxHeartbeats 4000000 in
set_option maxRecDepth 100000 in
theorem c_X12_bestPin {l : Launch} {D : va_G} {ca : Nat → ClassId} {a : Nat → Nat} (hI : InjN 21 a) {p1 : Int32} {p2 : Int32} {σ : MMem} {r : Int32} {σ' : MMem}  (h : f_X12_bestPin p1 p2 σ = some (r, σ')) : XMM l D ca a Bt yX12_bestPin cX12_bestPin 11 (some .int) rm_X12_bestPin [.ref (a 0), .int p1, .int p2] σ (some (.int r)) σ' := by
  refine XM.of pn_X12 (Nat.le_of_ble_eq_true rfl) ?_
  intro p e s m args below meth c ls Q hQ C0 hK hB hP hS hl
  have C0 : Cx p s m args meth c RX12 cX12_bestPin 11 (some .int) := C0
  have hx := C0.1
  have hb := C0.2.1
  have hl : lv_has ls 11 [(0, .ref (a 0)), (1, .int p1), (2, .int p2)] := hl
  rw [f_X12_bestPin] at h
  refine lv_aload_n hx hb dX12_bestPin_0 rfl (lv_at hl 0 rfl) ?_
  refine lv_iconst (v := 0) hx hb dX12_bestPin_1 (by decide) ?_
  obtain ⟨σ_1, eσ_1, h⟩ := bnd_e h
  refine pX12_9 C0 hK hP tw951 hI hS dX12_bestPin_2 (fun H locs hP hS => ?_)
  rw [← eσ_1] at hP
  refine lv_iload_n hx hb dX12_bestPin_5 rfl (lv_at hl 1 rfl) ?_
  refine lv_i2l (v := p1.toInt64) hx hb dX12_bestPin_6 rfl ?_
  refine lv_lconst (v := 0) hx hb dX12_bestPin_7 (by decide) ?_
  refine lv_lconst (v := 1) hx hb dX12_bestPin_8 (by decide) ?_
  obtain ⟨r_3, h_2, h⟩ := b1_e h
  refine xcall (rS C0 hK hP hl.1 (fun _ _ _ => trivial) Bt_b (c_X12_in hI h_2) cs_X12_in tw1091 (rest := []) rfl (Nat.le_of_ble_eq_true rfl) ⟨rfl, rfl, Nat.le_of_ble_eq_true rfl, Nat.le_of_ble_eq_true rfl⟩ ⟨Nat.zero_le _, Nat.zero_le _⟩ dX12_bestPin_9) hS (fun H locs hP hS => ?_)
  refine lv_if_eq (tgt := 25) hx hb dX12_bestPin_12 (by decide) (fun c_4 => ?_) (fun c_4 => ?_)
  · have h := it c_4 h
    refine lv_iconst (v := (-1)) hx hb dX12_bestPin_25 (by decide) ?_
    rw [hQ]
    exact xzret C0 hP hS rfl h dX12_bestPin_26
  · have h := ie c_4 h
    refine lv_iload_n hx hb dX12_bestPin_15 rfl (lv_at hl 2 rfl) ?_
    refine lv_i2l (v := p2.toInt64) hx hb dX12_bestPin_16 rfl ?_
    refine lv_lconst (v := 0) hx hb dX12_bestPin_17 (by decide) ?_
    refine lv_lconst (v := 1) hx hb dX12_bestPin_18 (by decide) ?_
    obtain ⟨r_6, h_5, h⟩ := b1_e h
    refine xcall (rS C0 hK hP hl.1 (fun _ _ _ => trivial) Bt_b (c_X12_in hI h_5) cs_X12_in tw1091 (rest := []) rfl (Nat.le_of_ble_eq_true rfl) ⟨rfl, rfl, Nat.le_of_ble_eq_true rfl, Nat.le_of_ble_eq_true rfl⟩ ⟨Nat.zero_le _, Nat.zero_le _⟩ dX12_bestPin_19) hS (fun H locs hP hS => ?_)
    refine lv_if_ne (tgt := 27) hx hb dX12_bestPin_22 (by decide) (fun c_7 => ?_) (fun c_7 => ?_)
    · have h := ie c_7 h
      refine lv_bipush (v := (-4)) hx hb dX12_bestPin_27 (by decide) ?_
      refine lv_istore_n (lv' := [(3, .int (-4)), (0, .ref (a 0)), (1, .int p1), (2, .int p2)]) hx hb dX12_bestPin_29 rfl hl (by decide) rfl (fun ls hl => ?_)
      refine lv_aload_n hx hb dX12_bestPin_30 rfl (lv_at hl 1 rfl) ?_
      obtain ⟨r_9, h_8, h⟩ := b1_e h
      refine xcall (rV C0 hK hP hl.1 (fun _ _ _ => trivial) Bt_b (c_X12_lacksNow hI h_8) cv_X12_lacksNow tw1177 (rcX12 hK hP) (rest := []) rfl (Nat.le_of_ble_eq_true rfl) ⟨rfl, rfl, Nat.le_of_ble_eq_true rfl, Nat.le_of_ble_eq_true rfl⟩ ⟨Nat.zero_le _, Nat.zero_le _⟩ dX12_bestPin_31) hS (fun H locs hP hS => ?_)
      refine lv_istore (lv' := [(4, .int r_9), (3, .int (-4)), (0, .ref (a 0)), (1, .int p1), (2, .int p2)]) hx hb dX12_bestPin_34 hl (by decide) rfl (fun ls hl => ?_)
      refine lv_iconst (v := 0) hx hb dX12_bestPin_36 (by decide) ?_
      refine lv_istore (lv' := [(5, .int 0), (4, .int r_9), (3, .int (-4)), (0, .ref (a 0)), (1, .int p1), (2, .int p2)]) hx hb dX12_bestPin_37 hl (by decide) rfl (fun ls hl => ?_)
      refine lv_iconst (v := 0) hx hb dX12_bestPin_39 (by decide) ?_
      refine lv_istore (lv' := [(6, .int 0), (5, .int 0), (4, .int r_9), (3, .int (-4)), (0, .ref (a 0)), (1, .int p1), (2, .int p2)]) hx hb dX12_bestPin_40 hl (by decide) rfl (fun ls hl => ?_)
      obtain ⟨K1, eK1, h⟩ := lp_e (f := fun K => f_X12_bestPin_L42 p1 5000 (-4) r_9 0 0 σ_1 K) h
      have h : f_X12_bestPin_L42 p1 5000 (-4) r_9 0 0 σ_1 K1 = some (r, σ') := h
      have hX1 : ∀ (x3_52 : Int32) (x4_53 : Int32) (u_54 : Int32) (u_55 : Int32) (σ_56 : MMem) (H : Heap) (locs : List Loc) (ls : Array Slot), K1 x3_52 x4_53 u_54 u_55 σ_56 = some (r, σ') → va_P D vwCl (wM ca a σ_56) H → va_S (AW 21 a) s.heap H locs → lv_has ls 11 [(2, .int p2), (3, .int x3_52), (4, .int x4_53)] → W p l e rm_X12_bestPin s m args below meth c H locs 0 0 Q (F0 m 197 ls []) := by
        intro x3_52 x4_53 u_54 u_55 σ_56 H locs ls h hP hS hl
        have h := ap5 eK1 h
        refine lv_iload_n hx hb dX12_bestPin_197 rfl (lv_at hl 0 rfl) ?_
        refine lv_if_ne (tgt := 205) hx hb dX12_bestPin_198 (by decide) (fun c_57 => ?_) (fun c_57 => ?_)
        · have h := ie c_57 h
          refine lv_iload hx hb dX12_bestPin_205 (lv_at hl 2 rfl) ?_
          rw [hQ]
          exact xzret C0 hP hS rfl h dX12_bestPin_207
        · have h := it c_57 h
          refine lv_iload_n hx hb dX12_bestPin_201 rfl (lv_at hl 1 rfl) ?_
          refine lv_goto (tgt := 207) hx hb dX12_bestPin_202 (by decide) ?_
          rw [hQ]
          exact xzret C0 hP hS rfl h dX12_bestPin_207
      have hL1 : ∀ (n : Nat) (x3_10 : Int32) (x4_11 : Int32) (x5_12 : Int32) (x6_13 : Int32) (σ_14 : MMem) (H : Heap) (locs : List Loc) (ls : Array Slot), f_X12_bestPin_L42 p1 n x3_10 x4_11 x5_12 x6_13 σ_14 K1 = some (r, σ') → va_P D vwCl (wM ca a σ_14) H → va_S (AW 21 a) s.heap H locs → lv_has ls 11 [(0, .ref (a 0)), (1, .int p1), (2, .int p2), (3, .int x3_10), (4, .int x4_11), (5, .int x5_12), (6, .int x6_13)] → W p l e rm_X12_bestPin s m args below meth c H locs 0 0 Q (F0 m 42 ls []) := by
        intro n
        induction n with
        | zero => intro x3_10 x4_11 x5_12 x6_13 σ_14 H locs ls h; rw [f_X12_bestPin_L42] at h; cases h
        | succ n ih1 =>
          intro x3_10 x4_11 x5_12 x6_13 σ_14 H locs ls h hP hS hl
          rw [f_X12_bestPin_L42] at h
          refine lv_iload hx hb dX12_bestPin_42 (lv_at hl 6 rfl) ?_
          refine lv_bipush (v := 100) hx hb dX12_bestPin_44 (by decide) ?_
          refine lv_aload_n hx hb dX12_bestPin_46 rfl (lv_at hl 0 rfl) ?_
          refine gX12_0 C0 hK hP tw942 dX12_bestPin_47 ?_
          refine lv_imul hx hb dX12_bestPin_50 ?_
          refine lv_icmp_ge (tgt := 197) hx hb dX12_bestPin_51 (by decide) (fun c_15 => ?_) (fun c_15 => ?_)
          · have h := it c_15 h
            exact hX1 x3_10 x4_11 x5_12 x6_13 σ_14 _ _ ls h hP hS (lv_sub hl [2, 3, 4] rfl)
          · have h := ie c_15 h
            refine lv_iload hx hb dX12_bestPin_54 (lv_at hl 6 rfl) ?_
            refine lv_bipush (v := 10) hx hb dX12_bestPin_56 (by decide) ?_
            refine lv_idiv hx hb dX12_bestPin_58 (by decide) ?_
            refine lv_bipush (v := 10) hx hb dX12_bestPin_59 (by decide) ?_
            obtain ⟨y_16, ey_16, h⟩ := bnd_e h
            rw [← ey_16]
            refine lv_irem hx hb dX12_bestPin_61 (by decide) ?_
            obtain ⟨x7_17, ex7_17, h⟩ := bnd_e h
            refine nm_i ex7_17 ?_
            refine lv_istore (lv' := [(7, .int x7_17), (0, .ref (a 0)), (1, .int p1), (2, .int p2), (3, .int x3_10), (4, .int x4_11), (5, .int x5_12), (6, .int x6_13)]) hx hb dX12_bestPin_62 hl (by decide) rfl (fun ls hl => ?_)
            refine lv_iload hx hb dX12_bestPin_64 (lv_at hl 0 rfl) ?_
            refine lv_bipush (v := 8) hx hb dX12_bestPin_66 (by decide) ?_
            obtain ⟨J106, eJ106, h⟩ := jn_e h
            have hJ106 : ∀ (v_18 : Int32) (σ_19 : MMem) (H : Heap) (locs : List Loc) (ls : Array Slot), J106 v_18 σ_19 = some (r, σ') → va_P D vwCl (wM ca a σ_19) H → va_S (AW 21 a) s.heap H locs → lv_has ls 11 [(0, .ref (a 0)), (1, .int p1), (2, .int p2), (3, .int x3_10), (4, .int x4_11), (5, .int x5_12), (6, .int x6_13), (7, .int x7_17)] → W p l e rm_X12_bestPin s m args below meth c H locs 0 0 Q (F0 m 106 ls [.int v_18]) := by
              intro v_18 σ_19 H locs ls h hP hS hl
              have h := ap2 eJ106 h
              refine lv_istore (lv' := [(8, .int v_18), (0, .ref (a 0)), (1, .int p1), (2, .int p2), (3, .int x3_10), (4, .int x4_11), (5, .int x5_12), (6, .int x6_13), (7, .int x7_17)]) hx hb dX12_bestPin_106 hl (by decide) rfl (fun ls hl => ?_)
              refine lv_iload hx hb dX12_bestPin_108 (lv_at hl 0 rfl) ?_
              refine lv_if_eq (tgt := 191) hx hb dX12_bestPin_110 (by decide) (fun c_20 => ?_) (fun c_20 => ?_)
              · have h := it c_20 h
                obtain ⟨x6_21, ex6_21, h⟩ := bnd_e h
                refine lv_iinc (v := x6_21) (lv' := [(6, .int x6_21), (8, .int v_18), (0, .ref (a 0)), (1, .int p1), (2, .int p2), (3, .int x3_10), (4, .int x4_11), (5, .int x5_12), (7, .int x7_17)]) hx hb dX12_bestPin_191 hl (k := 7) rfl (by rw [ex6_21]; rfl) (by decide) rfl (fun ls hl => ?_)
                refine lv_goto (tgt := 42) hx hb dX12_bestPin_194 (by decide) ?_
                exact ih1 x3_10 x4_11 x5_12 x6_21 σ_19 _ _ ls h hP hS (lv_sub hl [2, 3, 4, 5, 6, 7, 0] rfl)
              · have h := ie c_20 h
                refine lv_aload_n hx hb dX12_bestPin_113 rfl (lv_at hl 1 rfl) ?_
                obtain ⟨σ_23, h_22, h⟩ := b1_e h
                refine xcall (rV C0 hK hP hl.1 (fun _ _ _ => trivial) Bt_b (c_X12_open hI h_22) cv_X12_open tw1116 (rcX12 hK hP) (rest := []) rfl (Nat.le_of_ble_eq_true rfl) ⟨rfl, rfl, Nat.le_of_ble_eq_true rfl, Nat.le_of_ble_eq_true rfl⟩ ⟨Nat.zero_le _, Nat.zero_le _⟩ dX12_bestPin_114) hS (fun H locs hP hS => ?_)
                refine lv_aload_n hx hb dX12_bestPin_117 rfl (lv_at hl 1 rfl) ?_
                refine lv_iload hx hb dX12_bestPin_118 (lv_at hl 8 rfl) ?_
                refine lv_iload hx hb dX12_bestPin_120 (lv_at hl 7 rfl) ?_
                refine lv_bipush (v := 10) hx hb dX12_bestPin_122 (by decide) ?_
                refine lv_irem hx hb dX12_bestPin_124 (by decide) ?_
                refine lv_iload hx hb dX12_bestPin_125 (lv_at hl 7 rfl) ?_
                refine lv_bipush (v := 100) hx hb dX12_bestPin_127 (by decide) ?_
                refine lv_idiv hx hb dX12_bestPin_129 (by decide) ?_
                obtain ⟨y_24, ey_24, h⟩ := bnd_e h
                rw [← ey_24]
                obtain ⟨σ_26, h_25, h⟩ := b1_e h
                refine xcall (rV C0 hK hP hl.1 (fun _ _ _ => trivial) Bt_b (c_X12_does hI h_25) cv_X12_does tw1136 (rcX12 hK hP) (rest := []) rfl (Nat.le_of_ble_eq_true rfl) ⟨rfl, rfl, Nat.le_of_ble_eq_true rfl, Nat.le_of_ble_eq_true rfl⟩ ⟨Nat.zero_le _, Nat.zero_le _⟩ dX12_bestPin_130) hS (fun H locs hP hS => ?_)
                refine lv_aload_n hx hb dX12_bestPin_133 rfl (lv_at hl 1 rfl) ?_
                obtain ⟨r_28, h_27, h⟩ := b1_e h
                refine xcall (rV C0 hK hP hl.1 (fun _ _ _ => trivial) Bt_b (c_X12_lacksNow hI h_27) cv_X12_lacksNow tw1177 (rcX12 hK hP) (rest := []) rfl (Nat.le_of_ble_eq_true rfl) ⟨rfl, rfl, Nat.le_of_ble_eq_true rfl, Nat.le_of_ble_eq_true rfl⟩ ⟨Nat.zero_le _, Nat.zero_le _⟩ dX12_bestPin_134) hS (fun H locs hP hS => ?_)
                refine lv_istore (lv' := [(9, .int r_28), (8, .int v_18), (0, .ref (a 0)), (1, .int p1), (2, .int p2), (3, .int x3_10), (4, .int x4_11), (5, .int x5_12), (6, .int x6_13), (7, .int x7_17)]) hx hb dX12_bestPin_137 hl (by decide) rfl (fun ls hl => ?_)
                refine lv_aload_n hx hb dX12_bestPin_139 rfl (lv_at hl 2 rfl) ?_
                obtain ⟨σ_30, h_29, h⟩ := b1_e h
                refine xcall (rV C0 hK hP hl.1 (fun _ _ _ => trivial) Bt_b (c_X12_close hI h_29) cv_X12_close tw1150 (rcX12 hK hP) (rest := []) rfl (Nat.le_of_ble_eq_true rfl) ⟨rfl, rfl, Nat.le_of_ble_eq_true rfl, Nat.le_of_ble_eq_true rfl⟩ ⟨Nat.zero_le _, Nat.zero_le _⟩ dX12_bestPin_140) hS (fun H locs hP hS => ?_)
                refine lv_iload hx hb dX12_bestPin_143 (lv_at hl 9 rfl) ?_
                refine lv_iload hx hb dX12_bestPin_145 (lv_at hl 8 rfl) ?_
                refine lv_bipush (v := 10) hx hb dX12_bestPin_147 (by decide) ?_
                refine lv_irem hx hb dX12_bestPin_149 (by decide) ?_
                obtain ⟨y_31, ey_31, h⟩ := bnd_e h
                rw [← ey_31]
                obtain ⟨r_33, h_32, h⟩ := b1_e h
                refine xcall (rS C0 hK hP hl.1 (fun _ _ _ => trivial) Bt_b (c_X12_minutesOf hI h_32) cs_X12_minutesOf tw1147 (rest := []) rfl (Nat.le_of_ble_eq_true rfl) ⟨rfl, rfl, Nat.le_of_ble_eq_true rfl, Nat.le_of_ble_eq_true rfl⟩ ⟨Nat.zero_le _, Nat.zero_le _⟩ dX12_bestPin_150) hS (fun H locs hP hS => ?_)
                refine lv_istore (lv' := [(10, .int r_33), (9, .int r_28), (8, .int v_18), (0, .ref (a 0)), (1, .int p1), (2, .int p2), (3, .int x3_10), (4, .int x4_11), (5, .int x5_12), (6, .int x6_13), (7, .int x7_17)]) hx hb dX12_bestPin_153 hl (by decide) rfl (fun ls hl => ?_)
                refine lv_iload hx hb dX12_bestPin_155 (lv_at hl 1 rfl) ?_
                refine lv_iload hx hb dX12_bestPin_157 (lv_at hl 7 rfl) ?_
                refine lv_icmp_lt (tgt := 180) hx hb dX12_bestPin_159 (by decide) (fun c_34 => ?_) (fun c_34 => ?_)
                · have h := it c_34 h
                  refine lv_iload hx hb dX12_bestPin_180 (lv_at hl 9 rfl) ?_
                  refine lv_istore_n (lv' := [(3, .int x6_13), (10, .int r_33), (9, .int r_28), (8, .int v_18), (0, .ref (a 0)), (1, .int p1), (2, .int p2), (4, .int x4_11), (5, .int x5_12), (6, .int x6_13), (7, .int x7_17)]) hx hb dX12_bestPin_182 rfl hl (by decide) rfl (fun ls hl => ?_)
                  refine lv_iload hx hb dX12_bestPin_183 (lv_at hl 2 rfl) ?_
                  refine lv_istore (lv' := [(4, .int r_28), (3, .int x6_13), (10, .int r_33), (9, .int r_28), (8, .int v_18), (0, .ref (a 0)), (1, .int p1), (2, .int p2), (5, .int x5_12), (6, .int x6_13), (7, .int x7_17)]) hx hb dX12_bestPin_185 hl (by decide) rfl (fun ls hl => ?_)
                  refine lv_iload hx hb dX12_bestPin_187 (lv_at hl 2 rfl) ?_
                  refine lv_istore (lv' := [(5, .int r_33), (4, .int r_28), (3, .int x6_13), (10, .int r_33), (9, .int r_28), (8, .int v_18), (0, .ref (a 0)), (1, .int p1), (2, .int p2), (6, .int x6_13), (7, .int x7_17)]) hx hb dX12_bestPin_189 hl (by decide) rfl (fun ls hl => ?_)
                  obtain ⟨x6_35, ex6_35, h⟩ := bnd_e h
                  refine lv_iinc (v := x6_35) (lv' := [(6, .int x6_35), (5, .int r_33), (4, .int r_28), (3, .int x6_13), (10, .int r_33), (9, .int r_28), (8, .int v_18), (0, .ref (a 0)), (1, .int p1), (2, .int p2), (7, .int x7_17)]) hx hb dX12_bestPin_191 hl (k := 9) rfl (by rw [ex6_35]; rfl) (by decide) rfl (fun ls hl => ?_)
                  refine lv_goto (tgt := 42) hx hb dX12_bestPin_194 (by decide) ?_
                  exact ih1 x6_13 r_28 r_33 x6_35 σ_30 _ _ ls h hP hS (lv_sub hl [7, 8, 9, 3, 2, 1, 0] rfl)
                · have h := ie c_34 h
                  refine lv_iload_n hx hb dX12_bestPin_162 rfl (lv_at hl 6 rfl) ?_
                  refine lv_if_lt (tgt := 191) hx hb dX12_bestPin_163 (by decide) (fun c_36 => ?_) (fun c_36 => ?_)
                  · have h := it c_36 h
                    obtain ⟨x6_37, ex6_37, h⟩ := bnd_e h
                    refine lv_iinc (v := x6_37) (lv' := [(6, .int x6_37), (10, .int r_33), (9, .int r_28), (8, .int v_18), (0, .ref (a 0)), (1, .int p1), (2, .int p2), (3, .int x3_10), (4, .int x4_11), (5, .int x5_12), (7, .int x7_17)]) hx hb dX12_bestPin_191 hl (k := 9) rfl (by rw [ex6_37]; rfl) (by decide) rfl (fun ls hl => ?_)
                    refine lv_goto (tgt := 42) hx hb dX12_bestPin_194 (by decide) ?_
                    exact ih1 x3_10 x4_11 x5_12 x6_37 σ_30 _ _ ls h hP hS (lv_sub hl [4, 5, 6, 7, 8, 9, 0] rfl)
                  · have h := ie c_36 h
                    refine lv_iload hx hb dX12_bestPin_166 (lv_at hl 1 rfl) ?_
                    refine lv_iload hx hb dX12_bestPin_168 (lv_at hl 7 rfl) ?_
                    refine lv_icmp_ne (tgt := 191) hx hb dX12_bestPin_170 (by decide) (fun c_38 => ?_) (fun c_38 => ?_)
                    · have h := ie c_38 h
                      obtain ⟨x6_39, ex6_39, h⟩ := bnd_e h
                      refine lv_iinc (v := x6_39) (lv' := [(6, .int x6_39), (10, .int r_33), (9, .int r_28), (8, .int v_18), (0, .ref (a 0)), (1, .int p1), (2, .int p2), (3, .int x3_10), (4, .int x4_11), (5, .int x5_12), (7, .int x7_17)]) hx hb dX12_bestPin_191 hl (k := 9) rfl (by rw [ex6_39]; rfl) (by decide) rfl (fun ls hl => ?_)
                      refine lv_goto (tgt := 42) hx hb dX12_bestPin_194 (by decide) ?_
                      exact ih1 x3_10 x4_11 x5_12 x6_39 σ_30 _ _ ls h hP hS (lv_sub hl [4, 5, 6, 7, 8, 9, 0] rfl)
                    · have h := it c_38 h
                      refine lv_iload hx hb dX12_bestPin_173 (lv_at hl 0 rfl) ?_
                      refine lv_iload hx hb dX12_bestPin_175 (lv_at hl 8 rfl) ?_
                      refine lv_icmp_ge (tgt := 191) hx hb dX12_bestPin_177 (by decide) (fun c_40 => ?_) (fun c_40 => ?_)
                      · have h := it c_40 h
                        obtain ⟨x6_41, ex6_41, h⟩ := bnd_e h
                        refine lv_iinc (v := x6_41) (lv' := [(6, .int x6_41), (10, .int r_33), (9, .int r_28), (8, .int v_18), (0, .ref (a 0)), (1, .int p1), (2, .int p2), (3, .int x3_10), (4, .int x4_11), (5, .int x5_12), (7, .int x7_17)]) hx hb dX12_bestPin_191 hl (k := 9) rfl (by rw [ex6_41]; rfl) (by decide) rfl (fun ls hl => ?_)
                        refine lv_goto (tgt := 42) hx hb dX12_bestPin_194 (by decide) ?_
                        exact ih1 x3_10 x4_11 x5_12 x6_41 σ_30 _ _ ls h hP hS (lv_sub hl [4, 5, 6, 7, 8, 9, 0] rfl)
                      · have h := ie c_40 h
                        refine lv_iload hx hb dX12_bestPin_180 (lv_at hl 9 rfl) ?_
                        refine lv_istore_n (lv' := [(3, .int x6_13), (10, .int r_33), (9, .int r_28), (8, .int v_18), (0, .ref (a 0)), (1, .int p1), (2, .int p2), (4, .int x4_11), (5, .int x5_12), (6, .int x6_13), (7, .int x7_17)]) hx hb dX12_bestPin_182 rfl hl (by decide) rfl (fun ls hl => ?_)
                        refine lv_iload hx hb dX12_bestPin_183 (lv_at hl 2 rfl) ?_
                        refine lv_istore (lv' := [(4, .int r_28), (3, .int x6_13), (10, .int r_33), (9, .int r_28), (8, .int v_18), (0, .ref (a 0)), (1, .int p1), (2, .int p2), (5, .int x5_12), (6, .int x6_13), (7, .int x7_17)]) hx hb dX12_bestPin_185 hl (by decide) rfl (fun ls hl => ?_)
                        refine lv_iload hx hb dX12_bestPin_187 (lv_at hl 2 rfl) ?_
                        refine lv_istore (lv' := [(5, .int r_33), (4, .int r_28), (3, .int x6_13), (10, .int r_33), (9, .int r_28), (8, .int v_18), (0, .ref (a 0)), (1, .int p1), (2, .int p2), (6, .int x6_13), (7, .int x7_17)]) hx hb dX12_bestPin_189 hl (by decide) rfl (fun ls hl => ?_)
                        obtain ⟨x6_42, ex6_42, h⟩ := bnd_e h
                        refine lv_iinc (v := x6_42) (lv' := [(6, .int x6_42), (5, .int r_33), (4, .int r_28), (3, .int x6_13), (10, .int r_33), (9, .int r_28), (8, .int v_18), (0, .ref (a 0)), (1, .int p1), (2, .int p2), (7, .int x7_17)]) hx hb dX12_bestPin_191 hl (k := 9) rfl (by rw [ex6_42]; rfl) (by decide) rfl (fun ls hl => ?_)
                        refine lv_goto (tgt := 42) hx hb dX12_bestPin_194 (by decide) ?_
                        exact ih1 x6_13 r_28 r_33 x6_42 σ_30 _ _ ls h hP hS (lv_sub hl [7, 8, 9, 3, 2, 1, 0] rfl)
            obtain ⟨J105, eJ105, h⟩ := jn_e h
            have hJ105 : ∀ (σ_43 : MMem) (H : Heap) (locs : List Loc) (ls : Array Slot), J105 σ_43 = some (r, σ') → va_P D vwCl (wM ca a σ_43) H → va_S (AW 21 a) s.heap H locs → lv_has ls 11 [(0, .ref (a 0)), (1, .int p1), (2, .int p2), (3, .int x3_10), (4, .int x4_11), (5, .int x5_12), (6, .int x6_13), (7, .int x7_17)] → W p l e rm_X12_bestPin s m args below meth c H locs 0 0 Q (F0 m 105 ls []) := by
              intro σ_43 H locs ls h hP hS hl
              have h := ap1 eJ105 h
              refine lv_iconst (v := 0) hx hb dX12_bestPin_105 (by decide) ?_
              exact hJ106 0 σ_43 _ _ ls h hP hS (lv_sub hl [0, 1, 2, 3, 4, 5, 6, 7] rfl)
            refine lv_icmp_ge (tgt := 105) hx hb dX12_bestPin_68 (by decide) (fun c_44 => ?_) (fun c_44 => ?_)
            · have h := it c_44 h
              exact hJ105 σ_14 _ _ ls h hP hS (lv_sub hl [1, 2, 3, 4, 5, 6, 7, 0] rfl)
            · have h := ie c_44 h
              refine lv_iload hx hb dX12_bestPin_71 (lv_at hl 0 rfl) ?_
              refine lv_iconst (v := 4) hx hb dX12_bestPin_73 (by decide) ?_
              obtain ⟨J82, eJ82, h⟩ := jn_e h
              have hJ82 : ∀ (σ_45 : MMem) (H : Heap) (locs : List Loc) (ls : Array Slot), J82 σ_45 = some (r, σ') → va_P D vwCl (wM ca a σ_45) H → va_S (AW 21 a) s.heap H locs → lv_has ls 11 [(0, .ref (a 0)), (1, .int p1), (2, .int p2), (3, .int x3_10), (4, .int x4_11), (5, .int x5_12), (6, .int x6_13), (7, .int x7_17)] → W p l e rm_X12_bestPin s m args below meth c H locs 0 0 Q (F0 m 82 ls []) := by
                intro σ_45 H locs ls h hP hS hl
                have h := ap1 eJ82 h
                refine lv_aload_n hx hb dX12_bestPin_82 rfl (lv_at hl 0 rfl) ?_
                refine lv_iload hx hb dX12_bestPin_83 (lv_at hl 7 rfl) ?_
                refine lv_iload hx hb dX12_bestPin_85 (lv_at hl 6 rfl) ?_
                refine lv_bipush (v := 10) hx hb dX12_bestPin_87 (by decide) ?_
                refine lv_irem hx hb dX12_bestPin_89 (by decide) ?_
                refine lv_iload hx hb dX12_bestPin_90 (lv_at hl 6 rfl) ?_
                refine lv_bipush (v := 100) hx hb dX12_bestPin_92 (by decide) ?_
                refine lv_idiv hx hb dX12_bestPin_94 (by decide) ?_
                obtain ⟨y_46, ey_46, h⟩ := bnd_e h
                rw [← ey_46]
                obtain ⟨r_48, h_47, h⟩ := b1_e h
                refine xcall (rV C0 hK hP hl.1 (fun _ _ _ => trivial) Bt_b (c_X12_mayBe hI h_47) cv_X12_mayBe tw1132 (rcX12 hK hP) (rest := []) rfl (Nat.le_of_ble_eq_true rfl) ⟨rfl, rfl, Nat.le_of_ble_eq_true rfl, Nat.le_of_ble_eq_true rfl⟩ ⟨Nat.zero_le _, Nat.zero_le _⟩ dX12_bestPin_95) hS (fun H locs hP hS => ?_)
                refine lv_if_eq (tgt := 105) hx hb dX12_bestPin_98 (by decide) (fun c_49 => ?_) (fun c_49 => ?_)
                · have h := it c_49 h
                  exact hJ105 σ_45 _ _ ls h hP hS (lv_sub hl [0, 1, 2, 3, 4, 5, 6, 7] rfl)
                · have h := ie c_49 h
                  refine lv_iconst (v := 1) hx hb dX12_bestPin_101 (by decide) ?_
                  refine lv_goto (tgt := 106) hx hb dX12_bestPin_102 (by decide) ?_
                  exact hJ106 1 σ_45 _ _ ls h hP hS (lv_sub hl [0, 1, 2, 3, 4, 5, 6, 7] rfl)
              refine lv_icmp_ne (tgt := 82) hx hb dX12_bestPin_74 (by decide) (fun c_50 => ?_) (fun c_50 => ?_)
              · have h := ie c_50 h
                exact hJ82 σ_14 _ _ ls h hP hS (lv_sub hl [1, 2, 3, 4, 5, 6, 7, 0] rfl)
              · have h := it c_50 h
                refine lv_iload_n hx hb dX12_bestPin_77 rfl (lv_at hl 2 rfl) ?_
                refine lv_iconst (v := 1) hx hb dX12_bestPin_78 (by decide) ?_
                refine lv_icmp_ne (tgt := 105) hx hb dX12_bestPin_79 (by decide) (fun c_51 => ?_) (fun c_51 => ?_)
                · have h := ie c_51 h
                  exact hJ105 σ_14 _ _ ls h hP hS (lv_sub hl [1, 2, 3, 4, 5, 6, 7, 0] rfl)
                · have h := it c_51 h
                  exact hJ82 σ_14 _ _ ls h hP hS (lv_sub hl [1, 2, 3, 4, 5, 6, 7, 0] rfl)
      exact hL1 5000 (-4) r_9 0 0 σ_1 _ _ ls h hP hS (lv_sub hl [4, 5, 6, 3, 2, 1, 0] rfl)
    · have h := it c_7 h
      refine lv_iconst (v := (-1)) hx hb dX12_bestPin_25 (by decide) ?_
      rw [hQ]
      exact xzret C0 hP hS rfl h dX12_bestPin_26
def f_X12_wrongPins_L44 (p1 : Int32) (σ : MMem) : Nat → Int32 → Int32 → (Int32 → Int32 → Option (Int32)) → Option (Int32)
  | 0, _, _, _ => none
  | n + 1, x3_7, x4_8, K1 =>
    if p1 < 0 ∨ 8 ≤ p1.toNatClampNeg then none else
    if ((σ 18).1 p1.toNatClampNeg) ≤ x4_8 then
      K1 x3_7 x4_8
    else
      if x3_7 = 0 then
        K1 x3_7 x4_8
      else
        bnd ((100 * p1) + x4_8) fun (i_12 : Int32) =>
        if i_12 < 0 ∨ 800 ≤ i_12.toNatClampNeg then none else
        bnd ((σ 19).2 i_12.toNatClampNeg) fun (x5_14 : Int64) =>
        if (x4_8 - x4_8 / 3 * 3) = 0 then
          b1 (f_X12_in x5_14 0 7) fun r_25 =>
          bnd (x4_8 + 1) fun (x4_26 : Int32) =>
          f_X12_wrongPins_L44 p1 σ n r_25 x4_26 K1
        else
          if (x4_8 - x4_8 / 3 * 3) = 1 then
            b1 (f_X12_in x5_14 0 9) fun r_22 =>
            bnd (x4_8 + 1) fun (x4_23 : Int32) =>
            f_X12_wrongPins_L44 p1 σ n r_22 x4_23 K1
          else
            bnd ((((σ 0).1 0) - 1).toInt64) fun (y_17 : Int64) =>
            b1 (f_X12_in x5_14 0 y_17) fun r_19 =>
            bnd (x4_8 + 1) fun (x4_20 : Int32) =>
            f_X12_wrongPins_L44 p1 σ n r_19 x4_20 K1
def f_X12_wrongPins (p1 : Int32) (σ : MMem) : Option (Int32) :=
  b1 (f_X12_wrongSort p1 0 σ) fun r_2 =>
  if 0 ≤ r_2 then
    if p1 < 0 ∨ 8 ≤ p1.toNatClampNeg then none else
    bnd ((σ 18).1 p1.toNatClampNeg) fun (y_5 : Int32) =>
    jn (fun (v_6 : Int32) =>
      f_X12_wrongPins_L44 p1 σ 5000 v_6 0 fun (x3_27 : Int32) (u_28 : Int32) =>
        if x3_27 = 0 then
          some (-13)
        else
          some 0) fun J40 =>
    jn (fun (_ : Unit) =>
      J40 0) fun J39 =>
    if (y_5 - y_5 / 3 * 3) = 0 then
      if p1 < 0 ∨ 8 ≤ p1.toNatClampNeg then none else
      if 19 ≤ ((σ 18).1 p1.toNatClampNeg) then
        J39 ()
      else
        J40 1
    else
      J39 ()
  else
    some r_2
def rm_X12_wrongPins : Room := { frames := 3, cells := 0, slots := 0, locals := 68 }
set_option maxHeartbeats 4000000 in
set_option maxRecDepth 100000 in
theorem c_X12_wrongPins {l : Launch} {D : va_G} {ca : Nat → ClassId} {a : Nat → Nat} (hI : InjN 21 a) {p1 : Int32} {σ : MMem} {r : Int32}  (h : f_X12_wrongPins p1 σ = some r) : XMM l D ca a Bt yX12_wrongPins cX12_wrongPins 7 (some .int) rm_X12_wrongPins [.ref (a 0), .int p1] σ (some (.int r)) σ := by
  refine XM.of pn_X12 (Nat.le_of_ble_eq_true rfl) ?_
  intro p e s m args below meth c ls Q hQ C0 hK hB hP hS hl
  have C0 : Cx p s m args meth c RX12 cX12_wrongPins 7 (some .int) := C0
  have hx := C0.1
  have hb := C0.2.1
  have hl : lv_has ls 7 [(0, .ref (a 0)), (1, .int p1)] := hl
  rw [f_X12_wrongPins] at h
  refine lv_aload_n hx hb dX12_wrongPins_0 rfl (lv_at hl 0 rfl) ?_
  refine lv_iload_n hx hb dX12_wrongPins_1 rfl (lv_at hl 1 rfl) ?_
  refine lv_iconst (v := 0) hx hb dX12_wrongPins_2 (by decide) ?_
  obtain ⟨r_2, h_1, h⟩ := b1_e h
  refine xcall (rV C0 hK hP hl.1 (fun _ _ _ => trivial) Bt_b (c_X12_wrongSort hI h_1) cv_X12_wrongSort tw1082 (rcX12 hK hP) (rest := []) rfl (Nat.le_of_ble_eq_true rfl) ⟨rfl, rfl, Nat.le_of_ble_eq_true rfl, Nat.le_of_ble_eq_true rfl⟩ ⟨Nat.zero_le _, Nat.zero_le _⟩ dX12_wrongPins_3) hS (fun H locs hP hS => ?_)
  refine lv_istore_n (lv' := [(2, .int r_2), (0, .ref (a 0)), (1, .int p1)]) hx hb dX12_wrongPins_6 rfl hl (by decide) rfl (fun ls hl => ?_)
  refine lv_iload_n hx hb dX12_wrongPins_7 rfl (lv_at hl 0 rfl) ?_
  refine lv_if_ge (tgt := 13) hx hb dX12_wrongPins_8 (by decide) (fun c_3 => ?_) (fun c_3 => ?_)
  · have h := it c_3 h
    refine lv_aload_n hx hb dX12_wrongPins_13 rfl (lv_at hl 1 rfl) ?_
    refine gX12_35 C0 hK hP tw977 dX12_wrongPins_14 ?_
    refine lv_iload_n hx hb dX12_wrongPins_17 rfl (lv_at hl 2 rfl) ?_
    obtain ⟨b_4, h⟩ := ck h
    refine mald (i := 18) (N := 8) C0 hK hP (by decide) (by decide) rfl b_4 dX12_wrongPins_18 ?_
    refine lv_iconst (v := 3) hx hb dX12_wrongPins_19 (by decide) ?_
    obtain ⟨y_5, ey_5, h⟩ := bnd_e h
    rw [← ey_5]
    refine lv_irem hx hb dX12_wrongPins_20 (by decide) ?_
    obtain ⟨J40, eJ40, h⟩ := jn_e h
    have hJ40 : ∀ (v_6 : Int32) (H : Heap) (locs : List Loc) (ls : Array Slot), J40 v_6 = some r → va_P D vwCl (wM ca a σ) H → va_S (AW 21 a) s.heap H locs → lv_has ls 7 [(0, .ref (a 0)), (1, .int p1)] → W p l e rm_X12_wrongPins s m args below meth c H locs 0 0 Q (F0 m 40 ls [.int v_6]) := by
      intro v_6 H locs ls h hP hS hl
      have h := ap1 eJ40 h
      refine lv_istore_n (lv' := [(3, .int v_6), (0, .ref (a 0)), (1, .int p1)]) hx hb dX12_wrongPins_40 rfl hl (by decide) rfl (fun ls hl => ?_)
      refine lv_iconst (v := 0) hx hb dX12_wrongPins_41 (by decide) ?_
      refine lv_istore (lv' := [(4, .int 0), (3, .int v_6), (0, .ref (a 0)), (1, .int p1)]) hx hb dX12_wrongPins_42 hl (by decide) rfl (fun ls hl => ?_)
      obtain ⟨K1, eK1, h⟩ := lp_e (f := fun K => f_X12_wrongPins_L44 p1 σ 5000 v_6 0 K) h
      have h : f_X12_wrongPins_L44 p1 σ 5000 v_6 0 K1 = some r := h
      have hX1 : ∀ (x3_27 : Int32) (u_28 : Int32) (H : Heap) (locs : List Loc) (ls : Array Slot), K1 x3_27 u_28 = some r → va_P D vwCl (wM ca a σ) H → va_S (AW 21 a) s.heap H locs → lv_has ls 7 [(3, .int x3_27)] → W p l e rm_X12_wrongPins s m args below meth c H locs 0 0 Q (F0 m 120 ls []) := by
        intro x3_27 u_28 H locs ls h hP hS hl
        have h := ap2 eK1 h
        refine lv_iload_n hx hb dX12_wrongPins_120 rfl (lv_at hl 0 rfl) ?_
        refine lv_if_eq (tgt := 128) hx hb dX12_wrongPins_121 (by decide) (fun c_29 => ?_) (fun c_29 => ?_)
        · have h := it c_29 h
          refine lv_bipush (v := (-13)) hx hb dX12_wrongPins_128 (by decide) ?_
          rw [hQ]
          exact xzretr C0 hP hS rfl h dX12_wrongPins_130
        · have h := ie c_29 h
          refine lv_iconst (v := 0) hx hb dX12_wrongPins_124 (by decide) ?_
          refine lv_goto (tgt := 130) hx hb dX12_wrongPins_125 (by decide) ?_
          rw [hQ]
          exact xzretr C0 hP hS rfl h dX12_wrongPins_130
      have hL1 : ∀ (n : Nat) (x3_7 : Int32) (x4_8 : Int32) (H : Heap) (locs : List Loc) (ls : Array Slot), f_X12_wrongPins_L44 p1 σ n x3_7 x4_8 K1 = some r → va_P D vwCl (wM ca a σ) H → va_S (AW 21 a) s.heap H locs → lv_has ls 7 [(0, .ref (a 0)), (1, .int p1), (3, .int x3_7), (4, .int x4_8)] → W p l e rm_X12_wrongPins s m args below meth c H locs 0 0 Q (F0 m 44 ls []) := by
        intro n
        induction n with
        | zero => intro x3_7 x4_8 H locs ls h; rw [f_X12_wrongPins_L44] at h; cases h
        | succ n ih1 =>
          intro x3_7 x4_8 H locs ls h hP hS hl
          rw [f_X12_wrongPins_L44] at h
          refine lv_iload hx hb dX12_wrongPins_44 (lv_at hl 3 rfl) ?_
          refine lv_aload_n hx hb dX12_wrongPins_46 rfl (lv_at hl 0 rfl) ?_
          refine gX12_35 C0 hK hP tw977 dX12_wrongPins_47 ?_
          refine lv_iload_n hx hb dX12_wrongPins_50 rfl (lv_at hl 1 rfl) ?_
          obtain ⟨b_9, h⟩ := ck h
          refine mald (i := 18) (N := 8) C0 hK hP (by decide) (by decide) rfl b_9 dX12_wrongPins_51 ?_
          refine lv_icmp_ge (tgt := 120) hx hb dX12_wrongPins_52 (by decide) (fun c_10 => ?_) (fun c_10 => ?_)
          · have h := it c_10 h
            exact hX1 x3_7 x4_8 _ _ ls h hP hS (lv_sub hl [2] rfl)
          · have h := ie c_10 h
            refine lv_iload_n hx hb dX12_wrongPins_55 rfl (lv_at hl 2 rfl) ?_
            refine lv_if_eq (tgt := 120) hx hb dX12_wrongPins_56 (by decide) (fun c_11 => ?_) (fun c_11 => ?_)
            · have h := it c_11 h
              exact hX1 x3_7 x4_8 _ _ ls h hP hS (lv_sub hl [2] rfl)
            · have h := ie c_11 h
              refine lv_aload_n hx hb dX12_wrongPins_59 rfl (lv_at hl 0 rfl) ?_
              refine gX12_36 C0 hK hP tw978 dX12_wrongPins_60 ?_
              refine lv_bipush (v := 100) hx hb dX12_wrongPins_63 (by decide) ?_
              refine lv_iload_n hx hb dX12_wrongPins_65 rfl (lv_at hl 1 rfl) ?_
              refine lv_imul hx hb dX12_wrongPins_66 ?_
              refine lv_iload hx hb dX12_wrongPins_67 (lv_at hl 3 rfl) ?_
              refine lv_iadd hx hb dX12_wrongPins_69 ?_
              obtain ⟨i_12, ei_12, h⟩ := bnd_e h
              refine nm_i ei_12 ?_
              obtain ⟨b_13, h⟩ := ck h
              refine mlald (i := 19) (N := 800) C0 hK hP (by decide) (by decide) rfl b_13 dX12_wrongPins_70 ?_
              obtain ⟨x5_14, ex5_14, h⟩ := bnd_e h
              refine nm_l ex5_14 ?_
              refine lv_lstore (lv' := [(5, .long x5_14), (0, .ref (a 0)), (1, .int p1), (3, .int x3_7), (4, .int x4_8)]) hx hb dX12_wrongPins_71 hl (by decide) rfl (fun ls hl => ?_)
              refine lv_lload hx hb dX12_wrongPins_73 (lv_at hl 0 rfl) ?_
              refine lv_lconst (v := 0) hx hb dX12_wrongPins_75 (by decide) ?_
              refine lv_iload hx hb dX12_wrongPins_76 (lv_at hl 4 rfl) ?_
              refine lv_iconst (v := 3) hx hb dX12_wrongPins_78 (by decide) ?_
              refine lv_irem hx hb dX12_wrongPins_79 (by decide) ?_
              refine lv_if_ne (tgt := 89) hx hb dX12_wrongPins_80 (by decide) (fun c_15 => ?_) (fun c_15 => ?_)
              · have h := ie c_15 h
                refine lv_iload hx hb dX12_wrongPins_89 (lv_at hl 4 rfl) ?_
                refine lv_iconst (v := 3) hx hb dX12_wrongPins_91 (by decide) ?_
                refine lv_irem hx hb dX12_wrongPins_92 (by decide) ?_
                refine lv_iconst (v := 1) hx hb dX12_wrongPins_93 (by decide) ?_
                refine lv_icmp_ne (tgt := 103) hx hb dX12_wrongPins_94 (by decide) (fun c_16 => ?_) (fun c_16 => ?_)
                · have h := ie c_16 h
                  refine lv_aload_n hx hb dX12_wrongPins_103 rfl (lv_at hl 1 rfl) ?_
                  refine gX12_0 C0 hK hP tw942 dX12_wrongPins_104 ?_
                  refine lv_iconst (v := 1) hx hb dX12_wrongPins_107 (by decide) ?_
                  refine lv_isub hx hb dX12_wrongPins_108 ?_
                  refine lv_i2l (v := (((σ 0).1 0) - 1).toInt64) hx hb dX12_wrongPins_109 rfl ?_
                  obtain ⟨y_17, ey_17, h⟩ := bnd_e h
                  rw [← ey_17]
                  obtain ⟨r_19, h_18, h⟩ := b1_e h
                  refine xcall (rS C0 hK hP hl.1 (fun _ _ _ => trivial) Bt_b (c_X12_in hI h_18) cs_X12_in tw1091 (rest := []) rfl (Nat.le_of_ble_eq_true rfl) ⟨rfl, rfl, Nat.le_of_ble_eq_true rfl, Nat.le_of_ble_eq_true rfl⟩ ⟨Nat.zero_le _, Nat.zero_le _⟩ dX12_wrongPins_110) hS (fun H locs hP hS => ?_)
                  refine lv_istore_n (lv' := [(3, .int r_19), (5, .long x5_14), (0, .ref (a 0)), (1, .int p1), (4, .int x4_8)]) hx hb dX12_wrongPins_113 rfl hl (by decide) rfl (fun ls hl => ?_)
                  obtain ⟨x4_20, ex4_20, h⟩ := bnd_e h
                  refine lv_iinc (v := x4_20) (lv' := [(4, .int x4_20), (3, .int r_19), (5, .long x5_14), (0, .ref (a 0)), (1, .int p1)]) hx hb dX12_wrongPins_114 hl (k := 4) rfl (by rw [ex4_20]; rfl) (by decide) rfl (fun ls hl => ?_)
                  refine lv_goto (tgt := 44) hx hb dX12_wrongPins_117 (by decide) ?_
                  exact ih1 r_19 x4_20 _ _ ls h hP hS (lv_sub hl [3, 4, 1, 0] rfl)
                · have h := it c_16 h
                  refine lv_ldc2 (v := 9) hx hb C0.2.2.2.1 (C0.2.2.2.2.1 _ tw1163) dX12_wrongPins_97 ?_
                  refine lv_goto (tgt := 110) hx hb dX12_wrongPins_100 (by decide) ?_
                  obtain ⟨r_22, h_21, h⟩ := b1_e h
                  refine xcall (rS C0 hK hP hl.1 (fun _ _ _ => trivial) Bt_b (c_X12_in hI h_21) cs_X12_in tw1091 (rest := []) rfl (Nat.le_of_ble_eq_true rfl) ⟨rfl, rfl, Nat.le_of_ble_eq_true rfl, Nat.le_of_ble_eq_true rfl⟩ ⟨Nat.zero_le _, Nat.zero_le _⟩ dX12_wrongPins_110) hS (fun H locs hP hS => ?_)
                  refine lv_istore_n (lv' := [(3, .int r_22), (5, .long x5_14), (0, .ref (a 0)), (1, .int p1), (4, .int x4_8)]) hx hb dX12_wrongPins_113 rfl hl (by decide) rfl (fun ls hl => ?_)
                  obtain ⟨x4_23, ex4_23, h⟩ := bnd_e h
                  refine lv_iinc (v := x4_23) (lv' := [(4, .int x4_23), (3, .int r_22), (5, .long x5_14), (0, .ref (a 0)), (1, .int p1)]) hx hb dX12_wrongPins_114 hl (k := 4) rfl (by rw [ex4_23]; rfl) (by decide) rfl (fun ls hl => ?_)
                  refine lv_goto (tgt := 44) hx hb dX12_wrongPins_117 (by decide) ?_
                  exact ih1 r_22 x4_23 _ _ ls h hP hS (lv_sub hl [3, 4, 1, 0] rfl)
              · have h := it c_15 h
                refine lv_ldc2 (v := 7) hx hb C0.2.2.2.1 (C0.2.2.2.2.1 _ tw1090) dX12_wrongPins_83 ?_
                refine lv_goto (tgt := 110) hx hb dX12_wrongPins_86 (by decide) ?_
                obtain ⟨r_25, h_24, h⟩ := b1_e h
                refine xcall (rS C0 hK hP hl.1 (fun _ _ _ => trivial) Bt_b (c_X12_in hI h_24) cs_X12_in tw1091 (rest := []) rfl (Nat.le_of_ble_eq_true rfl) ⟨rfl, rfl, Nat.le_of_ble_eq_true rfl, Nat.le_of_ble_eq_true rfl⟩ ⟨Nat.zero_le _, Nat.zero_le _⟩ dX12_wrongPins_110) hS (fun H locs hP hS => ?_)
                refine lv_istore_n (lv' := [(3, .int r_25), (5, .long x5_14), (0, .ref (a 0)), (1, .int p1), (4, .int x4_8)]) hx hb dX12_wrongPins_113 rfl hl (by decide) rfl (fun ls hl => ?_)
                obtain ⟨x4_26, ex4_26, h⟩ := bnd_e h
                refine lv_iinc (v := x4_26) (lv' := [(4, .int x4_26), (3, .int r_25), (5, .long x5_14), (0, .ref (a 0)), (1, .int p1)]) hx hb dX12_wrongPins_114 hl (k := 4) rfl (by rw [ex4_26]; rfl) (by decide) rfl (fun ls hl => ?_)
                refine lv_goto (tgt := 44) hx hb dX12_wrongPins_117 (by decide) ?_
                exact ih1 r_25 x4_26 _ _ ls h hP hS (lv_sub hl [3, 4, 1, 0] rfl)
      exact hL1 5000 v_6 0 _ _ ls h hP hS (lv_sub hl [2, 3, 1, 0] rfl)
    obtain ⟨J39, eJ39, h⟩ := jn_e h
    have hJ39 : ∀ (_ : Unit) (H : Heap) (locs : List Loc) (ls : Array Slot), J39 () = some r → va_P D vwCl (wM ca a σ) H → va_S (AW 21 a) s.heap H locs → lv_has ls 7 [(0, .ref (a 0)), (1, .int p1)] → W p l e rm_X12_wrongPins s m args below meth c H locs 0 0 Q (F0 m 39 ls []) := by
      intro _ H locs ls h hP hS hl
      have h := ap1 eJ39 h
      refine lv_iconst (v := 0) hx hb dX12_wrongPins_39 (by decide) ?_
      exact hJ40 0 _ _ ls h hP hS (lv_sub hl [0, 1] rfl)
    refine lv_if_ne (tgt := 39) hx hb dX12_wrongPins_21 (by decide) (fun c_30 => ?_) (fun c_30 => ?_)
    · have h := ie c_30 h
      exact hJ39 () _ _ ls h hP hS (lv_sub hl [1, 2] rfl)
    · have h := it c_30 h
      refine lv_aload_n hx hb dX12_wrongPins_24 rfl (lv_at hl 1 rfl) ?_
      refine gX12_35 C0 hK hP tw977 dX12_wrongPins_25 ?_
      refine lv_iload_n hx hb dX12_wrongPins_28 rfl (lv_at hl 2 rfl) ?_
      obtain ⟨b_31, h⟩ := ck h
      refine mald (i := 18) (N := 8) C0 hK hP (by decide) (by decide) rfl b_31 dX12_wrongPins_29 ?_
      refine lv_bipush (v := 19) hx hb dX12_wrongPins_30 (by decide) ?_
      refine lv_icmp_ge (tgt := 39) hx hb dX12_wrongPins_32 (by decide) (fun c_32 => ?_) (fun c_32 => ?_)
      · have h := it c_32 h
        exact hJ39 () _ _ ls h hP hS (lv_sub hl [1, 2] rfl)
      · have h := ie c_32 h
        refine lv_iconst (v := 1) hx hb dX12_wrongPins_35 (by decide) ?_
        refine lv_goto (tgt := 40) hx hb dX12_wrongPins_36 (by decide) ?_
        exact hJ40 1 _ _ ls h hP hS (lv_sub hl [1, 2] rfl)
  · have h := ie c_3 h
    refine lv_iload_n hx hb dX12_wrongPins_11 rfl (lv_at hl 0 rfl) ?_
    rw [hQ]
    exact xzretr C0 hP hS rfl h dX12_wrongPins_12
def f_X12_told (p1 : Int32) (p2 : Int32) (σ : MMem) : Option (Int32) :=
  bnd ((100 * p1) + p2) fun (i_1 : Int32) =>
  if i_1 < 0 ∨ 800 ≤ i_1.toNatClampNeg then none else
  some (((σ 19).2 i_1.toNatClampNeg).toInt32)
def rm_X12_told : Room := { frames := 0, cells := 0, slots := 0, locals := 0 }
set_option maxHeartbeats 4000000 in
set_option maxRecDepth 100000 in
theorem c_X12_told {l : Launch} {D : va_G} {ca : Nat → ClassId} {a : Nat → Nat} (hI : InjN 21 a) {p1 : Int32} {p2 : Int32} {σ : MMem} {r : Int32}  (h : f_X12_told p1 p2 σ = some r) : XMM l D ca a Bt yX12_told cX12_told 3 (some .int) rm_X12_told [.ref (a 0), .int p1, .int p2] σ (some (.int r)) σ := by
  refine XM.of pn_X12 (Nat.le_of_ble_eq_true rfl) ?_
  intro p e s m args below meth c ls Q hQ C0 hK hB hP hS hl
  have C0 : Cx p s m args meth c RX12 cX12_told 3 (some .int) := C0
  have hx := C0.1
  have hb := C0.2.1
  have hl : lv_has ls 3 [(0, .ref (a 0)), (1, .int p1), (2, .int p2)] := hl
  rw [f_X12_told] at h
  refine lv_aload_n hx hb dX12_told_0 rfl (lv_at hl 0 rfl) ?_
  refine gX12_36 C0 hK hP tw978 dX12_told_1 ?_
  refine lv_bipush (v := 100) hx hb dX12_told_4 (by decide) ?_
  refine lv_iload_n hx hb dX12_told_6 rfl (lv_at hl 1 rfl) ?_
  refine lv_imul hx hb dX12_told_7 ?_
  refine lv_iload_n hx hb dX12_told_8 rfl (lv_at hl 2 rfl) ?_
  refine lv_iadd hx hb dX12_told_9 ?_
  obtain ⟨i_1, ei_1, h⟩ := bnd_e h
  refine nm_i ei_1 ?_
  obtain ⟨b_2, h⟩ := ck h
  refine mlald (i := 19) (N := 800) C0 hK hP (by decide) (by decide) rfl b_2 dX12_told_10 ?_
  refine lv_l2i (v := ((σ 19).2 i_1.toNatClampNeg).toInt32) hx hb dX12_told_11 rfl ?_
  rw [hQ]
  exact xzretr C0 hP hS rfl h dX12_told_12
def f_X12_puts (p1 : Int32) (p2 : Int32) (σ : MMem) : Option (Int32 × MMem) :=
  b1 (f_X12_told p1 (3 * p2) σ) fun r_2 =>
  b1 (f_X12_told p1 ((3 * p2) + 1) σ) fun r_4 =>
  b1 (f_X12_told p1 ((3 * p2) + 2) σ) fun r_6 =>
  b1 (f_X12_mayBe r_2 r_4 r_6 σ) fun r_8 =>
  if r_8 = 0 then
    if r_8 = 0 ∨ r_8 = 1 then some (r_8, σ) else none
  else
    b1 (f_X12_does r_2 r_4 r_6 σ) fun σ_12 =>
    if r_8 = 0 ∨ r_8 = 1 then some (r_8, σ_12) else none
def rm_X12_puts : Room := { frames := 3, cells := 0, slots := 0, locals := 67 }
set_option maxHeartbeats 4000000 in
set_option maxRecDepth 100000 in
theorem c_X12_puts {l : Launch} {D : va_G} {ca : Nat → ClassId} {a : Nat → Nat} (hI : InjN 21 a) {p1 : Int32} {p2 : Int32} {σ : MMem} {r : Int32} {σ' : MMem}  (h : f_X12_puts p1 p2 σ = some (r, σ')) : XMM l D ca a Bt yX12_puts cX12_puts 7 (some .boolean) rm_X12_puts [.ref (a 0), .int p1, .int p2] σ (some (.int r)) σ' := by
  refine XM.of pn_X12 (Nat.le_of_ble_eq_true rfl) ?_
  intro p e s m args below meth c ls Q hQ C0 hK hB hP hS hl
  have C0 : Cx p s m args meth c RX12 cX12_puts 7 (some .boolean) := C0
  have hx := C0.1
  have hb := C0.2.1
  have hl : lv_has ls 7 [(0, .ref (a 0)), (1, .int p1), (2, .int p2)] := hl
  rw [f_X12_puts] at h
  refine lv_aload_n hx hb dX12_puts_0 rfl (lv_at hl 0 rfl) ?_
  refine lv_iload_n hx hb dX12_puts_1 rfl (lv_at hl 1 rfl) ?_
  refine lv_iconst (v := 3) hx hb dX12_puts_2 (by decide) ?_
  refine lv_iload_n hx hb dX12_puts_3 rfl (lv_at hl 2 rfl) ?_
  refine lv_imul hx hb dX12_puts_4 ?_
  obtain ⟨r_2, h_1, h⟩ := b1_e h
  refine xcall (rV C0 hK hP hl.1 (fun _ _ _ => trivial) Bt_b (c_X12_told hI h_1) cv_X12_told tw1215 (rcX12 hK hP) (rest := []) rfl (Nat.le_of_ble_eq_true rfl) ⟨rfl, rfl, Nat.le_of_ble_eq_true rfl, Nat.le_of_ble_eq_true rfl⟩ ⟨Nat.zero_le _, Nat.zero_le _⟩ dX12_puts_5) hS (fun H locs hP hS => ?_)
  refine lv_istore_n (lv' := [(3, .int r_2), (0, .ref (a 0)), (1, .int p1), (2, .int p2)]) hx hb dX12_puts_8 rfl hl (by decide) rfl (fun ls hl => ?_)
  refine lv_aload_n hx hb dX12_puts_9 rfl (lv_at hl 1 rfl) ?_
  refine lv_iload_n hx hb dX12_puts_10 rfl (lv_at hl 2 rfl) ?_
  refine lv_iconst (v := 3) hx hb dX12_puts_11 (by decide) ?_
  refine lv_iload_n hx hb dX12_puts_12 rfl (lv_at hl 3 rfl) ?_
  refine lv_imul hx hb dX12_puts_13 ?_
  refine lv_iconst (v := 1) hx hb dX12_puts_14 (by decide) ?_
  refine lv_iadd hx hb dX12_puts_15 ?_
  obtain ⟨r_4, h_3, h⟩ := b1_e h
  refine xcall (rV C0 hK hP hl.1 (fun _ _ _ => trivial) Bt_b (c_X12_told hI h_3) cv_X12_told tw1215 (rcX12 hK hP) (rest := []) rfl (Nat.le_of_ble_eq_true rfl) ⟨rfl, rfl, Nat.le_of_ble_eq_true rfl, Nat.le_of_ble_eq_true rfl⟩ ⟨Nat.zero_le _, Nat.zero_le _⟩ dX12_puts_16) hS (fun H locs hP hS => ?_)
  refine lv_istore (lv' := [(4, .int r_4), (3, .int r_2), (0, .ref (a 0)), (1, .int p1), (2, .int p2)]) hx hb dX12_puts_19 hl (by decide) rfl (fun ls hl => ?_)
  refine lv_aload_n hx hb dX12_puts_21 rfl (lv_at hl 2 rfl) ?_
  refine lv_iload_n hx hb dX12_puts_22 rfl (lv_at hl 3 rfl) ?_
  refine lv_iconst (v := 3) hx hb dX12_puts_23 (by decide) ?_
  refine lv_iload_n hx hb dX12_puts_24 rfl (lv_at hl 4 rfl) ?_
  refine lv_imul hx hb dX12_puts_25 ?_
  refine lv_iconst (v := 2) hx hb dX12_puts_26 (by decide) ?_
  refine lv_iadd hx hb dX12_puts_27 ?_
  obtain ⟨r_6, h_5, h⟩ := b1_e h
  refine xcall (rV C0 hK hP hl.1 (fun _ _ _ => trivial) Bt_b (c_X12_told hI h_5) cv_X12_told tw1215 (rcX12 hK hP) (rest := []) rfl (Nat.le_of_ble_eq_true rfl) ⟨rfl, rfl, Nat.le_of_ble_eq_true rfl, Nat.le_of_ble_eq_true rfl⟩ ⟨Nat.zero_le _, Nat.zero_le _⟩ dX12_puts_28) hS (fun H locs hP hS => ?_)
  refine lv_istore (lv' := [(5, .int r_6), (4, .int r_4), (3, .int r_2), (0, .ref (a 0)), (1, .int p1), (2, .int p2)]) hx hb dX12_puts_31 hl (by decide) rfl (fun ls hl => ?_)
  refine lv_aload_n hx hb dX12_puts_33 rfl (lv_at hl 3 rfl) ?_
  refine lv_iload_n hx hb dX12_puts_34 rfl (lv_at hl 2 rfl) ?_
  refine lv_iload hx hb dX12_puts_35 (lv_at hl 1 rfl) ?_
  refine lv_iload hx hb dX12_puts_37 (lv_at hl 0 rfl) ?_
  obtain ⟨r_8, h_7, h⟩ := b1_e h
  refine xcall (rV C0 hK hP hl.1 (fun _ _ _ => trivial) Bt_b (c_X12_mayBe hI h_7) cv_X12_mayBe tw1132 (rcX12 hK hP) (rest := []) rfl (Nat.le_of_ble_eq_true rfl) ⟨rfl, rfl, Nat.le_of_ble_eq_true rfl, Nat.le_of_ble_eq_true rfl⟩ ⟨Nat.zero_le _, Nat.zero_le _⟩ dX12_puts_39) hS (fun H locs hP hS => ?_)
  refine lv_istore (lv' := [(6, .int r_8), (5, .int r_6), (4, .int r_4), (3, .int r_2), (0, .ref (a 0)), (1, .int p1), (2, .int p2)]) hx hb dX12_puts_42 hl (by decide) rfl (fun ls hl => ?_)
  refine lv_iload hx hb dX12_puts_44 (lv_at hl 0 rfl) ?_
  refine lv_if_eq (tgt := 58) hx hb dX12_puts_46 (by decide) (fun c_9 => ?_) (fun c_9 => ?_)
  · have h := it c_9 h
    refine lv_iload hx hb dX12_puts_58 (lv_at hl 0 rfl) ?_
    obtain ⟨b_10, h⟩ := asr h
    rw [hQ]
    exact xzret C0 hP hS (by rcases b_10 with hz | hz <;> rw [hz] <;> rfl) h dX12_puts_60
  · have h := ie c_9 h
    refine lv_aload_n hx hb dX12_puts_49 rfl (lv_at hl 4 rfl) ?_
    refine lv_iload_n hx hb dX12_puts_50 rfl (lv_at hl 3 rfl) ?_
    refine lv_iload hx hb dX12_puts_51 (lv_at hl 2 rfl) ?_
    refine lv_iload hx hb dX12_puts_53 (lv_at hl 1 rfl) ?_
    obtain ⟨σ_12, h_11, h⟩ := b1_e h
    refine xcall (rV C0 hK hP hl.1 (fun _ _ _ => trivial) Bt_b (c_X12_does hI h_11) cv_X12_does tw1136 (rcX12 hK hP) (rest := []) rfl (Nat.le_of_ble_eq_true rfl) ⟨rfl, rfl, Nat.le_of_ble_eq_true rfl, Nat.le_of_ble_eq_true rfl⟩ ⟨Nat.zero_le _, Nat.zero_le _⟩ dX12_puts_55) hS (fun H locs hP hS => ?_)
    refine lv_iload hx hb dX12_puts_58 (lv_at hl 0 rfl) ?_
    obtain ⟨b_13, h⟩ := asr h
    rw [hQ]
    exact xzret C0 hP hS (by rcases b_13 with hz | hz <;> rw [hz] <;> rfl) h dX12_puts_60
def f_X12_least_L78 (p1 : Int32) (x4_8 : Int32) (x8_14 : Int32) : Nat → Int32 → Int32 → Int32 → MMem → (Int32 → Int32 → Int32 → MMem → Option (Int32 × MMem)) → Option (Int32 × MMem)
  | 0, _, _, _, _, _ => none
  | n + 1, x9_19, x10_20, x11_21, σ_22, K2 =>
    if x4_8 ≤ x11_21 then
      K2 x9_19 x10_20 x11_21 σ_22
    else
      if x9_19 = 0 then
        K2 x9_19 x10_20 x11_21 σ_22
      else
        if ((x8_14 >>> (x11_21 &&& 31)) &&& 1) = 1 then
          b1 (f_X12_told p1 (3 * x11_21) σ_22) fun r_28 =>
          b1 (f_X12_told p1 ((3 * x11_21) + 1) σ_22) fun r_30 =>
          b1 (f_X12_minutesOf r_28 r_30) fun r_32 =>
          bnd (x10_20 + r_32) fun (x10_33 : Int32) =>
          b2 (f_X12_puts p1 x11_21 σ_22) fun r_35 σ_36 =>
          bnd (x11_21 + 1) fun (x11_37 : Int32) =>
          f_X12_least_L78 p1 x4_8 x8_14 n r_35 x10_33 x11_37 σ_36 K2
        else
          bnd (x11_21 + 1) fun (x11_26 : Int32) =>
          f_X12_least_L78 p1 x4_8 x8_14 n x9_19 x10_20 x11_26 σ_22 K2
def f_X12_least_L56 (p1 : Int32) (x4_8 : Int32) : Nat → Int32 → Int32 → Int32 → Int32 → MMem → (Int32 → Int32 → Int32 → Int32 → MMem → Option (Int32 × MMem)) → Option (Int32 × MMem)
  | 0, _, _, _, _, _, _ => none
  | n + 1, x5_11, x6_12, x7_13, x8_14, σ_15, K1 =>
    if (1 <<< (x4_8 &&& 31)) ≤ x8_14 then
      K1 x5_11 x6_12 x7_13 x8_14 σ_15
    else
      b1 (f_X12_open σ_15) fun σ_18 =>
      f_X12_least_L78 p1 x4_8 x8_14 5000 1 0 0 σ_18 fun (x9_38 : Int32) (x10_39 : Int32) (u_40 : Int32) (σ_41 : MMem) =>
        b1 (f_X12_lacksNow σ_41) fun r_43 =>
        b1 (f_X12_close σ_41) fun σ_45 =>
        if x9_38 = 0 then
          bnd (x8_14 + 1) fun (x8_47 : Int32) =>
          f_X12_least_L56 p1 x4_8 n x5_11 x6_12 x7_13 x8_47 σ_45 K1
        else
          if r_43 < x6_12 then
            bnd (x8_14 + 1) fun (x8_49 : Int32) =>
            f_X12_least_L56 p1 x4_8 n x8_14 r_43 x10_39 x8_49 σ_45 K1
          else
            if r_43 = x6_12 then
              if x7_13 ≤ x10_39 then
                bnd (x8_14 + 1) fun (x8_53 : Int32) =>
                f_X12_least_L56 p1 x4_8 n x5_11 x6_12 x7_13 x8_53 σ_45 K1
              else
                bnd (x8_14 + 1) fun (x8_54 : Int32) =>
                f_X12_least_L56 p1 x4_8 n x8_14 r_43 x10_39 x8_54 σ_45 K1
            else
              bnd (x8_14 + 1) fun (x8_51 : Int32) =>
              f_X12_least_L56 p1 x4_8 n x5_11 x6_12 x7_13 x8_51 σ_45 K1
def f_X12_least (p1 : Int32) (p2 : Int32) (σ : MMem) : Option (Int32 × MMem) :=
  bnd (uI σ 0 9 0) fun (σ_1 : MMem) =>
  b1 (f_X12_in p2.toInt64 0 1) fun r_3 =>
  jn (fun (v_4 : Int32) (σ_5 : MMem) =>
    if 0 ≤ v_4 then
      if p1 < 0 ∨ 8 ≤ p1.toNatClampNeg then none else
      bnd (((σ_5 18).1 p1.toNatClampNeg) / 3) fun (x4_8 : Int32) =>
      b1 (f_X12_lacksNow σ_5) fun r_10 =>
      f_X12_least_L56 p1 x4_8 5000 0 r_10 0 1 σ_5 fun (x5_55 : Int32) (x6_56 : Int32) (u_57 : Int32) (u_58 : Int32) (σ_59 : MMem) =>
        if p2 = 0 then
          some (x5_55, σ_59)
        else
          some (x6_56, σ_59)
    else
      some (v_4, σ_5)) fun J24 =>
  if r_3 = 0 then
    J24 (-1) σ_1
  else
    b1 (f_X12_wrongPins p1 σ_1) fun r_63 =>
    J24 r_63 σ_1
def rm_X12_least : Room := { frames := 4, cells := 0, slots := 0, locals := 94 }
set_option maxHeartbeats 4000000 in
set_option maxRecDepth 100000 in
theorem c_X12_least {l : Launch} {D : va_G} {ca : Nat → ClassId} {a : Nat → Nat} (hI : InjN 21 a) {p1 : Int32} {p2 : Int32} {σ : MMem} {r : Int32} {σ' : MMem}  (h : f_X12_least p1 p2 σ = some (r, σ')) : XMM l D ca a Bt yX12_least cX12_least 12 (some .int) rm_X12_least [.ref (a 0), .int p1, .int p2] σ (some (.int r)) σ' := by
  refine XM.of pn_X12 (Nat.le_of_ble_eq_true rfl) ?_
  intro p e s m args below meth c ls Q hQ C0 hK hB hP hS hl
  have C0 : Cx p s m args meth c RX12 cX12_least 12 (some .int) := C0
  have hx := C0.1
  have hb := C0.2.1
  have hl : lv_has ls 12 [(0, .ref (a 0)), (1, .int p1), (2, .int p2)] := hl
  rw [f_X12_least] at h
  refine lv_aload_n hx hb dX12_least_0 rfl (lv_at hl 0 rfl) ?_
  refine lv_iconst (v := 0) hx hb dX12_least_1 (by decide) ?_
  obtain ⟨σ_1, eσ_1, h⟩ := bnd_e h
  refine pX12_9 C0 hK hP tw951 hI hS dX12_least_2 (fun H locs hP hS => ?_)
  rw [← eσ_1] at hP
  refine lv_iload_n hx hb dX12_least_5 rfl (lv_at hl 2 rfl) ?_
  refine lv_i2l (v := p2.toInt64) hx hb dX12_least_6 rfl ?_
  refine lv_lconst (v := 0) hx hb dX12_least_7 (by decide) ?_
  refine lv_lconst (v := 1) hx hb dX12_least_8 (by decide) ?_
  obtain ⟨r_3, h_2, h⟩ := b1_e h
  refine xcall (rS C0 hK hP hl.1 (fun _ _ _ => trivial) Bt_b (c_X12_in hI h_2) cs_X12_in tw1091 (rest := []) rfl (Nat.le_of_ble_eq_true rfl) ⟨rfl, rfl, Nat.le_of_ble_eq_true rfl, Nat.le_of_ble_eq_true rfl⟩ ⟨Nat.zero_le _, Nat.zero_le _⟩ dX12_least_9) hS (fun H locs hP hS => ?_)
  obtain ⟨J24, eJ24, h⟩ := jn_e h
  have hJ24 : ∀ (v_4 : Int32) (σ_5 : MMem) (H : Heap) (locs : List Loc) (ls : Array Slot), J24 v_4 σ_5 = some (r, σ') → va_P D vwCl (wM ca a σ_5) H → va_S (AW 21 a) s.heap H locs → lv_has ls 12 [(0, .ref (a 0)), (1, .int p1), (2, .int p2)] → W p l e rm_X12_least s m args below meth c H locs 0 0 Q (F0 m 24 ls [.int v_4]) := by
    intro v_4 σ_5 H locs ls h hP hS hl
    have h := ap2 eJ24 h
    refine lv_istore_n (lv' := [(3, .int v_4), (0, .ref (a 0)), (1, .int p1), (2, .int p2)]) hx hb dX12_least_24 rfl hl (by decide) rfl (fun ls hl => ?_)
    refine lv_iload_n hx hb dX12_least_25 rfl (lv_at hl 0 rfl) ?_
    refine lv_if_ge (tgt := 31) hx hb dX12_least_26 (by decide) (fun c_6 => ?_) (fun c_6 => ?_)
    · have h := it c_6 h
      refine lv_aload_n hx hb dX12_least_31 rfl (lv_at hl 1 rfl) ?_
      refine gX12_35 C0 hK hP tw977 dX12_least_32 ?_
      refine lv_iload_n hx hb dX12_least_35 rfl (lv_at hl 2 rfl) ?_
      obtain ⟨b_7, h⟩ := ck h
      refine mald (i := 18) (N := 8) C0 hK hP (by decide) (by decide) rfl b_7 dX12_least_36 ?_
      refine lv_iconst (v := 3) hx hb dX12_least_37 (by decide) ?_
      refine lv_idiv hx hb dX12_least_38 (by decide) ?_
      obtain ⟨x4_8, ex4_8, h⟩ := bnd_e h
      refine nm_i ex4_8 ?_
      refine lv_istore (lv' := [(4, .int x4_8), (3, .int v_4), (0, .ref (a 0)), (1, .int p1), (2, .int p2)]) hx hb dX12_least_39 hl (by decide) rfl (fun ls hl => ?_)
      refine lv_iconst (v := 0) hx hb dX12_least_41 (by decide) ?_
      refine lv_istore (lv' := [(5, .int 0), (4, .int x4_8), (3, .int v_4), (0, .ref (a 0)), (1, .int p1), (2, .int p2)]) hx hb dX12_least_42 hl (by decide) rfl (fun ls hl => ?_)
      refine lv_aload_n hx hb dX12_least_44 rfl (lv_at hl 3 rfl) ?_
      obtain ⟨r_10, h_9, h⟩ := b1_e h
      refine xcall (rV C0 hK hP hl.1 (fun _ _ _ => trivial) Bt_b (c_X12_lacksNow hI h_9) cv_X12_lacksNow tw1177 (rcX12 hK hP) (rest := []) rfl (Nat.le_of_ble_eq_true rfl) ⟨rfl, rfl, Nat.le_of_ble_eq_true rfl, Nat.le_of_ble_eq_true rfl⟩ ⟨Nat.zero_le _, Nat.zero_le _⟩ dX12_least_45) hS (fun H locs hP hS => ?_)
      refine lv_istore (lv' := [(6, .int r_10), (5, .int 0), (4, .int x4_8), (3, .int v_4), (0, .ref (a 0)), (1, .int p1), (2, .int p2)]) hx hb dX12_least_48 hl (by decide) rfl (fun ls hl => ?_)
      refine lv_iconst (v := 0) hx hb dX12_least_50 (by decide) ?_
      refine lv_istore (lv' := [(7, .int 0), (6, .int r_10), (5, .int 0), (4, .int x4_8), (3, .int v_4), (0, .ref (a 0)), (1, .int p1), (2, .int p2)]) hx hb dX12_least_51 hl (by decide) rfl (fun ls hl => ?_)
      refine lv_iconst (v := 1) hx hb dX12_least_53 (by decide) ?_
      refine lv_istore (lv' := [(8, .int 1), (7, .int 0), (6, .int r_10), (5, .int 0), (4, .int x4_8), (3, .int v_4), (0, .ref (a 0)), (1, .int p1), (2, .int p2)]) hx hb dX12_least_54 hl (by decide) rfl (fun ls hl => ?_)
      obtain ⟨K1, eK1, h⟩ := lp_e (f := fun K => f_X12_least_L56 p1 x4_8 5000 0 r_10 0 1 σ_5 K) h
      have h : f_X12_least_L56 p1 x4_8 5000 0 r_10 0 1 σ_5 K1 = some (r, σ') := h
      have hX1 : ∀ (x5_55 : Int32) (x6_56 : Int32) (u_57 : Int32) (u_58 : Int32) (σ_59 : MMem) (H : Heap) (locs : List Loc) (ls : Array Slot), K1 x5_55 x6_56 u_57 u_58 σ_59 = some (r, σ') → va_P D vwCl (wM ca a σ_59) H → va_S (AW 21 a) s.heap H locs → lv_has ls 12 [(2, .int p2), (5, .int x5_55), (6, .int x6_56)] → W p l e rm_X12_least s m args below meth c H locs 0 0 Q (F0 m 198 ls []) := by
        intro x5_55 x6_56 u_57 u_58 σ_59 H locs ls h hP hS hl
        have h := ap5 eK1 h
        refine lv_iload_n hx hb dX12_least_198 rfl (lv_at hl 0 rfl) ?_
        refine lv_if_ne (tgt := 207) hx hb dX12_least_199 (by decide) (fun c_60 => ?_) (fun c_60 => ?_)
        · have h := ie c_60 h
          refine lv_iload hx hb dX12_least_207 (lv_at hl 2 rfl) ?_
          rw [hQ]
          exact xzret C0 hP hS rfl h dX12_least_209
        · have h := it c_60 h
          refine lv_iload hx hb dX12_least_202 (lv_at hl 1 rfl) ?_
          refine lv_goto (tgt := 209) hx hb dX12_least_204 (by decide) ?_
          rw [hQ]
          exact xzret C0 hP hS rfl h dX12_least_209
      have hL1 : ∀ (n : Nat) (x5_11 : Int32) (x6_12 : Int32) (x7_13 : Int32) (x8_14 : Int32) (σ_15 : MMem) (H : Heap) (locs : List Loc) (ls : Array Slot), f_X12_least_L56 p1 x4_8 n x5_11 x6_12 x7_13 x8_14 σ_15 K1 = some (r, σ') → va_P D vwCl (wM ca a σ_15) H → va_S (AW 21 a) s.heap H locs → lv_has ls 12 [(0, .ref (a 0)), (1, .int p1), (2, .int p2), (4, .int x4_8), (5, .int x5_11), (6, .int x6_12), (7, .int x7_13), (8, .int x8_14)] → W p l e rm_X12_least s m args below meth c H locs 0 0 Q (F0 m 56 ls []) := by
        intro n
        induction n with
        | zero => intro x5_11 x6_12 x7_13 x8_14 σ_15 H locs ls h; rw [f_X12_least_L56] at h; cases h
        | succ n ih1 =>
          intro x5_11 x6_12 x7_13 x8_14 σ_15 H locs ls h hP hS hl
          rw [f_X12_least_L56] at h
          refine lv_iload hx hb dX12_least_56 (lv_at hl 7 rfl) ?_
          refine lv_iconst (v := 1) hx hb dX12_least_58 (by decide) ?_
          refine lv_iload hx hb dX12_least_59 (lv_at hl 3 rfl) ?_
          refine lv_ishl hx hb dX12_least_61 ?_
          refine lv_icmp_ge (tgt := 198) hx hb dX12_least_62 (by decide) (fun c_16 => ?_) (fun c_16 => ?_)
          · have h := it c_16 h
            exact hX1 x5_11 x6_12 x7_13 x8_14 σ_15 _ _ ls h hP hS (lv_sub hl [2, 4, 5] rfl)
          · have h := ie c_16 h
            refine lv_aload_n hx hb dX12_least_65 rfl (lv_at hl 0 rfl) ?_
            obtain ⟨σ_18, h_17, h⟩ := b1_e h
            refine xcall (rV C0 hK hP hl.1 (fun _ _ _ => trivial) Bt_b (c_X12_open hI h_17) cv_X12_open tw1116 (rcX12 hK hP) (rest := []) rfl (Nat.le_of_ble_eq_true rfl) ⟨rfl, rfl, Nat.le_of_ble_eq_true rfl, Nat.le_of_ble_eq_true rfl⟩ ⟨Nat.zero_le _, Nat.zero_le _⟩ dX12_least_66) hS (fun H locs hP hS => ?_)
            refine lv_iconst (v := 1) hx hb dX12_least_69 (by decide) ?_
            refine lv_istore (lv' := [(9, .int 1), (0, .ref (a 0)), (1, .int p1), (2, .int p2), (4, .int x4_8), (5, .int x5_11), (6, .int x6_12), (7, .int x7_13), (8, .int x8_14)]) hx hb dX12_least_70 hl (by decide) rfl (fun ls hl => ?_)
            refine lv_iconst (v := 0) hx hb dX12_least_72 (by decide) ?_
            refine lv_istore (lv' := [(10, .int 0), (9, .int 1), (0, .ref (a 0)), (1, .int p1), (2, .int p2), (4, .int x4_8), (5, .int x5_11), (6, .int x6_12), (7, .int x7_13), (8, .int x8_14)]) hx hb dX12_least_73 hl (by decide) rfl (fun ls hl => ?_)
            refine lv_iconst (v := 0) hx hb dX12_least_75 (by decide) ?_
            refine lv_istore (lv' := [(11, .int 0), (10, .int 0), (9, .int 1), (0, .ref (a 0)), (1, .int p1), (2, .int p2), (4, .int x4_8), (5, .int x5_11), (6, .int x6_12), (7, .int x7_13), (8, .int x8_14)]) hx hb dX12_least_76 hl (by decide) rfl (fun ls hl => ?_)
            obtain ⟨K2, eK2, h⟩ := lp_e (f := fun K => f_X12_least_L78 p1 x4_8 x8_14 5000 1 0 0 σ_18 K) h
            have h : f_X12_least_L78 p1 x4_8 x8_14 5000 1 0 0 σ_18 K2 = some (r, σ') := h
            have hX2 : ∀ (x9_38 : Int32) (x10_39 : Int32) (u_40 : Int32) (σ_41 : MMem) (H : Heap) (locs : List Loc) (ls : Array Slot), K2 x9_38 x10_39 u_40 σ_41 = some (r, σ') → va_P D vwCl (wM ca a σ_41) H → va_S (AW 21 a) s.heap H locs → lv_has ls 12 [(0, .ref (a 0)), (1, .int p1), (2, .int p2), (4, .int x4_8), (5, .int x5_11), (6, .int x6_12), (7, .int x7_13), (8, .int x8_14), (9, .int x9_38), (10, .int x10_39)] → W p l e rm_X12_least s m args below meth c H locs 0 0 Q (F0 m 144 ls []) := by
              intro x9_38 x10_39 u_40 σ_41 H locs ls h hP hS hl
              have h := ap4 eK2 h
              refine lv_aload_n hx hb dX12_least_144 rfl (lv_at hl 0 rfl) ?_
              obtain ⟨r_43, h_42, h⟩ := b1_e h
              refine xcall (rV C0 hK hP hl.1 (fun _ _ _ => trivial) Bt_b (c_X12_lacksNow hI h_42) cv_X12_lacksNow tw1177 (rcX12 hK hP) (rest := []) rfl (Nat.le_of_ble_eq_true rfl) ⟨rfl, rfl, Nat.le_of_ble_eq_true rfl, Nat.le_of_ble_eq_true rfl⟩ ⟨Nat.zero_le _, Nat.zero_le _⟩ dX12_least_145) hS (fun H locs hP hS => ?_)
              refine lv_istore (lv' := [(11, .int r_43), (0, .ref (a 0)), (1, .int p1), (2, .int p2), (4, .int x4_8), (5, .int x5_11), (6, .int x6_12), (7, .int x7_13), (8, .int x8_14), (9, .int x9_38), (10, .int x10_39)]) hx hb dX12_least_148 hl (by decide) rfl (fun ls hl => ?_)
              refine lv_aload_n hx hb dX12_least_150 rfl (lv_at hl 1 rfl) ?_
              obtain ⟨σ_45, h_44, h⟩ := b1_e h
              refine xcall (rV C0 hK hP hl.1 (fun _ _ _ => trivial) Bt_b (c_X12_close hI h_44) cv_X12_close tw1150 (rcX12 hK hP) (rest := []) rfl (Nat.le_of_ble_eq_true rfl) ⟨rfl, rfl, Nat.le_of_ble_eq_true rfl, Nat.le_of_ble_eq_true rfl⟩ ⟨Nat.zero_le _, Nat.zero_le _⟩ dX12_least_151) hS (fun H locs hP hS => ?_)
              refine lv_iload hx hb dX12_least_154 (lv_at hl 9 rfl) ?_
              refine lv_if_eq (tgt := 192) hx hb dX12_least_156 (by decide) (fun c_46 => ?_) (fun c_46 => ?_)
              · have h := it c_46 h
                obtain ⟨x8_47, ex8_47, h⟩ := bnd_e h
                refine lv_iinc (v := x8_47) (lv' := [(8, .int x8_47), (11, .int r_43), (0, .ref (a 0)), (1, .int p1), (2, .int p2), (4, .int x4_8), (5, .int x5_11), (6, .int x6_12), (7, .int x7_13), (9, .int x9_38), (10, .int x10_39)]) hx hb dX12_least_192 hl (k := 8) rfl (by rw [ex8_47]; rfl) (by decide) rfl (fun ls hl => ?_)
                refine lv_goto (tgt := 56) hx hb dX12_least_195 (by decide) ?_
                exact ih1 x5_11 x6_12 x7_13 x8_47 σ_45 _ _ ls h hP hS (lv_sub hl [2, 3, 4, 5, 6, 7, 8, 0] rfl)
              · have h := ie c_46 h
                refine lv_iload hx hb dX12_least_159 (lv_at hl 0 rfl) ?_
                refine lv_iload hx hb dX12_least_161 (lv_at hl 6 rfl) ?_
                refine lv_icmp_lt (tgt := 180) hx hb dX12_least_163 (by decide) (fun c_48 => ?_) (fun c_48 => ?_)
                · have h := it c_48 h
                  refine lv_iload hx hb dX12_least_180 (lv_at hl 8 rfl) ?_
                  refine lv_istore (lv' := [(5, .int x8_14), (11, .int r_43), (0, .ref (a 0)), (1, .int p1), (2, .int p2), (4, .int x4_8), (6, .int x6_12), (7, .int x7_13), (8, .int x8_14), (9, .int x9_38), (10, .int x10_39)]) hx hb dX12_least_182 hl (by decide) rfl (fun ls hl => ?_)
                  refine lv_iload hx hb dX12_least_184 (lv_at hl 1 rfl) ?_
                  refine lv_istore (lv' := [(6, .int r_43), (5, .int x8_14), (11, .int r_43), (0, .ref (a 0)), (1, .int p1), (2, .int p2), (4, .int x4_8), (7, .int x7_13), (8, .int x8_14), (9, .int x9_38), (10, .int x10_39)]) hx hb dX12_least_186 hl (by decide) rfl (fun ls hl => ?_)
                  refine lv_iload hx hb dX12_least_188 (lv_at hl 10 rfl) ?_
                  refine lv_istore (lv' := [(7, .int x10_39), (6, .int r_43), (5, .int x8_14), (11, .int r_43), (0, .ref (a 0)), (1, .int p1), (2, .int p2), (4, .int x4_8), (8, .int x8_14), (9, .int x9_38), (10, .int x10_39)]) hx hb dX12_least_190 hl (by decide) rfl (fun ls hl => ?_)
                  obtain ⟨x8_49, ex8_49, h⟩ := bnd_e h
                  refine lv_iinc (v := x8_49) (lv' := [(8, .int x8_49), (7, .int x10_39), (6, .int r_43), (5, .int x8_14), (11, .int r_43), (0, .ref (a 0)), (1, .int p1), (2, .int p2), (4, .int x4_8), (9, .int x9_38), (10, .int x10_39)]) hx hb dX12_least_192 hl (k := 8) rfl (by rw [ex8_49]; rfl) (by decide) rfl (fun ls hl => ?_)
                  refine lv_goto (tgt := 56) hx hb dX12_least_195 (by decide) ?_
                  exact ih1 x8_14 r_43 x10_39 x8_49 σ_45 _ _ ls h hP hS (lv_sub hl [5, 6, 7, 8, 3, 2, 1, 0] rfl)
                · have h := ie c_48 h
                  refine lv_iload hx hb dX12_least_166 (lv_at hl 0 rfl) ?_
                  refine lv_iload hx hb dX12_least_168 (lv_at hl 6 rfl) ?_
                  refine lv_icmp_ne (tgt := 192) hx hb dX12_least_170 (by decide) (fun c_50 => ?_) (fun c_50 => ?_)
                  · have h := ie c_50 h
                    obtain ⟨x8_51, ex8_51, h⟩ := bnd_e h
                    refine lv_iinc (v := x8_51) (lv' := [(8, .int x8_51), (11, .int r_43), (0, .ref (a 0)), (1, .int p1), (2, .int p2), (4, .int x4_8), (5, .int x5_11), (6, .int x6_12), (7, .int x7_13), (9, .int x9_38), (10, .int x10_39)]) hx hb dX12_least_192 hl (k := 8) rfl (by rw [ex8_51]; rfl) (by decide) rfl (fun ls hl => ?_)
                    refine lv_goto (tgt := 56) hx hb dX12_least_195 (by decide) ?_
                    exact ih1 x5_11 x6_12 x7_13 x8_51 σ_45 _ _ ls h hP hS (lv_sub hl [2, 3, 4, 5, 6, 7, 8, 0] rfl)
                  · have h := it c_50 h
                    refine lv_iload hx hb dX12_least_173 (lv_at hl 10 rfl) ?_
                    refine lv_iload hx hb dX12_least_175 (lv_at hl 7 rfl) ?_
                    refine lv_icmp_ge (tgt := 192) hx hb dX12_least_177 (by decide) (fun c_52 => ?_) (fun c_52 => ?_)
                    · have h := it c_52 h
                      obtain ⟨x8_53, ex8_53, h⟩ := bnd_e h
                      refine lv_iinc (v := x8_53) (lv' := [(8, .int x8_53), (11, .int r_43), (0, .ref (a 0)), (1, .int p1), (2, .int p2), (4, .int x4_8), (5, .int x5_11), (6, .int x6_12), (7, .int x7_13), (9, .int x9_38), (10, .int x10_39)]) hx hb dX12_least_192 hl (k := 8) rfl (by rw [ex8_53]; rfl) (by decide) rfl (fun ls hl => ?_)
                      refine lv_goto (tgt := 56) hx hb dX12_least_195 (by decide) ?_
                      exact ih1 x5_11 x6_12 x7_13 x8_53 σ_45 _ _ ls h hP hS (lv_sub hl [2, 3, 4, 5, 6, 7, 8, 0] rfl)
                    · have h := ie c_52 h
                      refine lv_iload hx hb dX12_least_180 (lv_at hl 8 rfl) ?_
                      refine lv_istore (lv' := [(5, .int x8_14), (11, .int r_43), (0, .ref (a 0)), (1, .int p1), (2, .int p2), (4, .int x4_8), (6, .int x6_12), (7, .int x7_13), (8, .int x8_14), (9, .int x9_38), (10, .int x10_39)]) hx hb dX12_least_182 hl (by decide) rfl (fun ls hl => ?_)
                      refine lv_iload hx hb dX12_least_184 (lv_at hl 1 rfl) ?_
                      refine lv_istore (lv' := [(6, .int r_43), (5, .int x8_14), (11, .int r_43), (0, .ref (a 0)), (1, .int p1), (2, .int p2), (4, .int x4_8), (7, .int x7_13), (8, .int x8_14), (9, .int x9_38), (10, .int x10_39)]) hx hb dX12_least_186 hl (by decide) rfl (fun ls hl => ?_)
                      refine lv_iload hx hb dX12_least_188 (lv_at hl 10 rfl) ?_
                      refine lv_istore (lv' := [(7, .int x10_39), (6, .int r_43), (5, .int x8_14), (11, .int r_43), (0, .ref (a 0)), (1, .int p1), (2, .int p2), (4, .int x4_8), (8, .int x8_14), (9, .int x9_38), (10, .int x10_39)]) hx hb dX12_least_190 hl (by decide) rfl (fun ls hl => ?_)
                      obtain ⟨x8_54, ex8_54, h⟩ := bnd_e h
                      refine lv_iinc (v := x8_54) (lv' := [(8, .int x8_54), (7, .int x10_39), (6, .int r_43), (5, .int x8_14), (11, .int r_43), (0, .ref (a 0)), (1, .int p1), (2, .int p2), (4, .int x4_8), (9, .int x9_38), (10, .int x10_39)]) hx hb dX12_least_192 hl (k := 8) rfl (by rw [ex8_54]; rfl) (by decide) rfl (fun ls hl => ?_)
                      refine lv_goto (tgt := 56) hx hb dX12_least_195 (by decide) ?_
                      exact ih1 x8_14 r_43 x10_39 x8_54 σ_45 _ _ ls h hP hS (lv_sub hl [5, 6, 7, 8, 3, 2, 1, 0] rfl)
            have hL2 : ∀ (n : Nat) (x9_19 : Int32) (x10_20 : Int32) (x11_21 : Int32) (σ_22 : MMem) (H : Heap) (locs : List Loc) (ls : Array Slot), f_X12_least_L78 p1 x4_8 x8_14 n x9_19 x10_20 x11_21 σ_22 K2 = some (r, σ') → va_P D vwCl (wM ca a σ_22) H → va_S (AW 21 a) s.heap H locs → lv_has ls 12 [(0, .ref (a 0)), (1, .int p1), (2, .int p2), (4, .int x4_8), (5, .int x5_11), (6, .int x6_12), (7, .int x7_13), (8, .int x8_14), (9, .int x9_19), (10, .int x10_20), (11, .int x11_21)] → W p l e rm_X12_least s m args below meth c H locs 0 0 Q (F0 m 78 ls []) := by
              intro n
              induction n with
              | zero => intro x9_19 x10_20 x11_21 σ_22 H locs ls h; rw [f_X12_least_L78] at h; cases h
              | succ n ih2 =>
                intro x9_19 x10_20 x11_21 σ_22 H locs ls h hP hS hl
                rw [f_X12_least_L78] at h
                refine lv_iload hx hb dX12_least_78 (lv_at hl 10 rfl) ?_
                refine lv_iload hx hb dX12_least_80 (lv_at hl 3 rfl) ?_
                refine lv_icmp_ge (tgt := 144) hx hb dX12_least_82 (by decide) (fun c_23 => ?_) (fun c_23 => ?_)
                · have h := it c_23 h
                  exact hX2 x9_19 x10_20 x11_21 σ_22 _ _ ls h hP hS (lv_sub hl [0, 1, 2, 3, 4, 5, 6, 7, 8, 9] rfl)
                · have h := ie c_23 h
                  refine lv_iload hx hb dX12_least_85 (lv_at hl 8 rfl) ?_
                  refine lv_if_eq (tgt := 144) hx hb dX12_least_87 (by decide) (fun c_24 => ?_) (fun c_24 => ?_)
                  · have h := it c_24 h
                    exact hX2 x9_19 x10_20 x11_21 σ_22 _ _ ls h hP hS (lv_sub hl [0, 1, 2, 3, 4, 5, 6, 7, 8, 9] rfl)
                  · have h := ie c_24 h
                    refine lv_iload hx hb dX12_least_90 (lv_at hl 7 rfl) ?_
                    refine lv_iload hx hb dX12_least_92 (lv_at hl 10 rfl) ?_
                    refine lv_ishr hx hb dX12_least_94 ?_
                    refine lv_iconst (v := 1) hx hb dX12_least_95 (by decide) ?_
                    refine lv_iand hx hb dX12_least_96 ?_
                    refine lv_iconst (v := 1) hx hb dX12_least_97 (by decide) ?_
                    refine lv_icmp_ne (tgt := 138) hx hb dX12_least_98 (by decide) (fun c_25 => ?_) (fun c_25 => ?_)
                    · have h := ie c_25 h
                      obtain ⟨x11_26, ex11_26, h⟩ := bnd_e h
                      refine lv_iinc (v := x11_26) (lv' := [(11, .int x11_26), (0, .ref (a 0)), (1, .int p1), (2, .int p2), (4, .int x4_8), (5, .int x5_11), (6, .int x6_12), (7, .int x7_13), (8, .int x8_14), (9, .int x9_19), (10, .int x10_20)]) hx hb dX12_least_138 hl (k := 10) rfl (by rw [ex11_26]; rfl) (by decide) rfl (fun ls hl => ?_)
                      refine lv_goto (tgt := 78) hx hb dX12_least_141 (by decide) ?_
                      exact ih2 x9_19 x10_20 x11_26 σ_22 _ _ ls h hP hS (lv_sub hl [1, 2, 3, 4, 5, 6, 7, 8, 9, 10, 0] rfl)
                    · have h := it c_25 h
                      refine lv_iload hx hb dX12_least_101 (lv_at hl 9 rfl) ?_
                      refine lv_aload_n hx hb dX12_least_103 rfl (lv_at hl 0 rfl) ?_
                      refine lv_iload_n hx hb dX12_least_104 rfl (lv_at hl 1 rfl) ?_
                      refine lv_iconst (v := 3) hx hb dX12_least_105 (by decide) ?_
                      refine lv_iload hx hb dX12_least_106 (lv_at hl 10 rfl) ?_
                      refine lv_imul hx hb dX12_least_108 ?_
                      obtain ⟨r_28, h_27, h⟩ := b1_e h
                      refine xcall (rV C0 hK hP hl.1 (fun _ _ _ => trivial) Bt_b (c_X12_told hI h_27) cv_X12_told tw1215 (rcX12 hK hP) (rest := [.int x10_20]) rfl (Nat.le_of_ble_eq_true rfl) ⟨rfl, rfl, Nat.le_of_ble_eq_true rfl, Nat.le_of_ble_eq_true rfl⟩ ⟨Nat.zero_le _, Nat.zero_le _⟩ dX12_least_109) hS (fun H locs hP hS => ?_)
                      refine lv_aload_n hx hb dX12_least_112 rfl (lv_at hl 0 rfl) ?_
                      refine lv_iload_n hx hb dX12_least_113 rfl (lv_at hl 1 rfl) ?_
                      refine lv_iconst (v := 3) hx hb dX12_least_114 (by decide) ?_
                      refine lv_iload hx hb dX12_least_115 (lv_at hl 10 rfl) ?_
                      refine lv_imul hx hb dX12_least_117 ?_
                      refine lv_iconst (v := 1) hx hb dX12_least_118 (by decide) ?_
                      refine lv_iadd hx hb dX12_least_119 ?_
                      obtain ⟨r_30, h_29, h⟩ := b1_e h
                      refine xcall (rV C0 hK hP hl.1 (fun _ _ _ => trivial) Bt_b (c_X12_told hI h_29) cv_X12_told tw1215 (rcX12 hK hP) (rest := [.int r_28, .int x10_20]) rfl (Nat.le_of_ble_eq_true rfl) ⟨rfl, rfl, Nat.le_of_ble_eq_true rfl, Nat.le_of_ble_eq_true rfl⟩ ⟨Nat.zero_le _, Nat.zero_le _⟩ dX12_least_120) hS (fun H locs hP hS => ?_)
                      obtain ⟨r_32, h_31, h⟩ := b1_e h
                      refine xcall (rS C0 hK hP hl.1 (fun _ _ _ => trivial) Bt_b (c_X12_minutesOf hI h_31) cs_X12_minutesOf tw1147 (rest := [.int x10_20]) rfl (Nat.le_of_ble_eq_true rfl) ⟨rfl, rfl, Nat.le_of_ble_eq_true rfl, Nat.le_of_ble_eq_true rfl⟩ ⟨Nat.zero_le _, Nat.zero_le _⟩ dX12_least_123) hS (fun H locs hP hS => ?_)
                      refine lv_iadd hx hb dX12_least_126 ?_
                      obtain ⟨x10_33, ex10_33, h⟩ := bnd_e h
                      refine nm_i ex10_33 ?_
                      refine lv_istore (lv' := [(10, .int x10_33), (0, .ref (a 0)), (1, .int p1), (2, .int p2), (4, .int x4_8), (5, .int x5_11), (6, .int x6_12), (7, .int x7_13), (8, .int x8_14), (9, .int x9_19), (11, .int x11_21)]) hx hb dX12_least_127 hl (by decide) rfl (fun ls hl => ?_)
                      refine lv_aload_n hx hb dX12_least_129 rfl (lv_at hl 1 rfl) ?_
                      refine lv_iload_n hx hb dX12_least_130 rfl (lv_at hl 2 rfl) ?_
                      refine lv_iload hx hb dX12_least_131 (lv_at hl 10 rfl) ?_
                      obtain ⟨r_35, σ_36, h_34, h⟩ := b2_e h
                      refine xcall (rV C0 hK hP hl.1 (fun _ _ _ => trivial) Bt_b (c_X12_puts hI h_34) cv_X12_puts tw1219 (rcX12 hK hP) (rest := []) rfl (Nat.le_of_ble_eq_true rfl) ⟨rfl, rfl, Nat.le_of_ble_eq_true rfl, Nat.le_of_ble_eq_true rfl⟩ ⟨Nat.zero_le _, Nat.zero_le _⟩ dX12_least_133) hS (fun H locs hP hS => ?_)
                      refine lv_istore (lv' := [(9, .int r_35), (10, .int x10_33), (0, .ref (a 0)), (1, .int p1), (2, .int p2), (4, .int x4_8), (5, .int x5_11), (6, .int x6_12), (7, .int x7_13), (8, .int x8_14), (11, .int x11_21)]) hx hb dX12_least_136 hl (by decide) rfl (fun ls hl => ?_)
                      obtain ⟨x11_37, ex11_37, h⟩ := bnd_e h
                      refine lv_iinc (v := x11_37) (lv' := [(11, .int x11_37), (9, .int r_35), (10, .int x10_33), (0, .ref (a 0)), (1, .int p1), (2, .int p2), (4, .int x4_8), (5, .int x5_11), (6, .int x6_12), (7, .int x7_13), (8, .int x8_14)]) hx hb dX12_least_138 hl (k := 10) rfl (by rw [ex11_37]; rfl) (by decide) rfl (fun ls hl => ?_)
                      refine lv_goto (tgt := 78) hx hb dX12_least_141 (by decide) ?_
                      exact ih2 r_35 x10_33 x11_37 σ_36 _ _ ls h hP hS (lv_sub hl [3, 4, 5, 6, 7, 8, 9, 10, 1, 2, 0] rfl)
            exact hL2 5000 1 0 0 σ_18 _ _ ls h hP hS (lv_sub hl [3, 4, 5, 6, 7, 8, 9, 10, 2, 1, 0] rfl)
      exact hL1 5000 0 r_10 0 1 σ_5 _ _ ls h hP hS (lv_sub hl [6, 7, 8, 4, 3, 2, 1, 0] rfl)
    · have h := ie c_6 h
      refine lv_iload_n hx hb dX12_least_29 rfl (lv_at hl 0 rfl) ?_
      rw [hQ]
      exact xzret C0 hP hS rfl h dX12_least_30
  refine lv_if_eq (tgt := 23) hx hb dX12_least_12 (by decide) (fun c_61 => ?_) (fun c_61 => ?_)
  · have h := it c_61 h
    refine lv_iconst (v := (-1)) hx hb dX12_least_23 (by decide) ?_
    exact hJ24 (-1) σ_1 _ _ ls h hP hS (lv_sub hl [0, 1, 2] rfl)
  · have h := ie c_61 h
    refine lv_aload_n hx hb dX12_least_15 rfl (lv_at hl 0 rfl) ?_
    refine lv_iload_n hx hb dX12_least_16 rfl (lv_at hl 1 rfl) ?_
    obtain ⟨r_63, h_62, h⟩ := b1_e h
    refine xcall (rV C0 hK hP hl.1 (fun _ _ _ => trivial) Bt_b (c_X12_wrongPins hI h_62) cv_X12_wrongPins tw1211 (rcX12 hK hP) (rest := []) rfl (Nat.le_of_ble_eq_true rfl) ⟨rfl, rfl, Nat.le_of_ble_eq_true rfl, Nat.le_of_ble_eq_true rfl⟩ ⟨Nat.zero_le _, Nat.zero_le _⟩ dX12_least_17) hS (fun H locs hP hS => ?_)
    refine lv_goto (tgt := 24) hx hb dX12_least_20 (by decide) ?_
    exact hJ24 r_63 σ_1 _ _ ls h hP hS (lv_sub hl [0, 1, 2] rfl)
def f_X12_first_L27 (p1 : Int32) : Nat → Int32 → Int32 → MMem → (Int32 → Int32 → MMem → Option (Int32 × MMem)) → Option (Int32 × MMem)
  | 0, _, _, _, _ => none
  | n + 1, x3_7, x4_8, σ_9, K1 =>
    if p1 < 0 ∨ 8 ≤ p1.toNatClampNeg then none else
    if (((σ_9 18).1 p1.toNatClampNeg) / 3) ≤ x4_8 then
      K1 x3_7 x4_8 σ_9
    else
      if 0 ≤ x3_7 then
        K1 x3_7 x4_8 σ_9
      else
        b2 (f_X12_puts p1 x4_8 σ_9) fun r_14 σ_15 =>
        if r_14 = 0 then
          bnd (x4_8 + 1) fun (x4_17 : Int32) =>
          f_X12_first_L27 p1 n x4_8 x4_17 σ_15 K1
        else
          bnd (x4_8 + 1) fun (x4_18 : Int32) =>
          f_X12_first_L27 p1 n (-4) x4_18 σ_15 K1
def f_X12_first (p1 : Int32) (σ : MMem) : Option (Int32 × MMem) :=
  bnd (uI σ 0 9 0) fun (σ_1 : MMem) =>
  b1 (f_X12_wrongPins p1 σ_1) fun r_3 =>
  if 0 ≤ r_3 then
    b1 (f_X12_open σ_1) fun σ_6 =>
    f_X12_first_L27 p1 5000 (-4) 0 σ_6 fun (x3_19 : Int32) (u_20 : Int32) (σ_21 : MMem) =>
      b1 (f_X12_close σ_21) fun σ_23 =>
      some (x3_19, σ_23)
  else
    some (r_3, σ_1)
def rm_X12_first : Room := { frames := 4, cells := 0, slots := 0, locals := 94 }
set_option maxHeartbeats 4000000 in
set_option maxRecDepth 100000 in
theorem c_X12_first {l : Launch} {D : va_G} {ca : Nat → ClassId} {a : Nat → Nat} (hI : InjN 21 a) {p1 : Int32} {σ : MMem} {r : Int32} {σ' : MMem}  (h : f_X12_first p1 σ = some (r, σ')) : XMM l D ca a Bt yX12_first cX12_first 5 (some .int) rm_X12_first [.ref (a 0), .int p1] σ (some (.int r)) σ' := by
  refine XM.of pn_X12 (Nat.le_of_ble_eq_true rfl) ?_
  intro p e s m args below meth c ls Q hQ C0 hK hB hP hS hl
  have C0 : Cx p s m args meth c RX12 cX12_first 5 (some .int) := C0
  have hx := C0.1
  have hb := C0.2.1
  have hl : lv_has ls 5 [(0, .ref (a 0)), (1, .int p1)] := hl
  rw [f_X12_first] at h
  refine lv_aload_n hx hb dX12_first_0 rfl (lv_at hl 0 rfl) ?_
  refine lv_iconst (v := 0) hx hb dX12_first_1 (by decide) ?_
  obtain ⟨σ_1, eσ_1, h⟩ := bnd_e h
  refine pX12_9 C0 hK hP tw951 hI hS dX12_first_2 (fun H locs hP hS => ?_)
  rw [← eσ_1] at hP
  refine lv_aload_n hx hb dX12_first_5 rfl (lv_at hl 0 rfl) ?_
  refine lv_iload_n hx hb dX12_first_6 rfl (lv_at hl 1 rfl) ?_
  obtain ⟨r_3, h_2, h⟩ := b1_e h
  refine xcall (rV C0 hK hP hl.1 (fun _ _ _ => trivial) Bt_b (c_X12_wrongPins hI h_2) cv_X12_wrongPins tw1211 (rcX12 hK hP) (rest := []) rfl (Nat.le_of_ble_eq_true rfl) ⟨rfl, rfl, Nat.le_of_ble_eq_true rfl, Nat.le_of_ble_eq_true rfl⟩ ⟨Nat.zero_le _, Nat.zero_le _⟩ dX12_first_7) hS (fun H locs hP hS => ?_)
  refine lv_istore_n (lv' := [(2, .int r_3), (0, .ref (a 0)), (1, .int p1)]) hx hb dX12_first_10 rfl hl (by decide) rfl (fun ls hl => ?_)
  refine lv_iload_n hx hb dX12_first_11 rfl (lv_at hl 0 rfl) ?_
  refine lv_if_ge (tgt := 17) hx hb dX12_first_12 (by decide) (fun c_4 => ?_) (fun c_4 => ?_)
  · have h := it c_4 h
    refine lv_aload_n hx hb dX12_first_17 rfl (lv_at hl 1 rfl) ?_
    obtain ⟨σ_6, h_5, h⟩ := b1_e h
    refine xcall (rV C0 hK hP hl.1 (fun _ _ _ => trivial) Bt_b (c_X12_open hI h_5) cv_X12_open tw1116 (rcX12 hK hP) (rest := []) rfl (Nat.le_of_ble_eq_true rfl) ⟨rfl, rfl, Nat.le_of_ble_eq_true rfl, Nat.le_of_ble_eq_true rfl⟩ ⟨Nat.zero_le _, Nat.zero_le _⟩ dX12_first_18) hS (fun H locs hP hS => ?_)
    refine lv_bipush (v := (-4)) hx hb dX12_first_21 (by decide) ?_
    refine lv_istore_n (lv' := [(3, .int (-4)), (2, .int r_3), (0, .ref (a 0)), (1, .int p1)]) hx hb dX12_first_23 rfl hl (by decide) rfl (fun ls hl => ?_)
    refine lv_iconst (v := 0) hx hb dX12_first_24 (by decide) ?_
    refine lv_istore (lv' := [(4, .int 0), (3, .int (-4)), (2, .int r_3), (0, .ref (a 0)), (1, .int p1)]) hx hb dX12_first_25 hl (by decide) rfl (fun ls hl => ?_)
    obtain ⟨K1, eK1, h⟩ := lp_e (f := fun K => f_X12_first_L27 p1 5000 (-4) 0 σ_6 K) h
    have h : f_X12_first_L27 p1 5000 (-4) 0 σ_6 K1 = some (r, σ') := h
    have hX1 : ∀ (x3_19 : Int32) (u_20 : Int32) (σ_21 : MMem) (H : Heap) (locs : List Loc) (ls : Array Slot), K1 x3_19 u_20 σ_21 = some (r, σ') → va_P D vwCl (wM ca a σ_21) H → va_S (AW 21 a) s.heap H locs → lv_has ls 5 [(0, .ref (a 0)), (3, .int x3_19)] → W p l e rm_X12_first s m args below meth c H locs 0 0 Q (F0 m 68 ls []) := by
      intro x3_19 u_20 σ_21 H locs ls h hP hS hl
      have h := ap3 eK1 h
      refine lv_aload_n hx hb dX12_first_68 rfl (lv_at hl 0 rfl) ?_
      obtain ⟨σ_23, h_22, h⟩ := b1_e h
      refine xcall (rV C0 hK hP hl.1 (fun _ _ _ => trivial) Bt_b (c_X12_close hI h_22) cv_X12_close tw1150 (rcX12 hK hP) (rest := []) rfl (Nat.le_of_ble_eq_true rfl) ⟨rfl, rfl, Nat.le_of_ble_eq_true rfl, Nat.le_of_ble_eq_true rfl⟩ ⟨Nat.zero_le _, Nat.zero_le _⟩ dX12_first_69) hS (fun H locs hP hS => ?_)
      refine lv_iload_n hx hb dX12_first_72 rfl (lv_at hl 1 rfl) ?_
      rw [hQ]
      exact xzret C0 hP hS rfl h dX12_first_73
    have hL1 : ∀ (n : Nat) (x3_7 : Int32) (x4_8 : Int32) (σ_9 : MMem) (H : Heap) (locs : List Loc) (ls : Array Slot), f_X12_first_L27 p1 n x3_7 x4_8 σ_9 K1 = some (r, σ') → va_P D vwCl (wM ca a σ_9) H → va_S (AW 21 a) s.heap H locs → lv_has ls 5 [(0, .ref (a 0)), (1, .int p1), (3, .int x3_7), (4, .int x4_8)] → W p l e rm_X12_first s m args below meth c H locs 0 0 Q (F0 m 27 ls []) := by
      intro n
      induction n with
      | zero => intro x3_7 x4_8 σ_9 H locs ls h; rw [f_X12_first_L27] at h; cases h
      | succ n ih1 =>
        intro x3_7 x4_8 σ_9 H locs ls h hP hS hl
        rw [f_X12_first_L27] at h
        refine lv_iload hx hb dX12_first_27 (lv_at hl 3 rfl) ?_
        refine lv_aload_n hx hb dX12_first_29 rfl (lv_at hl 0 rfl) ?_
        refine gX12_35 C0 hK hP tw977 dX12_first_30 ?_
        refine lv_iload_n hx hb dX12_first_33 rfl (lv_at hl 1 rfl) ?_
        obtain ⟨b_10, h⟩ := ck h
        refine mald (i := 18) (N := 8) C0 hK hP (by decide) (by decide) rfl b_10 dX12_first_34 ?_
        refine lv_iconst (v := 3) hx hb dX12_first_35 (by decide) ?_
        refine lv_idiv hx hb dX12_first_36 (by decide) ?_
        refine lv_icmp_ge (tgt := 68) hx hb dX12_first_37 (by decide) (fun c_11 => ?_) (fun c_11 => ?_)
        · have h := it c_11 h
          exact hX1 x3_7 x4_8 σ_9 _ _ ls h hP hS (lv_sub hl [0, 2] rfl)
        · have h := ie c_11 h
          refine lv_iload_n hx hb dX12_first_40 rfl (lv_at hl 2 rfl) ?_
          refine lv_if_ge (tgt := 68) hx hb dX12_first_41 (by decide) (fun c_12 => ?_) (fun c_12 => ?_)
          · have h := it c_12 h
            exact hX1 x3_7 x4_8 σ_9 _ _ ls h hP hS (lv_sub hl [0, 2] rfl)
          · have h := ie c_12 h
            refine lv_aload_n hx hb dX12_first_44 rfl (lv_at hl 0 rfl) ?_
            refine lv_iload_n hx hb dX12_first_45 rfl (lv_at hl 1 rfl) ?_
            refine lv_iload hx hb dX12_first_46 (lv_at hl 3 rfl) ?_
            obtain ⟨r_14, σ_15, h_13, h⟩ := b2_e h
            refine xcall (rV C0 hK hP hl.1 (fun _ _ _ => trivial) Bt_b (c_X12_puts hI h_13) cv_X12_puts tw1219 (rcX12 hK hP) (rest := []) rfl (Nat.le_of_ble_eq_true rfl) ⟨rfl, rfl, Nat.le_of_ble_eq_true rfl, Nat.le_of_ble_eq_true rfl⟩ ⟨Nat.zero_le _, Nat.zero_le _⟩ dX12_first_48) hS (fun H locs hP hS => ?_)
            refine lv_if_eq (tgt := 59) hx hb dX12_first_51 (by decide) (fun c_16 => ?_) (fun c_16 => ?_)
            · have h := it c_16 h
              refine lv_iload hx hb dX12_first_59 (lv_at hl 3 rfl) ?_
              refine lv_istore_n (lv' := [(3, .int x4_8), (0, .ref (a 0)), (1, .int p1), (4, .int x4_8)]) hx hb dX12_first_61 rfl hl (by decide) rfl (fun ls hl => ?_)
              obtain ⟨x4_17, ex4_17, h⟩ := bnd_e h
              refine lv_iinc (v := x4_17) (lv' := [(4, .int x4_17), (3, .int x4_8), (0, .ref (a 0)), (1, .int p1)]) hx hb dX12_first_62 hl (k := 3) rfl (by rw [ex4_17]; rfl) (by decide) rfl (fun ls hl => ?_)
              refine lv_goto (tgt := 27) hx hb dX12_first_65 (by decide) ?_
              exact ih1 x4_8 x4_17 σ_15 _ _ ls h hP hS (lv_sub hl [2, 3, 1, 0] rfl)
            · have h := ie c_16 h
              refine lv_bipush (v := (-4)) hx hb dX12_first_54 (by decide) ?_
              refine lv_goto (tgt := 61) hx hb dX12_first_56 (by decide) ?_
              refine lv_istore_n (lv' := [(3, .int (-4)), (0, .ref (a 0)), (1, .int p1), (4, .int x4_8)]) hx hb dX12_first_61 rfl hl (by decide) rfl (fun ls hl => ?_)
              obtain ⟨x4_18, ex4_18, h⟩ := bnd_e h
              refine lv_iinc (v := x4_18) (lv' := [(4, .int x4_18), (3, .int (-4)), (0, .ref (a 0)), (1, .int p1)]) hx hb dX12_first_62 hl (k := 3) rfl (by rw [ex4_18]; rfl) (by decide) rfl (fun ls hl => ?_)
              refine lv_goto (tgt := 27) hx hb dX12_first_65 (by decide) ?_
              exact ih1 (-4) x4_18 σ_15 _ _ ls h hP hS (lv_sub hl [2, 3, 1, 0] rfl)
    exact hL1 5000 (-4) 0 σ_6 _ _ ls h hP hS (lv_sub hl [3, 4, 1, 0] rfl)
  · have h := ie c_4 h
    refine lv_iload_n hx hb dX12_first_15 rfl (lv_at hl 0 rfl) ?_
    rw [hQ]
    exact xzret C0 hP hS rfl h dX12_first_16
def f_X12_power_L4 (p1 : Int32) : Nat → Int32 → Int32 → (Int32 → Int32 → Option (Int32)) → Option (Int32)
  | 0, _, _, _ => none
  | n + 1, x2_1, x3_2, K1 =>
    if p1 ≤ x3_2 then
      K1 x2_1 x3_2
    else
      bnd (x2_1 * p1) fun (x2_4 : Int32) =>
      bnd (x3_2 + 1) fun (x3_5 : Int32) =>
      f_X12_power_L4 p1 n x2_4 x3_5 K1
def f_X12_power (p1 : Int32) : Option (Int32) :=
  f_X12_power_L4 p1 5000 1 0 fun (x2_6 : Int32) (u_7 : Int32) =>
    some x2_6
def rm_X12_power : Room := { frames := 0, cells := 0, slots := 0, locals := 0 }
set_option maxHeartbeats 4000000 in
set_option maxRecDepth 100000 in
theorem c_X12_power {l : Launch} {D : va_G} {ca : Nat → ClassId} {a : Nat → Nat} (hI : InjN 21 a) {p1 : Int32} {σ : MMem} {r : Int32}  (h : f_X12_power p1 = some r) : XMM l D ca a Bt yX12_power cX12_power 4 (some .int) rm_X12_power [.ref (a 0), .int p1] σ (some (.int r)) σ := by
  refine XM.of pn_X12 (Nat.le_of_ble_eq_true rfl) ?_
  intro p e s m args below meth c ls Q hQ C0 hK hB hP hS hl
  have C0 : Cx p s m args meth c RX12 cX12_power 4 (some .int) := C0
  have hx := C0.1
  have hb := C0.2.1
  have hl : lv_has ls 4 [(0, .ref (a 0)), (1, .int p1)] := hl
  rw [f_X12_power] at h
  refine lv_iconst (v := 1) hx hb dX12_power_0 (by decide) ?_
  refine lv_istore_n (lv' := [(2, .int 1), (0, .ref (a 0)), (1, .int p1)]) hx hb dX12_power_1 rfl hl (by decide) rfl (fun ls hl => ?_)
  refine lv_iconst (v := 0) hx hb dX12_power_2 (by decide) ?_
  refine lv_istore_n (lv' := [(3, .int 0), (2, .int 1), (0, .ref (a 0)), (1, .int p1)]) hx hb dX12_power_3 rfl hl (by decide) rfl (fun ls hl => ?_)
  obtain ⟨K1, eK1, h⟩ := lp_e (f := fun K => f_X12_power_L4 p1 5000 1 0 K) h
  have h : f_X12_power_L4 p1 5000 1 0 K1 = some r := h
  have hX1 : ∀ (x2_6 : Int32) (u_7 : Int32) (H : Heap) (locs : List Loc) (ls : Array Slot), K1 x2_6 u_7 = some r → va_P D vwCl (wM ca a σ) H → va_S (AW 21 a) s.heap H locs → lv_has ls 4 [(2, .int x2_6)] → W p l e rm_X12_power s m args below meth c H locs 0 0 Q (F0 m 19 ls []) := by
    intro x2_6 u_7 H locs ls h hP hS hl
    have h := ap2 eK1 h
    refine lv_iload_n hx hb dX12_power_19 rfl (lv_at hl 0 rfl) ?_
    rw [hQ]
    exact xzretr C0 hP hS rfl h dX12_power_20
  have hL1 : ∀ (n : Nat) (x2_1 : Int32) (x3_2 : Int32) (H : Heap) (locs : List Loc) (ls : Array Slot), f_X12_power_L4 p1 n x2_1 x3_2 K1 = some r → va_P D vwCl (wM ca a σ) H → va_S (AW 21 a) s.heap H locs → lv_has ls 4 [(1, .int p1), (2, .int x2_1), (3, .int x3_2)] → W p l e rm_X12_power s m args below meth c H locs 0 0 Q (F0 m 4 ls []) := by
    intro n
    induction n with
    | zero => intro x2_1 x3_2 H locs ls h; rw [f_X12_power_L4] at h; cases h
    | succ n ih1 =>
      intro x2_1 x3_2 H locs ls h hP hS hl
      rw [f_X12_power_L4] at h
      refine lv_iload_n hx hb dX12_power_4 rfl (lv_at hl 2 rfl) ?_
      refine lv_iload_n hx hb dX12_power_5 rfl (lv_at hl 0 rfl) ?_
      refine lv_icmp_ge (tgt := 19) hx hb dX12_power_6 (by decide) (fun c_3 => ?_) (fun c_3 => ?_)
      · have h := it c_3 h
        exact hX1 x2_1 x3_2 _ _ ls h hP hS (lv_sub hl [1] rfl)
      · have h := ie c_3 h
        refine lv_iload_n hx hb dX12_power_9 rfl (lv_at hl 1 rfl) ?_
        refine lv_iload_n hx hb dX12_power_10 rfl (lv_at hl 0 rfl) ?_
        refine lv_imul hx hb dX12_power_11 ?_
        obtain ⟨x2_4, ex2_4, h⟩ := bnd_e h
        refine nm_i ex2_4 ?_
        refine lv_istore_n (lv' := [(2, .int x2_4), (1, .int p1), (3, .int x3_2)]) hx hb dX12_power_12 rfl hl (by decide) rfl (fun ls hl => ?_)
        obtain ⟨x3_5, ex3_5, h⟩ := bnd_e h
        refine lv_iinc (v := x3_5) (lv' := [(3, .int x3_5), (2, .int x2_4), (1, .int p1)]) hx hb dX12_power_13 hl (k := 2) rfl (by rw [ex3_5]; rfl) (by decide) rfl (fun ls hl => ?_)
        refine lv_goto (tgt := 4) hx hb dX12_power_16 (by decide) ?_
        exact ih1 x2_4 x3_5 _ _ ls h hP hS (lv_sub hl [2, 1, 0] rfl)
  exact hL1 5000 1 0 _ _ ls h hP hS (lv_sub hl [3, 1, 0] rfl)
def f_X12_orders_L88 (p1 : Int32) (x4_8 : Int32) : Nat → Int32 → Int32 → Int32 → Int32 → MMem → (Int32 → Int32 → Int32 → Int32 → MMem → Option (Int32 × MMem)) → Option (Int32 × MMem)
  | 0, _, _, _, _, _, _ => none
  | n + 1, x8_19, x9_20, x10_21, x11_22, σ_23, K2 =>
    if x4_8 ≤ x11_22 then
      K2 x8_19 x9_20 x10_21 x11_22 σ_23
    else
      if x10_21 = 0 then
        K2 x8_19 x9_20 x10_21 x11_22 σ_23
      else
        if x4_8 = 0 then none else
        bnd (x9_20 - x9_20 / x4_8 * x4_8) fun (x12_27 : Int32) =>
        if x4_8 = 0 then none else
        bnd (x9_20 / x4_8) fun (x9_29 : Int32) =>
        if ((x8_19 >>> (x12_27 &&& 31)) &&& 1) = 0 then
          b2 (f_X12_puts p1 x12_27 σ_23) fun r_34 σ_35 =>
          if r_34 = 0 then
            bnd (x8_19 ||| (1 <<< (x12_27 &&& 31))) fun (x8_37 : Int32) =>
            bnd (x11_22 + 1) fun (x11_38 : Int32) =>
            f_X12_orders_L88 p1 x4_8 n x8_37 x9_29 0 x11_38 σ_35 K2
          else
            bnd (x8_19 ||| (1 <<< (x12_27 &&& 31))) fun (x8_39 : Int32) =>
            bnd (x11_22 + 1) fun (x11_40 : Int32) =>
            f_X12_orders_L88 p1 x4_8 n x8_39 x9_29 1 x11_40 σ_35 K2
        else
          bnd (x8_19 ||| (1 <<< (x12_27 &&& 31))) fun (x8_31 : Int32) =>
          bnd (x11_22 + 1) fun (x11_32 : Int32) =>
          f_X12_orders_L88 p1 x4_8 n x8_31 x9_29 0 x11_32 σ_23 K2
def f_X12_orders_L60 (p1 : Int32) (x4_8 : Int32) : Nat → Int32 → Int32 → Int32 → MMem → (Int32 → Int32 → Int32 → MMem → Option (Int32 × MMem)) → Option (Int32 × MMem)
  | 0, _, _, _, _, _ => none
  | n + 1, x5_10, x6_11, x7_12, σ_13, K1 =>
    b1 (f_X12_power x4_8) fun r_15 =>
    if r_15 ≤ x7_12 then
      K1 x5_10 x6_11 x7_12 σ_13
    else
      b1 (f_X12_open σ_13) fun σ_18 =>
      f_X12_orders_L88 p1 x4_8 5000 0 x7_12 1 0 σ_18 fun (u_42 : Int32) (u_43 : Int32) (x10_41 : Int32) (u_44 : Int32) (σ_45 : MMem) =>
        b1 (f_X12_lacksNow σ_45) fun r_47 =>
        b1 (f_X12_close σ_45) fun σ_49 =>
        if x10_41 = 0 then
          bnd (x7_12 + 1) fun (x7_51 : Int32) =>
          f_X12_orders_L60 p1 x4_8 n x5_10 x6_11 x7_51 σ_49 K1
        else
          bnd (x5_10 + 1) fun (x5_52 : Int32) =>
          if x6_11 < 0 then
            bnd (x7_12 + 1) fun (x7_54 : Int32) =>
            f_X12_orders_L60 p1 x4_8 n x5_52 r_47 x7_54 σ_49 K1
          else
            if x6_11 ≤ r_47 then
              bnd (x7_12 + 1) fun (x7_56 : Int32) =>
              f_X12_orders_L60 p1 x4_8 n x5_52 x6_11 x7_56 σ_49 K1
            else
              bnd (x7_12 + 1) fun (x7_57 : Int32) =>
              f_X12_orders_L60 p1 x4_8 n x5_52 r_47 x7_57 σ_49 K1
def f_X12_orders (p1 : Int32) (p2 : Int32) (σ : MMem) : Option (Int32 × MMem) :=
  bnd (uI σ 0 9 0) fun (σ_1 : MMem) =>
  b1 (f_X12_in p2.toInt64 0 1) fun r_3 =>
  jn (fun (v_4 : Int32) (σ_5 : MMem) =>
    if 0 ≤ v_4 then
      if p1 < 0 ∨ 8 ≤ p1.toNatClampNeg then none else
      bnd (((σ_5 18).1 p1.toNatClampNeg) / 3) fun (x4_8 : Int32) =>
      if x4_8 ≤ 5 then
        f_X12_orders_L60 p1 x4_8 5000 0 (-4) 0 σ_5 fun (x5_58 : Int32) (x6_59 : Int32) (u_60 : Int32) (σ_61 : MMem) =>
          if p2 = 0 then
            some (x5_58, σ_61)
          else
            some (x6_59, σ_61)
      else
        some ((-2), σ_5)
    else
      some (v_4, σ_5)) fun J24 =>
  if r_3 = 0 then
    J24 (-1) σ_1
  else
    b1 (f_X12_wrongPins p1 σ_1) fun r_65 =>
    J24 r_65 σ_1
def rm_X12_orders : Room := { frames := 4, cells := 0, slots := 0, locals := 94 }
set_option maxHeartbeats 4000000 in
set_option maxRecDepth 100000 in
theorem c_X12_orders {l : Launch} {D : va_G} {ca : Nat → ClassId} {a : Nat → Nat} (hI : InjN 21 a) {p1 : Int32} {p2 : Int32} {σ : MMem} {r : Int32} {σ' : MMem}  (h : f_X12_orders p1 p2 σ = some (r, σ')) : XMM l D ca a Bt yX12_orders cX12_orders 13 (some .int) rm_X12_orders [.ref (a 0), .int p1, .int p2] σ (some (.int r)) σ' := by
  refine XM.of pn_X12 (Nat.le_of_ble_eq_true rfl) ?_
  intro p e s m args below meth c ls Q hQ C0 hK hB hP hS hl
  have C0 : Cx p s m args meth c RX12 cX12_orders 13 (some .int) := C0
  have hx := C0.1
  have hb := C0.2.1
  have hl : lv_has ls 13 [(0, .ref (a 0)), (1, .int p1), (2, .int p2)] := hl
  rw [f_X12_orders] at h
  refine lv_aload_n hx hb dX12_orders_0 rfl (lv_at hl 0 rfl) ?_
  refine lv_iconst (v := 0) hx hb dX12_orders_1 (by decide) ?_
  obtain ⟨σ_1, eσ_1, h⟩ := bnd_e h
  refine pX12_9 C0 hK hP tw951 hI hS dX12_orders_2 (fun H locs hP hS => ?_)
  rw [← eσ_1] at hP
  refine lv_iload_n hx hb dX12_orders_5 rfl (lv_at hl 2 rfl) ?_
  refine lv_i2l (v := p2.toInt64) hx hb dX12_orders_6 rfl ?_
  refine lv_lconst (v := 0) hx hb dX12_orders_7 (by decide) ?_
  refine lv_lconst (v := 1) hx hb dX12_orders_8 (by decide) ?_
  obtain ⟨r_3, h_2, h⟩ := b1_e h
  refine xcall (rS C0 hK hP hl.1 (fun _ _ _ => trivial) Bt_b (c_X12_in hI h_2) cs_X12_in tw1091 (rest := []) rfl (Nat.le_of_ble_eq_true rfl) ⟨rfl, rfl, Nat.le_of_ble_eq_true rfl, Nat.le_of_ble_eq_true rfl⟩ ⟨Nat.zero_le _, Nat.zero_le _⟩ dX12_orders_9) hS (fun H locs hP hS => ?_)
  obtain ⟨J24, eJ24, h⟩ := jn_e h
  have hJ24 : ∀ (v_4 : Int32) (σ_5 : MMem) (H : Heap) (locs : List Loc) (ls : Array Slot), J24 v_4 σ_5 = some (r, σ') → va_P D vwCl (wM ca a σ_5) H → va_S (AW 21 a) s.heap H locs → lv_has ls 13 [(0, .ref (a 0)), (1, .int p1), (2, .int p2)] → W p l e rm_X12_orders s m args below meth c H locs 0 0 Q (F0 m 24 ls [.int v_4]) := by
    intro v_4 σ_5 H locs ls h hP hS hl
    have h := ap2 eJ24 h
    refine lv_istore_n (lv' := [(3, .int v_4), (0, .ref (a 0)), (1, .int p1), (2, .int p2)]) hx hb dX12_orders_24 rfl hl (by decide) rfl (fun ls hl => ?_)
    refine lv_iload_n hx hb dX12_orders_25 rfl (lv_at hl 0 rfl) ?_
    refine lv_if_ge (tgt := 31) hx hb dX12_orders_26 (by decide) (fun c_6 => ?_) (fun c_6 => ?_)
    · have h := it c_6 h
      refine lv_aload_n hx hb dX12_orders_31 rfl (lv_at hl 1 rfl) ?_
      refine gX12_35 C0 hK hP tw977 dX12_orders_32 ?_
      refine lv_iload_n hx hb dX12_orders_35 rfl (lv_at hl 2 rfl) ?_
      obtain ⟨b_7, h⟩ := ck h
      refine mald (i := 18) (N := 8) C0 hK hP (by decide) (by decide) rfl b_7 dX12_orders_36 ?_
      refine lv_iconst (v := 3) hx hb dX12_orders_37 (by decide) ?_
      refine lv_idiv hx hb dX12_orders_38 (by decide) ?_
      obtain ⟨x4_8, ex4_8, h⟩ := bnd_e h
      refine nm_i ex4_8 ?_
      refine lv_istore (lv' := [(4, .int x4_8), (3, .int v_4), (0, .ref (a 0)), (1, .int p1), (2, .int p2)]) hx hb dX12_orders_39 hl (by decide) rfl (fun ls hl => ?_)
      refine lv_iload hx hb dX12_orders_41 (lv_at hl 0 rfl) ?_
      refine lv_iconst (v := 5) hx hb dX12_orders_43 (by decide) ?_
      refine lv_icmp_le (tgt := 50) hx hb dX12_orders_44 (by decide) (fun c_9 => ?_) (fun c_9 => ?_)
      · have h := it c_9 h
        refine lv_iconst (v := 0) hx hb dX12_orders_50 (by decide) ?_
        refine lv_istore (lv' := [(5, .int 0), (4, .int x4_8), (3, .int v_4), (0, .ref (a 0)), (1, .int p1), (2, .int p2)]) hx hb dX12_orders_51 hl (by decide) rfl (fun ls hl => ?_)
        refine lv_bipush (v := (-4)) hx hb dX12_orders_53 (by decide) ?_
        refine lv_istore (lv' := [(6, .int (-4)), (5, .int 0), (4, .int x4_8), (3, .int v_4), (0, .ref (a 0)), (1, .int p1), (2, .int p2)]) hx hb dX12_orders_55 hl (by decide) rfl (fun ls hl => ?_)
        refine lv_iconst (v := 0) hx hb dX12_orders_57 (by decide) ?_
        refine lv_istore (lv' := [(7, .int 0), (6, .int (-4)), (5, .int 0), (4, .int x4_8), (3, .int v_4), (0, .ref (a 0)), (1, .int p1), (2, .int p2)]) hx hb dX12_orders_58 hl (by decide) rfl (fun ls hl => ?_)
        obtain ⟨K1, eK1, h⟩ := lp_e (f := fun K => f_X12_orders_L60 p1 x4_8 5000 0 (-4) 0 σ_5 K) h
        have h : f_X12_orders_L60 p1 x4_8 5000 0 (-4) 0 σ_5 K1 = some (r, σ') := h
        have hX1 : ∀ (x5_58 : Int32) (x6_59 : Int32) (u_60 : Int32) (σ_61 : MMem) (H : Heap) (locs : List Loc) (ls : Array Slot), K1 x5_58 x6_59 u_60 σ_61 = some (r, σ') → va_P D vwCl (wM ca a σ_61) H → va_S (AW 21 a) s.heap H locs → lv_has ls 13 [(2, .int p2), (5, .int x5_58), (6, .int x6_59)] → W p l e rm_X12_orders s m args below meth c H locs 0 0 Q (F0 m 201 ls []) := by
          intro x5_58 x6_59 u_60 σ_61 H locs ls h hP hS hl
          have h := ap4 eK1 h
          refine lv_iload_n hx hb dX12_orders_201 rfl (lv_at hl 0 rfl) ?_
          refine lv_if_ne (tgt := 210) hx hb dX12_orders_202 (by decide) (fun c_62 => ?_) (fun c_62 => ?_)
          · have h := ie c_62 h
            refine lv_iload hx hb dX12_orders_210 (lv_at hl 2 rfl) ?_
            rw [hQ]
            exact xzret C0 hP hS rfl h dX12_orders_212
          · have h := it c_62 h
            refine lv_iload hx hb dX12_orders_205 (lv_at hl 1 rfl) ?_
            refine lv_goto (tgt := 212) hx hb dX12_orders_207 (by decide) ?_
            rw [hQ]
            exact xzret C0 hP hS rfl h dX12_orders_212
        have hL1 : ∀ (n : Nat) (x5_10 : Int32) (x6_11 : Int32) (x7_12 : Int32) (σ_13 : MMem) (H : Heap) (locs : List Loc) (ls : Array Slot), f_X12_orders_L60 p1 x4_8 n x5_10 x6_11 x7_12 σ_13 K1 = some (r, σ') → va_P D vwCl (wM ca a σ_13) H → va_S (AW 21 a) s.heap H locs → lv_has ls 13 [(0, .ref (a 0)), (1, .int p1), (2, .int p2), (4, .int x4_8), (5, .int x5_10), (6, .int x6_11), (7, .int x7_12)] → W p l e rm_X12_orders s m args below meth c H locs 0 0 Q (F0 m 60 ls []) := by
          intro n
          induction n with
          | zero => intro x5_10 x6_11 x7_12 σ_13 H locs ls h; rw [f_X12_orders_L60] at h; cases h
          | succ n ih1 =>
            intro x5_10 x6_11 x7_12 σ_13 H locs ls h hP hS hl
            rw [f_X12_orders_L60] at h
            refine lv_iload hx hb dX12_orders_60 (lv_at hl 6 rfl) ?_
            refine lv_aload_n hx hb dX12_orders_62 rfl (lv_at hl 0 rfl) ?_
            refine lv_iload hx hb dX12_orders_63 (lv_at hl 3 rfl) ?_
            obtain ⟨r_15, h_14, h⟩ := b1_e h
            refine xcall (rV C0 hK hP hl.1 (fun _ _ _ => trivial) Bt_b (c_X12_power hI h_14) cv_X12_power tw1231 (rcX12 hK hP) (rest := [.int x7_12]) rfl (Nat.le_of_ble_eq_true rfl) ⟨rfl, rfl, Nat.le_of_ble_eq_true rfl, Nat.le_of_ble_eq_true rfl⟩ ⟨Nat.zero_le _, Nat.zero_le _⟩ dX12_orders_65) hS (fun H locs hP hS => ?_)
            refine lv_icmp_ge (tgt := 201) hx hb dX12_orders_68 (by decide) (fun c_16 => ?_) (fun c_16 => ?_)
            · have h := it c_16 h
              exact hX1 x5_10 x6_11 x7_12 σ_13 _ _ ls h hP hS (lv_sub hl [2, 4, 5] rfl)
            · have h := ie c_16 h
              refine lv_aload_n hx hb dX12_orders_71 rfl (lv_at hl 0 rfl) ?_
              obtain ⟨σ_18, h_17, h⟩ := b1_e h
              refine xcall (rV C0 hK hP hl.1 (fun _ _ _ => trivial) Bt_b (c_X12_open hI h_17) cv_X12_open tw1116 (rcX12 hK hP) (rest := []) rfl (Nat.le_of_ble_eq_true rfl) ⟨rfl, rfl, Nat.le_of_ble_eq_true rfl, Nat.le_of_ble_eq_true rfl⟩ ⟨Nat.zero_le _, Nat.zero_le _⟩ dX12_orders_72) hS (fun H locs hP hS => ?_)
              refine lv_iconst (v := 0) hx hb dX12_orders_75 (by decide) ?_
              refine lv_istore (lv' := [(8, .int 0), (0, .ref (a 0)), (1, .int p1), (2, .int p2), (4, .int x4_8), (5, .int x5_10), (6, .int x6_11), (7, .int x7_12)]) hx hb dX12_orders_76 hl (by decide) rfl (fun ls hl => ?_)
              refine lv_iload hx hb dX12_orders_78 (lv_at hl 7 rfl) ?_
              refine lv_istore (lv' := [(9, .int x7_12), (8, .int 0), (0, .ref (a 0)), (1, .int p1), (2, .int p2), (4, .int x4_8), (5, .int x5_10), (6, .int x6_11), (7, .int x7_12)]) hx hb dX12_orders_80 hl (by decide) rfl (fun ls hl => ?_)
              refine lv_iconst (v := 1) hx hb dX12_orders_82 (by decide) ?_
              refine lv_istore (lv' := [(10, .int 1), (9, .int x7_12), (8, .int 0), (0, .ref (a 0)), (1, .int p1), (2, .int p2), (4, .int x4_8), (5, .int x5_10), (6, .int x6_11), (7, .int x7_12)]) hx hb dX12_orders_83 hl (by decide) rfl (fun ls hl => ?_)
              refine lv_iconst (v := 0) hx hb dX12_orders_85 (by decide) ?_
              refine lv_istore (lv' := [(11, .int 0), (10, .int 1), (9, .int x7_12), (8, .int 0), (0, .ref (a 0)), (1, .int p1), (2, .int p2), (4, .int x4_8), (5, .int x5_10), (6, .int x6_11), (7, .int x7_12)]) hx hb dX12_orders_86 hl (by decide) rfl (fun ls hl => ?_)
              obtain ⟨K2, eK2, h⟩ := lp_e (f := fun K => f_X12_orders_L88 p1 x4_8 5000 0 x7_12 1 0 σ_18 K) h
              have h : f_X12_orders_L88 p1 x4_8 5000 0 x7_12 1 0 σ_18 K2 = some (r, σ') := h
              have hX2 : ∀ (u_42 : Int32) (u_43 : Int32) (x10_41 : Int32) (u_44 : Int32) (σ_45 : MMem) (H : Heap) (locs : List Loc) (ls : Array Slot), K2 u_42 u_43 x10_41 u_44 σ_45 = some (r, σ') → va_P D vwCl (wM ca a σ_45) H → va_S (AW 21 a) s.heap H locs → lv_has ls 13 [(0, .ref (a 0)), (1, .int p1), (2, .int p2), (4, .int x4_8), (5, .int x5_10), (6, .int x6_11), (7, .int x7_12), (10, .int x10_41)] → W p l e rm_X12_orders s m args below meth c H locs 0 0 Q (F0 m 156 ls []) := by
                intro u_42 u_43 x10_41 u_44 σ_45 H locs ls h hP hS hl
                have h := ap5 eK2 h
                refine lv_aload_n hx hb dX12_orders_156 rfl (lv_at hl 0 rfl) ?_
                obtain ⟨r_47, h_46, h⟩ := b1_e h
                refine xcall (rV C0 hK hP hl.1 (fun _ _ _ => trivial) Bt_b (c_X12_lacksNow hI h_46) cv_X12_lacksNow tw1177 (rcX12 hK hP) (rest := []) rfl (Nat.le_of_ble_eq_true rfl) ⟨rfl, rfl, Nat.le_of_ble_eq_true rfl, Nat.le_of_ble_eq_true rfl⟩ ⟨Nat.zero_le _, Nat.zero_le _⟩ dX12_orders_157) hS (fun H locs hP hS => ?_)
                refine lv_istore (lv' := [(11, .int r_47), (0, .ref (a 0)), (1, .int p1), (2, .int p2), (4, .int x4_8), (5, .int x5_10), (6, .int x6_11), (7, .int x7_12), (10, .int x10_41)]) hx hb dX12_orders_160 hl (by decide) rfl (fun ls hl => ?_)
                refine lv_aload_n hx hb dX12_orders_162 rfl (lv_at hl 1 rfl) ?_
                obtain ⟨σ_49, h_48, h⟩ := b1_e h
                refine xcall (rV C0 hK hP hl.1 (fun _ _ _ => trivial) Bt_b (c_X12_close hI h_48) cv_X12_close tw1150 (rcX12 hK hP) (rest := []) rfl (Nat.le_of_ble_eq_true rfl) ⟨rfl, rfl, Nat.le_of_ble_eq_true rfl, Nat.le_of_ble_eq_true rfl⟩ ⟨Nat.zero_le _, Nat.zero_le _⟩ dX12_orders_163) hS (fun H locs hP hS => ?_)
                refine lv_iload hx hb dX12_orders_166 (lv_at hl 8 rfl) ?_
                refine lv_if_eq (tgt := 195) hx hb dX12_orders_168 (by decide) (fun c_50 => ?_) (fun c_50 => ?_)
                · have h := it c_50 h
                  obtain ⟨x7_51, ex7_51, h⟩ := bnd_e h
                  refine lv_iinc (v := x7_51) (lv' := [(7, .int x7_51), (11, .int r_47), (0, .ref (a 0)), (1, .int p1), (2, .int p2), (4, .int x4_8), (5, .int x5_10), (6, .int x6_11), (10, .int x10_41)]) hx hb dX12_orders_195 hl (k := 7) rfl (by rw [ex7_51]; rfl) (by decide) rfl (fun ls hl => ?_)
                  refine lv_goto (tgt := 60) hx hb dX12_orders_198 (by decide) ?_
                  exact ih1 x5_10 x6_11 x7_51 σ_49 _ _ ls h hP hS (lv_sub hl [2, 3, 4, 5, 6, 7, 0] rfl)
                · have h := ie c_50 h
                  obtain ⟨x5_52, ex5_52, h⟩ := bnd_e h
                  refine lv_iinc (v := x5_52) (lv' := [(5, .int x5_52), (11, .int r_47), (0, .ref (a 0)), (1, .int p1), (2, .int p2), (4, .int x4_8), (6, .int x6_11), (7, .int x7_12), (10, .int x10_41)]) hx hb dX12_orders_171 hl (k := 5) rfl (by rw [ex5_52]; rfl) (by decide) rfl (fun ls hl => ?_)
                  refine lv_iload hx hb dX12_orders_174 (lv_at hl 6 rfl) ?_
                  refine lv_if_lt (tgt := 186) hx hb dX12_orders_176 (by decide) (fun c_53 => ?_) (fun c_53 => ?_)
                  · have h := it c_53 h
                    refine lv_iload hx hb dX12_orders_186 (lv_at hl 1 rfl) ?_
                    refine lv_goto (tgt := 193) hx hb dX12_orders_188 (by decide) ?_
                    refine lv_istore (lv' := [(6, .int r_47), (5, .int x5_52), (11, .int r_47), (0, .ref (a 0)), (1, .int p1), (2, .int p2), (4, .int x4_8), (7, .int x7_12), (10, .int x10_41)]) hx hb dX12_orders_193 hl (by decide) rfl (fun ls hl => ?_)
                    obtain ⟨x7_54, ex7_54, h⟩ := bnd_e h
                    refine lv_iinc (v := x7_54) (lv' := [(7, .int x7_54), (6, .int r_47), (5, .int x5_52), (11, .int r_47), (0, .ref (a 0)), (1, .int p1), (2, .int p2), (4, .int x4_8), (10, .int x10_41)]) hx hb dX12_orders_195 hl (k := 7) rfl (by rw [ex7_54]; rfl) (by decide) rfl (fun ls hl => ?_)
                    refine lv_goto (tgt := 60) hx hb dX12_orders_198 (by decide) ?_
                    exact ih1 x5_52 r_47 x7_54 σ_49 _ _ ls h hP hS (lv_sub hl [4, 5, 6, 7, 2, 1, 0] rfl)
                  · have h := ie c_53 h
                    refine lv_iload hx hb dX12_orders_179 (lv_at hl 1 rfl) ?_
                    refine lv_iload hx hb dX12_orders_181 (lv_at hl 6 rfl) ?_
                    refine lv_icmp_ge (tgt := 191) hx hb dX12_orders_183 (by decide) (fun c_55 => ?_) (fun c_55 => ?_)
                    · have h := it c_55 h
                      refine lv_iload hx hb dX12_orders_191 (lv_at hl 6 rfl) ?_
                      refine lv_istore (lv' := [(6, .int x6_11), (5, .int x5_52), (11, .int r_47), (0, .ref (a 0)), (1, .int p1), (2, .int p2), (4, .int x4_8), (7, .int x7_12), (10, .int x10_41)]) hx hb dX12_orders_193 hl (by decide) rfl (fun ls hl => ?_)
                      obtain ⟨x7_56, ex7_56, h⟩ := bnd_e h
                      refine lv_iinc (v := x7_56) (lv' := [(7, .int x7_56), (6, .int x6_11), (5, .int x5_52), (11, .int r_47), (0, .ref (a 0)), (1, .int p1), (2, .int p2), (4, .int x4_8), (10, .int x10_41)]) hx hb dX12_orders_195 hl (k := 7) rfl (by rw [ex7_56]; rfl) (by decide) rfl (fun ls hl => ?_)
                      refine lv_goto (tgt := 60) hx hb dX12_orders_198 (by decide) ?_
                      exact ih1 x5_52 x6_11 x7_56 σ_49 _ _ ls h hP hS (lv_sub hl [4, 5, 6, 7, 2, 1, 0] rfl)
                    · have h := ie c_55 h
                      refine lv_iload hx hb dX12_orders_186 (lv_at hl 1 rfl) ?_
                      refine lv_goto (tgt := 193) hx hb dX12_orders_188 (by decide) ?_
                      refine lv_istore (lv' := [(6, .int r_47), (5, .int x5_52), (11, .int r_47), (0, .ref (a 0)), (1, .int p1), (2, .int p2), (4, .int x4_8), (7, .int x7_12), (10, .int x10_41)]) hx hb dX12_orders_193 hl (by decide) rfl (fun ls hl => ?_)
                      obtain ⟨x7_57, ex7_57, h⟩ := bnd_e h
                      refine lv_iinc (v := x7_57) (lv' := [(7, .int x7_57), (6, .int r_47), (5, .int x5_52), (11, .int r_47), (0, .ref (a 0)), (1, .int p1), (2, .int p2), (4, .int x4_8), (10, .int x10_41)]) hx hb dX12_orders_195 hl (k := 7) rfl (by rw [ex7_57]; rfl) (by decide) rfl (fun ls hl => ?_)
                      refine lv_goto (tgt := 60) hx hb dX12_orders_198 (by decide) ?_
                      exact ih1 x5_52 r_47 x7_57 σ_49 _ _ ls h hP hS (lv_sub hl [4, 5, 6, 7, 2, 1, 0] rfl)
              have hL2 : ∀ (n : Nat) (x8_19 : Int32) (x9_20 : Int32) (x10_21 : Int32) (x11_22 : Int32) (σ_23 : MMem) (H : Heap) (locs : List Loc) (ls : Array Slot), f_X12_orders_L88 p1 x4_8 n x8_19 x9_20 x10_21 x11_22 σ_23 K2 = some (r, σ') → va_P D vwCl (wM ca a σ_23) H → va_S (AW 21 a) s.heap H locs → lv_has ls 13 [(0, .ref (a 0)), (1, .int p1), (2, .int p2), (4, .int x4_8), (5, .int x5_10), (6, .int x6_11), (7, .int x7_12), (8, .int x8_19), (9, .int x9_20), (10, .int x10_21), (11, .int x11_22)] → W p l e rm_X12_orders s m args below meth c H locs 0 0 Q (F0 m 88 ls []) := by
                intro n
                induction n with
                | zero => intro x8_19 x9_20 x10_21 x11_22 σ_23 H locs ls h; rw [f_X12_orders_L88] at h; cases h
                | succ n ih2 =>
                  intro x8_19 x9_20 x10_21 x11_22 σ_23 H locs ls h hP hS hl
                  rw [f_X12_orders_L88] at h
                  refine lv_iload hx hb dX12_orders_88 (lv_at hl 10 rfl) ?_
                  refine lv_iload hx hb dX12_orders_90 (lv_at hl 3 rfl) ?_
                  refine lv_icmp_ge (tgt := 156) hx hb dX12_orders_92 (by decide) (fun c_24 => ?_) (fun c_24 => ?_)
                  · have h := it c_24 h
                    exact hX2 x8_19 x9_20 x10_21 x11_22 σ_23 _ _ ls h hP hS (lv_sub hl [0, 1, 2, 3, 4, 5, 6, 9] rfl)
                  · have h := ie c_24 h
                    refine lv_iload hx hb dX12_orders_95 (lv_at hl 9 rfl) ?_
                    refine lv_if_eq (tgt := 156) hx hb dX12_orders_97 (by decide) (fun c_25 => ?_) (fun c_25 => ?_)
                    · have h := it c_25 h
                      exact hX2 x8_19 x9_20 x10_21 x11_22 σ_23 _ _ ls h hP hS (lv_sub hl [0, 1, 2, 3, 4, 5, 6, 9] rfl)
                    · have h := ie c_25 h
                      refine lv_iload hx hb dX12_orders_100 (lv_at hl 8 rfl) ?_
                      refine lv_iload hx hb dX12_orders_102 (lv_at hl 3 rfl) ?_
                      obtain ⟨b_26, h⟩ := ck h
                      refine lv_irem hx hb dX12_orders_104 b_26 ?_
                      obtain ⟨x12_27, ex12_27, h⟩ := bnd_e h
                      refine nm_i ex12_27 ?_
                      refine lv_istore (lv' := [(12, .int x12_27), (0, .ref (a 0)), (1, .int p1), (2, .int p2), (4, .int x4_8), (5, .int x5_10), (6, .int x6_11), (7, .int x7_12), (8, .int x8_19), (9, .int x9_20), (10, .int x10_21), (11, .int x11_22)]) hx hb dX12_orders_105 hl (by decide) rfl (fun ls hl => ?_)
                      refine lv_iload hx hb dX12_orders_107 (lv_at hl 9 rfl) ?_
                      refine lv_iload hx hb dX12_orders_109 (lv_at hl 4 rfl) ?_
                      obtain ⟨b_28, h⟩ := ck h
                      refine lv_idiv hx hb dX12_orders_111 b_28 ?_
                      obtain ⟨x9_29, ex9_29, h⟩ := bnd_e h
                      refine nm_i ex9_29 ?_
                      refine lv_istore (lv' := [(9, .int x9_29), (12, .int x12_27), (0, .ref (a 0)), (1, .int p1), (2, .int p2), (4, .int x4_8), (5, .int x5_10), (6, .int x6_11), (7, .int x7_12), (8, .int x8_19), (10, .int x10_21), (11, .int x11_22)]) hx hb dX12_orders_112 hl (by decide) rfl (fun ls hl => ?_)
                      refine lv_iload hx hb dX12_orders_114 (lv_at hl 9 rfl) ?_
                      refine lv_iload hx hb dX12_orders_116 (lv_at hl 1 rfl) ?_
                      refine lv_ishr hx hb dX12_orders_118 ?_
                      refine lv_iconst (v := 1) hx hb dX12_orders_119 (by decide) ?_
                      refine lv_iand hx hb dX12_orders_120 ?_
                      refine lv_if_ne (tgt := 138) hx hb dX12_orders_121 (by decide) (fun c_30 => ?_) (fun c_30 => ?_)
                      · have h := ie c_30 h
                        refine lv_iconst (v := 0) hx hb dX12_orders_138 (by decide) ?_
                        refine lv_istore (lv' := [(10, .int 0), (9, .int x9_29), (12, .int x12_27), (0, .ref (a 0)), (1, .int p1), (2, .int p2), (4, .int x4_8), (5, .int x5_10), (6, .int x6_11), (7, .int x7_12), (8, .int x8_19), (11, .int x11_22)]) hx hb dX12_orders_139 hl (by decide) rfl (fun ls hl => ?_)
                        refine lv_iload hx hb dX12_orders_141 (lv_at hl 10 rfl) ?_
                        refine lv_iconst (v := 1) hx hb dX12_orders_143 (by decide) ?_
                        refine lv_iload hx hb dX12_orders_144 (lv_at hl 2 rfl) ?_
                        refine lv_ishl hx hb dX12_orders_146 ?_
                        refine lv_ior hx hb dX12_orders_147 ?_
                        obtain ⟨x8_31, ex8_31, h⟩ := bnd_e h
                        refine nm_i ex8_31 ?_
                        refine lv_istore (lv' := [(8, .int x8_31), (10, .int 0), (9, .int x9_29), (12, .int x12_27), (0, .ref (a 0)), (1, .int p1), (2, .int p2), (4, .int x4_8), (5, .int x5_10), (6, .int x6_11), (7, .int x7_12), (11, .int x11_22)]) hx hb dX12_orders_148 hl (by decide) rfl (fun ls hl => ?_)
                        obtain ⟨x11_32, ex11_32, h⟩ := bnd_e h
                        refine lv_iinc (v := x11_32) (lv' := [(11, .int x11_32), (8, .int x8_31), (10, .int 0), (9, .int x9_29), (12, .int x12_27), (0, .ref (a 0)), (1, .int p1), (2, .int p2), (4, .int x4_8), (5, .int x5_10), (6, .int x6_11), (7, .int x7_12)]) hx hb dX12_orders_150 hl (k := 11) rfl (by rw [ex11_32]; rfl) (by decide) rfl (fun ls hl => ?_)
                        refine lv_goto (tgt := 88) hx hb dX12_orders_153 (by decide) ?_
                        exact ih2 x8_31 x9_29 0 x11_32 σ_23 _ _ ls h hP hS (lv_sub hl [5, 6, 7, 8, 9, 10, 11, 1, 3, 2, 0] rfl)
                      · have h := it c_30 h
                        refine lv_aload_n hx hb dX12_orders_124 rfl (lv_at hl 2 rfl) ?_
                        refine lv_iload_n hx hb dX12_orders_125 rfl (lv_at hl 3 rfl) ?_
                        refine lv_iload hx hb dX12_orders_126 (lv_at hl 1 rfl) ?_
                        obtain ⟨r_34, σ_35, h_33, h⟩ := b2_e h
                        refine xcall (rV C0 hK hP hl.1 (fun _ _ _ => trivial) Bt_b (c_X12_puts hI h_33) cv_X12_puts tw1219 (rcX12 hK hP) (rest := []) rfl (Nat.le_of_ble_eq_true rfl) ⟨rfl, rfl, Nat.le_of_ble_eq_true rfl, Nat.le_of_ble_eq_true rfl⟩ ⟨Nat.zero_le _, Nat.zero_le _⟩ dX12_orders_128) hS (fun H locs hP hS => ?_)
                        refine lv_if_eq (tgt := 138) hx hb dX12_orders_131 (by decide) (fun c_36 => ?_) (fun c_36 => ?_)
                        · have h := it c_36 h
                          refine lv_iconst (v := 0) hx hb dX12_orders_138 (by decide) ?_
                          refine lv_istore (lv' := [(10, .int 0), (9, .int x9_29), (12, .int x12_27), (0, .ref (a 0)), (1, .int p1), (2, .int p2), (4, .int x4_8), (5, .int x5_10), (6, .int x6_11), (7, .int x7_12), (8, .int x8_19), (11, .int x11_22)]) hx hb dX12_orders_139 hl (by decide) rfl (fun ls hl => ?_)
                          refine lv_iload hx hb dX12_orders_141 (lv_at hl 10 rfl) ?_
                          refine lv_iconst (v := 1) hx hb dX12_orders_143 (by decide) ?_
                          refine lv_iload hx hb dX12_orders_144 (lv_at hl 2 rfl) ?_
                          refine lv_ishl hx hb dX12_orders_146 ?_
                          refine lv_ior hx hb dX12_orders_147 ?_
                          obtain ⟨x8_37, ex8_37, h⟩ := bnd_e h
                          refine nm_i ex8_37 ?_
                          refine lv_istore (lv' := [(8, .int x8_37), (10, .int 0), (9, .int x9_29), (12, .int x12_27), (0, .ref (a 0)), (1, .int p1), (2, .int p2), (4, .int x4_8), (5, .int x5_10), (6, .int x6_11), (7, .int x7_12), (11, .int x11_22)]) hx hb dX12_orders_148 hl (by decide) rfl (fun ls hl => ?_)
                          obtain ⟨x11_38, ex11_38, h⟩ := bnd_e h
                          refine lv_iinc (v := x11_38) (lv' := [(11, .int x11_38), (8, .int x8_37), (10, .int 0), (9, .int x9_29), (12, .int x12_27), (0, .ref (a 0)), (1, .int p1), (2, .int p2), (4, .int x4_8), (5, .int x5_10), (6, .int x6_11), (7, .int x7_12)]) hx hb dX12_orders_150 hl (k := 11) rfl (by rw [ex11_38]; rfl) (by decide) rfl (fun ls hl => ?_)
                          refine lv_goto (tgt := 88) hx hb dX12_orders_153 (by decide) ?_
                          exact ih2 x8_37 x9_29 0 x11_38 σ_35 _ _ ls h hP hS (lv_sub hl [5, 6, 7, 8, 9, 10, 11, 1, 3, 2, 0] rfl)
                        · have h := ie c_36 h
                          refine lv_iconst (v := 1) hx hb dX12_orders_134 (by decide) ?_
                          refine lv_goto (tgt := 139) hx hb dX12_orders_135 (by decide) ?_
                          refine lv_istore (lv' := [(10, .int 1), (9, .int x9_29), (12, .int x12_27), (0, .ref (a 0)), (1, .int p1), (2, .int p2), (4, .int x4_8), (5, .int x5_10), (6, .int x6_11), (7, .int x7_12), (8, .int x8_19), (11, .int x11_22)]) hx hb dX12_orders_139 hl (by decide) rfl (fun ls hl => ?_)
                          refine lv_iload hx hb dX12_orders_141 (lv_at hl 10 rfl) ?_
                          refine lv_iconst (v := 1) hx hb dX12_orders_143 (by decide) ?_
                          refine lv_iload hx hb dX12_orders_144 (lv_at hl 2 rfl) ?_
                          refine lv_ishl hx hb dX12_orders_146 ?_
                          refine lv_ior hx hb dX12_orders_147 ?_
                          obtain ⟨x8_39, ex8_39, h⟩ := bnd_e h
                          refine nm_i ex8_39 ?_
                          refine lv_istore (lv' := [(8, .int x8_39), (10, .int 1), (9, .int x9_29), (12, .int x12_27), (0, .ref (a 0)), (1, .int p1), (2, .int p2), (4, .int x4_8), (5, .int x5_10), (6, .int x6_11), (7, .int x7_12), (11, .int x11_22)]) hx hb dX12_orders_148 hl (by decide) rfl (fun ls hl => ?_)
                          obtain ⟨x11_40, ex11_40, h⟩ := bnd_e h
                          refine lv_iinc (v := x11_40) (lv' := [(11, .int x11_40), (8, .int x8_39), (10, .int 1), (9, .int x9_29), (12, .int x12_27), (0, .ref (a 0)), (1, .int p1), (2, .int p2), (4, .int x4_8), (5, .int x5_10), (6, .int x6_11), (7, .int x7_12)]) hx hb dX12_orders_150 hl (k := 11) rfl (by rw [ex11_40]; rfl) (by decide) rfl (fun ls hl => ?_)
                          refine lv_goto (tgt := 88) hx hb dX12_orders_153 (by decide) ?_
                          exact ih2 x8_39 x9_29 1 x11_40 σ_35 _ _ ls h hP hS (lv_sub hl [5, 6, 7, 8, 9, 10, 11, 1, 3, 2, 0] rfl)
              exact hL2 5000 0 x7_12 1 0 σ_18 _ _ ls h hP hS (lv_sub hl [4, 5, 6, 7, 8, 9, 10, 3, 2, 1, 0] rfl)
        exact hL1 5000 0 (-4) 0 σ_5 _ _ ls h hP hS (lv_sub hl [5, 6, 7, 3, 2, 1, 0] rfl)
      · have h := ie c_9 h
        refine lv_bipush (v := (-2)) hx hb dX12_orders_47 (by decide) ?_
        rw [hQ]
        exact xzret C0 hP hS rfl h dX12_orders_49
    · have h := ie c_6 h
      refine lv_iload_n hx hb dX12_orders_29 rfl (lv_at hl 0 rfl) ?_
      rw [hQ]
      exact xzret C0 hP hS rfl h dX12_orders_30
  refine lv_if_eq (tgt := 23) hx hb dX12_orders_12 (by decide) (fun c_63 => ?_) (fun c_63 => ?_)
  · have h := it c_63 h
    refine lv_iconst (v := (-1)) hx hb dX12_orders_23 (by decide) ?_
    exact hJ24 (-1) σ_1 _ _ ls h hP hS (lv_sub hl [0, 1, 2] rfl)
  · have h := ie c_63 h
    refine lv_aload_n hx hb dX12_orders_15 rfl (lv_at hl 0 rfl) ?_
    refine lv_iload_n hx hb dX12_orders_16 rfl (lv_at hl 1 rfl) ?_
    obtain ⟨r_65, h_64, h⟩ := b1_e h
    refine xcall (rV C0 hK hP hl.1 (fun _ _ _ => trivial) Bt_b (c_X12_wrongPins hI h_64) cv_X12_wrongPins tw1211 (rcX12 hK hP) (rest := []) rfl (Nat.le_of_ble_eq_true rfl) ⟨rfl, rfl, Nat.le_of_ble_eq_true rfl, Nat.le_of_ble_eq_true rfl⟩ ⟨Nat.zero_le _, Nat.zero_le _⟩ dX12_orders_17) hS (fun H locs hP hS => ?_)
    refine lv_goto (tgt := 24) hx hb dX12_orders_20 (by decide) ?_
    exact hJ24 r_65 σ_1 _ _ ls h hP hS (lv_sub hl [0, 1, 2] rfl)
def f_X12_hem_L49 (p2 : Int32) (p3 : Int32) : Nat → Int32 → Int32 → MMem → (Int32 → Int32 → MMem → Option (Int32 × MMem)) → Option (Int32 × MMem)
  | 0, _, _, _, _ => none
  | n + 1, x4_11, x5_12, σ_13, K1 =>
    if p3 ≤ x5_12 then
      K1 x4_11 x5_12 σ_13
    else
      bnd (x4_11 + ((p2 * x4_11) / 100)) fun (y_15 : Int32) =>
      b1 (f_X12_most y_15 99) fun r_17 =>
      bnd (x5_12 + 1) fun (x5_18 : Int32) =>
      f_X12_hem_L49 p2 p3 n r_17 x5_18 σ_13 K1
def f_X12_hem (p1 : Int32) (p2 : Int32) (p3 : Int32) (σ : MMem) : Option (Int32 × MMem) :=
  bnd (uI σ 0 9 0) fun (σ_1 : MMem) =>
  b1 (f_X12_in p1.toInt64 1 99) fun r_3 =>
  if r_3 = 0 then
    some ((-1), σ_1)
  else
    b1 (f_X12_in p2.toInt64 0 99) fun r_6 =>
    if r_6 = 0 then
      some ((-1), σ_1)
    else
      b1 (f_X12_in p3.toInt64 0 20) fun r_9 =>
      if r_9 = 0 then
        some ((-1), σ_1)
      else
        f_X12_hem_L49 p2 p3 5000 p1 0 σ_1 fun (x4_19 : Int32) (u_20 : Int32) (σ_21 : MMem) =>
          some (x4_19, σ_21)
def rm_X12_hem : Room := { frames := 1, cells := 0, slots := 0, locals := 25 }
set_option maxHeartbeats 4000000 in
set_option maxRecDepth 100000 in
theorem c_X12_hem {l : Launch} {D : va_G} {ca : Nat → ClassId} {a : Nat → Nat} (hI : InjN 21 a) {p1 : Int32} {p2 : Int32} {p3 : Int32} {σ : MMem} {r : Int32} {σ' : MMem}  (h : f_X12_hem p1 p2 p3 σ = some (r, σ')) : XMM l D ca a Bt yX12_hem cX12_hem 6 (some .int) rm_X12_hem [.ref (a 0), .int p1, .int p2, .int p3] σ (some (.int r)) σ' := by
  refine XM.of pn_X12 (Nat.le_of_ble_eq_true rfl) ?_
  intro p e s m args below meth c ls Q hQ C0 hK hB hP hS hl
  have C0 : Cx p s m args meth c RX12 cX12_hem 6 (some .int) := C0
  have hx := C0.1
  have hb := C0.2.1
  have hl : lv_has ls 6 [(0, .ref (a 0)), (1, .int p1), (2, .int p2), (3, .int p3)] := hl
  rw [f_X12_hem] at h
  refine lv_aload_n hx hb dX12_hem_0 rfl (lv_at hl 0 rfl) ?_
  refine lv_iconst (v := 0) hx hb dX12_hem_1 (by decide) ?_
  obtain ⟨σ_1, eσ_1, h⟩ := bnd_e h
  refine pX12_9 C0 hK hP tw951 hI hS dX12_hem_2 (fun H locs hP hS => ?_)
  rw [← eσ_1] at hP
  refine lv_iload_n hx hb dX12_hem_5 rfl (lv_at hl 1 rfl) ?_
  refine lv_i2l (v := p1.toInt64) hx hb dX12_hem_6 rfl ?_
  refine lv_lconst (v := 1) hx hb dX12_hem_7 (by decide) ?_
  refine lv_ldc2 (v := 99) hx hb C0.2.2.2.1 (C0.2.2.2.2.1 _ tw1239) dX12_hem_8 ?_
  obtain ⟨r_3, h_2, h⟩ := b1_e h
  refine xcall (rS C0 hK hP hl.1 (fun _ _ _ => trivial) Bt_b (c_X12_in hI h_2) cs_X12_in tw1091 (rest := []) rfl (Nat.le_of_ble_eq_true rfl) ⟨rfl, rfl, Nat.le_of_ble_eq_true rfl, Nat.le_of_ble_eq_true rfl⟩ ⟨Nat.zero_le _, Nat.zero_le _⟩ dX12_hem_11) hS (fun H locs hP hS => ?_)
  refine lv_if_eq (tgt := 41) hx hb dX12_hem_14 (by decide) (fun c_4 => ?_) (fun c_4 => ?_)
  · have h := it c_4 h
    refine lv_iconst (v := (-1)) hx hb dX12_hem_41 (by decide) ?_
    rw [hQ]
    exact xzret C0 hP hS rfl h dX12_hem_42
  · have h := ie c_4 h
    refine lv_iload_n hx hb dX12_hem_17 rfl (lv_at hl 2 rfl) ?_
    refine lv_i2l (v := p2.toInt64) hx hb dX12_hem_18 rfl ?_
    refine lv_lconst (v := 0) hx hb dX12_hem_19 (by decide) ?_
    refine lv_ldc2 (v := 99) hx hb C0.2.2.2.1 (C0.2.2.2.2.1 _ tw1239) dX12_hem_20 ?_
    obtain ⟨r_6, h_5, h⟩ := b1_e h
    refine xcall (rS C0 hK hP hl.1 (fun _ _ _ => trivial) Bt_b (c_X12_in hI h_5) cs_X12_in tw1091 (rest := []) rfl (Nat.le_of_ble_eq_true rfl) ⟨rfl, rfl, Nat.le_of_ble_eq_true rfl, Nat.le_of_ble_eq_true rfl⟩ ⟨Nat.zero_le _, Nat.zero_le _⟩ dX12_hem_23) hS (fun H locs hP hS => ?_)
    refine lv_if_eq (tgt := 41) hx hb dX12_hem_26 (by decide) (fun c_7 => ?_) (fun c_7 => ?_)
    · have h := it c_7 h
      refine lv_iconst (v := (-1)) hx hb dX12_hem_41 (by decide) ?_
      rw [hQ]
      exact xzret C0 hP hS rfl h dX12_hem_42
    · have h := ie c_7 h
      refine lv_iload_n hx hb dX12_hem_29 rfl (lv_at hl 3 rfl) ?_
      refine lv_i2l (v := p3.toInt64) hx hb dX12_hem_30 rfl ?_
      refine lv_lconst (v := 0) hx hb dX12_hem_31 (by decide) ?_
      refine lv_ldc2 (v := 20) hx hb C0.2.2.2.1 (C0.2.2.2.2.1 _ tw1240) dX12_hem_32 ?_
      obtain ⟨r_9, h_8, h⟩ := b1_e h
      refine xcall (rS C0 hK hP hl.1 (fun _ _ _ => trivial) Bt_b (c_X12_in hI h_8) cs_X12_in tw1091 (rest := []) rfl (Nat.le_of_ble_eq_true rfl) ⟨rfl, rfl, Nat.le_of_ble_eq_true rfl, Nat.le_of_ble_eq_true rfl⟩ ⟨Nat.zero_le _, Nat.zero_le _⟩ dX12_hem_35) hS (fun H locs hP hS => ?_)
      refine lv_if_ne (tgt := 43) hx hb dX12_hem_38 (by decide) (fun c_10 => ?_) (fun c_10 => ?_)
      · have h := ie c_10 h
        refine lv_iload_n hx hb dX12_hem_43 rfl (lv_at hl 1 rfl) ?_
        refine lv_istore (lv' := [(4, .int p1), (0, .ref (a 0)), (1, .int p1), (2, .int p2), (3, .int p3)]) hx hb dX12_hem_44 hl (by decide) rfl (fun ls hl => ?_)
        refine lv_iconst (v := 0) hx hb dX12_hem_46 (by decide) ?_
        refine lv_istore (lv' := [(5, .int 0), (4, .int p1), (0, .ref (a 0)), (1, .int p1), (2, .int p2), (3, .int p3)]) hx hb dX12_hem_47 hl (by decide) rfl (fun ls hl => ?_)
        obtain ⟨K1, eK1, h⟩ := lp_e (f := fun K => f_X12_hem_L49 p2 p3 5000 p1 0 σ_1 K) h
        have h : f_X12_hem_L49 p2 p3 5000 p1 0 σ_1 K1 = some (r, σ') := h
        have hX1 : ∀ (x4_19 : Int32) (u_20 : Int32) (σ_21 : MMem) (H : Heap) (locs : List Loc) (ls : Array Slot), K1 x4_19 u_20 σ_21 = some (r, σ') → va_P D vwCl (wM ca a σ_21) H → va_S (AW 21 a) s.heap H locs → lv_has ls 6 [(4, .int x4_19)] → W p l e rm_X12_hem s m args below meth c H locs 0 0 Q (F0 m 78 ls []) := by
          intro x4_19 u_20 σ_21 H locs ls h hP hS hl
          have h := ap3 eK1 h
          refine lv_iload hx hb dX12_hem_78 (lv_at hl 0 rfl) ?_
          rw [hQ]
          exact xzret C0 hP hS rfl h dX12_hem_80
        have hL1 : ∀ (n : Nat) (x4_11 : Int32) (x5_12 : Int32) (σ_13 : MMem) (H : Heap) (locs : List Loc) (ls : Array Slot), f_X12_hem_L49 p2 p3 n x4_11 x5_12 σ_13 K1 = some (r, σ') → va_P D vwCl (wM ca a σ_13) H → va_S (AW 21 a) s.heap H locs → lv_has ls 6 [(2, .int p2), (3, .int p3), (4, .int x4_11), (5, .int x5_12)] → W p l e rm_X12_hem s m args below meth c H locs 0 0 Q (F0 m 49 ls []) := by
          intro n
          induction n with
          | zero => intro x4_11 x5_12 σ_13 H locs ls h; rw [f_X12_hem_L49] at h; cases h
          | succ n ih1 =>
            intro x4_11 x5_12 σ_13 H locs ls h hP hS hl
            rw [f_X12_hem_L49] at h
            refine lv_iload hx hb dX12_hem_49 (lv_at hl 3 rfl) ?_
            refine lv_iload_n hx hb dX12_hem_51 rfl (lv_at hl 1 rfl) ?_
            refine lv_icmp_ge (tgt := 78) hx hb dX12_hem_52 (by decide) (fun c_14 => ?_) (fun c_14 => ?_)
            · have h := it c_14 h
              exact hX1 x4_11 x5_12 σ_13 _ _ ls h hP hS (lv_sub hl [2] rfl)
            · have h := ie c_14 h
              refine lv_iload hx hb dX12_hem_55 (lv_at hl 2 rfl) ?_
              refine lv_iload_n hx hb dX12_hem_57 rfl (lv_at hl 0 rfl) ?_
              refine lv_iload hx hb dX12_hem_58 (lv_at hl 2 rfl) ?_
              refine lv_imul hx hb dX12_hem_60 ?_
              refine lv_bipush (v := 100) hx hb dX12_hem_61 (by decide) ?_
              refine lv_idiv hx hb dX12_hem_63 (by decide) ?_
              refine lv_iadd hx hb dX12_hem_64 ?_
              refine lv_bipush (v := 99) hx hb dX12_hem_65 (by decide) ?_
              obtain ⟨y_15, ey_15, h⟩ := bnd_e h
              rw [← ey_15]
              obtain ⟨r_17, h_16, h⟩ := b1_e h
              refine xcall (rS C0 hK hP hl.1 (fun _ _ _ => trivial) Bt_b (c_X12_most hI h_16) cs_X12_most tw1140 (rest := []) rfl (Nat.le_of_ble_eq_true rfl) ⟨rfl, rfl, Nat.le_of_ble_eq_true rfl, Nat.le_of_ble_eq_true rfl⟩ ⟨Nat.zero_le _, Nat.zero_le _⟩ dX12_hem_67) hS (fun H locs hP hS => ?_)
              refine lv_istore (lv' := [(4, .int r_17), (2, .int p2), (3, .int p3), (5, .int x5_12)]) hx hb dX12_hem_70 hl (by decide) rfl (fun ls hl => ?_)
              obtain ⟨x5_18, ex5_18, h⟩ := bnd_e h
              refine lv_iinc (v := x5_18) (lv' := [(5, .int x5_18), (4, .int r_17), (2, .int p2), (3, .int p3)]) hx hb dX12_hem_72 hl (k := 3) rfl (by rw [ex5_18]; rfl) (by decide) rfl (fun ls hl => ?_)
              refine lv_goto (tgt := 49) hx hb dX12_hem_75 (by decide) ?_
              exact ih1 r_17 x5_18 σ_13 _ _ ls h hP hS (lv_sub hl [2, 3, 1, 0] rfl)
        exact hL1 5000 p1 0 σ_1 _ _ ls h hP hS (lv_sub hl [4, 5, 1, 0] rfl)
      · have h := it c_10 h
        refine lv_iconst (v := (-1)) hx hb dX12_hem_41 (by decide) ?_
        rw [hQ]
        exact xzret C0 hP hS rfl h dX12_hem_42
