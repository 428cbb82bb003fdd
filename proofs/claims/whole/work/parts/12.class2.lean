def f_X11_darts (p1 : Int32) (p2 : Int32) (p3 : Int32) (p4 : Int32) : Option (Int32) :=
  b1 (f_X11_within p1 0 99) fun r_2 =>
  jn (fun (v_3 : Int32) =>
    b1 (f_X11_within p2 1 99) fun r_5 =>
    jn (fun (v_6 : Int32) =>
      if v_3 = 0 then
        some (-1)
      else
        if v_6 = 0 then
          some (-1)
        else
          if (p1 * p4) = (p3 * p2) then
            some 1
          else
            some 0) fun J53 =>
    jn (fun (_ : Unit) =>
      J53 0) fun J52 =>
    if r_5 = 0 then
      J52 ()
    else
      b1 (f_X11_within p4 1 99) fun r_12 =>
      if r_12 = 0 then
        J52 ()
      else
        J53 1) fun J25 =>
  jn (fun (_ : Unit) =>
    J25 0) fun J24 =>
  if r_2 = 0 then
    J24 ()
  else
    b1 (f_X11_within p3 0 99) fun r_16 =>
    if r_16 = 0 then
      J24 ()
    else
      J25 1
def rm_X11_darts : Room := { frames := 1, cells := 0, slots := 0, locals := 22 }
set_option maxHeartbeats 4000000 in
set_option maxRecDepth 100000 in
theorem c_X11_darts {l : Launch} {D : va_G} {ca : Nat → ClassId} {a : Nat → Nat} (hI : InjN 37 a) {p1 : Int32} {p2 : Int32} {p3 : Int32} {p4 : Int32} {σ : Mem} {r : Int32}  (h : f_X11_darts p1 p2 p3 p4 = some r) : XMX l D ca a Bt yX11_darts cX11_darts 7 (some .int) rm_X11_darts [.ref (a 0), .int p1, .int p2, .int p3, .int p4] σ (some (.int r)) σ := by
  refine XM.of pn_X11 (Nat.le_of_ble_eq_true rfl) ?_
  intro p e s m args below meth c ls Q hQ C0 hK hB hP hS hl
  have C0 : Cx p s m args meth c RX11 cX11_darts 7 (some .int) := C0
  have hx := C0.1
  have hb := C0.2.1
  have hl : lv_has ls 7 [(0, .ref (a 0)), (1, .int p1), (2, .int p2), (3, .int p3), (4, .int p4)] := hl
  rw [f_X11_darts] at h
  refine lv_iload_n hx hb dX11_darts_0 rfl (lv_at hl 1 rfl) ?_
  refine lv_iconst (v := 0) hx hb dX11_darts_1 (by decide) ?_
  refine lv_bipush (v := 99) hx hb dX11_darts_2 (by decide) ?_
  obtain ⟨r_2, h_1, h⟩ := b1_e h
  refine xcall (rS C0 hK hP hl.1 (fun _ _ _ => trivial) Bt_b (c_X11_within hI h_1) cs_X11_within tw272 (rest := []) rfl (Nat.le_of_ble_eq_true rfl) ⟨rfl, rfl, Nat.le_of_ble_eq_true rfl, Nat.le_of_ble_eq_true rfl⟩ ⟨Nat.zero_le _, Nat.zero_le _⟩ dX11_darts_4) hS (fun H locs hP hS => ?_)
  obtain ⟨J25, eJ25, h⟩ := jn_e h
  have hJ25 : ∀ (v_3 : Int32) (H : Heap) (locs : List Loc) (ls : Array Slot), J25 v_3 = some r → va_P D vwCl (wX ca a σ) H → va_S (AW 37 a) s.heap H locs → lv_has ls 7 [(1, .int p1), (2, .int p2), (3, .int p3), (4, .int p4)] → W p l e rm_X11_darts s m args below meth c H locs 0 0 Q (F0 m 25 ls [.int v_3]) := by
    intro v_3 H locs ls h hP hS hl
    have h := ap1 eJ25 h
    refine lv_istore (lv' := [(5, .int v_3), (1, .int p1), (2, .int p2), (3, .int p3), (4, .int p4)]) hx hb dX11_darts_25 hl (by decide) rfl (fun ls hl => ?_)
    refine lv_iload_n hx hb dX11_darts_27 rfl (lv_at hl 2 rfl) ?_
    refine lv_iconst (v := 1) hx hb dX11_darts_28 (by decide) ?_
    refine lv_bipush (v := 99) hx hb dX11_darts_29 (by decide) ?_
    obtain ⟨r_5, h_4, h⟩ := b1_e h
    refine xcall (rS C0 hK hP hl.1 (fun _ _ _ => trivial) Bt_b (c_X11_within hI h_4) cs_X11_within tw272 (rest := []) rfl (Nat.le_of_ble_eq_true rfl) ⟨rfl, rfl, Nat.le_of_ble_eq_true rfl, Nat.le_of_ble_eq_true rfl⟩ ⟨Nat.zero_le _, Nat.zero_le _⟩ dX11_darts_31) hS (fun H locs hP hS => ?_)
    obtain ⟨J53, eJ53, h⟩ := jn_e h
    have hJ53 : ∀ (v_6 : Int32) (H : Heap) (locs : List Loc) (ls : Array Slot), J53 v_6 = some r → va_P D vwCl (wX ca a σ) H → va_S (AW 37 a) s.heap H locs → lv_has ls 7 [(1, .int p1), (2, .int p2), (3, .int p3), (4, .int p4), (5, .int v_3)] → W p l e rm_X11_darts s m args below meth c H locs 0 0 Q (F0 m 53 ls [.int v_6]) := by
      intro v_6 H locs ls h hP hS hl
      have h := ap1 eJ53 h
      refine lv_istore (lv' := [(6, .int v_6), (1, .int p1), (2, .int p2), (3, .int p3), (4, .int p4), (5, .int v_3)]) hx hb dX11_darts_53 hl (by decide) rfl (fun ls hl => ?_)
      refine lv_iload hx hb dX11_darts_55 (lv_at hl 5 rfl) ?_
      refine lv_if_eq (tgt := 65) hx hb dX11_darts_57 (by decide) (fun c_7 => ?_) (fun c_7 => ?_)
      · have h := it c_7 h
        refine lv_iconst (v := (-1)) hx hb dX11_darts_65 (by decide) ?_
        rw [hQ]
        exact xzretr C0 hP hS rfl h dX11_darts_66
      · have h := ie c_7 h
        refine lv_iload hx hb dX11_darts_60 (lv_at hl 0 rfl) ?_
        refine lv_if_ne (tgt := 67) hx hb dX11_darts_62 (by decide) (fun c_8 => ?_) (fun c_8 => ?_)
        · have h := ie c_8 h
          refine lv_iload_n hx hb dX11_darts_67 rfl (lv_at hl 1 rfl) ?_
          refine lv_iload hx hb dX11_darts_68 (lv_at hl 4 rfl) ?_
          refine lv_imul hx hb dX11_darts_70 ?_
          refine lv_iload_n hx hb dX11_darts_71 rfl (lv_at hl 3 rfl) ?_
          refine lv_iload_n hx hb dX11_darts_72 rfl (lv_at hl 2 rfl) ?_
          refine lv_imul hx hb dX11_darts_73 ?_
          refine lv_icmp_ne (tgt := 81) hx hb dX11_darts_74 (by decide) (fun c_9 => ?_) (fun c_9 => ?_)
          · have h := ie c_9 h
            refine lv_iconst (v := 0) hx hb dX11_darts_81 (by decide) ?_
            rw [hQ]
            exact xzretr C0 hP hS rfl h dX11_darts_82
          · have h := it c_9 h
            refine lv_iconst (v := 1) hx hb dX11_darts_77 (by decide) ?_
            refine lv_goto (tgt := 82) hx hb dX11_darts_78 (by decide) ?_
            rw [hQ]
            exact xzretr C0 hP hS rfl h dX11_darts_82
        · have h := it c_8 h
          refine lv_iconst (v := (-1)) hx hb dX11_darts_65 (by decide) ?_
          rw [hQ]
          exact xzretr C0 hP hS rfl h dX11_darts_66
    obtain ⟨J52, eJ52, h⟩ := jn_e h
    have hJ52 : ∀ (_ : Unit) (H : Heap) (locs : List Loc) (ls : Array Slot), J52 () = some r → va_P D vwCl (wX ca a σ) H → va_S (AW 37 a) s.heap H locs → lv_has ls 7 [(1, .int p1), (2, .int p2), (3, .int p3), (4, .int p4), (5, .int v_3)] → W p l e rm_X11_darts s m args below meth c H locs 0 0 Q (F0 m 52 ls []) := by
      intro _ H locs ls h hP hS hl
      have h := ap1 eJ52 h
      refine lv_iconst (v := 0) hx hb dX11_darts_52 (by decide) ?_
      exact hJ53 0 _ _ ls h hP hS (lv_sub hl [0, 1, 2, 3, 4] rfl)
    refine lv_if_eq (tgt := 52) hx hb dX11_darts_34 (by decide) (fun c_10 => ?_) (fun c_10 => ?_)
    · have h := it c_10 h
      exact hJ52 () _ _ ls h hP hS (lv_sub hl [1, 2, 3, 4, 0] rfl)
    · have h := ie c_10 h
      refine lv_iload hx hb dX11_darts_37 (lv_at hl 4 rfl) ?_
      refine lv_iconst (v := 1) hx hb dX11_darts_39 (by decide) ?_
      refine lv_bipush (v := 99) hx hb dX11_darts_40 (by decide) ?_
      obtain ⟨r_12, h_11, h⟩ := b1_e h
      refine xcall (rS C0 hK hP hl.1 (fun _ _ _ => trivial) Bt_b (c_X11_within hI h_11) cs_X11_within tw272 (rest := []) rfl (Nat.le_of_ble_eq_true rfl) ⟨rfl, rfl, Nat.le_of_ble_eq_true rfl, Nat.le_of_ble_eq_true rfl⟩ ⟨Nat.zero_le _, Nat.zero_le _⟩ dX11_darts_42) hS (fun H locs hP hS => ?_)
      refine lv_if_eq (tgt := 52) hx hb dX11_darts_45 (by decide) (fun c_13 => ?_) (fun c_13 => ?_)
      · have h := it c_13 h
        exact hJ52 () _ _ ls h hP hS (lv_sub hl [1, 2, 3, 4, 0] rfl)
      · have h := ie c_13 h
        refine lv_iconst (v := 1) hx hb dX11_darts_48 (by decide) ?_
        refine lv_goto (tgt := 53) hx hb dX11_darts_49 (by decide) ?_
        exact hJ53 1 _ _ ls h hP hS (lv_sub hl [1, 2, 3, 4, 0] rfl)
  obtain ⟨J24, eJ24, h⟩ := jn_e h
  have hJ24 : ∀ (_ : Unit) (H : Heap) (locs : List Loc) (ls : Array Slot), J24 () = some r → va_P D vwCl (wX ca a σ) H → va_S (AW 37 a) s.heap H locs → lv_has ls 7 [(1, .int p1), (2, .int p2), (3, .int p3), (4, .int p4)] → W p l e rm_X11_darts s m args below meth c H locs 0 0 Q (F0 m 24 ls []) := by
    intro _ H locs ls h hP hS hl
    have h := ap1 eJ24 h
    refine lv_iconst (v := 0) hx hb dX11_darts_24 (by decide) ?_
    exact hJ25 0 _ _ ls h hP hS (lv_sub hl [0, 1, 2, 3] rfl)
  refine lv_if_eq (tgt := 24) hx hb dX11_darts_7 (by decide) (fun c_14 => ?_) (fun c_14 => ?_)
  · have h := it c_14 h
    exact hJ24 () _ _ ls h hP hS (lv_sub hl [1, 2, 3, 4] rfl)
  · have h := ie c_14 h
    refine lv_iload_n hx hb dX11_darts_10 rfl (lv_at hl 3 rfl) ?_
    refine lv_iconst (v := 0) hx hb dX11_darts_11 (by decide) ?_
    refine lv_bipush (v := 99) hx hb dX11_darts_12 (by decide) ?_
    obtain ⟨r_16, h_15, h⟩ := b1_e h
    refine xcall (rS C0 hK hP hl.1 (fun _ _ _ => trivial) Bt_b (c_X11_within hI h_15) cs_X11_within tw272 (rest := []) rfl (Nat.le_of_ble_eq_true rfl) ⟨rfl, rfl, Nat.le_of_ble_eq_true rfl, Nat.le_of_ble_eq_true rfl⟩ ⟨Nat.zero_le _, Nat.zero_le _⟩ dX11_darts_14) hS (fun H locs hP hS => ?_)
    refine lv_if_eq (tgt := 24) hx hb dX11_darts_17 (by decide) (fun c_17 => ?_) (fun c_17 => ?_)
    · have h := it c_17 h
      exact hJ24 () _ _ ls h hP hS (lv_sub hl [1, 2, 3, 4] rfl)
    · have h := ie c_17 h
      refine lv_iconst (v := 1) hx hb dX11_darts_20 (by decide) ?_
      refine lv_goto (tgt := 25) hx hb dX11_darts_21 (by decide) ?_
      exact hJ25 1 _ _ ls h hP hS (lv_sub hl [1, 2, 3, 4] rfl)
def f_X11_stripes_L48 (p1 : Int32) (p2 : Int32) (p3 : Int32) (p4 : Int32) : Nat → Int32 → (Int32 → Option (Int32)) → Option (Int32)
  | 0, _, _ => none
  | n + 1, x5_13, K1 =>
    if p3 ≤ x5_13 then
      K1 x5_13
    else
      bnd (p2 + (x5_13 * p1)) fun (x6_15 : Int32) =>
      if p3 = 0 then none else
      if (x6_15 - x6_15 / p3 * p3) = p4 then
        some x6_15
      else
        bnd (x5_13 + 1) fun (x5_18 : Int32) =>
        f_X11_stripes_L48 p1 p2 p3 p4 n x5_18 K1
def f_X11_stripes (p1 : Int32) (p2 : Int32) (p3 : Int32) (p4 : Int32) : Option (Int32) :=
  b1 (f_X11_within p1 1 60) fun r_2 =>
  if r_2 = 0 then
    some (-1)
  else
    b1 (f_X11_within p3 1 60) fun r_5 =>
    if r_5 = 0 then
      some (-1)
    else
      b1 (f_X11_within p2 0 (p1 - 1)) fun r_8 =>
      if r_8 = 0 then
        some (-1)
      else
        b1 (f_X11_within p4 0 (p3 - 1)) fun r_11 =>
        if r_11 = 0 then
          some (-1)
        else
          f_X11_stripes_L48 p1 p2 p3 p4 5000 0 fun (u_19 : Int32) =>
            some (-4)
def rm_X11_stripes : Room := { frames := 1, cells := 0, slots := 0, locals := 22 }
set_option maxHeartbeats 4000000 in
set_option maxRecDepth 100000 in
theorem c_X11_stripes {l : Launch} {D : va_G} {ca : Nat → ClassId} {a : Nat → Nat} (hI : InjN 37 a) {p1 : Int32} {p2 : Int32} {p3 : Int32} {p4 : Int32} {σ : Mem} {r : Int32}  (h : f_X11_stripes p1 p2 p3 p4 = some r) : XMX l D ca a Bt yX11_stripes cX11_stripes 7 (some .int) rm_X11_stripes [.ref (a 0), .int p1, .int p2, .int p3, .int p4] σ (some (.int r)) σ := by
  refine XM.of pn_X11 (Nat.le_of_ble_eq_true rfl) ?_
  intro p e s m args below meth c ls Q hQ C0 hK hB hP hS hl
  have C0 : Cx p s m args meth c RX11 cX11_stripes 7 (some .int) := C0
  have hx := C0.1
  have hb := C0.2.1
  have hl : lv_has ls 7 [(0, .ref (a 0)), (1, .int p1), (2, .int p2), (3, .int p3), (4, .int p4)] := hl
  rw [f_X11_stripes] at h
  refine lv_iload_n hx hb dX11_stripes_0 rfl (lv_at hl 1 rfl) ?_
  refine lv_iconst (v := 1) hx hb dX11_stripes_1 (by decide) ?_
  refine lv_bipush (v := 60) hx hb dX11_stripes_2 (by decide) ?_
  obtain ⟨r_2, h_1, h⟩ := b1_e h
  refine xcall (rS C0 hK hP hl.1 (fun _ _ _ => trivial) Bt_b (c_X11_within hI h_1) cs_X11_within tw272 (rest := []) rfl (Nat.le_of_ble_eq_true rfl) ⟨rfl, rfl, Nat.le_of_ble_eq_true rfl, Nat.le_of_ble_eq_true rfl⟩ ⟨Nat.zero_le _, Nat.zero_le _⟩ dX11_stripes_4) hS (fun H locs hP hS => ?_)
  refine lv_if_eq (tgt := 43) hx hb dX11_stripes_7 (by decide) (fun c_3 => ?_) (fun c_3 => ?_)
  · have h := it c_3 h
    refine lv_iconst (v := (-1)) hx hb dX11_stripes_43 (by decide) ?_
    rw [hQ]
    exact xzretr C0 hP hS rfl h dX11_stripes_44
  · have h := ie c_3 h
    refine lv_iload_n hx hb dX11_stripes_10 rfl (lv_at hl 3 rfl) ?_
    refine lv_iconst (v := 1) hx hb dX11_stripes_11 (by decide) ?_
    refine lv_bipush (v := 60) hx hb dX11_stripes_12 (by decide) ?_
    obtain ⟨r_5, h_4, h⟩ := b1_e h
    refine xcall (rS C0 hK hP hl.1 (fun _ _ _ => trivial) Bt_b (c_X11_within hI h_4) cs_X11_within tw272 (rest := []) rfl (Nat.le_of_ble_eq_true rfl) ⟨rfl, rfl, Nat.le_of_ble_eq_true rfl, Nat.le_of_ble_eq_true rfl⟩ ⟨Nat.zero_le _, Nat.zero_le _⟩ dX11_stripes_14) hS (fun H locs hP hS => ?_)
    refine lv_if_eq (tgt := 43) hx hb dX11_stripes_17 (by decide) (fun c_6 => ?_) (fun c_6 => ?_)
    · have h := it c_6 h
      refine lv_iconst (v := (-1)) hx hb dX11_stripes_43 (by decide) ?_
      rw [hQ]
      exact xzretr C0 hP hS rfl h dX11_stripes_44
    · have h := ie c_6 h
      refine lv_iload_n hx hb dX11_stripes_20 rfl (lv_at hl 2 rfl) ?_
      refine lv_iconst (v := 0) hx hb dX11_stripes_21 (by decide) ?_
      refine lv_iload_n hx hb dX11_stripes_22 rfl (lv_at hl 1 rfl) ?_
      refine lv_iconst (v := 1) hx hb dX11_stripes_23 (by decide) ?_
      refine lv_isub hx hb dX11_stripes_24 ?_
      obtain ⟨r_8, h_7, h⟩ := b1_e h
      refine xcall (rS C0 hK hP hl.1 (fun _ _ _ => trivial) Bt_b (c_X11_within hI h_7) cs_X11_within tw272 (rest := []) rfl (Nat.le_of_ble_eq_true rfl) ⟨rfl, rfl, Nat.le_of_ble_eq_true rfl, Nat.le_of_ble_eq_true rfl⟩ ⟨Nat.zero_le _, Nat.zero_le _⟩ dX11_stripes_25) hS (fun H locs hP hS => ?_)
      refine lv_if_eq (tgt := 43) hx hb dX11_stripes_28 (by decide) (fun c_9 => ?_) (fun c_9 => ?_)
      · have h := it c_9 h
        refine lv_iconst (v := (-1)) hx hb dX11_stripes_43 (by decide) ?_
        rw [hQ]
        exact xzretr C0 hP hS rfl h dX11_stripes_44
      · have h := ie c_9 h
        refine lv_iload hx hb dX11_stripes_31 (lv_at hl 4 rfl) ?_
        refine lv_iconst (v := 0) hx hb dX11_stripes_33 (by decide) ?_
        refine lv_iload_n hx hb dX11_stripes_34 rfl (lv_at hl 3 rfl) ?_
        refine lv_iconst (v := 1) hx hb dX11_stripes_35 (by decide) ?_
        refine lv_isub hx hb dX11_stripes_36 ?_
        obtain ⟨r_11, h_10, h⟩ := b1_e h
        refine xcall (rS C0 hK hP hl.1 (fun _ _ _ => trivial) Bt_b (c_X11_within hI h_10) cs_X11_within tw272 (rest := []) rfl (Nat.le_of_ble_eq_true rfl) ⟨rfl, rfl, Nat.le_of_ble_eq_true rfl, Nat.le_of_ble_eq_true rfl⟩ ⟨Nat.zero_le _, Nat.zero_le _⟩ dX11_stripes_37) hS (fun H locs hP hS => ?_)
        refine lv_if_ne (tgt := 45) hx hb dX11_stripes_40 (by decide) (fun c_12 => ?_) (fun c_12 => ?_)
        · have h := ie c_12 h
          refine lv_iconst (v := 0) hx hb dX11_stripes_45 (by decide) ?_
          refine lv_istore (lv' := [(5, .int 0), (0, .ref (a 0)), (1, .int p1), (2, .int p2), (3, .int p3), (4, .int p4)]) hx hb dX11_stripes_46 hl (by decide) rfl (fun ls hl => ?_)
          obtain ⟨K1, eK1, h⟩ := lp_e (f := fun K => f_X11_stripes_L48 p1 p2 p3 p4 5000 0 K) h
          have h : f_X11_stripes_L48 p1 p2 p3 p4 5000 0 K1 = some r := h
          have hX1 : ∀ (u_19 : Int32) (H : Heap) (locs : List Loc) (ls : Array Slot), K1 u_19 = some r → va_P D vwCl (wX ca a σ) H → va_S (AW 37 a) s.heap H locs → lv_has ls 7 [] → W p l e rm_X11_stripes s m args below meth c H locs 0 0 Q (F0 m 80 ls []) := by
            intro u_19 H locs ls h hP hS hl
            have h := ap1 eK1 h
            refine lv_bipush (v := (-4)) hx hb dX11_stripes_80 (by decide) ?_
            rw [hQ]
            exact xzretr C0 hP hS rfl h dX11_stripes_82
          have hL1 : ∀ (n : Nat) (x5_13 : Int32) (H : Heap) (locs : List Loc) (ls : Array Slot), f_X11_stripes_L48 p1 p2 p3 p4 n x5_13 K1 = some r → va_P D vwCl (wX ca a σ) H → va_S (AW 37 a) s.heap H locs → lv_has ls 7 [(1, .int p1), (2, .int p2), (3, .int p3), (4, .int p4), (5, .int x5_13)] → W p l e rm_X11_stripes s m args below meth c H locs 0 0 Q (F0 m 48 ls []) := by
            intro n
            induction n with
            | zero => intro x5_13 H locs ls h; rw [f_X11_stripes_L48] at h; cases h
            | succ n ih1 =>
              intro x5_13 H locs ls h hP hS hl
              rw [f_X11_stripes_L48] at h
              refine lv_iload hx hb dX11_stripes_48 (lv_at hl 4 rfl) ?_
              refine lv_iload_n hx hb dX11_stripes_50 rfl (lv_at hl 2 rfl) ?_
              refine lv_icmp_ge (tgt := 80) hx hb dX11_stripes_51 (by decide) (fun c_14 => ?_) (fun c_14 => ?_)
              · have h := it c_14 h
                exact hX1 x5_13 _ _ ls h hP hS (lv_sub hl [] rfl)
              · have h := ie c_14 h
                refine lv_iload_n hx hb dX11_stripes_54 rfl (lv_at hl 1 rfl) ?_
                refine lv_iload hx hb dX11_stripes_55 (lv_at hl 4 rfl) ?_
                refine lv_iload_n hx hb dX11_stripes_57 rfl (lv_at hl 0 rfl) ?_
                refine lv_imul hx hb dX11_stripes_58 ?_
                refine lv_iadd hx hb dX11_stripes_59 ?_
                obtain ⟨x6_15, ex6_15, h⟩ := bnd_e h
                refine nm_i ex6_15 ?_
                refine lv_istore (lv' := [(6, .int x6_15), (1, .int p1), (2, .int p2), (3, .int p3), (4, .int p4), (5, .int x5_13)]) hx hb dX11_stripes_60 hl (by decide) rfl (fun ls hl => ?_)
                refine lv_iload hx hb dX11_stripes_62 (lv_at hl 0 rfl) ?_
                refine lv_iload_n hx hb dX11_stripes_64 rfl (lv_at hl 3 rfl) ?_
                obtain ⟨b_16, h⟩ := ck h
                refine lv_irem hx hb dX11_stripes_65 b_16 ?_
                refine lv_iload hx hb dX11_stripes_66 (lv_at hl 4 rfl) ?_
                refine lv_icmp_ne (tgt := 74) hx hb dX11_stripes_68 (by decide) (fun c_17 => ?_) (fun c_17 => ?_)
                · have h := ie c_17 h
                  obtain ⟨x5_18, ex5_18, h⟩ := bnd_e h
                  refine lv_iinc (v := x5_18) (lv' := [(5, .int x5_18), (6, .int x6_15), (1, .int p1), (2, .int p2), (3, .int p3), (4, .int p4)]) hx hb dX11_stripes_74 hl (k := 5) rfl (by rw [ex5_18]; rfl) (by decide) rfl (fun ls hl => ?_)
                  refine lv_goto (tgt := 48) hx hb dX11_stripes_77 (by decide) ?_
                  exact ih1 x5_18 _ _ ls h hP hS (lv_sub hl [2, 3, 4, 5, 0] rfl)
                · have h := it c_17 h
                  refine lv_iload hx hb dX11_stripes_71 (lv_at hl 0 rfl) ?_
                  rw [hQ]
                  exact xzretr C0 hP hS rfl h dX11_stripes_73
          exact hL1 5000 0 _ _ ls h hP hS (lv_sub hl [2, 3, 4, 5, 0] rfl)
        · have h := it c_12 h
          refine lv_iconst (v := (-1)) hx hb dX11_stripes_43 (by decide) ?_
          rw [hQ]
          exact xzretr C0 hP hS rfl h dX11_stripes_44
def f_X11_tellsMeasures_L13 (d1 : Nat) (σ : Mem) : Nat → Int32 → (Int32 → Option (Int32)) → Option (Int32)
  | 0, _, _ => none
  | n + 1, x2_3, K1 =>
    if (σ (7 + 2 * d1) 5) ≤ x2_3 then
      K1 x2_3
    else
      b1 (f_X5_at d1 x2_3 σ) fun r_6 =>
      b1 (f_X5_at d1 (x2_3 + 1) σ) fun r_8 =>
      b1 (f_X0_has 0 r_6 σ) fun r_10 =>
      if r_10 = 0 then
        some 0
      else
        b1 (f_X0_has 0 r_8 σ) fun r_13 =>
        if r_13 = 0 then
          some 0
        else
          if r_6 = r_8 then
            some 0
          else
            bnd (x2_3 + 3) fun (x2_16 : Int32) =>
            f_X11_tellsMeasures_L13 d1 σ n x2_16 K1
def f_X11_tellsMeasures (d1 : Nat) (σ : Mem) : Option (Int32) :=
  bnd (σ (7 + 2 * d1) 5) fun (y_1 : Int32) =>
  if (y_1 - y_1 / 3 * 3) = 0 then
    f_X11_tellsMeasures_L13 d1 σ 5000 0 fun (u_17 : Int32) =>
      some 1
  else
    some 0
def rm_X11_tellsMeasures : Room := { frames := 1, cells := 0, slots := 0, locals := 21 }
set_option maxHeartbeats 4000000 in
set_option maxRecDepth 100000 in
theorem c_X11_tellsMeasures {l : Launch} {D : va_G} {ca : Nat → ClassId} {a : Nat → Nat} (hI : InjN 37 a) {d1 : Nat} {σ : Mem} {r : Int32} (hk_d1 : d1 < 9) (h : f_X11_tellsMeasures d1 σ = some r) : XMX l D ca a Bt yX11_tellsMeasures cX11_tellsMeasures 5 (some .boolean) rm_X11_tellsMeasures [.ref (a 0), .ref (a (7 + 2 * d1))] σ (some (.int r)) σ := by
  refine XM.of pn_X11 (Nat.le_of_ble_eq_true rfl) ?_
  intro p e s m args below meth c ls Q hQ C0 hK hB hP hS hl
  have C0 : Cx p s m args meth c RX11 cX11_tellsMeasures 5 (some .boolean) := C0
  have hx := C0.1
  have hb := C0.2.1
  have hl : lv_has ls 5 [(0, .ref (a 0)), (1, .ref (a (7 + 2 * d1)))] := hl
  rw [f_X11_tellsMeasures] at h
  refine lv_aload_n hx hb dX11_tellsMeasures_0 rfl (lv_at hl 1 rfl) ?_
  refine gX5_5N C0 hK hP hk_d1 tw141 dX11_tellsMeasures_1 ?_
  refine lv_iconst (v := 3) hx hb dX11_tellsMeasures_4 (by decide) ?_
  obtain ⟨y_1, ey_1, h⟩ := bnd_e h
  rw [← ey_1]
  refine lv_irem hx hb dX11_tellsMeasures_5 (by decide) ?_
  refine lv_if_eq (tgt := 11) hx hb dX11_tellsMeasures_6 (by decide) (fun c_2 => ?_) (fun c_2 => ?_)
  · have h := it c_2 h
    refine lv_iconst (v := 0) hx hb dX11_tellsMeasures_11 (by decide) ?_
    refine lv_istore_n (lv' := [(2, .int 0), (0, .ref (a 0)), (1, .ref (a (7 + 2 * d1)))]) hx hb dX11_tellsMeasures_12 rfl hl (by decide) rfl (fun ls hl => ?_)
    obtain ⟨K1, eK1, h⟩ := lp_e (f := fun K => f_X11_tellsMeasures_L13 d1 σ 5000 0 K) h
    have h : f_X11_tellsMeasures_L13 d1 σ 5000 0 K1 = some r := h
    have hX1 : ∀ (u_17 : Int32) (H : Heap) (locs : List Loc) (ls : Array Slot), K1 u_17 = some r → va_P D vwCl (wX ca a σ) H → va_S (AW 37 a) s.heap H locs → lv_has ls 5 [] → W p l e rm_X11_tellsMeasures s m args below meth c H locs 0 0 Q (F0 m 73 ls []) := by
      intro u_17 H locs ls h hP hS hl
      have h := ap1 eK1 h
      refine lv_iconst (v := 1) hx hb dX11_tellsMeasures_73 (by decide) ?_
      rw [hQ]
      exact xzretr C0 hP hS rfl h dX11_tellsMeasures_74
    have hL1 : ∀ (n : Nat) (x2_3 : Int32) (H : Heap) (locs : List Loc) (ls : Array Slot), f_X11_tellsMeasures_L13 d1 σ n x2_3 K1 = some r → va_P D vwCl (wX ca a σ) H → va_S (AW 37 a) s.heap H locs → lv_has ls 5 [(0, .ref (a 0)), (1, .ref (a (7 + 2 * d1))), (2, .int x2_3)] → W p l e rm_X11_tellsMeasures s m args below meth c H locs 0 0 Q (F0 m 13 ls []) := by
      intro n
      induction n with
      | zero => intro x2_3 H locs ls h; rw [f_X11_tellsMeasures_L13] at h; cases h
      | succ n ih1 =>
        intro x2_3 H locs ls h hP hS hl
        rw [f_X11_tellsMeasures_L13] at h
        refine lv_iload_n hx hb dX11_tellsMeasures_13 rfl (lv_at hl 2 rfl) ?_
        refine lv_aload_n hx hb dX11_tellsMeasures_14 rfl (lv_at hl 1 rfl) ?_
        refine gX5_5N C0 hK hP hk_d1 tw141 dX11_tellsMeasures_15 ?_
        refine lv_icmp_ge (tgt := 73) hx hb dX11_tellsMeasures_18 (by decide) (fun c_4 => ?_) (fun c_4 => ?_)
        · have h := it c_4 h
          exact hX1 x2_3 _ _ ls h hP hS (lv_sub hl [] rfl)
        · have h := ie c_4 h
          refine lv_aload_n hx hb dX11_tellsMeasures_21 rfl (lv_at hl 1 rfl) ?_
          refine lv_iload_n hx hb dX11_tellsMeasures_22 rfl (lv_at hl 2 rfl) ?_
          obtain ⟨r_6, h_5, h⟩ := b1_e h
          refine xcall (rV C0 hK hP hl.1 (fun _ _ _ => trivial) Bt_b (c_X5_at hI hk_d1 h_5) cv_X5_at tw607 (rcX5 hK hP hk_d1) (rest := []) rfl (Nat.le_of_ble_eq_true rfl) ⟨rfl, rfl, Nat.le_of_ble_eq_true rfl, Nat.le_of_ble_eq_true rfl⟩ ⟨Nat.zero_le _, Nat.zero_le _⟩ dX11_tellsMeasures_23) hS (fun H locs hP hS => ?_)
          refine lv_istore_n (lv' := [(3, .int r_6), (0, .ref (a 0)), (1, .ref (a (7 + 2 * d1))), (2, .int x2_3)]) hx hb dX11_tellsMeasures_26 rfl hl (by decide) rfl (fun ls hl => ?_)
          refine lv_aload_n hx hb dX11_tellsMeasures_27 rfl (lv_at hl 2 rfl) ?_
          refine lv_iload_n hx hb dX11_tellsMeasures_28 rfl (lv_at hl 3 rfl) ?_
          refine lv_iconst (v := 1) hx hb dX11_tellsMeasures_29 (by decide) ?_
          refine lv_iadd hx hb dX11_tellsMeasures_30 ?_
          obtain ⟨r_8, h_7, h⟩ := b1_e h
          refine xcall (rV C0 hK hP hl.1 (fun _ _ _ => trivial) Bt_b (c_X5_at hI hk_d1 h_7) cv_X5_at tw607 (rcX5 hK hP hk_d1) (rest := []) rfl (Nat.le_of_ble_eq_true rfl) ⟨rfl, rfl, Nat.le_of_ble_eq_true rfl, Nat.le_of_ble_eq_true rfl⟩ ⟨Nat.zero_le _, Nat.zero_le _⟩ dX11_tellsMeasures_31) hS (fun H locs hP hS => ?_)
          refine lv_istore (lv' := [(4, .int r_8), (3, .int r_6), (0, .ref (a 0)), (1, .ref (a (7 + 2 * d1))), (2, .int x2_3)]) hx hb dX11_tellsMeasures_34 hl (by decide) rfl (fun ls hl => ?_)
          refine lv_aload_n hx hb dX11_tellsMeasures_36 rfl (lv_at hl 2 rfl) ?_
          refine gX11_0 C0 hK hP tw233 dX11_tellsMeasures_37 ?_
          refine lv_iload_n hx hb dX11_tellsMeasures_40 rfl (lv_at hl 1 rfl) ?_
          obtain ⟨r_10, h_9, h⟩ := b1_e h
          refine xcall (rV C0 hK hP hl.1 (fun _ _ _ => trivial) Bt_b (c_X0_has hI (by decide) h_9) cv_X0_has tw533 (rcX0 hK hP (by decide)) (rest := []) rfl (Nat.le_of_ble_eq_true rfl) ⟨rfl, rfl, Nat.le_of_ble_eq_true rfl, Nat.le_of_ble_eq_true rfl⟩ ⟨Nat.zero_le _, Nat.zero_le _⟩ dX11_tellsMeasures_41) hS (fun H locs hP hS => ?_)
          refine lv_if_eq (tgt := 65) hx hb dX11_tellsMeasures_44 (by decide) (fun c_11 => ?_) (fun c_11 => ?_)
          · have h := it c_11 h
            refine lv_iconst (v := 0) hx hb dX11_tellsMeasures_65 (by decide) ?_
            rw [hQ]
            exact xzretr C0 hP hS rfl h dX11_tellsMeasures_66
          · have h := ie c_11 h
            refine lv_aload_n hx hb dX11_tellsMeasures_47 rfl (lv_at hl 2 rfl) ?_
            refine gX11_0 C0 hK hP tw233 dX11_tellsMeasures_48 ?_
            refine lv_iload hx hb dX11_tellsMeasures_51 (lv_at hl 0 rfl) ?_
            obtain ⟨r_13, h_12, h⟩ := b1_e h
            refine xcall (rV C0 hK hP hl.1 (fun _ _ _ => trivial) Bt_b (c_X0_has hI (by decide) h_12) cv_X0_has tw533 (rcX0 hK hP (by decide)) (rest := []) rfl (Nat.le_of_ble_eq_true rfl) ⟨rfl, rfl, Nat.le_of_ble_eq_true rfl, Nat.le_of_ble_eq_true rfl⟩ ⟨Nat.zero_le _, Nat.zero_le _⟩ dX11_tellsMeasures_53) hS (fun H locs hP hS => ?_)
            refine lv_if_eq (tgt := 65) hx hb dX11_tellsMeasures_56 (by decide) (fun c_14 => ?_) (fun c_14 => ?_)
            · have h := it c_14 h
              refine lv_iconst (v := 0) hx hb dX11_tellsMeasures_65 (by decide) ?_
              rw [hQ]
              exact xzretr C0 hP hS rfl h dX11_tellsMeasures_66
            · have h := ie c_14 h
              refine lv_iload_n hx hb dX11_tellsMeasures_59 rfl (lv_at hl 1 rfl) ?_
              refine lv_iload hx hb dX11_tellsMeasures_60 (lv_at hl 0 rfl) ?_
              refine lv_icmp_ne (tgt := 67) hx hb dX11_tellsMeasures_62 (by decide) (fun c_15 => ?_) (fun c_15 => ?_)
              · have h := ie c_15 h
                obtain ⟨x2_16, ex2_16, h⟩ := bnd_e h
                refine lv_iinc (v := x2_16) (lv' := [(2, .int x2_16), (4, .int r_8), (3, .int r_6), (0, .ref (a 0)), (1, .ref (a (7 + 2 * d1)))]) hx hb dX11_tellsMeasures_67 hl (k := 4) rfl (by rw [ex2_16]; rfl) (by decide) rfl (fun ls hl => ?_)
                refine lv_goto (tgt := 13) hx hb dX11_tellsMeasures_70 (by decide) ?_
                exact ih1 x2_16 _ _ ls h hP hS (lv_sub hl [3, 4, 0] rfl)
              · have h := it c_15 h
                refine lv_iconst (v := 0) hx hb dX11_tellsMeasures_65 (by decide) ?_
                rw [hQ]
                exact xzretr C0 hP hS rfl h dX11_tellsMeasures_66
    exact hL1 5000 0 _ _ ls h hP hS (lv_sub hl [1, 2, 0] rfl)
  · have h := ie c_2 h
    refine lv_iconst (v := 0) hx hb dX11_tellsMeasures_9 (by decide) ?_
    rw [hQ]
    exact xzretr C0 hP hS rfl h dX11_tellsMeasures_10
def f_X11_isWrongMeasure (d1 : Nat) (p2 : Int32) (σ : Mem) : Option (Int32) :=
  b1 (f_X5_at d1 p2 σ) fun r_2 =>
  b1 (f_X0_get 0 r_2 0 σ) fun r_4 =>
  b1 (f_X5_at d1 (p2 + 1) σ) fun r_6 =>
  b1 (f_X0_get 0 r_6 0 σ) fun r_8 =>
  b1 (f_X5_at d1 (p2 + 2) σ) fun r_10 =>
  if (r_4 - r_8) = r_10 then
    some 0
  else
    some 1
def rm_X11_isWrongMeasure : Room := { frames := 1, cells := 0, slots := 0, locals := 23 }
set_option maxHeartbeats 4000000 in
set_option maxRecDepth 100000 in
theorem c_X11_isWrongMeasure {l : Launch} {D : va_G} {ca : Nat → ClassId} {a : Nat → Nat} (hI : InjN 37 a) {d1 : Nat} {p2 : Int32} {σ : Mem} {r : Int32} (hk_d1 : d1 < 9) (h : f_X11_isWrongMeasure d1 p2 σ = some r) : XMX l D ca a Bt yX11_isWrongMeasure cX11_isWrongMeasure 3 (some .boolean) rm_X11_isWrongMeasure [.ref (a 0), .ref (a (7 + 2 * d1)), .int p2] σ (some (.int r)) σ := by
  refine XM.of pn_X11 (Nat.le_of_ble_eq_true rfl) ?_
  intro p e s m args below meth c ls Q hQ C0 hK hB hP hS hl
  have C0 : Cx p s m args meth c RX11 cX11_isWrongMeasure 3 (some .boolean) := C0
  have hx := C0.1
  have hb := C0.2.1
  have hl : lv_has ls 3 [(0, .ref (a 0)), (1, .ref (a (7 + 2 * d1))), (2, .int p2)] := hl
  rw [f_X11_isWrongMeasure] at h
  refine lv_aload_n hx hb dX11_isWrongMeasure_0 rfl (lv_at hl 0 rfl) ?_
  refine gX11_0 C0 hK hP tw233 dX11_isWrongMeasure_1 ?_
  refine lv_aload_n hx hb dX11_isWrongMeasure_4 rfl (lv_at hl 1 rfl) ?_
  refine lv_iload_n hx hb dX11_isWrongMeasure_5 rfl (lv_at hl 2 rfl) ?_
  obtain ⟨r_2, h_1, h⟩ := b1_e h
  refine xcall (rV C0 hK hP hl.1 (fun _ _ _ => trivial) Bt_b (c_X5_at hI hk_d1 h_1) cv_X5_at tw607 (rcX5 hK hP hk_d1) (rest := [.ref (a (1 + 2 * 0))]) rfl (Nat.le_of_ble_eq_true rfl) ⟨rfl, rfl, Nat.le_of_ble_eq_true rfl, Nat.le_of_ble_eq_true rfl⟩ ⟨Nat.zero_le _, Nat.zero_le _⟩ dX11_isWrongMeasure_6) hS (fun H locs hP hS => ?_)
  refine lv_iconst (v := 0) hx hb dX11_isWrongMeasure_9 (by decide) ?_
  obtain ⟨r_4, h_3, h⟩ := b1_e h
  refine xcall (rV C0 hK hP hl.1 (fun _ _ _ => trivial) Bt_b (c_X0_get hI (by decide) h_3) cv_X0_get tw534 (rcX0 hK hP (by decide)) (rest := []) rfl (Nat.le_of_ble_eq_true rfl) ⟨rfl, rfl, Nat.le_of_ble_eq_true rfl, Nat.le_of_ble_eq_true rfl⟩ ⟨Nat.zero_le _, Nat.zero_le _⟩ dX11_isWrongMeasure_10) hS (fun H locs hP hS => ?_)
  refine lv_aload_n hx hb dX11_isWrongMeasure_13 rfl (lv_at hl 0 rfl) ?_
  refine gX11_0 C0 hK hP tw233 dX11_isWrongMeasure_14 ?_
  refine lv_aload_n hx hb dX11_isWrongMeasure_17 rfl (lv_at hl 1 rfl) ?_
  refine lv_iload_n hx hb dX11_isWrongMeasure_18 rfl (lv_at hl 2 rfl) ?_
  refine lv_iconst (v := 1) hx hb dX11_isWrongMeasure_19 (by decide) ?_
  refine lv_iadd hx hb dX11_isWrongMeasure_20 ?_
  obtain ⟨r_6, h_5, h⟩ := b1_e h
  refine xcall (rV C0 hK hP hl.1 (fun _ _ _ => trivial) Bt_b (c_X5_at hI hk_d1 h_5) cv_X5_at tw607 (rcX5 hK hP hk_d1) (rest := [.ref (a (1 + 2 * 0)), .int r_4]) rfl (Nat.le_of_ble_eq_true rfl) ⟨rfl, rfl, Nat.le_of_ble_eq_true rfl, Nat.le_of_ble_eq_true rfl⟩ ⟨Nat.zero_le _, Nat.zero_le _⟩ dX11_isWrongMeasure_21) hS (fun H locs hP hS => ?_)
  refine lv_iconst (v := 0) hx hb dX11_isWrongMeasure_24 (by decide) ?_
  obtain ⟨r_8, h_7, h⟩ := b1_e h
  refine xcall (rV C0 hK hP hl.1 (fun _ _ _ => trivial) Bt_b (c_X0_get hI (by decide) h_7) cv_X0_get tw534 (rcX0 hK hP (by decide)) (rest := [.int r_4]) rfl (Nat.le_of_ble_eq_true rfl) ⟨rfl, rfl, Nat.le_of_ble_eq_true rfl, Nat.le_of_ble_eq_true rfl⟩ ⟨Nat.zero_le _, Nat.zero_le _⟩ dX11_isWrongMeasure_25) hS (fun H locs hP hS => ?_)
  refine lv_isub hx hb dX11_isWrongMeasure_28 ?_
  refine lv_aload_n hx hb dX11_isWrongMeasure_29 rfl (lv_at hl 1 rfl) ?_
  refine lv_iload_n hx hb dX11_isWrongMeasure_30 rfl (lv_at hl 2 rfl) ?_
  refine lv_iconst (v := 2) hx hb dX11_isWrongMeasure_31 (by decide) ?_
  refine lv_iadd hx hb dX11_isWrongMeasure_32 ?_
  obtain ⟨r_10, h_9, h⟩ := b1_e h
  refine xcall (rV C0 hK hP hl.1 (fun _ _ _ => trivial) Bt_b (c_X5_at hI hk_d1 h_9) cv_X5_at tw607 (rcX5 hK hP hk_d1) (rest := [.int (r_4 - r_8)]) rfl (Nat.le_of_ble_eq_true rfl) ⟨rfl, rfl, Nat.le_of_ble_eq_true rfl, Nat.le_of_ble_eq_true rfl⟩ ⟨Nat.zero_le _, Nat.zero_le _⟩ dX11_isWrongMeasure_33) hS (fun H locs hP hS => ?_)
  refine lv_icmp_eq (tgt := 43) hx hb dX11_isWrongMeasure_36 (by decide) (fun c_11 => ?_) (fun c_11 => ?_)
  · have h := it c_11 h
    refine lv_iconst (v := 0) hx hb dX11_isWrongMeasure_43 (by decide) ?_
    rw [hQ]
    exact xzretr C0 hP hS rfl h dX11_isWrongMeasure_44
  · have h := ie c_11 h
    refine lv_iconst (v := 1) hx hb dX11_isWrongMeasure_39 (by decide) ?_
    refine lv_goto (tgt := 44) hx hb dX11_isWrongMeasure_40 (by decide) ?_
    rw [hQ]
    exact xzretr C0 hP hS rfl h dX11_isWrongMeasure_44
def f_X11_firstWrongMeasure_L2 (d1 : Nat) (σ : Mem) : Nat → Int32 → (Int32 → Option (Int32)) → Option (Int32)
  | 0, _, _ => none
  | n + 1, x2_1, K1 =>
    if (σ (7 + 2 * d1) 5) ≤ x2_1 then
      K1 x2_1
    else
      b1 (f_X11_isWrongMeasure d1 x2_1 σ) fun r_4 =>
      if r_4 = 0 then
        bnd (x2_1 + 3) fun (x2_6 : Int32) =>
        f_X11_firstWrongMeasure_L2 d1 σ n x2_6 K1
      else
        some x2_1
def f_X11_firstWrongMeasure (d1 : Nat) (σ : Mem) : Option (Int32) :=
  f_X11_firstWrongMeasure_L2 d1 σ 5000 0 fun (u_7 : Int32) =>
    some (-4)
def rm_X11_firstWrongMeasure : Room := { frames := 2, cells := 0, slots := 0, locals := 45 }
set_option maxHeartbeats 4000000 in
set_option maxRecDepth 100000 in
theorem c_X11_firstWrongMeasure {l : Launch} {D : va_G} {ca : Nat → ClassId} {a : Nat → Nat} (hI : InjN 37 a) {d1 : Nat} {σ : Mem} {r : Int32} (hk_d1 : d1 < 9) (h : f_X11_firstWrongMeasure d1 σ = some r) : XMX l D ca a Bt yX11_firstWrongMeasure cX11_firstWrongMeasure 3 (some .int) rm_X11_firstWrongMeasure [.ref (a 0), .ref (a (7 + 2 * d1))] σ (some (.int r)) σ := by
  refine XM.of pn_X11 (Nat.le_of_ble_eq_true rfl) ?_
  intro p e s m args below meth c ls Q hQ C0 hK hB hP hS hl
  have C0 : Cx p s m args meth c RX11 cX11_firstWrongMeasure 3 (some .int) := C0
  have hx := C0.1
  have hb := C0.2.1
  have hl : lv_has ls 3 [(0, .ref (a 0)), (1, .ref (a (7 + 2 * d1)))] := hl
  rw [f_X11_firstWrongMeasure] at h
  refine lv_iconst (v := 0) hx hb dX11_firstWrongMeasure_0 (by decide) ?_
  refine lv_istore_n (lv' := [(2, .int 0), (0, .ref (a 0)), (1, .ref (a (7 + 2 * d1)))]) hx hb dX11_firstWrongMeasure_1 rfl hl (by decide) rfl (fun ls hl => ?_)
  obtain ⟨K1, eK1, h⟩ := lp_e (f := fun K => f_X11_firstWrongMeasure_L2 d1 σ 5000 0 K) h
  have h : f_X11_firstWrongMeasure_L2 d1 σ 5000 0 K1 = some r := h
  have hX1 : ∀ (u_7 : Int32) (H : Heap) (locs : List Loc) (ls : Array Slot), K1 u_7 = some r → va_P D vwCl (wX ca a σ) H → va_S (AW 37 a) s.heap H locs → lv_has ls 3 [] → W p l e rm_X11_firstWrongMeasure s m args below meth c H locs 0 0 Q (F0 m 27 ls []) := by
    intro u_7 H locs ls h hP hS hl
    have h := ap1 eK1 h
    refine lv_bipush (v := (-4)) hx hb dX11_firstWrongMeasure_27 (by decide) ?_
    rw [hQ]
    exact xzretr C0 hP hS rfl h dX11_firstWrongMeasure_29
  have hL1 : ∀ (n : Nat) (x2_1 : Int32) (H : Heap) (locs : List Loc) (ls : Array Slot), f_X11_firstWrongMeasure_L2 d1 σ n x2_1 K1 = some r → va_P D vwCl (wX ca a σ) H → va_S (AW 37 a) s.heap H locs → lv_has ls 3 [(0, .ref (a 0)), (1, .ref (a (7 + 2 * d1))), (2, .int x2_1)] → W p l e rm_X11_firstWrongMeasure s m args below meth c H locs 0 0 Q (F0 m 2 ls []) := by
    intro n
    induction n with
    | zero => intro x2_1 H locs ls h; rw [f_X11_firstWrongMeasure_L2] at h; cases h
    | succ n ih1 =>
      intro x2_1 H locs ls h hP hS hl
      rw [f_X11_firstWrongMeasure_L2] at h
      refine lv_iload_n hx hb dX11_firstWrongMeasure_2 rfl (lv_at hl 2 rfl) ?_
      refine lv_aload_n hx hb dX11_firstWrongMeasure_3 rfl (lv_at hl 1 rfl) ?_
      refine gX5_5N C0 hK hP hk_d1 tw141 dX11_firstWrongMeasure_4 ?_
      refine lv_icmp_ge (tgt := 27) hx hb dX11_firstWrongMeasure_7 (by decide) (fun c_2 => ?_) (fun c_2 => ?_)
      · have h := it c_2 h
        exact hX1 x2_1 _ _ ls h hP hS (lv_sub hl [] rfl)
      · have h := ie c_2 h
        refine lv_aload_n hx hb dX11_firstWrongMeasure_10 rfl (lv_at hl 0 rfl) ?_
        refine lv_aload_n hx hb dX11_firstWrongMeasure_11 rfl (lv_at hl 1 rfl) ?_
        refine lv_iload_n hx hb dX11_firstWrongMeasure_12 rfl (lv_at hl 2 rfl) ?_
        obtain ⟨r_4, h_3, h⟩ := b1_e h
        refine xcall (rV C0 hK hP hl.1 (fun _ _ _ => trivial) Bt_b (c_X11_isWrongMeasure hI hk_d1 h_3) cv_X11_isWrongMeasure tw663 (rcX11 hK hP) (rest := []) rfl (Nat.le_of_ble_eq_true rfl) ⟨rfl, rfl, Nat.le_of_ble_eq_true rfl, Nat.le_of_ble_eq_true rfl⟩ ⟨Nat.zero_le _, Nat.zero_le _⟩ dX11_firstWrongMeasure_13) hS (fun H locs hP hS => ?_)
        refine lv_if_eq (tgt := 21) hx hb dX11_firstWrongMeasure_16 (by decide) (fun c_5 => ?_) (fun c_5 => ?_)
        · have h := it c_5 h
          obtain ⟨x2_6, ex2_6, h⟩ := bnd_e h
          refine lv_iinc (v := x2_6) (lv' := [(2, .int x2_6), (0, .ref (a 0)), (1, .ref (a (7 + 2 * d1)))]) hx hb dX11_firstWrongMeasure_21 hl (k := 2) rfl (by rw [ex2_6]; rfl) (by decide) rfl (fun ls hl => ?_)
          refine lv_goto (tgt := 2) hx hb dX11_firstWrongMeasure_24 (by decide) ?_
          exact ih1 x2_6 _ _ ls h hP hS (lv_sub hl [1, 2, 0] rfl)
        · have h := ie c_5 h
          refine lv_iload_n hx hb dX11_firstWrongMeasure_19 rfl (lv_at hl 2 rfl) ?_
          rw [hQ]
          exact xzretr C0 hP hS rfl h dX11_firstWrongMeasure_20
  exact hL1 5000 0 _ _ ls h hP hS (lv_sub hl [1, 2, 0] rfl)
def f_X11_timesWrong_L5 (d1 : Nat) (p2 : Int32) (σ : Mem) : Nat → Int32 → Int32 → (Int32 → Int32 → Option (Int32)) → Option (Int32)
  | 0, _, _, _ => none
  | n + 1, x3_1, x4_2, K1 =>
    if (σ (7 + 2 * d1) 5) ≤ x4_2 then
      K1 x3_1 x4_2
    else
      b1 (f_X5_at d1 x4_2 σ) fun r_5 =>
      if r_5 = p2 then
        b1 (f_X11_isWrongMeasure d1 x4_2 σ) fun r_8 =>
        if r_8 = 0 then
          bnd (x4_2 + 3) fun (x4_10 : Int32) =>
          f_X11_timesWrong_L5 d1 p2 σ n x3_1 x4_10 K1
        else
          bnd (x3_1 + 1) fun (x3_11 : Int32) =>
          bnd (x4_2 + 3) fun (x4_12 : Int32) =>
          f_X11_timesWrong_L5 d1 p2 σ n x3_11 x4_12 K1
      else
        b1 (f_X5_at d1 (x4_2 + 1) σ) fun r_14 =>
        if r_14 = p2 then
          b1 (f_X11_isWrongMeasure d1 x4_2 σ) fun r_18 =>
          if r_18 = 0 then
            bnd (x4_2 + 3) fun (x4_20 : Int32) =>
            f_X11_timesWrong_L5 d1 p2 σ n x3_1 x4_20 K1
          else
            bnd (x3_1 + 1) fun (x3_21 : Int32) =>
            bnd (x4_2 + 3) fun (x4_22 : Int32) =>
            f_X11_timesWrong_L5 d1 p2 σ n x3_21 x4_22 K1
        else
          bnd (x4_2 + 3) fun (x4_16 : Int32) =>
          f_X11_timesWrong_L5 d1 p2 σ n x3_1 x4_16 K1
def f_X11_timesWrong (d1 : Nat) (p2 : Int32) (σ : Mem) : Option (Int32) :=
  f_X11_timesWrong_L5 d1 p2 σ 5000 0 0 fun (x3_23 : Int32) (u_24 : Int32) =>
    some x3_23
def rm_X11_timesWrong : Room := { frames := 2, cells := 0, slots := 0, locals := 45 }
set_option maxHeartbeats 4000000 in
set_option maxRecDepth 100000 in
theorem c_X11_timesWrong {l : Launch} {D : va_G} {ca : Nat → ClassId} {a : Nat → Nat} (hI : InjN 37 a) {d1 : Nat} {p2 : Int32} {σ : Mem} {r : Int32} (hk_d1 : d1 < 9) (h : f_X11_timesWrong d1 p2 σ = some r) : XMX l D ca a Bt yX11_timesWrong cX11_timesWrong 5 (some .int) rm_X11_timesWrong [.ref (a 0), .ref (a (7 + 2 * d1)), .int p2] σ (some (.int r)) σ := by
  refine XM.of pn_X11 (Nat.le_of_ble_eq_true rfl) ?_
  intro p e s m args below meth c ls Q hQ C0 hK hB hP hS hl
  have C0 : Cx p s m args meth c RX11 cX11_timesWrong 5 (some .int) := C0
  have hx := C0.1
  have hb := C0.2.1
  have hl : lv_has ls 5 [(0, .ref (a 0)), (1, .ref (a (7 + 2 * d1))), (2, .int p2)] := hl
  rw [f_X11_timesWrong] at h
  refine lv_iconst (v := 0) hx hb dX11_timesWrong_0 (by decide) ?_
  refine lv_istore_n (lv' := [(3, .int 0), (0, .ref (a 0)), (1, .ref (a (7 + 2 * d1))), (2, .int p2)]) hx hb dX11_timesWrong_1 rfl hl (by decide) rfl (fun ls hl => ?_)
  refine lv_iconst (v := 0) hx hb dX11_timesWrong_2 (by decide) ?_
  refine lv_istore (lv' := [(4, .int 0), (3, .int 0), (0, .ref (a 0)), (1, .ref (a (7 + 2 * d1))), (2, .int p2)]) hx hb dX11_timesWrong_3 hl (by decide) rfl (fun ls hl => ?_)
  obtain ⟨K1, eK1, h⟩ := lp_e (f := fun K => f_X11_timesWrong_L5 d1 p2 σ 5000 0 0 K) h
  have h : f_X11_timesWrong_L5 d1 p2 σ 5000 0 0 K1 = some r := h
  have hX1 : ∀ (x3_23 : Int32) (u_24 : Int32) (H : Heap) (locs : List Loc) (ls : Array Slot), K1 x3_23 u_24 = some r → va_P D vwCl (wX ca a σ) H → va_S (AW 37 a) s.heap H locs → lv_has ls 5 [(3, .int x3_23)] → W p l e rm_X11_timesWrong s m args below meth c H locs 0 0 Q (F0 m 55 ls []) := by
    intro x3_23 u_24 H locs ls h hP hS hl
    have h := ap2 eK1 h
    refine lv_iload_n hx hb dX11_timesWrong_55 rfl (lv_at hl 0 rfl) ?_
    rw [hQ]
    exact xzretr C0 hP hS rfl h dX11_timesWrong_56
  have hL1 : ∀ (n : Nat) (x3_1 : Int32) (x4_2 : Int32) (H : Heap) (locs : List Loc) (ls : Array Slot), f_X11_timesWrong_L5 d1 p2 σ n x3_1 x4_2 K1 = some r → va_P D vwCl (wX ca a σ) H → va_S (AW 37 a) s.heap H locs → lv_has ls 5 [(0, .ref (a 0)), (1, .ref (a (7 + 2 * d1))), (2, .int p2), (3, .int x3_1), (4, .int x4_2)] → W p l e rm_X11_timesWrong s m args below meth c H locs 0 0 Q (F0 m 5 ls []) := by
    intro n
    induction n with
    | zero => intro x3_1 x4_2 H locs ls h; rw [f_X11_timesWrong_L5] at h; cases h
    | succ n ih1 =>
      intro x3_1 x4_2 H locs ls h hP hS hl
      rw [f_X11_timesWrong_L5] at h
      refine lv_iload hx hb dX11_timesWrong_5 (lv_at hl 4 rfl) ?_
      refine lv_aload_n hx hb dX11_timesWrong_7 rfl (lv_at hl 1 rfl) ?_
      refine gX5_5N C0 hK hP hk_d1 tw141 dX11_timesWrong_8 ?_
      refine lv_icmp_ge (tgt := 55) hx hb dX11_timesWrong_11 (by decide) (fun c_3 => ?_) (fun c_3 => ?_)
      · have h := it c_3 h
        exact hX1 x3_1 x4_2 _ _ ls h hP hS (lv_sub hl [3] rfl)
      · have h := ie c_3 h
        refine lv_aload_n hx hb dX11_timesWrong_14 rfl (lv_at hl 1 rfl) ?_
        refine lv_iload hx hb dX11_timesWrong_15 (lv_at hl 4 rfl) ?_
        obtain ⟨r_5, h_4, h⟩ := b1_e h
        refine xcall (rV C0 hK hP hl.1 (fun _ _ _ => trivial) Bt_b (c_X5_at hI hk_d1 h_4) cv_X5_at tw607 (rcX5 hK hP hk_d1) (rest := []) rfl (Nat.le_of_ble_eq_true rfl) ⟨rfl, rfl, Nat.le_of_ble_eq_true rfl, Nat.le_of_ble_eq_true rfl⟩ ⟨Nat.zero_le _, Nat.zero_le _⟩ dX11_timesWrong_17) hS (fun H locs hP hS => ?_)
        refine lv_iload_n hx hb dX11_timesWrong_20 rfl (lv_at hl 2 rfl) ?_
        refine lv_icmp_eq (tgt := 36) hx hb dX11_timesWrong_21 (by decide) (fun c_6 => ?_) (fun c_6 => ?_)
        · have h := it c_6 h
          refine lv_aload_n hx hb dX11_timesWrong_36 rfl (lv_at hl 0 rfl) ?_
          refine lv_aload_n hx hb dX11_timesWrong_37 rfl (lv_at hl 1 rfl) ?_
          refine lv_iload hx hb dX11_timesWrong_38 (lv_at hl 4 rfl) ?_
          obtain ⟨r_8, h_7, h⟩ := b1_e h
          refine xcall (rV C0 hK hP hl.1 (fun _ _ _ => trivial) Bt_b (c_X11_isWrongMeasure hI hk_d1 h_7) cv_X11_isWrongMeasure tw663 (rcX11 hK hP) (rest := []) rfl (Nat.le_of_ble_eq_true rfl) ⟨rfl, rfl, Nat.le_of_ble_eq_true rfl, Nat.le_of_ble_eq_true rfl⟩ ⟨Nat.zero_le _, Nat.zero_le _⟩ dX11_timesWrong_40) hS (fun H locs hP hS => ?_)
          refine lv_if_eq (tgt := 49) hx hb dX11_timesWrong_43 (by decide) (fun c_9 => ?_) (fun c_9 => ?_)
          · have h := it c_9 h
            obtain ⟨x4_10, ex4_10, h⟩ := bnd_e h
            refine lv_iinc (v := x4_10) (lv' := [(4, .int x4_10), (0, .ref (a 0)), (1, .ref (a (7 + 2 * d1))), (2, .int p2), (3, .int x3_1)]) hx hb dX11_timesWrong_49 hl (k := 4) rfl (by rw [ex4_10]; rfl) (by decide) rfl (fun ls hl => ?_)
            refine lv_goto (tgt := 5) hx hb dX11_timesWrong_52 (by decide) ?_
            exact ih1 x3_1 x4_10 _ _ ls h hP hS (lv_sub hl [1, 2, 3, 4, 0] rfl)
          · have h := ie c_9 h
            obtain ⟨x3_11, ex3_11, h⟩ := bnd_e h
            refine lv_iinc (v := x3_11) (lv' := [(3, .int x3_11), (0, .ref (a 0)), (1, .ref (a (7 + 2 * d1))), (2, .int p2), (4, .int x4_2)]) hx hb dX11_timesWrong_46 hl (k := 3) rfl (by rw [ex3_11]; rfl) (by decide) rfl (fun ls hl => ?_)
            obtain ⟨x4_12, ex4_12, h⟩ := bnd_e h
            refine lv_iinc (v := x4_12) (lv' := [(4, .int x4_12), (3, .int x3_11), (0, .ref (a 0)), (1, .ref (a (7 + 2 * d1))), (2, .int p2)]) hx hb dX11_timesWrong_49 hl (k := 4) rfl (by rw [ex4_12]; rfl) (by decide) rfl (fun ls hl => ?_)
            refine lv_goto (tgt := 5) hx hb dX11_timesWrong_52 (by decide) ?_
            exact ih1 x3_11 x4_12 _ _ ls h hP hS (lv_sub hl [2, 3, 4, 1, 0] rfl)
        · have h := ie c_6 h
          refine lv_aload_n hx hb dX11_timesWrong_24 rfl (lv_at hl 1 rfl) ?_
          refine lv_iload hx hb dX11_timesWrong_25 (lv_at hl 4 rfl) ?_
          refine lv_iconst (v := 1) hx hb dX11_timesWrong_27 (by decide) ?_
          refine lv_iadd hx hb dX11_timesWrong_28 ?_
          obtain ⟨r_14, h_13, h⟩ := b1_e h
          refine xcall (rV C0 hK hP hl.1 (fun _ _ _ => trivial) Bt_b (c_X5_at hI hk_d1 h_13) cv_X5_at tw607 (rcX5 hK hP hk_d1) (rest := []) rfl (Nat.le_of_ble_eq_true rfl) ⟨rfl, rfl, Nat.le_of_ble_eq_true rfl, Nat.le_of_ble_eq_true rfl⟩ ⟨Nat.zero_le _, Nat.zero_le _⟩ dX11_timesWrong_29) hS (fun H locs hP hS => ?_)
          refine lv_iload_n hx hb dX11_timesWrong_32 rfl (lv_at hl 2 rfl) ?_
          refine lv_icmp_ne (tgt := 49) hx hb dX11_timesWrong_33 (by decide) (fun c_15 => ?_) (fun c_15 => ?_)
          · have h := ie c_15 h
            obtain ⟨x4_16, ex4_16, h⟩ := bnd_e h
            refine lv_iinc (v := x4_16) (lv' := [(4, .int x4_16), (0, .ref (a 0)), (1, .ref (a (7 + 2 * d1))), (2, .int p2), (3, .int x3_1)]) hx hb dX11_timesWrong_49 hl (k := 4) rfl (by rw [ex4_16]; rfl) (by decide) rfl (fun ls hl => ?_)
            refine lv_goto (tgt := 5) hx hb dX11_timesWrong_52 (by decide) ?_
            exact ih1 x3_1 x4_16 _ _ ls h hP hS (lv_sub hl [1, 2, 3, 4, 0] rfl)
          · have h := it c_15 h
            refine lv_aload_n hx hb dX11_timesWrong_36 rfl (lv_at hl 0 rfl) ?_
            refine lv_aload_n hx hb dX11_timesWrong_37 rfl (lv_at hl 1 rfl) ?_
            refine lv_iload hx hb dX11_timesWrong_38 (lv_at hl 4 rfl) ?_
            obtain ⟨r_18, h_17, h⟩ := b1_e h
            refine xcall (rV C0 hK hP hl.1 (fun _ _ _ => trivial) Bt_b (c_X11_isWrongMeasure hI hk_d1 h_17) cv_X11_isWrongMeasure tw663 (rcX11 hK hP) (rest := []) rfl (Nat.le_of_ble_eq_true rfl) ⟨rfl, rfl, Nat.le_of_ble_eq_true rfl, Nat.le_of_ble_eq_true rfl⟩ ⟨Nat.zero_le _, Nat.zero_le _⟩ dX11_timesWrong_40) hS (fun H locs hP hS => ?_)
            refine lv_if_eq (tgt := 49) hx hb dX11_timesWrong_43 (by decide) (fun c_19 => ?_) (fun c_19 => ?_)
            · have h := it c_19 h
              obtain ⟨x4_20, ex4_20, h⟩ := bnd_e h
              refine lv_iinc (v := x4_20) (lv' := [(4, .int x4_20), (0, .ref (a 0)), (1, .ref (a (7 + 2 * d1))), (2, .int p2), (3, .int x3_1)]) hx hb dX11_timesWrong_49 hl (k := 4) rfl (by rw [ex4_20]; rfl) (by decide) rfl (fun ls hl => ?_)
              refine lv_goto (tgt := 5) hx hb dX11_timesWrong_52 (by decide) ?_
              exact ih1 x3_1 x4_20 _ _ ls h hP hS (lv_sub hl [1, 2, 3, 4, 0] rfl)
            · have h := ie c_19 h
              obtain ⟨x3_21, ex3_21, h⟩ := bnd_e h
              refine lv_iinc (v := x3_21) (lv' := [(3, .int x3_21), (0, .ref (a 0)), (1, .ref (a (7 + 2 * d1))), (2, .int p2), (4, .int x4_2)]) hx hb dX11_timesWrong_46 hl (k := 3) rfl (by rw [ex3_21]; rfl) (by decide) rfl (fun ls hl => ?_)
              obtain ⟨x4_22, ex4_22, h⟩ := bnd_e h
              refine lv_iinc (v := x4_22) (lv' := [(4, .int x4_22), (3, .int x3_21), (0, .ref (a 0)), (1, .ref (a (7 + 2 * d1))), (2, .int p2)]) hx hb dX11_timesWrong_49 hl (k := 4) rfl (by rw [ex4_22]; rfl) (by decide) rfl (fun ls hl => ?_)
              refine lv_goto (tgt := 5) hx hb dX11_timesWrong_52 (by decide) ?_
              exact ih1 x3_21 x4_22 _ _ ls h hP hS (lv_sub hl [2, 3, 4, 1, 0] rfl)
  exact hL1 5000 0 0 _ _ ls h hP hS (lv_sub hl [2, 3, 4, 1, 0] rfl)
def f_X11_ringMostWrong_L8 (d1 : Nat) (σ : Mem) : Nat → Int32 → Int32 → Int32 → (Int32 → Int32 → Int32 → Option (Int32)) → Option (Int32)
  | 0, _, _, _, _ => none
  | n + 1, x2_1, x3_2, x4_3, K1 =>
    if (σ (1 + 2 * 0) 1) ≤ x4_3 then
      K1 x2_1 x3_2 x4_3
    else
      b1 (f_X11_timesWrong d1 x4_3 σ) fun r_6 =>
      if r_6 ≤ x3_2 then
        bnd (x4_3 + 1) fun (x4_8 : Int32) =>
        f_X11_ringMostWrong_L8 d1 σ n x2_1 x3_2 x4_8 K1
      else
        bnd (x4_3 + 1) fun (x4_9 : Int32) =>
        f_X11_ringMostWrong_L8 d1 σ n x4_3 r_6 x4_9 K1
def f_X11_ringMostWrong (d1 : Nat) (σ : Mem) : Option (Int32) :=
  f_X11_ringMostWrong_L8 d1 σ 5000 (-4) 0 0 fun (x2_10 : Int32) (u_11 : Int32) (u_12 : Int32) =>
    some x2_10
def rm_X11_ringMostWrong : Room := { frames := 3, cells := 0, slots := 0, locals := 69 }
set_option maxHeartbeats 4000000 in
set_option maxRecDepth 100000 in
theorem c_X11_ringMostWrong {l : Launch} {D : va_G} {ca : Nat → ClassId} {a : Nat → Nat} (hI : InjN 37 a) {d1 : Nat} {σ : Mem} {r : Int32} (hk_d1 : d1 < 9) (h : f_X11_ringMostWrong d1 σ = some r) : XMX l D ca a Bt yX11_ringMostWrong cX11_ringMostWrong 6 (some .int) rm_X11_ringMostWrong [.ref (a 0), .ref (a (7 + 2 * d1))] σ (some (.int r)) σ := by
  refine XM.of pn_X11 (Nat.le_of_ble_eq_true rfl) ?_
  intro p e s m args below meth c ls Q hQ C0 hK hB hP hS hl
  have C0 : Cx p s m args meth c RX11 cX11_ringMostWrong 6 (some .int) := C0
  have hx := C0.1
  have hb := C0.2.1
  have hl : lv_has ls 6 [(0, .ref (a 0)), (1, .ref (a (7 + 2 * d1)))] := hl
  rw [f_X11_ringMostWrong] at h
  refine lv_bipush (v := (-4)) hx hb dX11_ringMostWrong_0 (by decide) ?_
  refine lv_istore_n (lv' := [(2, .int (-4)), (0, .ref (a 0)), (1, .ref (a (7 + 2 * d1)))]) hx hb dX11_ringMostWrong_2 rfl hl (by decide) rfl (fun ls hl => ?_)
  refine lv_iconst (v := 0) hx hb dX11_ringMostWrong_3 (by decide) ?_
  refine lv_istore_n (lv' := [(3, .int 0), (2, .int (-4)), (0, .ref (a 0)), (1, .ref (a (7 + 2 * d1)))]) hx hb dX11_ringMostWrong_4 rfl hl (by decide) rfl (fun ls hl => ?_)
  refine lv_iconst (v := 0) hx hb dX11_ringMostWrong_5 (by decide) ?_
  refine lv_istore (lv' := [(4, .int 0), (3, .int 0), (2, .int (-4)), (0, .ref (a 0)), (1, .ref (a (7 + 2 * d1)))]) hx hb dX11_ringMostWrong_6 hl (by decide) rfl (fun ls hl => ?_)
  obtain ⟨K1, eK1, h⟩ := lp_e (f := fun K => f_X11_ringMostWrong_L8 d1 σ 5000 (-4) 0 0 K) h
  have h : f_X11_ringMostWrong_L8 d1 σ 5000 (-4) 0 0 K1 = some r := h
  have hX1 : ∀ (x2_10 : Int32) (u_11 : Int32) (u_12 : Int32) (H : Heap) (locs : List Loc) (ls : Array Slot), K1 x2_10 u_11 u_12 = some r → va_P D vwCl (wX ca a σ) H → va_S (AW 37 a) s.heap H locs → lv_has ls 6 [(2, .int x2_10)] → W p l e rm_X11_ringMostWrong s m args below meth c H locs 0 0 Q (F0 m 47 ls []) := by
    intro x2_10 u_11 u_12 H locs ls h hP hS hl
    have h := ap3 eK1 h
    refine lv_iload_n hx hb dX11_ringMostWrong_47 rfl (lv_at hl 0 rfl) ?_
    rw [hQ]
    exact xzretr C0 hP hS rfl h dX11_ringMostWrong_48
  have hL1 : ∀ (n : Nat) (x2_1 : Int32) (x3_2 : Int32) (x4_3 : Int32) (H : Heap) (locs : List Loc) (ls : Array Slot), f_X11_ringMostWrong_L8 d1 σ n x2_1 x3_2 x4_3 K1 = some r → va_P D vwCl (wX ca a σ) H → va_S (AW 37 a) s.heap H locs → lv_has ls 6 [(0, .ref (a 0)), (1, .ref (a (7 + 2 * d1))), (2, .int x2_1), (3, .int x3_2), (4, .int x4_3)] → W p l e rm_X11_ringMostWrong s m args below meth c H locs 0 0 Q (F0 m 8 ls []) := by
    intro n
    induction n with
    | zero => intro x2_1 x3_2 x4_3 H locs ls h; rw [f_X11_ringMostWrong_L8] at h; cases h
    | succ n ih1 =>
      intro x2_1 x3_2 x4_3 H locs ls h hP hS hl
      rw [f_X11_ringMostWrong_L8] at h
      refine lv_iload hx hb dX11_ringMostWrong_8 (lv_at hl 4 rfl) ?_
      refine lv_aload_n hx hb dX11_ringMostWrong_10 rfl (lv_at hl 0 rfl) ?_
      refine gX11_0 C0 hK hP tw233 dX11_ringMostWrong_11 ?_
      refine gX0_1N C0 hK hP (by decide) tw100 dX11_ringMostWrong_14 ?_
      refine lv_icmp_ge (tgt := 47) hx hb dX11_ringMostWrong_17 (by decide) (fun c_4 => ?_) (fun c_4 => ?_)
      · have h := it c_4 h
        exact hX1 x2_1 x3_2 x4_3 _ _ ls h hP hS (lv_sub hl [2] rfl)
      · have h := ie c_4 h
        refine lv_aload_n hx hb dX11_ringMostWrong_20 rfl (lv_at hl 0 rfl) ?_
        refine lv_aload_n hx hb dX11_ringMostWrong_21 rfl (lv_at hl 1 rfl) ?_
        refine lv_iload hx hb dX11_ringMostWrong_22 (lv_at hl 4 rfl) ?_
        obtain ⟨r_6, h_5, h⟩ := b1_e h
        refine xcall (rV C0 hK hP hl.1 (fun _ _ _ => trivial) Bt_b (c_X11_timesWrong hI hk_d1 h_5) cv_X11_timesWrong tw671 (rcX11 hK hP) (rest := []) rfl (Nat.le_of_ble_eq_true rfl) ⟨rfl, rfl, Nat.le_of_ble_eq_true rfl, Nat.le_of_ble_eq_true rfl⟩ ⟨Nat.zero_le _, Nat.zero_le _⟩ dX11_ringMostWrong_24) hS (fun H locs hP hS => ?_)
        refine lv_istore (lv' := [(5, .int r_6), (0, .ref (a 0)), (1, .ref (a (7 + 2 * d1))), (2, .int x2_1), (3, .int x3_2), (4, .int x4_3)]) hx hb dX11_ringMostWrong_27 hl (by decide) rfl (fun ls hl => ?_)
        refine lv_iload hx hb dX11_ringMostWrong_29 (lv_at hl 0 rfl) ?_
        refine lv_iload_n hx hb dX11_ringMostWrong_31 rfl (lv_at hl 4 rfl) ?_
        refine lv_icmp_le (tgt := 41) hx hb dX11_ringMostWrong_32 (by decide) (fun c_7 => ?_) (fun c_7 => ?_)
        · have h := it c_7 h
          obtain ⟨x4_8, ex4_8, h⟩ := bnd_e h
          refine lv_iinc (v := x4_8) (lv' := [(4, .int x4_8), (5, .int r_6), (0, .ref (a 0)), (1, .ref (a (7 + 2 * d1))), (2, .int x2_1), (3, .int x3_2)]) hx hb dX11_ringMostWrong_41 hl (k := 5) rfl (by rw [ex4_8]; rfl) (by decide) rfl (fun ls hl => ?_)
          refine lv_goto (tgt := 8) hx hb dX11_ringMostWrong_44 (by decide) ?_
          exact ih1 x2_1 x3_2 x4_8 _ _ ls h hP hS (lv_sub hl [2, 3, 4, 5, 0] rfl)
        · have h := ie c_7 h
          refine lv_iload hx hb dX11_ringMostWrong_35 (lv_at hl 5 rfl) ?_
          refine lv_istore_n (lv' := [(2, .int x4_3), (5, .int r_6), (0, .ref (a 0)), (1, .ref (a (7 + 2 * d1))), (3, .int x3_2), (4, .int x4_3)]) hx hb dX11_ringMostWrong_37 rfl hl (by decide) rfl (fun ls hl => ?_)
          refine lv_iload hx hb dX11_ringMostWrong_38 (lv_at hl 1 rfl) ?_
          refine lv_istore_n (lv' := [(3, .int r_6), (2, .int x4_3), (5, .int r_6), (0, .ref (a 0)), (1, .ref (a (7 + 2 * d1))), (4, .int x4_3)]) hx hb dX11_ringMostWrong_40 rfl hl (by decide) rfl (fun ls hl => ?_)
          obtain ⟨x4_9, ex4_9, h⟩ := bnd_e h
          refine lv_iinc (v := x4_9) (lv' := [(4, .int x4_9), (3, .int r_6), (2, .int x4_3), (5, .int r_6), (0, .ref (a 0)), (1, .ref (a (7 + 2 * d1)))]) hx hb dX11_ringMostWrong_41 hl (k := 5) rfl (by rw [ex4_9]; rfl) (by decide) rfl (fun ls hl => ?_)
          refine lv_goto (tgt := 8) hx hb dX11_ringMostWrong_44 (by decide) ?_
          exact ih1 x4_3 r_6 x4_9 _ _ ls h hP hS (lv_sub hl [4, 5, 2, 1, 0] rfl)
  exact hL1 5000 (-4) 0 0 _ _ ls h hP hS (lv_sub hl [3, 4, 2, 1, 0] rfl)
def f_X11_measures (p1 : Int32) (p2 : Int32) (σ : Mem) : Option (Int32) :=
  b1 (f_X11_within p2 0 1) fun r_2 =>
  jn (fun (v_3 : Int32) =>
    if v_3 = 0 then
      b1 (f_X11_shelfAt p1) fun r_6 =>
      if r_6 < 9 then
        b1 (f_X11_tellsMeasures r_6 σ) fun r_9 =>
        if r_9 = 0 then
          some (-13)
        else
          if p2 = 0 then
            b1 (f_X11_firstWrongMeasure r_6 σ) fun r_15 =>
            some r_15
          else
            b1 (f_X11_ringMostWrong r_6 σ) fun r_13 =>
            some r_13
      else none
    else
      some v_3) fun J19 =>
  if r_2 = 0 then
    J19 (-1)
  else
    b1 (f_X11_rowRefusal p1 1 σ) fun r_18 =>
    J19 r_18
def rm_X11_measures : Room := { frames := 4, cells := 0, slots := 0, locals := 94 }
set_option maxHeartbeats 4000000 in
set_option maxRecDepth 100000 in
theorem c_X11_measures {l : Launch} {D : va_G} {ca : Nat → ClassId} {a : Nat → Nat} (hI : InjN 37 a) {p1 : Int32} {p2 : Int32} {σ : Mem} {r : Int32}  (h : f_X11_measures p1 p2 σ = some r) : XMX l D ca a Bt yX11_measures cX11_measures 5 (some .int) rm_X11_measures [.ref (a 0), .int p1, .int p2] σ (some (.int r)) σ := by
  refine XM.of pn_X11 (Nat.le_of_ble_eq_true rfl) ?_
  intro p e s m args below meth c ls Q hQ C0 hK hB hP hS hl
  have C0 : Cx p s m args meth c RX11 cX11_measures 5 (some .int) := C0
  have hx := C0.1
  have hb := C0.2.1
  have hl : lv_has ls 5 [(0, .ref (a 0)), (1, .int p1), (2, .int p2)] := hl
  rw [f_X11_measures] at h
  refine lv_iload_n hx hb dX11_measures_0 rfl (lv_at hl 2 rfl) ?_
  refine lv_iconst (v := 0) hx hb dX11_measures_1 (by decide) ?_
  refine lv_iconst (v := 1) hx hb dX11_measures_2 (by decide) ?_
  obtain ⟨r_2, h_1, h⟩ := b1_e h
  refine xcall (rS C0 hK hP hl.1 (fun _ _ _ => trivial) Bt_b (c_X11_within hI h_1) cs_X11_within tw272 (rest := []) rfl (Nat.le_of_ble_eq_true rfl) ⟨rfl, rfl, Nat.le_of_ble_eq_true rfl, Nat.le_of_ble_eq_true rfl⟩ ⟨Nat.zero_le _, Nat.zero_le _⟩ dX11_measures_3) hS (fun H locs hP hS => ?_)
  obtain ⟨J19, eJ19, h⟩ := jn_e h
  have hJ19 : ∀ (v_3 : Int32) (H : Heap) (locs : List Loc) (ls : Array Slot), J19 v_3 = some r → va_P D vwCl (wX ca a σ) H → va_S (AW 37 a) s.heap H locs → lv_has ls 5 [(0, .ref (a 0)), (1, .int p1), (2, .int p2)] → W p l e rm_X11_measures s m args below meth c H locs 0 0 Q (F0 m 19 ls [.int v_3]) := by
    intro v_3 H locs ls h hP hS hl
    have h := ap1 eJ19 h
    refine lv_istore_n (lv' := [(3, .int v_3), (0, .ref (a 0)), (1, .int p1), (2, .int p2)]) hx hb dX11_measures_19 rfl hl (by decide) rfl (fun ls hl => ?_)
    refine lv_iload_n hx hb dX11_measures_20 rfl (lv_at hl 0 rfl) ?_
    refine lv_if_eq (tgt := 26) hx hb dX11_measures_21 (by decide) (fun c_4 => ?_) (fun c_4 => ?_)
    · have h := it c_4 h
      refine lv_aload_n hx hb dX11_measures_26 rfl (lv_at hl 1 rfl) ?_
      refine lv_iload_n hx hb dX11_measures_27 rfl (lv_at hl 2 rfl) ?_
      obtain ⟨r_6, h_5, h⟩ := b1_e h
      refine xcall (rV C0 hK hP hl.1 (fun _ _ _ => trivial) Bt_b (c_X11_shelfAt hI h_5) cv_X11_shelfAt tw275 (rcX11 hK hP) (rest := []) rfl (Nat.le_of_ble_eq_true rfl) ⟨rfl, rfl, Nat.le_of_ble_eq_true rfl, Nat.le_of_ble_eq_true rfl⟩ ⟨Nat.zero_le _, Nat.zero_le _⟩ dX11_measures_28) hS (fun H locs hP hS => ?_)
      obtain ⟨hk_7, h⟩ := asr h
      refine lv_astore (lv' := [(4, .ref (a (7 + 2 * r_6))), (3, .int v_3), (0, .ref (a 0)), (1, .int p1), (2, .int p2)]) hx hb dX11_measures_31 hl (by decide) rfl (fun ls hl => ?_)
      refine lv_aload_n hx hb dX11_measures_33 rfl (lv_at hl 2 rfl) ?_
      refine lv_aload hx hb dX11_measures_34 (lv_at hl 0 rfl) ?_
      obtain ⟨r_9, h_8, h⟩ := b1_e h
      refine xcall (rV C0 hK hP hl.1 (fun _ _ _ => trivial) Bt_b (c_X11_tellsMeasures hI hk_7 h_8) cv_X11_tellsMeasures tw655 (rcX11 hK hP) (rest := []) rfl (Nat.le_of_ble_eq_true rfl) ⟨rfl, rfl, Nat.le_of_ble_eq_true rfl, Nat.le_of_ble_eq_true rfl⟩ ⟨Nat.zero_le _, Nat.zero_le _⟩ dX11_measures_36) hS (fun H locs hP hS => ?_)
      refine lv_if_ne (tgt := 45) hx hb dX11_measures_39 (by decide) (fun c_10 => ?_) (fun c_10 => ?_)
      · have h := ie c_10 h
        refine lv_iload_n hx hb dX11_measures_45 rfl (lv_at hl 4 rfl) ?_
        refine lv_if_ne (tgt := 58) hx hb dX11_measures_46 (by decide) (fun c_11 => ?_) (fun c_11 => ?_)
        · have h := ie c_11 h
          refine lv_aload_n hx hb dX11_measures_58 rfl (lv_at hl 2 rfl) ?_
          refine lv_aload hx hb dX11_measures_59 (lv_at hl 0 rfl) ?_
          obtain ⟨r_13, h_12, h⟩ := b1_e h
          refine xcall (rV C0 hK hP hl.1 (fun _ _ _ => trivial) Bt_b (c_X11_ringMostWrong hI hk_7 h_12) cv_X11_ringMostWrong tw667 (rcX11 hK hP) (rest := []) rfl (Nat.le_of_ble_eq_true rfl) ⟨rfl, rfl, Nat.le_of_ble_eq_true rfl, Nat.le_of_ble_eq_true rfl⟩ ⟨Nat.zero_le _, Nat.zero_le _⟩ dX11_measures_61) hS (fun H locs hP hS => ?_)
          rw [hQ]
          exact xzretr C0 hP hS rfl h dX11_measures_64
        · have h := it c_11 h
          refine lv_aload_n hx hb dX11_measures_49 rfl (lv_at hl 2 rfl) ?_
          refine lv_aload hx hb dX11_measures_50 (lv_at hl 0 rfl) ?_
          obtain ⟨r_15, h_14, h⟩ := b1_e h
          refine xcall (rV C0 hK hP hl.1 (fun _ _ _ => trivial) Bt_b (c_X11_firstWrongMeasure hI hk_7 h_14) cv_X11_firstWrongMeasure tw659 (rcX11 hK hP) (rest := []) rfl (Nat.le_of_ble_eq_true rfl) ⟨rfl, rfl, Nat.le_of_ble_eq_true rfl, Nat.le_of_ble_eq_true rfl⟩ ⟨Nat.zero_le _, Nat.zero_le _⟩ dX11_measures_52) hS (fun H locs hP hS => ?_)
          refine lv_goto (tgt := 64) hx hb dX11_measures_55 (by decide) ?_
          rw [hQ]
          exact xzretr C0 hP hS rfl h dX11_measures_64
      · have h := it c_10 h
        refine lv_bipush (v := (-13)) hx hb dX11_measures_42 (by decide) ?_
        rw [hQ]
        exact xzretr C0 hP hS rfl h dX11_measures_44
    · have h := ie c_4 h
      refine lv_iload_n hx hb dX11_measures_24 rfl (lv_at hl 0 rfl) ?_
      rw [hQ]
      exact xzretr C0 hP hS rfl h dX11_measures_25
  refine lv_if_eq (tgt := 18) hx hb dX11_measures_6 (by decide) (fun c_16 => ?_) (fun c_16 => ?_)
  · have h := it c_16 h
    refine lv_iconst (v := (-1)) hx hb dX11_measures_18 (by decide) ?_
    exact hJ19 (-1) _ _ ls h hP hS (lv_sub hl [0, 1, 2] rfl)
  · have h := ie c_16 h
    refine lv_aload_n hx hb dX11_measures_9 rfl (lv_at hl 0 rfl) ?_
    refine lv_iload_n hx hb dX11_measures_10 rfl (lv_at hl 1 rfl) ?_
    refine lv_iconst (v := 1) hx hb dX11_measures_11 (by decide) ?_
    obtain ⟨r_18, h_17, h⟩ := b1_e h
    refine xcall (rV C0 hK hP hl.1 (fun _ _ _ => trivial) Bt_b (c_X11_rowRefusal hI h_17) cv_X11_rowRefusal tw265 (rcX11 hK hP) (rest := []) rfl (Nat.le_of_ble_eq_true rfl) ⟨rfl, rfl, Nat.le_of_ble_eq_true rfl, Nat.le_of_ble_eq_true rfl⟩ ⟨Nat.zero_le _, Nat.zero_le _⟩ dX11_measures_12) hS (fun H locs hP hS => ?_)
    refine lv_goto (tgt := 19) hx hb dX11_measures_15 (by decide) ?_
    exact hJ19 r_18 _ _ ls h hP hS (lv_sub hl [0, 1, 2] rfl)
def f_X11_tellsLengths_L16 (d1 : Nat) (σ : Mem) : Nat → Int32 → (Int32 → Option (Int32)) → Option (Int32)
  | 0, _, _ => none
  | n + 1, x2_4, K1 =>
    if (σ (7 + 2 * d1) 5) ≤ x2_4 then
      K1 x2_4
    else
      b1 (f_X5_at d1 x2_4 σ) fun r_7 =>
      b1 (f_X11_within r_7 1 99) fun r_9 =>
      if r_9 = 0 then
        some 0
      else
        bnd (x2_4 + 1) fun (x2_11 : Int32) =>
        f_X11_tellsLengths_L16 d1 σ n x2_11 K1
def f_X11_tellsLengths (d1 : Nat) (p2 : Int32) (σ : Mem) : Option (Int32) :=
  b1 (f_X11_within (σ (7 + 2 * d1) 5) 1 p2) fun r_2 =>
  if r_2 = 0 then
    some 0
  else
    f_X11_tellsLengths_L16 d1 σ 5000 0 fun (u_12 : Int32) =>
      some 1
def rm_X11_tellsLengths : Room := { frames := 1, cells := 0, slots := 0, locals := 22 }
set_option maxHeartbeats 4000000 in
set_option maxRecDepth 100000 in
theorem c_X11_tellsLengths {l : Launch} {D : va_G} {ca : Nat → ClassId} {a : Nat → Nat} (hI : InjN 37 a) {d1 : Nat} {p2 : Int32} {σ : Mem} {r : Int32} (hk_d1 : d1 < 9) (h : f_X11_tellsLengths d1 p2 σ = some r) : XMX l D ca a Bt yX11_tellsLengths cX11_tellsLengths 3 (some .boolean) rm_X11_tellsLengths [.ref (a (7 + 2 * d1)), .int p2] σ (some (.int r)) σ := by
  refine XM.of pn_X11 (Nat.le_of_ble_eq_true rfl) ?_
  intro p e s m args below meth c ls Q hQ C0 hK hB hP hS hl
  have C0 : Cx p s m args meth c RX11 cX11_tellsLengths 3 (some .boolean) := C0
  have hx := C0.1
  have hb := C0.2.1
  have hl : lv_has ls 3 [(0, .ref (a (7 + 2 * d1))), (1, .int p2)] := hl
  rw [f_X11_tellsLengths] at h
  refine lv_aload_n hx hb dX11_tellsLengths_0 rfl (lv_at hl 0 rfl) ?_
  refine gX5_5N C0 hK hP hk_d1 tw141 dX11_tellsLengths_1 ?_
  refine lv_iconst (v := 1) hx hb dX11_tellsLengths_4 (by decide) ?_
  refine lv_iload_n hx hb dX11_tellsLengths_5 rfl (lv_at hl 1 rfl) ?_
  obtain ⟨r_2, h_1, h⟩ := b1_e h
  refine xcall (rS C0 hK hP hl.1 (fun _ _ _ => trivial) Bt_b (c_X11_within hI h_1) cs_X11_within tw272 (rest := []) rfl (Nat.le_of_ble_eq_true rfl) ⟨rfl, rfl, Nat.le_of_ble_eq_true rfl, Nat.le_of_ble_eq_true rfl⟩ ⟨Nat.zero_le _, Nat.zero_le _⟩ dX11_tellsLengths_6) hS (fun H locs hP hS => ?_)
  refine lv_if_ne (tgt := 14) hx hb dX11_tellsLengths_9 (by decide) (fun c_3 => ?_) (fun c_3 => ?_)
  · have h := ie c_3 h
    refine lv_iconst (v := 0) hx hb dX11_tellsLengths_14 (by decide) ?_
    refine lv_istore_n (lv' := [(2, .int 0), (0, .ref (a (7 + 2 * d1))), (1, .int p2)]) hx hb dX11_tellsLengths_15 rfl hl (by decide) rfl (fun ls hl => ?_)
    obtain ⟨K1, eK1, h⟩ := lp_e (f := fun K => f_X11_tellsLengths_L16 d1 σ 5000 0 K) h
    have h : f_X11_tellsLengths_L16 d1 σ 5000 0 K1 = some r := h
    have hX1 : ∀ (u_12 : Int32) (H : Heap) (locs : List Loc) (ls : Array Slot), K1 u_12 = some r → va_P D vwCl (wX ca a σ) H → va_S (AW 37 a) s.heap H locs → lv_has ls 3 [] → W p l e rm_X11_tellsLengths s m args below meth c H locs 0 0 Q (F0 m 46 ls []) := by
      intro u_12 H locs ls h hP hS hl
      have h := ap1 eK1 h
      refine lv_iconst (v := 1) hx hb dX11_tellsLengths_46 (by decide) ?_
      rw [hQ]
      exact xzretr C0 hP hS rfl h dX11_tellsLengths_47
    have hL1 : ∀ (n : Nat) (x2_4 : Int32) (H : Heap) (locs : List Loc) (ls : Array Slot), f_X11_tellsLengths_L16 d1 σ n x2_4 K1 = some r → va_P D vwCl (wX ca a σ) H → va_S (AW 37 a) s.heap H locs → lv_has ls 3 [(0, .ref (a (7 + 2 * d1))), (2, .int x2_4)] → W p l e rm_X11_tellsLengths s m args below meth c H locs 0 0 Q (F0 m 16 ls []) := by
      intro n
      induction n with
      | zero => intro x2_4 H locs ls h; rw [f_X11_tellsLengths_L16] at h; cases h
      | succ n ih1 =>
        intro x2_4 H locs ls h hP hS hl
        rw [f_X11_tellsLengths_L16] at h
        refine lv_iload_n hx hb dX11_tellsLengths_16 rfl (lv_at hl 1 rfl) ?_
        refine lv_aload_n hx hb dX11_tellsLengths_17 rfl (lv_at hl 0 rfl) ?_
        refine gX5_5N C0 hK hP hk_d1 tw141 dX11_tellsLengths_18 ?_
        refine lv_icmp_ge (tgt := 46) hx hb dX11_tellsLengths_21 (by decide) (fun c_5 => ?_) (fun c_5 => ?_)
        · have h := it c_5 h
          exact hX1 x2_4 _ _ ls h hP hS (lv_sub hl [] rfl)
        · have h := ie c_5 h
          refine lv_aload_n hx hb dX11_tellsLengths_24 rfl (lv_at hl 0 rfl) ?_
          refine lv_iload_n hx hb dX11_tellsLengths_25 rfl (lv_at hl 1 rfl) ?_
          obtain ⟨r_7, h_6, h⟩ := b1_e h
          refine xcall (rV C0 hK hP hl.1 (fun _ _ _ => trivial) Bt_b (c_X5_at hI hk_d1 h_6) cv_X5_at tw607 (rcX5 hK hP hk_d1) (rest := []) rfl (Nat.le_of_ble_eq_true rfl) ⟨rfl, rfl, Nat.le_of_ble_eq_true rfl, Nat.le_of_ble_eq_true rfl⟩ ⟨Nat.zero_le _, Nat.zero_le _⟩ dX11_tellsLengths_26) hS (fun H locs hP hS => ?_)
          refine lv_iconst (v := 1) hx hb dX11_tellsLengths_29 (by decide) ?_
          refine lv_bipush (v := 99) hx hb dX11_tellsLengths_30 (by decide) ?_
          obtain ⟨r_9, h_8, h⟩ := b1_e h
          refine xcall (rS C0 hK hP hl.1 (fun _ _ _ => trivial) Bt_b (c_X11_within hI h_8) cs_X11_within tw272 (rest := []) rfl (Nat.le_of_ble_eq_true rfl) ⟨rfl, rfl, Nat.le_of_ble_eq_true rfl, Nat.le_of_ble_eq_true rfl⟩ ⟨Nat.zero_le _, Nat.zero_le _⟩ dX11_tellsLengths_32) hS (fun H locs hP hS => ?_)
          refine lv_if_ne (tgt := 40) hx hb dX11_tellsLengths_35 (by decide) (fun c_10 => ?_) (fun c_10 => ?_)
          · have h := ie c_10 h
            obtain ⟨x2_11, ex2_11, h⟩ := bnd_e h
            refine lv_iinc (v := x2_11) (lv' := [(2, .int x2_11), (0, .ref (a (7 + 2 * d1)))]) hx hb dX11_tellsLengths_40 hl (k := 1) rfl (by rw [ex2_11]; rfl) (by decide) rfl (fun ls hl => ?_)
            refine lv_goto (tgt := 16) hx hb dX11_tellsLengths_43 (by decide) ?_
            exact ih1 x2_11 _ _ ls h hP hS (lv_sub hl [1, 0] rfl)
          · have h := it c_10 h
            refine lv_iconst (v := 0) hx hb dX11_tellsLengths_38 (by decide) ?_
            rw [hQ]
            exact xzretr C0 hP hS rfl h dX11_tellsLengths_39
    exact hL1 5000 0 _ _ ls h hP hS (lv_sub hl [1, 0] rfl)
  · have h := it c_3 h
    refine lv_iconst (v := 0) hx hb dX11_tellsLengths_12 (by decide) ?_
    rw [hQ]
    exact xzretr C0 hP hS rfl h dX11_tellsLengths_13
def f_X11_lengthsRefusal (p1 : Int32) (p2 : Int32) (σ : Mem) : Option (Int32) :=
  b1 (f_X11_rowRefusal p1 0 σ) fun r_2 =>
  if r_2 = 0 then
    b1 (f_X11_shelfAt p1) fun r_5 =>
    if r_5 < 9 then
      b1 (f_X11_tellsLengths r_5 p2 σ) fun r_8 =>
      if r_8 = 0 then
        some (-13)
      else
        some r_2
    else none
  else
    some r_2
def rm_X11_lengthsRefusal : Room := { frames := 3, cells := 0, slots := 0, locals := 66 }
set_option maxHeartbeats 4000000 in
set_option maxRecDepth 100000 in
theorem c_X11_lengthsRefusal {l : Launch} {D : va_G} {ca : Nat → ClassId} {a : Nat → Nat} (hI : InjN 37 a) {p1 : Int32} {p2 : Int32} {σ : Mem} {r : Int32}  (h : f_X11_lengthsRefusal p1 p2 σ = some r) : XMX l D ca a Bt yX11_lengthsRefusal cX11_lengthsRefusal 4 (some .int) rm_X11_lengthsRefusal [.ref (a 0), .int p1, .int p2] σ (some (.int r)) σ := by
  refine XM.of pn_X11 (Nat.le_of_ble_eq_true rfl) ?_
  intro p e s m args below meth c ls Q hQ C0 hK hB hP hS hl
  have C0 : Cx p s m args meth c RX11 cX11_lengthsRefusal 4 (some .int) := C0
  have hx := C0.1
  have hb := C0.2.1
  have hl : lv_has ls 4 [(0, .ref (a 0)), (1, .int p1), (2, .int p2)] := hl
  rw [f_X11_lengthsRefusal] at h
  refine lv_aload_n hx hb dX11_lengthsRefusal_0 rfl (lv_at hl 0 rfl) ?_
  refine lv_iload_n hx hb dX11_lengthsRefusal_1 rfl (lv_at hl 1 rfl) ?_
  refine lv_iconst (v := 0) hx hb dX11_lengthsRefusal_2 (by decide) ?_
  obtain ⟨r_2, h_1, h⟩ := b1_e h
  refine xcall (rV C0 hK hP hl.1 (fun _ _ _ => trivial) Bt_b (c_X11_rowRefusal hI h_1) cv_X11_rowRefusal tw265 (rcX11 hK hP) (rest := []) rfl (Nat.le_of_ble_eq_true rfl) ⟨rfl, rfl, Nat.le_of_ble_eq_true rfl, Nat.le_of_ble_eq_true rfl⟩ ⟨Nat.zero_le _, Nat.zero_le _⟩ dX11_lengthsRefusal_3) hS (fun H locs hP hS => ?_)
  refine lv_istore_n (lv' := [(3, .int r_2), (0, .ref (a 0)), (1, .int p1), (2, .int p2)]) hx hb dX11_lengthsRefusal_6 rfl hl (by decide) rfl (fun ls hl => ?_)
  refine lv_iload_n hx hb dX11_lengthsRefusal_7 rfl (lv_at hl 0 rfl) ?_
  refine lv_if_ne (tgt := 28) hx hb dX11_lengthsRefusal_8 (by decide) (fun c_3 => ?_) (fun c_3 => ?_)
  · have h := ie c_3 h
    refine lv_iload_n hx hb dX11_lengthsRefusal_28 rfl (lv_at hl 0 rfl) ?_
    rw [hQ]
    exact xzretr C0 hP hS rfl h dX11_lengthsRefusal_29
  · have h := it c_3 h
    refine lv_aload_n hx hb dX11_lengthsRefusal_11 rfl (lv_at hl 1 rfl) ?_
    refine lv_iload_n hx hb dX11_lengthsRefusal_12 rfl (lv_at hl 2 rfl) ?_
    obtain ⟨r_5, h_4, h⟩ := b1_e h
    refine xcall (rV C0 hK hP hl.1 (fun _ _ _ => trivial) Bt_b (c_X11_shelfAt hI h_4) cv_X11_shelfAt tw275 (rcX11 hK hP) (rest := []) rfl (Nat.le_of_ble_eq_true rfl) ⟨rfl, rfl, Nat.le_of_ble_eq_true rfl, Nat.le_of_ble_eq_true rfl⟩ ⟨Nat.zero_le _, Nat.zero_le _⟩ dX11_lengthsRefusal_13) hS (fun H locs hP hS => ?_)
    obtain ⟨hk_6, h⟩ := asr h
    refine lv_iload_n hx hb dX11_lengthsRefusal_16 rfl (lv_at hl 3 rfl) ?_
    obtain ⟨r_8, h_7, h⟩ := b1_e h
    refine xcall (rS C0 hK hP hl.1 (fun _ _ _ => trivial) Bt_b (c_X11_tellsLengths hI hk_6 h_7) cs_X11_tellsLengths tw683 (rest := []) rfl (Nat.le_of_ble_eq_true rfl) ⟨rfl, rfl, Nat.le_of_ble_eq_true rfl, Nat.le_of_ble_eq_true rfl⟩ ⟨Nat.zero_le _, Nat.zero_le _⟩ dX11_lengthsRefusal_17) hS (fun H locs hP hS => ?_)
    refine lv_if_ne (tgt := 28) hx hb dX11_lengthsRefusal_20 (by decide) (fun c_9 => ?_) (fun c_9 => ?_)
    · have h := ie c_9 h
      refine lv_iload_n hx hb dX11_lengthsRefusal_28 rfl (lv_at hl 0 rfl) ?_
      rw [hQ]
      exact xzretr C0 hP hS rfl h dX11_lengthsRefusal_29
    · have h := it c_9 h
      refine lv_bipush (v := (-13)) hx hb dX11_lengthsRefusal_23 (by decide) ?_
      refine lv_goto (tgt := 29) hx hb dX11_lengthsRefusal_25 (by decide) ?_
      rw [hQ]
      exact xzretr C0 hP hS rfl h dX11_lengthsRefusal_29
def f_X11_sizeTaken_L14 (d1 : Nat) (p3 : Int32) (σ : Mem) : Nat → Int32 → Int32 → (Int32 → Int32 → Option (Int32)) → Option (Int32)
  | 0, _, _, _ => none
  | n + 1, x3_2, x4_3, K1 =>
    if (σ (7 + 2 * d1) 5) ≤ x4_3 then
      K1 x3_2 x4_3
    else
      b1 (f_X5_at d1 x4_3 σ) fun r_6 =>
      if r_6 < p3 then
        bnd (x4_3 + 1) fun (x4_8 : Int32) =>
        f_X11_sizeTaken_L14 d1 p3 σ n x3_2 x4_8 K1
      else
        if x3_2 = 0 then
          bnd (x4_3 + 1) fun (x4_10 : Int32) =>
          f_X11_sizeTaken_L14 d1 p3 σ n r_6 x4_10 K1
        else
          if x3_2 ≤ r_6 then
            bnd (x4_3 + 1) fun (x4_12 : Int32) =>
            f_X11_sizeTaken_L14 d1 p3 σ n x3_2 x4_12 K1
          else
            bnd (x4_3 + 1) fun (x4_13 : Int32) =>
            f_X11_sizeTaken_L14 d1 p3 σ n r_6 x4_13 K1
def f_X11_sizeTaken (d1 : Nat) (p2 : Int32) (p3 : Int32) (σ : Mem) : Option (Int32) :=
  jn (fun (v_1 : Int32) =>
    f_X11_sizeTaken_L14 d1 p3 σ 5000 v_1 0 fun (x3_14 : Int32) (u_15 : Int32) =>
      some x3_14) fun J10 =>
  if p2 < p3 then
    J10 0
  else
    J10 p2
def rm_X11_sizeTaken : Room := { frames := 1, cells := 0, slots := 0, locals := 21 }
set_option maxHeartbeats 4000000 in
set_option maxRecDepth 100000 in
theorem c_X11_sizeTaken {l : Launch} {D : va_G} {ca : Nat → ClassId} {a : Nat → Nat} (hI : InjN 37 a) {d1 : Nat} {p2 : Int32} {p3 : Int32} {σ : Mem} {r : Int32} (hk_d1 : d1 < 9) (h : f_X11_sizeTaken d1 p2 p3 σ = some r) : XMX l D ca a Bt yX11_sizeTaken cX11_sizeTaken 6 (some .int) rm_X11_sizeTaken [.ref (a (7 + 2 * d1)), .int p2, .int p3] σ (some (.int r)) σ := by
  refine XM.of pn_X11 (Nat.le_of_ble_eq_true rfl) ?_
  intro p e s m args below meth c ls Q hQ C0 hK hB hP hS hl
  have C0 : Cx p s m args meth c RX11 cX11_sizeTaken 6 (some .int) := C0
  have hx := C0.1
  have hb := C0.2.1
  have hl : lv_has ls 6 [(0, .ref (a (7 + 2 * d1))), (1, .int p2), (2, .int p3)] := hl
  rw [f_X11_sizeTaken] at h
  refine lv_iload_n hx hb dX11_sizeTaken_0 rfl (lv_at hl 1 rfl) ?_
  refine lv_iload_n hx hb dX11_sizeTaken_1 rfl (lv_at hl 2 rfl) ?_
  obtain ⟨J10, eJ10, h⟩ := jn_e h
  have hJ10 : ∀ (v_1 : Int32) (H : Heap) (locs : List Loc) (ls : Array Slot), J10 v_1 = some r → va_P D vwCl (wX ca a σ) H → va_S (AW 37 a) s.heap H locs → lv_has ls 6 [(0, .ref (a (7 + 2 * d1))), (2, .int p3)] → W p l e rm_X11_sizeTaken s m args below meth c H locs 0 0 Q (F0 m 10 ls [.int v_1]) := by
    intro v_1 H locs ls h hP hS hl
    have h := ap1 eJ10 h
    refine lv_istore_n (lv' := [(3, .int v_1), (0, .ref (a (7 + 2 * d1))), (2, .int p3)]) hx hb dX11_sizeTaken_10 rfl hl (by decide) rfl (fun ls hl => ?_)
    refine lv_iconst (v := 0) hx hb dX11_sizeTaken_11 (by decide) ?_
    refine lv_istore (lv' := [(4, .int 0), (3, .int v_1), (0, .ref (a (7 + 2 * d1))), (2, .int p3)]) hx hb dX11_sizeTaken_12 hl (by decide) rfl (fun ls hl => ?_)
    obtain ⟨K1, eK1, h⟩ := lp_e (f := fun K => f_X11_sizeTaken_L14 d1 p3 σ 5000 v_1 0 K) h
    have h : f_X11_sizeTaken_L14 d1 p3 σ 5000 v_1 0 K1 = some r := h
    have hX1 : ∀ (x3_14 : Int32) (u_15 : Int32) (H : Heap) (locs : List Loc) (ls : Array Slot), K1 x3_14 u_15 = some r → va_P D vwCl (wX ca a σ) H → va_S (AW 37 a) s.heap H locs → lv_has ls 6 [(3, .int x3_14)] → W p l e rm_X11_sizeTaken s m args below meth c H locs 0 0 Q (F0 m 56 ls []) := by
      intro x3_14 u_15 H locs ls h hP hS hl
      have h := ap2 eK1 h
      refine lv_iload_n hx hb dX11_sizeTaken_56 rfl (lv_at hl 0 rfl) ?_
      rw [hQ]
      exact xzretr C0 hP hS rfl h dX11_sizeTaken_57
    have hL1 : ∀ (n : Nat) (x3_2 : Int32) (x4_3 : Int32) (H : Heap) (locs : List Loc) (ls : Array Slot), f_X11_sizeTaken_L14 d1 p3 σ n x3_2 x4_3 K1 = some r → va_P D vwCl (wX ca a σ) H → va_S (AW 37 a) s.heap H locs → lv_has ls 6 [(0, .ref (a (7 + 2 * d1))), (2, .int p3), (3, .int x3_2), (4, .int x4_3)] → W p l e rm_X11_sizeTaken s m args below meth c H locs 0 0 Q (F0 m 14 ls []) := by
      intro n
      induction n with
      | zero => intro x3_2 x4_3 H locs ls h; rw [f_X11_sizeTaken_L14] at h; cases h
      | succ n ih1 =>
        intro x3_2 x4_3 H locs ls h hP hS hl
        rw [f_X11_sizeTaken_L14] at h
        refine lv_iload hx hb dX11_sizeTaken_14 (lv_at hl 3 rfl) ?_
        refine lv_aload_n hx hb dX11_sizeTaken_16 rfl (lv_at hl 0 rfl) ?_
        refine gX5_5N C0 hK hP hk_d1 tw141 dX11_sizeTaken_17 ?_
        refine lv_icmp_ge (tgt := 56) hx hb dX11_sizeTaken_20 (by decide) (fun c_4 => ?_) (fun c_4 => ?_)
        · have h := it c_4 h
          exact hX1 x3_2 x4_3 _ _ ls h hP hS (lv_sub hl [2] rfl)
        · have h := ie c_4 h
          refine lv_aload_n hx hb dX11_sizeTaken_23 rfl (lv_at hl 0 rfl) ?_
          refine lv_iload hx hb dX11_sizeTaken_24 (lv_at hl 3 rfl) ?_
          obtain ⟨r_6, h_5, h⟩ := b1_e h
          refine xcall (rV C0 hK hP hl.1 (fun _ _ _ => trivial) Bt_b (c_X5_at hI hk_d1 h_5) cv_X5_at tw607 (rcX5 hK hP hk_d1) (rest := []) rfl (Nat.le_of_ble_eq_true rfl) ⟨rfl, rfl, Nat.le_of_ble_eq_true rfl, Nat.le_of_ble_eq_true rfl⟩ ⟨Nat.zero_le _, Nat.zero_le _⟩ dX11_sizeTaken_26) hS (fun H locs hP hS => ?_)
          refine lv_istore (lv' := [(5, .int r_6), (0, .ref (a (7 + 2 * d1))), (2, .int p3), (3, .int x3_2), (4, .int x4_3)]) hx hb dX11_sizeTaken_29 hl (by decide) rfl (fun ls hl => ?_)
          refine lv_iload hx hb dX11_sizeTaken_31 (lv_at hl 0 rfl) ?_
          refine lv_iload_n hx hb dX11_sizeTaken_33 rfl (lv_at hl 2 rfl) ?_
          refine lv_icmp_lt (tgt := 50) hx hb dX11_sizeTaken_34 (by decide) (fun c_7 => ?_) (fun c_7 => ?_)
          · have h := it c_7 h
            obtain ⟨x4_8, ex4_8, h⟩ := bnd_e h
            refine lv_iinc (v := x4_8) (lv' := [(4, .int x4_8), (5, .int r_6), (0, .ref (a (7 + 2 * d1))), (2, .int p3), (3, .int x3_2)]) hx hb dX11_sizeTaken_50 hl (k := 4) rfl (by rw [ex4_8]; rfl) (by decide) rfl (fun ls hl => ?_)
            refine lv_goto (tgt := 14) hx hb dX11_sizeTaken_53 (by decide) ?_
            exact ih1 x3_2 x4_8 _ _ ls h hP hS (lv_sub hl [2, 3, 4, 0] rfl)
          · have h := ie c_7 h
            refine lv_iload_n hx hb dX11_sizeTaken_37 rfl (lv_at hl 3 rfl) ?_
            refine lv_if_eq (tgt := 47) hx hb dX11_sizeTaken_38 (by decide) (fun c_9 => ?_) (fun c_9 => ?_)
            · have h := it c_9 h
              refine lv_iload hx hb dX11_sizeTaken_47 (lv_at hl 0 rfl) ?_
              refine lv_istore_n (lv' := [(3, .int r_6), (5, .int r_6), (0, .ref (a (7 + 2 * d1))), (2, .int p3), (4, .int x4_3)]) hx hb dX11_sizeTaken_49 rfl hl (by decide) rfl (fun ls hl => ?_)
              obtain ⟨x4_10, ex4_10, h⟩ := bnd_e h
              refine lv_iinc (v := x4_10) (lv' := [(4, .int x4_10), (3, .int r_6), (5, .int r_6), (0, .ref (a (7 + 2 * d1))), (2, .int p3)]) hx hb dX11_sizeTaken_50 hl (k := 4) rfl (by rw [ex4_10]; rfl) (by decide) rfl (fun ls hl => ?_)
              refine lv_goto (tgt := 14) hx hb dX11_sizeTaken_53 (by decide) ?_
              exact ih1 r_6 x4_10 _ _ ls h hP hS (lv_sub hl [3, 4, 1, 0] rfl)
            · have h := ie c_9 h
              refine lv_iload hx hb dX11_sizeTaken_41 (lv_at hl 0 rfl) ?_
              refine lv_iload_n hx hb dX11_sizeTaken_43 rfl (lv_at hl 3 rfl) ?_
              refine lv_icmp_ge (tgt := 50) hx hb dX11_sizeTaken_44 (by decide) (fun c_11 => ?_) (fun c_11 => ?_)
              · have h := it c_11 h
                obtain ⟨x4_12, ex4_12, h⟩ := bnd_e h
                refine lv_iinc (v := x4_12) (lv' := [(4, .int x4_12), (5, .int r_6), (0, .ref (a (7 + 2 * d1))), (2, .int p3), (3, .int x3_2)]) hx hb dX11_sizeTaken_50 hl (k := 4) rfl (by rw [ex4_12]; rfl) (by decide) rfl (fun ls hl => ?_)
                refine lv_goto (tgt := 14) hx hb dX11_sizeTaken_53 (by decide) ?_
                exact ih1 x3_2 x4_12 _ _ ls h hP hS (lv_sub hl [2, 3, 4, 0] rfl)
              · have h := ie c_11 h
                refine lv_iload hx hb dX11_sizeTaken_47 (lv_at hl 0 rfl) ?_
                refine lv_istore_n (lv' := [(3, .int r_6), (5, .int r_6), (0, .ref (a (7 + 2 * d1))), (2, .int p3), (4, .int x4_3)]) hx hb dX11_sizeTaken_49 rfl hl (by decide) rfl (fun ls hl => ?_)
                obtain ⟨x4_13, ex4_13, h⟩ := bnd_e h
                refine lv_iinc (v := x4_13) (lv' := [(4, .int x4_13), (3, .int r_6), (5, .int r_6), (0, .ref (a (7 + 2 * d1))), (2, .int p3)]) hx hb dX11_sizeTaken_50 hl (k := 4) rfl (by rw [ex4_13]; rfl) (by decide) rfl (fun ls hl => ?_)
                refine lv_goto (tgt := 14) hx hb dX11_sizeTaken_53 (by decide) ?_
                exact ih1 r_6 x4_13 _ _ ls h hP hS (lv_sub hl [3, 4, 1, 0] rfl)
    exact hL1 5000 v_1 0 _ _ ls h hP hS (lv_sub hl [2, 3, 1, 0] rfl)
  refine lv_icmp_lt (tgt := 9) hx hb dX11_sizeTaken_2 (by decide) (fun c_16 => ?_) (fun c_16 => ?_)
  · have h := it c_16 h
    refine lv_iconst (v := 0) hx hb dX11_sizeTaken_9 (by decide) ?_
    exact hJ10 0 _ _ ls h hP hS (lv_sub hl [0, 2] rfl)
  · have h := ie c_16 h
    refine lv_iload_n hx hb dX11_sizeTaken_5 rfl (lv_at hl 1 rfl) ?_
    refine lv_goto (tgt := 10) hx hb dX11_sizeTaken_6 (by decide) ?_
    exact hJ10 p2 _ _ ls h hP hS (lv_sub hl [0, 2] rfl)
def f_X11_girlsWithoutSize_L6 (d1 : Nat) (p2 : Int32) (d3 : Nat) (σ : Mem) : Nat → Int32 → Int32 → (Int32 → Int32 → Option (Int32)) → Option (Int32)
  | 0, _, _, _ => none
  | n + 1, x4_1, x5_2, K1 =>
    if (σ (7 + 2 * d3) 5) ≤ x5_2 then
      K1 x4_1 x5_2
    else
      b1 (f_X5_at d3 x5_2 σ) fun r_5 =>
      bnd (r_5 + (σ (1 + 2 * 0) 2)) fun (y_6 : Int32) =>
      b1 (f_X11_sizeTaken d1 p2 y_6 σ) fun r_8 =>
      if r_8 = 0 then
        bnd (x4_1 + 1) fun (x4_11 : Int32) =>
        bnd (x5_2 + 1) fun (x5_12 : Int32) =>
        f_X11_girlsWithoutSize_L6 d1 p2 d3 σ n x4_11 x5_12 K1
      else
        bnd (x5_2 + 1) fun (x5_10 : Int32) =>
        f_X11_girlsWithoutSize_L6 d1 p2 d3 σ n x4_1 x5_10 K1
def f_X11_girlsWithoutSize (d1 : Nat) (p2 : Int32) (d3 : Nat) (σ : Mem) : Option (Int32) :=
  f_X11_girlsWithoutSize_L6 d1 p2 d3 σ 5000 0 0 fun (x4_13 : Int32) (u_14 : Int32) =>
    some x4_13
def rm_X11_girlsWithoutSize : Room := { frames := 2, cells := 0, slots := 0, locals := 46 }
set_option maxHeartbeats 4000000 in
set_option maxRecDepth 100000 in
theorem c_X11_girlsWithoutSize {l : Launch} {D : va_G} {ca : Nat → ClassId} {a : Nat → Nat} (hI : InjN 37 a) {d1 : Nat} {p2 : Int32} {d3 : Nat} {σ : Mem} {r : Int32} (hk_d1 : d1 < 9) (hk_d3 : d3 < 9) (h : f_X11_girlsWithoutSize d1 p2 d3 σ = some r) : XMX l D ca a Bt yX11_girlsWithoutSize cX11_girlsWithoutSize 6 (some .int) rm_X11_girlsWithoutSize [.ref (a 0), .ref (a (7 + 2 * d1)), .int p2, .ref (a (7 + 2 * d3))] σ (some (.int r)) σ := by
  refine XM.of pn_X11 (Nat.le_of_ble_eq_true rfl) ?_
  intro p e s m args below meth c ls Q hQ C0 hK hB hP hS hl
  have C0 : Cx p s m args meth c RX11 cX11_girlsWithoutSize 6 (some .int) := C0
  have hx := C0.1
  have hb := C0.2.1
  have hl : lv_has ls 6 [(0, .ref (a 0)), (1, .ref (a (7 + 2 * d1))), (2, .int p2), (3, .ref (a (7 + 2 * d3)))] := hl
  rw [f_X11_girlsWithoutSize] at h
  refine lv_iconst (v := 0) hx hb dX11_girlsWithoutSize_0 (by decide) ?_
  refine lv_istore (lv' := [(4, .int 0), (0, .ref (a 0)), (1, .ref (a (7 + 2 * d1))), (2, .int p2), (3, .ref (a (7 + 2 * d3)))]) hx hb dX11_girlsWithoutSize_1 hl (by decide) rfl (fun ls hl => ?_)
  refine lv_iconst (v := 0) hx hb dX11_girlsWithoutSize_3 (by decide) ?_
  refine lv_istore (lv' := [(5, .int 0), (4, .int 0), (0, .ref (a 0)), (1, .ref (a (7 + 2 * d1))), (2, .int p2), (3, .ref (a (7 + 2 * d3)))]) hx hb dX11_girlsWithoutSize_4 hl (by decide) rfl (fun ls hl => ?_)
  obtain ⟨K1, eK1, h⟩ := lp_e (f := fun K => f_X11_girlsWithoutSize_L6 d1 p2 d3 σ 5000 0 0 K) h
  have h : f_X11_girlsWithoutSize_L6 d1 p2 d3 σ 5000 0 0 K1 = some r := h
  have hX1 : ∀ (x4_13 : Int32) (u_14 : Int32) (H : Heap) (locs : List Loc) (ls : Array Slot), K1 x4_13 u_14 = some r → va_P D vwCl (wX ca a σ) H → va_S (AW 37 a) s.heap H locs → lv_has ls 6 [(4, .int x4_13)] → W p l e rm_X11_girlsWithoutSize s m args below meth c H locs 0 0 Q (F0 m 46 ls []) := by
    intro x4_13 u_14 H locs ls h hP hS hl
    have h := ap2 eK1 h
    refine lv_iload hx hb dX11_girlsWithoutSize_46 (lv_at hl 0 rfl) ?_
    rw [hQ]
    exact xzretr C0 hP hS rfl h dX11_girlsWithoutSize_48
  have hL1 : ∀ (n : Nat) (x4_1 : Int32) (x5_2 : Int32) (H : Heap) (locs : List Loc) (ls : Array Slot), f_X11_girlsWithoutSize_L6 d1 p2 d3 σ n x4_1 x5_2 K1 = some r → va_P D vwCl (wX ca a σ) H → va_S (AW 37 a) s.heap H locs → lv_has ls 6 [(0, .ref (a 0)), (1, .ref (a (7 + 2 * d1))), (2, .int p2), (3, .ref (a (7 + 2 * d3))), (4, .int x4_1), (5, .int x5_2)] → W p l e rm_X11_girlsWithoutSize s m args below meth c H locs 0 0 Q (F0 m 6 ls []) := by
    intro n
    induction n with
    | zero => intro x4_1 x5_2 H locs ls h; rw [f_X11_girlsWithoutSize_L6] at h; cases h
    | succ n ih1 =>
      intro x4_1 x5_2 H locs ls h hP hS hl
      rw [f_X11_girlsWithoutSize_L6] at h
      refine lv_iload hx hb dX11_girlsWithoutSize_6 (lv_at hl 5 rfl) ?_
      refine lv_aload_n hx hb dX11_girlsWithoutSize_8 rfl (lv_at hl 3 rfl) ?_
      refine gX5_5N C0 hK hP hk_d3 tw141 dX11_girlsWithoutSize_9 ?_
      refine lv_icmp_ge (tgt := 46) hx hb dX11_girlsWithoutSize_12 (by decide) (fun c_3 => ?_) (fun c_3 => ?_)
      · have h := it c_3 h
        exact hX1 x4_1 x5_2 _ _ ls h hP hS (lv_sub hl [4] rfl)
      · have h := ie c_3 h
        refine lv_aload_n hx hb dX11_girlsWithoutSize_15 rfl (lv_at hl 1 rfl) ?_
        refine lv_iload_n hx hb dX11_girlsWithoutSize_16 rfl (lv_at hl 2 rfl) ?_
        refine lv_aload_n hx hb dX11_girlsWithoutSize_17 rfl (lv_at hl 3 rfl) ?_
        refine lv_iload hx hb dX11_girlsWithoutSize_18 (lv_at hl 5 rfl) ?_
        obtain ⟨r_5, h_4, h⟩ := b1_e h
        refine xcall (rV C0 hK hP hl.1 (fun _ _ _ => trivial) Bt_b (c_X5_at hI hk_d3 h_4) cv_X5_at tw607 (rcX5 hK hP hk_d3) (rest := [.int p2, .ref (a (7 + 2 * d1))]) rfl (Nat.le_of_ble_eq_true rfl) ⟨rfl, rfl, Nat.le_of_ble_eq_true rfl, Nat.le_of_ble_eq_true rfl⟩ ⟨Nat.zero_le _, Nat.zero_le _⟩ dX11_girlsWithoutSize_20) hS (fun H locs hP hS => ?_)
        refine lv_aload_n hx hb dX11_girlsWithoutSize_23 rfl (lv_at hl 0 rfl) ?_
        refine gX11_0 C0 hK hP tw233 dX11_girlsWithoutSize_24 ?_
        refine gX0_2N C0 hK hP (by decide) tw102 dX11_girlsWithoutSize_27 ?_
        refine lv_iadd hx hb dX11_girlsWithoutSize_30 ?_
        obtain ⟨y_6, ey_6, h⟩ := bnd_e h
        rw [← ey_6]
        obtain ⟨r_8, h_7, h⟩ := b1_e h
        refine xcall (rS C0 hK hP hl.1 (fun _ _ _ => trivial) Bt_b (c_X11_sizeTaken hI hk_d1 h_7) cs_X11_sizeTaken tw690 (rest := []) rfl (Nat.le_of_ble_eq_true rfl) ⟨rfl, rfl, Nat.le_of_ble_eq_true rfl, Nat.le_of_ble_eq_true rfl⟩ ⟨Nat.zero_le _, Nat.zero_le _⟩ dX11_girlsWithoutSize_31) hS (fun H locs hP hS => ?_)
        refine lv_if_ne (tgt := 40) hx hb dX11_girlsWithoutSize_34 (by decide) (fun c_9 => ?_) (fun c_9 => ?_)
        · have h := ie c_9 h
          obtain ⟨x5_10, ex5_10, h⟩ := bnd_e h
          refine lv_iinc (v := x5_10) (lv' := [(5, .int x5_10), (0, .ref (a 0)), (1, .ref (a (7 + 2 * d1))), (2, .int p2), (3, .ref (a (7 + 2 * d3))), (4, .int x4_1)]) hx hb dX11_girlsWithoutSize_40 hl (k := 5) rfl (by rw [ex5_10]; rfl) (by decide) rfl (fun ls hl => ?_)
          refine lv_goto (tgt := 6) hx hb dX11_girlsWithoutSize_43 (by decide) ?_
          exact ih1 x4_1 x5_10 _ _ ls h hP hS (lv_sub hl [1, 2, 3, 4, 5, 0] rfl)
        · have h := it c_9 h
          obtain ⟨x4_11, ex4_11, h⟩ := bnd_e h
          refine lv_iinc (v := x4_11) (lv' := [(4, .int x4_11), (0, .ref (a 0)), (1, .ref (a (7 + 2 * d1))), (2, .int p2), (3, .ref (a (7 + 2 * d3))), (5, .int x5_2)]) hx hb dX11_girlsWithoutSize_37 hl (k := 4) rfl (by rw [ex4_11]; rfl) (by decide) rfl (fun ls hl => ?_)
          obtain ⟨x5_12, ex5_12, h⟩ := bnd_e h
          refine lv_iinc (v := x5_12) (lv' := [(5, .int x5_12), (4, .int x4_11), (0, .ref (a 0)), (1, .ref (a (7 + 2 * d1))), (2, .int p2), (3, .ref (a (7 + 2 * d3)))]) hx hb dX11_girlsWithoutSize_40 hl (k := 5) rfl (by rw [ex5_12]; rfl) (by decide) rfl (fun ls hl => ?_)
          refine lv_goto (tgt := 6) hx hb dX11_girlsWithoutSize_43 (by decide) ?_
          exact ih1 x4_11 x5_12 _ _ ls h hP hS (lv_sub hl [2, 3, 4, 5, 1, 0] rfl)
  exact hL1 5000 0 0 _ _ ls h hP hS (lv_sub hl [2, 3, 4, 5, 1, 0] rfl)
def f_X11_spareOfSizes_L6 (d1 : Nat) (p2 : Int32) (d3 : Nat) (σ : Mem) : Nat → Int32 → Int32 → (Int32 → Int32 → Option (Int32)) → Option (Int32)
  | 0, _, _, _ => none
  | n + 1, x4_1, x5_2, K1 =>
    if (σ (7 + 2 * d3) 5) ≤ x5_2 then
      K1 x4_1 x5_2
    else
      b1 (f_X5_at d3 x5_2 σ) fun r_5 =>
      bnd (r_5 + (σ (1 + 2 * 0) 2)) fun (x6_6 : Int32) =>
      b1 (f_X11_sizeTaken d1 p2 x6_6 σ) fun r_8 =>
      if r_8 = 0 then
        bnd (x5_2 + 1) fun (x5_10 : Int32) =>
        f_X11_spareOfSizes_L6 d1 p2 d3 σ n x4_1 x5_10 K1
      else
        bnd (x4_1 + (r_8 - x6_6)) fun (x4_11 : Int32) =>
        bnd (x5_2 + 1) fun (x5_12 : Int32) =>
        f_X11_spareOfSizes_L6 d1 p2 d3 σ n x4_11 x5_12 K1
def f_X11_spareOfSizes (d1 : Nat) (p2 : Int32) (d3 : Nat) (σ : Mem) : Option (Int32) :=
  f_X11_spareOfSizes_L6 d1 p2 d3 σ 5000 0 0 fun (x4_13 : Int32) (u_14 : Int32) =>
    some x4_13
def rm_X11_spareOfSizes : Room := { frames := 2, cells := 0, slots := 0, locals := 46 }
set_option maxHeartbeats 4000000 in
set_option maxRecDepth 100000 in
theorem c_X11_spareOfSizes {l : Launch} {D : va_G} {ca : Nat → ClassId} {a : Nat → Nat} (hI : InjN 37 a) {d1 : Nat} {p2 : Int32} {d3 : Nat} {σ : Mem} {r : Int32} (hk_d1 : d1 < 9) (hk_d3 : d3 < 9) (h : f_X11_spareOfSizes d1 p2 d3 σ = some r) : XMX l D ca a Bt yX11_spareOfSizes cX11_spareOfSizes 8 (some .int) rm_X11_spareOfSizes [.ref (a 0), .ref (a (7 + 2 * d1)), .int p2, .ref (a (7 + 2 * d3))] σ (some (.int r)) σ := by
  refine XM.of pn_X11 (Nat.le_of_ble_eq_true rfl) ?_
  intro p e s m args below meth c ls Q hQ C0 hK hB hP hS hl
  have C0 : Cx p s m args meth c RX11 cX11_spareOfSizes 8 (some .int) := C0
  have hx := C0.1
  have hb := C0.2.1
  have hl : lv_has ls 8 [(0, .ref (a 0)), (1, .ref (a (7 + 2 * d1))), (2, .int p2), (3, .ref (a (7 + 2 * d3)))] := hl
  rw [f_X11_spareOfSizes] at h
  refine lv_iconst (v := 0) hx hb dX11_spareOfSizes_0 (by decide) ?_
  refine lv_istore (lv' := [(4, .int 0), (0, .ref (a 0)), (1, .ref (a (7 + 2 * d1))), (2, .int p2), (3, .ref (a (7 + 2 * d3)))]) hx hb dX11_spareOfSizes_1 hl (by decide) rfl (fun ls hl => ?_)
  refine lv_iconst (v := 0) hx hb dX11_spareOfSizes_3 (by decide) ?_
  refine lv_istore (lv' := [(5, .int 0), (4, .int 0), (0, .ref (a 0)), (1, .ref (a (7 + 2 * d1))), (2, .int p2), (3, .ref (a (7 + 2 * d3)))]) hx hb dX11_spareOfSizes_4 hl (by decide) rfl (fun ls hl => ?_)
  obtain ⟨K1, eK1, h⟩ := lp_e (f := fun K => f_X11_spareOfSizes_L6 d1 p2 d3 σ 5000 0 0 K) h
  have h : f_X11_spareOfSizes_L6 d1 p2 d3 σ 5000 0 0 K1 = some r := h
  have hX1 : ∀ (x4_13 : Int32) (u_14 : Int32) (H : Heap) (locs : List Loc) (ls : Array Slot), K1 x4_13 u_14 = some r → va_P D vwCl (wX ca a σ) H → va_S (AW 37 a) s.heap H locs → lv_has ls 8 [(4, .int x4_13)] → W p l e rm_X11_spareOfSizes s m args below meth c H locs 0 0 Q (F0 m 61 ls []) := by
    intro x4_13 u_14 H locs ls h hP hS hl
    have h := ap2 eK1 h
    refine lv_iload hx hb dX11_spareOfSizes_61 (lv_at hl 0 rfl) ?_
    rw [hQ]
    exact xzretr C0 hP hS rfl h dX11_spareOfSizes_63
  have hL1 : ∀ (n : Nat) (x4_1 : Int32) (x5_2 : Int32) (H : Heap) (locs : List Loc) (ls : Array Slot), f_X11_spareOfSizes_L6 d1 p2 d3 σ n x4_1 x5_2 K1 = some r → va_P D vwCl (wX ca a σ) H → va_S (AW 37 a) s.heap H locs → lv_has ls 8 [(0, .ref (a 0)), (1, .ref (a (7 + 2 * d1))), (2, .int p2), (3, .ref (a (7 + 2 * d3))), (4, .int x4_1), (5, .int x5_2)] → W p l e rm_X11_spareOfSizes s m args below meth c H locs 0 0 Q (F0 m 6 ls []) := by
    intro n
    induction n with
    | zero => intro x4_1 x5_2 H locs ls h; rw [f_X11_spareOfSizes_L6] at h; cases h
    | succ n ih1 =>
      intro x4_1 x5_2 H locs ls h hP hS hl
      rw [f_X11_spareOfSizes_L6] at h
      refine lv_iload hx hb dX11_spareOfSizes_6 (lv_at hl 5 rfl) ?_
      refine lv_aload_n hx hb dX11_spareOfSizes_8 rfl (lv_at hl 3 rfl) ?_
      refine gX5_5N C0 hK hP hk_d3 tw141 dX11_spareOfSizes_9 ?_
      refine lv_icmp_ge (tgt := 61) hx hb dX11_spareOfSizes_12 (by decide) (fun c_3 => ?_) (fun c_3 => ?_)
      · have h := it c_3 h
        exact hX1 x4_1 x5_2 _ _ ls h hP hS (lv_sub hl [4] rfl)
      · have h := ie c_3 h
        refine lv_aload_n hx hb dX11_spareOfSizes_15 rfl (lv_at hl 3 rfl) ?_
        refine lv_iload hx hb dX11_spareOfSizes_16 (lv_at hl 5 rfl) ?_
        obtain ⟨r_5, h_4, h⟩ := b1_e h
        refine xcall (rV C0 hK hP hl.1 (fun _ _ _ => trivial) Bt_b (c_X5_at hI hk_d3 h_4) cv_X5_at tw607 (rcX5 hK hP hk_d3) (rest := []) rfl (Nat.le_of_ble_eq_true rfl) ⟨rfl, rfl, Nat.le_of_ble_eq_true rfl, Nat.le_of_ble_eq_true rfl⟩ ⟨Nat.zero_le _, Nat.zero_le _⟩ dX11_spareOfSizes_18) hS (fun H locs hP hS => ?_)
        refine lv_aload_n hx hb dX11_spareOfSizes_21 rfl (lv_at hl 0 rfl) ?_
        refine gX11_0 C0 hK hP tw233 dX11_spareOfSizes_22 ?_
        refine gX0_2N C0 hK hP (by decide) tw102 dX11_spareOfSizes_25 ?_
        refine lv_iadd hx hb dX11_spareOfSizes_28 ?_
        obtain ⟨x6_6, ex6_6, h⟩ := bnd_e h
        refine nm_i ex6_6 ?_
        refine lv_istore (lv' := [(6, .int x6_6), (0, .ref (a 0)), (1, .ref (a (7 + 2 * d1))), (2, .int p2), (3, .ref (a (7 + 2 * d3))), (4, .int x4_1), (5, .int x5_2)]) hx hb dX11_spareOfSizes_29 hl (by decide) rfl (fun ls hl => ?_)
        refine lv_aload_n hx hb dX11_spareOfSizes_31 rfl (lv_at hl 2 rfl) ?_
        refine lv_iload_n hx hb dX11_spareOfSizes_32 rfl (lv_at hl 3 rfl) ?_
        refine lv_iload hx hb dX11_spareOfSizes_33 (lv_at hl 0 rfl) ?_
        obtain ⟨r_8, h_7, h⟩ := b1_e h
        refine xcall (rS C0 hK hP hl.1 (fun _ _ _ => trivial) Bt_b (c_X11_sizeTaken hI hk_d1 h_7) cs_X11_sizeTaken tw690 (rest := []) rfl (Nat.le_of_ble_eq_true rfl) ⟨rfl, rfl, Nat.le_of_ble_eq_true rfl, Nat.le_of_ble_eq_true rfl⟩ ⟨Nat.zero_le _, Nat.zero_le _⟩ dX11_spareOfSizes_35) hS (fun H locs hP hS => ?_)
        refine lv_istore (lv' := [(7, .int r_8), (6, .int x6_6), (0, .ref (a 0)), (1, .ref (a (7 + 2 * d1))), (2, .int p2), (3, .ref (a (7 + 2 * d3))), (4, .int x4_1), (5, .int x5_2)]) hx hb dX11_spareOfSizes_38 hl (by decide) rfl (fun ls hl => ?_)
        refine lv_iload hx hb dX11_spareOfSizes_40 (lv_at hl 0 rfl) ?_
        refine lv_if_eq (tgt := 55) hx hb dX11_spareOfSizes_42 (by decide) (fun c_9 => ?_) (fun c_9 => ?_)
        · have h := it c_9 h
          obtain ⟨x5_10, ex5_10, h⟩ := bnd_e h
          refine lv_iinc (v := x5_10) (lv' := [(5, .int x5_10), (7, .int r_8), (6, .int x6_6), (0, .ref (a 0)), (1, .ref (a (7 + 2 * d1))), (2, .int p2), (3, .ref (a (7 + 2 * d3))), (4, .int x4_1)]) hx hb dX11_spareOfSizes_55 hl (k := 7) rfl (by rw [ex5_10]; rfl) (by decide) rfl (fun ls hl => ?_)
          refine lv_goto (tgt := 6) hx hb dX11_spareOfSizes_58 (by decide) ?_
          exact ih1 x4_1 x5_10 _ _ ls h hP hS (lv_sub hl [3, 4, 5, 6, 7, 0] rfl)
        · have h := ie c_9 h
          refine lv_iload hx hb dX11_spareOfSizes_45 (lv_at hl 6 rfl) ?_
          refine lv_iload hx hb dX11_spareOfSizes_47 (lv_at hl 0 rfl) ?_
          refine lv_iload hx hb dX11_spareOfSizes_49 (lv_at hl 1 rfl) ?_
          refine lv_isub hx hb dX11_spareOfSizes_51 ?_
          refine lv_iadd hx hb dX11_spareOfSizes_52 ?_
          obtain ⟨x4_11, ex4_11, h⟩ := bnd_e h
          refine nm_i ex4_11 ?_
          refine lv_istore (lv' := [(4, .int x4_11), (7, .int r_8), (6, .int x6_6), (0, .ref (a 0)), (1, .ref (a (7 + 2 * d1))), (2, .int p2), (3, .ref (a (7 + 2 * d3))), (5, .int x5_2)]) hx hb dX11_spareOfSizes_53 hl (by decide) rfl (fun ls hl => ?_)
          obtain ⟨x5_12, ex5_12, h⟩ := bnd_e h
          refine lv_iinc (v := x5_12) (lv' := [(5, .int x5_12), (4, .int x4_11), (7, .int r_8), (6, .int x6_6), (0, .ref (a 0)), (1, .ref (a (7 + 2 * d1))), (2, .int p2), (3, .ref (a (7 + 2 * d3)))]) hx hb dX11_spareOfSizes_55 hl (k := 7) rfl (by rw [ex5_12]; rfl) (by decide) rfl (fun ls hl => ?_)
          refine lv_goto (tgt := 6) hx hb dX11_spareOfSizes_58 (by decide) ?_
          exact ih1 x4_11 x5_12 _ _ ls h hP hS (lv_sub hl [4, 5, 6, 7, 1, 0] rfl)
  exact hL1 5000 0 0 _ _ ls h hP hS (lv_sub hl [2, 3, 4, 5, 1, 0] rfl)
def f_X11_oneMoreSize_L11 (d1 : Nat) (d2 : Nat) (σ : Mem) : Nat → Int32 → Int32 → Int32 → Int32 → (Int32 → Int32 → Int32 → Int32 → Option (Int32)) → Option (Int32)
  | 0, _, _, _, _, _ => none
  | n + 1, x3_1, x4_2, x5_3, x6_4, K1 =>
    if 99 < x6_4 then
      K1 x3_1 x4_2 x5_3 x6_4
    else
      b1 (f_X11_girlsWithoutSize d1 x6_4 d2 σ) fun r_7 =>
      b1 (f_X11_spareOfSizes d1 x6_4 d2 σ) fun r_9 =>
      jn (fun (v_10 : Int32) =>
        if x3_1 = 0 then
          bnd (x6_4 + 1) fun (x6_12 : Int32) =>
          f_X11_oneMoreSize_L11 d1 d2 σ n x6_4 r_7 r_9 x6_12 K1
        else
          if v_10 = 0 then
            bnd (x6_4 + 1) fun (x6_14 : Int32) =>
            f_X11_oneMoreSize_L11 d1 d2 σ n x3_1 x4_2 x5_3 x6_14 K1
          else
            bnd (x6_4 + 1) fun (x6_15 : Int32) =>
            f_X11_oneMoreSize_L11 d1 d2 σ n x6_4 r_7 r_9 x6_15 K1) fun J64 =>
      jn (fun (_ : Unit) =>
        J64 1) fun J59 =>
      if r_7 < x4_2 then
        J59 ()
      else
        jn (fun (_ : Unit) =>
          J64 0) fun J63 =>
        if r_7 = x4_2 then
          if x5_3 ≤ r_9 then
            J63 ()
          else
            J59 ()
        else
          J63 ()
def f_X11_oneMoreSize (d1 : Nat) (d2 : Nat) (σ : Mem) : Option (Int32) :=
  f_X11_oneMoreSize_L11 d1 d2 σ 5000 0 0 0 1 fun (x3_19 : Int32) (u_20 : Int32) (u_21 : Int32) (u_22 : Int32) =>
    some x3_19
def rm_X11_oneMoreSize : Room := { frames := 3, cells := 0, slots := 0, locals := 73 }
set_option maxHeartbeats 4000000 in
set_option maxRecDepth 100000 in
theorem c_X11_oneMoreSize {l : Launch} {D : va_G} {ca : Nat → ClassId} {a : Nat → Nat} (hI : InjN 37 a) {d1 : Nat} {d2 : Nat} {σ : Mem} {r : Int32} (hk_d1 : d1 < 9) (hk_d2 : d2 < 9) (h : f_X11_oneMoreSize d1 d2 σ = some r) : XMX l D ca a Bt yX11_oneMoreSize cX11_oneMoreSize 10 (some .int) rm_X11_oneMoreSize [.ref (a 0), .ref (a (7 + 2 * d1)), .ref (a (7 + 2 * d2))] σ (some (.int r)) σ := by
  refine XM.of pn_X11 (Nat.le_of_ble_eq_true rfl) ?_
  intro p e s m args below meth c ls Q hQ C0 hK hB hP hS hl
  have C0 : Cx p s m args meth c RX11 cX11_oneMoreSize 10 (some .int) := C0
  have hx := C0.1
  have hb := C0.2.1
  have hl : lv_has ls 10 [(0, .ref (a 0)), (1, .ref (a (7 + 2 * d1))), (2, .ref (a (7 + 2 * d2)))] := hl
  rw [f_X11_oneMoreSize] at h
  refine lv_iconst (v := 0) hx hb dX11_oneMoreSize_0 (by decide) ?_
  refine lv_istore_n (lv' := [(3, .int 0), (0, .ref (a 0)), (1, .ref (a (7 + 2 * d1))), (2, .ref (a (7 + 2 * d2)))]) hx hb dX11_oneMoreSize_1 rfl hl (by decide) rfl (fun ls hl => ?_)
  refine lv_iconst (v := 0) hx hb dX11_oneMoreSize_2 (by decide) ?_
  refine lv_istore (lv' := [(4, .int 0), (3, .int 0), (0, .ref (a 0)), (1, .ref (a (7 + 2 * d1))), (2, .ref (a (7 + 2 * d2)))]) hx hb dX11_oneMoreSize_3 hl (by decide) rfl (fun ls hl => ?_)
  refine lv_iconst (v := 0) hx hb dX11_oneMoreSize_5 (by decide) ?_
  refine lv_istore (lv' := [(5, .int 0), (4, .int 0), (3, .int 0), (0, .ref (a 0)), (1, .ref (a (7 + 2 * d1))), (2, .ref (a (7 + 2 * d2)))]) hx hb dX11_oneMoreSize_6 hl (by decide) rfl (fun ls hl => ?_)
  refine lv_iconst (v := 1) hx hb dX11_oneMoreSize_8 (by decide) ?_
  refine lv_istore (lv' := [(6, .int 1), (5, .int 0), (4, .int 0), (3, .int 0), (0, .ref (a 0)), (1, .ref (a (7 + 2 * d1))), (2, .ref (a (7 + 2 * d2)))]) hx hb dX11_oneMoreSize_9 hl (by decide) rfl (fun ls hl => ?_)
  obtain ⟨K1, eK1, h⟩ := lp_e (f := fun K => f_X11_oneMoreSize_L11 d1 d2 σ 5000 0 0 0 1 K) h
  have h : f_X11_oneMoreSize_L11 d1 d2 σ 5000 0 0 0 1 K1 = some r := h
  have hX1 : ∀ (x3_19 : Int32) (u_20 : Int32) (u_21 : Int32) (u_22 : Int32) (H : Heap) (locs : List Loc) (ls : Array Slot), K1 x3_19 u_20 u_21 u_22 = some r → va_P D vwCl (wX ca a σ) H → va_S (AW 37 a) s.heap H locs → lv_has ls 10 [(3, .int x3_19)] → W p l e rm_X11_oneMoreSize s m args below meth c H locs 0 0 Q (F0 m 92 ls []) := by
    intro x3_19 u_20 u_21 u_22 H locs ls h hP hS hl
    have h := ap4 eK1 h
    refine lv_iload_n hx hb dX11_oneMoreSize_92 rfl (lv_at hl 0 rfl) ?_
    rw [hQ]
    exact xzretr C0 hP hS rfl h dX11_oneMoreSize_93
  have hL1 : ∀ (n : Nat) (x3_1 : Int32) (x4_2 : Int32) (x5_3 : Int32) (x6_4 : Int32) (H : Heap) (locs : List Loc) (ls : Array Slot), f_X11_oneMoreSize_L11 d1 d2 σ n x3_1 x4_2 x5_3 x6_4 K1 = some r → va_P D vwCl (wX ca a σ) H → va_S (AW 37 a) s.heap H locs → lv_has ls 10 [(0, .ref (a 0)), (1, .ref (a (7 + 2 * d1))), (2, .ref (a (7 + 2 * d2))), (3, .int x3_1), (4, .int x4_2), (5, .int x5_3), (6, .int x6_4)] → W p l e rm_X11_oneMoreSize s m args below meth c H locs 0 0 Q (F0 m 11 ls []) := by
    intro n
    induction n with
    | zero => intro x3_1 x4_2 x5_3 x6_4 H locs ls h; rw [f_X11_oneMoreSize_L11] at h; cases h
    | succ n ih1 =>
      intro x3_1 x4_2 x5_3 x6_4 H locs ls h hP hS hl
      rw [f_X11_oneMoreSize_L11] at h
      refine lv_iload hx hb dX11_oneMoreSize_11 (lv_at hl 6 rfl) ?_
      refine lv_bipush (v := 99) hx hb dX11_oneMoreSize_13 (by decide) ?_
      refine lv_icmp_gt (tgt := 92) hx hb dX11_oneMoreSize_15 (by decide) (fun c_5 => ?_) (fun c_5 => ?_)
      · have h := it c_5 h
        exact hX1 x3_1 x4_2 x5_3 x6_4 _ _ ls h hP hS (lv_sub hl [3] rfl)
      · have h := ie c_5 h
        refine lv_aload_n hx hb dX11_oneMoreSize_18 rfl (lv_at hl 0 rfl) ?_
        refine lv_aload_n hx hb dX11_oneMoreSize_19 rfl (lv_at hl 1 rfl) ?_
        refine lv_iload hx hb dX11_oneMoreSize_20 (lv_at hl 6 rfl) ?_
        refine lv_aload_n hx hb dX11_oneMoreSize_22 rfl (lv_at hl 2 rfl) ?_
        obtain ⟨r_7, h_6, h⟩ := b1_e h
        refine xcall (rV C0 hK hP hl.1 (fun _ _ _ => trivial) Bt_b (c_X11_girlsWithoutSize hI hk_d1 hk_d2 h_6) cv_X11_girlsWithoutSize tw686 (rcX11 hK hP) (rest := []) rfl (Nat.le_of_ble_eq_true rfl) ⟨rfl, rfl, Nat.le_of_ble_eq_true rfl, Nat.le_of_ble_eq_true rfl⟩ ⟨Nat.zero_le _, Nat.zero_le _⟩ dX11_oneMoreSize_23) hS (fun H locs hP hS => ?_)
        refine lv_istore (lv' := [(7, .int r_7), (0, .ref (a 0)), (1, .ref (a (7 + 2 * d1))), (2, .ref (a (7 + 2 * d2))), (3, .int x3_1), (4, .int x4_2), (5, .int x5_3), (6, .int x6_4)]) hx hb dX11_oneMoreSize_26 hl (by decide) rfl (fun ls hl => ?_)
        refine lv_aload_n hx hb dX11_oneMoreSize_28 rfl (lv_at hl 1 rfl) ?_
        refine lv_aload_n hx hb dX11_oneMoreSize_29 rfl (lv_at hl 2 rfl) ?_
        refine lv_iload hx hb dX11_oneMoreSize_30 (lv_at hl 7 rfl) ?_
        refine lv_aload_n hx hb dX11_oneMoreSize_32 rfl (lv_at hl 3 rfl) ?_
        obtain ⟨r_9, h_8, h⟩ := b1_e h
        refine xcall (rV C0 hK hP hl.1 (fun _ _ _ => trivial) Bt_b (c_X11_spareOfSizes hI hk_d1 hk_d2 h_8) cv_X11_spareOfSizes tw693 (rcX11 hK hP) (rest := []) rfl (Nat.le_of_ble_eq_true rfl) ⟨rfl, rfl, Nat.le_of_ble_eq_true rfl, Nat.le_of_ble_eq_true rfl⟩ ⟨Nat.zero_le _, Nat.zero_le _⟩ dX11_oneMoreSize_33) hS (fun H locs hP hS => ?_)
        refine lv_istore (lv' := [(8, .int r_9), (7, .int r_7), (0, .ref (a 0)), (1, .ref (a (7 + 2 * d1))), (2, .ref (a (7 + 2 * d2))), (3, .int x3_1), (4, .int x4_2), (5, .int x5_3), (6, .int x6_4)]) hx hb dX11_oneMoreSize_36 hl (by decide) rfl (fun ls hl => ?_)
        refine lv_iload hx hb dX11_oneMoreSize_38 (lv_at hl 1 rfl) ?_
        refine lv_iload hx hb dX11_oneMoreSize_40 (lv_at hl 6 rfl) ?_
        obtain ⟨J64, eJ64, h⟩ := jn_e h
        have hJ64 : ∀ (v_10 : Int32) (H : Heap) (locs : List Loc) (ls : Array Slot), J64 v_10 = some r → va_P D vwCl (wX ca a σ) H → va_S (AW 37 a) s.heap H locs → lv_has ls 10 [(0, .ref (a 0)), (1, .ref (a (7 + 2 * d1))), (2, .ref (a (7 + 2 * d2))), (3, .int x3_1), (4, .int x4_2), (5, .int x5_3), (6, .int x6_4), (7, .int r_7), (8, .int r_9)] → W p l e rm_X11_oneMoreSize s m args below meth c H locs 0 0 Q (F0 m 64 ls [.int v_10]) := by
          intro v_10 H locs ls h hP hS hl
          have h := ap1 eJ64 h
          refine lv_istore (lv' := [(9, .int v_10), (0, .ref (a 0)), (1, .ref (a (7 + 2 * d1))), (2, .ref (a (7 + 2 * d2))), (3, .int x3_1), (4, .int x4_2), (5, .int x5_3), (6, .int x6_4), (7, .int r_7), (8, .int r_9)]) hx hb dX11_oneMoreSize_64 hl (by decide) rfl (fun ls hl => ?_)
          refine lv_iload_n hx hb dX11_oneMoreSize_66 rfl (lv_at hl 4 rfl) ?_
          refine lv_if_eq (tgt := 75) hx hb dX11_oneMoreSize_67 (by decide) (fun c_11 => ?_) (fun c_11 => ?_)
          · have h := it c_11 h
            refine lv_iload hx hb dX11_oneMoreSize_75 (lv_at hl 7 rfl) ?_
            refine lv_istore_n (lv' := [(3, .int x6_4), (9, .int v_10), (0, .ref (a 0)), (1, .ref (a (7 + 2 * d1))), (2, .ref (a (7 + 2 * d2))), (4, .int x4_2), (5, .int x5_3), (6, .int x6_4), (7, .int r_7), (8, .int r_9)]) hx hb dX11_oneMoreSize_77 rfl hl (by decide) rfl (fun ls hl => ?_)
            refine lv_iload hx hb dX11_oneMoreSize_78 (lv_at hl 8 rfl) ?_
            refine lv_istore (lv' := [(4, .int r_7), (3, .int x6_4), (9, .int v_10), (0, .ref (a 0)), (1, .ref (a (7 + 2 * d1))), (2, .ref (a (7 + 2 * d2))), (5, .int x5_3), (6, .int x6_4), (7, .int r_7), (8, .int r_9)]) hx hb dX11_oneMoreSize_80 hl (by decide) rfl (fun ls hl => ?_)
            refine lv_iload hx hb dX11_oneMoreSize_82 (lv_at hl 9 rfl) ?_
            refine lv_istore (lv' := [(5, .int r_9), (4, .int r_7), (3, .int x6_4), (9, .int v_10), (0, .ref (a 0)), (1, .ref (a (7 + 2 * d1))), (2, .ref (a (7 + 2 * d2))), (6, .int x6_4), (7, .int r_7), (8, .int r_9)]) hx hb dX11_oneMoreSize_84 hl (by decide) rfl (fun ls hl => ?_)
            obtain ⟨x6_12, ex6_12, h⟩ := bnd_e h
            refine lv_iinc (v := x6_12) (lv' := [(6, .int x6_12), (5, .int r_9), (4, .int r_7), (3, .int x6_4), (9, .int v_10), (0, .ref (a 0)), (1, .ref (a (7 + 2 * d1))), (2, .ref (a (7 + 2 * d2))), (7, .int r_7), (8, .int r_9)]) hx hb dX11_oneMoreSize_86 hl (k := 7) rfl (by rw [ex6_12]; rfl) (by decide) rfl (fun ls hl => ?_)
            refine lv_goto (tgt := 11) hx hb dX11_oneMoreSize_89 (by decide) ?_
            exact ih1 x6_4 r_7 r_9 x6_12 _ _ ls h hP hS (lv_sub hl [5, 6, 7, 3, 2, 1, 0] rfl)
          · have h := ie c_11 h
            refine lv_iload hx hb dX11_oneMoreSize_70 (lv_at hl 0 rfl) ?_
            refine lv_if_eq (tgt := 86) hx hb dX11_oneMoreSize_72 (by decide) (fun c_13 => ?_) (fun c_13 => ?_)
            · have h := it c_13 h
              obtain ⟨x6_14, ex6_14, h⟩ := bnd_e h
              refine lv_iinc (v := x6_14) (lv' := [(6, .int x6_14), (9, .int v_10), (0, .ref (a 0)), (1, .ref (a (7 + 2 * d1))), (2, .ref (a (7 + 2 * d2))), (3, .int x3_1), (4, .int x4_2), (5, .int x5_3), (7, .int r_7), (8, .int r_9)]) hx hb dX11_oneMoreSize_86 hl (k := 7) rfl (by rw [ex6_14]; rfl) (by decide) rfl (fun ls hl => ?_)
              refine lv_goto (tgt := 11) hx hb dX11_oneMoreSize_89 (by decide) ?_
              exact ih1 x3_1 x4_2 x5_3 x6_14 _ _ ls h hP hS (lv_sub hl [2, 3, 4, 5, 6, 7, 0] rfl)
            · have h := ie c_13 h
              refine lv_iload hx hb dX11_oneMoreSize_75 (lv_at hl 7 rfl) ?_
              refine lv_istore_n (lv' := [(3, .int x6_4), (9, .int v_10), (0, .ref (a 0)), (1, .ref (a (7 + 2 * d1))), (2, .ref (a (7 + 2 * d2))), (4, .int x4_2), (5, .int x5_3), (6, .int x6_4), (7, .int r_7), (8, .int r_9)]) hx hb dX11_oneMoreSize_77 rfl hl (by decide) rfl (fun ls hl => ?_)
              refine lv_iload hx hb dX11_oneMoreSize_78 (lv_at hl 8 rfl) ?_
              refine lv_istore (lv' := [(4, .int r_7), (3, .int x6_4), (9, .int v_10), (0, .ref (a 0)), (1, .ref (a (7 + 2 * d1))), (2, .ref (a (7 + 2 * d2))), (5, .int x5_3), (6, .int x6_4), (7, .int r_7), (8, .int r_9)]) hx hb dX11_oneMoreSize_80 hl (by decide) rfl (fun ls hl => ?_)
              refine lv_iload hx hb dX11_oneMoreSize_82 (lv_at hl 9 rfl) ?_
              refine lv_istore (lv' := [(5, .int r_9), (4, .int r_7), (3, .int x6_4), (9, .int v_10), (0, .ref (a 0)), (1, .ref (a (7 + 2 * d1))), (2, .ref (a (7 + 2 * d2))), (6, .int x6_4), (7, .int r_7), (8, .int r_9)]) hx hb dX11_oneMoreSize_84 hl (by decide) rfl (fun ls hl => ?_)
              obtain ⟨x6_15, ex6_15, h⟩ := bnd_e h
              refine lv_iinc (v := x6_15) (lv' := [(6, .int x6_15), (5, .int r_9), (4, .int r_7), (3, .int x6_4), (9, .int v_10), (0, .ref (a 0)), (1, .ref (a (7 + 2 * d1))), (2, .ref (a (7 + 2 * d2))), (7, .int r_7), (8, .int r_9)]) hx hb dX11_oneMoreSize_86 hl (k := 7) rfl (by rw [ex6_15]; rfl) (by decide) rfl (fun ls hl => ?_)
              refine lv_goto (tgt := 11) hx hb dX11_oneMoreSize_89 (by decide) ?_
              exact ih1 x6_4 r_7 r_9 x6_15 _ _ ls h hP hS (lv_sub hl [5, 6, 7, 3, 2, 1, 0] rfl)
        obtain ⟨J59, eJ59, h⟩ := jn_e h
        have hJ59 : ∀ (_ : Unit) (H : Heap) (locs : List Loc) (ls : Array Slot), J59 () = some r → va_P D vwCl (wX ca a σ) H → va_S (AW 37 a) s.heap H locs → lv_has ls 10 [(0, .ref (a 0)), (1, .ref (a (7 + 2 * d1))), (2, .ref (a (7 + 2 * d2))), (3, .int x3_1), (4, .int x4_2), (5, .int x5_3), (6, .int x6_4), (7, .int r_7), (8, .int r_9)] → W p l e rm_X11_oneMoreSize s m args below meth c H locs 0 0 Q (F0 m 59 ls []) := by
          intro _ H locs ls h hP hS hl
          have h := ap1 eJ59 h
          refine lv_iconst (v := 1) hx hb dX11_oneMoreSize_59 (by decide) ?_
          refine lv_goto (tgt := 64) hx hb dX11_oneMoreSize_60 (by decide) ?_
          exact hJ64 1 _ _ ls h hP hS (lv_sub hl [0, 1, 2, 3, 4, 5, 6, 7, 8] rfl)
        refine lv_icmp_lt (tgt := 59) hx hb dX11_oneMoreSize_42 (by decide) (fun c_16 => ?_) (fun c_16 => ?_)
        · have h := it c_16 h
          exact hJ59 () _ _ ls h hP hS (lv_sub hl [2, 3, 4, 5, 6, 7, 8, 1, 0] rfl)
        · have h := ie c_16 h
          refine lv_iload hx hb dX11_oneMoreSize_45 (lv_at hl 1 rfl) ?_
          refine lv_iload hx hb dX11_oneMoreSize_47 (lv_at hl 6 rfl) ?_
          obtain ⟨J63, eJ63, h⟩ := jn_e h
          have hJ63 : ∀ (_ : Unit) (H : Heap) (locs : List Loc) (ls : Array Slot), J63 () = some r → va_P D vwCl (wX ca a σ) H → va_S (AW 37 a) s.heap H locs → lv_has ls 10 [(0, .ref (a 0)), (1, .ref (a (7 + 2 * d1))), (2, .ref (a (7 + 2 * d2))), (3, .int x3_1), (4, .int x4_2), (5, .int x5_3), (6, .int x6_4), (7, .int r_7), (8, .int r_9)] → W p l e rm_X11_oneMoreSize s m args below meth c H locs 0 0 Q (F0 m 63 ls []) := by
            intro _ H locs ls h hP hS hl
            have h := ap1 eJ63 h
            refine lv_iconst (v := 0) hx hb dX11_oneMoreSize_63 (by decide) ?_
            exact hJ64 0 _ _ ls h hP hS (lv_sub hl [0, 1, 2, 3, 4, 5, 6, 7, 8] rfl)
          refine lv_icmp_ne (tgt := 63) hx hb dX11_oneMoreSize_49 (by decide) (fun c_17 => ?_) (fun c_17 => ?_)
          · have h := ie c_17 h
            exact hJ63 () _ _ ls h hP hS (lv_sub hl [2, 3, 4, 5, 6, 7, 8, 1, 0] rfl)
          · have h := it c_17 h
            refine lv_iload hx hb dX11_oneMoreSize_52 (lv_at hl 0 rfl) ?_
            refine lv_iload hx hb dX11_oneMoreSize_54 (lv_at hl 7 rfl) ?_
            refine lv_icmp_ge (tgt := 63) hx hb dX11_oneMoreSize_56 (by decide) (fun c_18 => ?_) (fun c_18 => ?_)
            · have h := it c_18 h
              exact hJ63 () _ _ ls h hP hS (lv_sub hl [2, 3, 4, 5, 6, 7, 8, 1, 0] rfl)
            · have h := ie c_18 h
              exact hJ59 () _ _ ls h hP hS (lv_sub hl [2, 3, 4, 5, 6, 7, 8, 1, 0] rfl)
  exact hL1 5000 0 0 0 1 _ _ ls h hP hS (lv_sub hl [4, 5, 6, 3, 2, 1, 0] rfl)
def f_X11_sizes (p1 : Int32) (p2 : Int32) (p3 : Int32) (σ : Mem) : Option (Int32) :=
  b1 (f_X11_isShelf p1) fun r_2 =>
  if r_2 = 0 then
    some (-1)
  else
    b1 (f_X11_isShelf p2) fun r_5 =>
    if r_5 = 0 then
      some (-1)
    else
      b1 (f_X11_within p3 0 2) fun r_8 =>
      if r_8 = 0 then
        some (-1)
      else
        b1 (f_X11_lengthsRefusal p1 6 σ) fun r_11 =>
        jn (fun (x4_12 : Int32) =>
          if x4_12 = 0 then
            b1 (f_X11_shelfAt p1) fun r_15 =>
            if r_15 < 9 then
              b1 (f_X11_shelfAt p2) fun r_18 =>
              if r_18 < 9 then
                if p3 = 0 then
                  b1 (f_X11_girlsWithoutSize r_15 0 r_18 σ) fun r_22 =>
                  some r_22
                else
                  if p3 = 1 then
                    b1 (f_X11_spareOfSizes r_15 0 r_18 σ) fun r_25 =>
                    some r_25
                  else
                    b1 (f_X11_oneMoreSize r_15 r_18 σ) fun r_27 =>
                    some r_27
              else none
            else none
          else
            some x4_12) fun J48 =>
        if r_11 = 0 then
          b1 (f_X11_lengthsRefusal p2 20 σ) fun r_30 =>
          J48 r_30
        else
          J48 r_11
def rm_X11_sizes : Room := { frames := 4, cells := 0, slots := 0, locals := 102 }
set_option maxHeartbeats 4000000 in
set_option maxRecDepth 100000 in
theorem c_X11_sizes {l : Launch} {D : va_G} {ca : Nat → ClassId} {a : Nat → Nat} (hI : InjN 37 a) {p1 : Int32} {p2 : Int32} {p3 : Int32} {σ : Mem} {r : Int32}  (h : f_X11_sizes p1 p2 p3 σ = some r) : XMX l D ca a Bt yX11_sizes cX11_sizes 7 (some .int) rm_X11_sizes [.ref (a 0), .int p1, .int p2, .int p3] σ (some (.int r)) σ := by
  refine XM.of pn_X11 (Nat.le_of_ble_eq_true rfl) ?_
  intro p e s m args below meth c ls Q hQ C0 hK hB hP hS hl
  have C0 : Cx p s m args meth c RX11 cX11_sizes 7 (some .int) := C0
  have hx := C0.1
  have hb := C0.2.1
  have hl : lv_has ls 7 [(0, .ref (a 0)), (1, .int p1), (2, .int p2), (3, .int p3)] := hl
  rw [f_X11_sizes] at h
  refine lv_iload_n hx hb dX11_sizes_0 rfl (lv_at hl 1 rfl) ?_
  obtain ⟨r_2, h_1, h⟩ := b1_e h
  refine xcall (rS C0 hK hP hl.1 (fun _ _ _ => trivial) Bt_b (c_X11_isShelf hI h_1) cs_X11_isShelf tw269 (rest := []) rfl (Nat.le_of_ble_eq_true rfl) ⟨rfl, rfl, Nat.le_of_ble_eq_true rfl, Nat.le_of_ble_eq_true rfl⟩ ⟨Nat.zero_le _, Nat.zero_le _⟩ dX11_sizes_1) hS (fun H locs hP hS => ?_)
  refine lv_if_eq (tgt := 23) hx hb dX11_sizes_4 (by decide) (fun c_3 => ?_) (fun c_3 => ?_)
  · have h := it c_3 h
    refine lv_iconst (v := (-1)) hx hb dX11_sizes_23 (by decide) ?_
    rw [hQ]
    exact xzretr C0 hP hS rfl h dX11_sizes_24
  · have h := ie c_3 h
    refine lv_iload_n hx hb dX11_sizes_7 rfl (lv_at hl 2 rfl) ?_
    obtain ⟨r_5, h_4, h⟩ := b1_e h
    refine xcall (rS C0 hK hP hl.1 (fun _ _ _ => trivial) Bt_b (c_X11_isShelf hI h_4) cs_X11_isShelf tw269 (rest := []) rfl (Nat.le_of_ble_eq_true rfl) ⟨rfl, rfl, Nat.le_of_ble_eq_true rfl, Nat.le_of_ble_eq_true rfl⟩ ⟨Nat.zero_le _, Nat.zero_le _⟩ dX11_sizes_8) hS (fun H locs hP hS => ?_)
    refine lv_if_eq (tgt := 23) hx hb dX11_sizes_11 (by decide) (fun c_6 => ?_) (fun c_6 => ?_)
    · have h := it c_6 h
      refine lv_iconst (v := (-1)) hx hb dX11_sizes_23 (by decide) ?_
      rw [hQ]
      exact xzretr C0 hP hS rfl h dX11_sizes_24
    · have h := ie c_6 h
      refine lv_iload_n hx hb dX11_sizes_14 rfl (lv_at hl 3 rfl) ?_
      refine lv_iconst (v := 0) hx hb dX11_sizes_15 (by decide) ?_
      refine lv_iconst (v := 2) hx hb dX11_sizes_16 (by decide) ?_
      obtain ⟨r_8, h_7, h⟩ := b1_e h
      refine xcall (rS C0 hK hP hl.1 (fun _ _ _ => trivial) Bt_b (c_X11_within hI h_7) cs_X11_within tw272 (rest := []) rfl (Nat.le_of_ble_eq_true rfl) ⟨rfl, rfl, Nat.le_of_ble_eq_true rfl, Nat.le_of_ble_eq_true rfl⟩ ⟨Nat.zero_le _, Nat.zero_le _⟩ dX11_sizes_17) hS (fun H locs hP hS => ?_)
      refine lv_if_ne (tgt := 25) hx hb dX11_sizes_20 (by decide) (fun c_9 => ?_) (fun c_9 => ?_)
      · have h := ie c_9 h
        refine lv_aload_n hx hb dX11_sizes_25 rfl (lv_at hl 0 rfl) ?_
        refine lv_iload_n hx hb dX11_sizes_26 rfl (lv_at hl 1 rfl) ?_
        refine lv_bipush (v := 6) hx hb dX11_sizes_27 (by decide) ?_
        obtain ⟨r_11, h_10, h⟩ := b1_e h
        refine xcall (rV C0 hK hP hl.1 (fun _ _ _ => trivial) Bt_b (c_X11_lengthsRefusal hI h_10) cv_X11_lengthsRefusal tw679 (rcX11 hK hP) (rest := []) rfl (Nat.le_of_ble_eq_true rfl) ⟨rfl, rfl, Nat.le_of_ble_eq_true rfl, Nat.le_of_ble_eq_true rfl⟩ ⟨Nat.zero_le _, Nat.zero_le _⟩ dX11_sizes_29) hS (fun H locs hP hS => ?_)
        refine lv_istore (lv' := [(4, .int r_11), (0, .ref (a 0)), (1, .int p1), (2, .int p2), (3, .int p3)]) hx hb dX11_sizes_32 hl (by decide) rfl (fun ls hl => ?_)
        refine lv_iload hx hb dX11_sizes_34 (lv_at hl 0 rfl) ?_
        obtain ⟨J48, eJ48, h⟩ := jn_e h
        have hJ48 : ∀ (x4_12 : Int32) (H : Heap) (locs : List Loc) (ls : Array Slot), J48 x4_12 = some r → va_P D vwCl (wX ca a σ) H → va_S (AW 37 a) s.heap H locs → lv_has ls 7 [(0, .ref (a 0)), (1, .int p1), (2, .int p2), (3, .int p3), (4, .int x4_12)] → W p l e rm_X11_sizes s m args below meth c H locs 0 0 Q (F0 m 48 ls []) := by
          intro x4_12 H locs ls h hP hS hl
          have h := ap1 eJ48 h
          refine lv_iload hx hb dX11_sizes_48 (lv_at hl 4 rfl) ?_
          refine lv_if_eq (tgt := 56) hx hb dX11_sizes_50 (by decide) (fun c_13 => ?_) (fun c_13 => ?_)
          · have h := it c_13 h
            refine lv_aload_n hx hb dX11_sizes_56 rfl (lv_at hl 0 rfl) ?_
            refine lv_iload_n hx hb dX11_sizes_57 rfl (lv_at hl 1 rfl) ?_
            obtain ⟨r_15, h_14, h⟩ := b1_e h
            refine xcall (rV C0 hK hP hl.1 (fun _ _ _ => trivial) Bt_b (c_X11_shelfAt hI h_14) cv_X11_shelfAt tw275 (rcX11 hK hP) (rest := []) rfl (Nat.le_of_ble_eq_true rfl) ⟨rfl, rfl, Nat.le_of_ble_eq_true rfl, Nat.le_of_ble_eq_true rfl⟩ ⟨Nat.zero_le _, Nat.zero_le _⟩ dX11_sizes_58) hS (fun H locs hP hS => ?_)
            obtain ⟨hk_16, h⟩ := asr h
            refine lv_astore (lv' := [(5, .ref (a (7 + 2 * r_15))), (0, .ref (a 0)), (1, .int p1), (2, .int p2), (3, .int p3), (4, .int x4_12)]) hx hb dX11_sizes_61 hl (by decide) rfl (fun ls hl => ?_)
            refine lv_aload_n hx hb dX11_sizes_63 rfl (lv_at hl 1 rfl) ?_
            refine lv_iload_n hx hb dX11_sizes_64 rfl (lv_at hl 3 rfl) ?_
            obtain ⟨r_18, h_17, h⟩ := b1_e h
            refine xcall (rV C0 hK hP hl.1 (fun _ _ _ => trivial) Bt_b (c_X11_shelfAt hI h_17) cv_X11_shelfAt tw275 (rcX11 hK hP) (rest := []) rfl (Nat.le_of_ble_eq_true rfl) ⟨rfl, rfl, Nat.le_of_ble_eq_true rfl, Nat.le_of_ble_eq_true rfl⟩ ⟨Nat.zero_le _, Nat.zero_le _⟩ dX11_sizes_65) hS (fun H locs hP hS => ?_)
            obtain ⟨hk_19, h⟩ := asr h
            refine lv_astore (lv' := [(6, .ref (a (7 + 2 * r_18))), (5, .ref (a (7 + 2 * r_15))), (0, .ref (a 0)), (1, .int p1), (2, .int p2), (3, .int p3), (4, .int x4_12)]) hx hb dX11_sizes_68 hl (by decide) rfl (fun ls hl => ?_)
            refine lv_iload_n hx hb dX11_sizes_70 rfl (lv_at hl 5 rfl) ?_
            by_cases c_20 : p3 = 0
            · have h := it c_20 h
              refine lv_lookup (off := 25) (tgt := 96) hx hb dX11_sizes_71 (by decide) (by rw [c_20]; rfl) (by decide) ?_
              refine lv_aload_n hx hb dX11_sizes_96 rfl (lv_at hl 2 rfl) ?_
              refine lv_aload hx hb dX11_sizes_97 (lv_at hl 1 rfl) ?_
              refine lv_iconst (v := 0) hx hb dX11_sizes_99 (by decide) ?_
              refine lv_aload hx hb dX11_sizes_100 (lv_at hl 0 rfl) ?_
              obtain ⟨r_22, h_21, h⟩ := b1_e h
              refine xcall (rV C0 hK hP hl.1 (fun _ _ _ => trivial) Bt_b (c_X11_girlsWithoutSize hI hk_16 hk_19 h_21) cv_X11_girlsWithoutSize tw686 (rcX11 hK hP) (rest := []) rfl (Nat.le_of_ble_eq_true rfl) ⟨rfl, rfl, Nat.le_of_ble_eq_true rfl, Nat.le_of_ble_eq_true rfl⟩ ⟨Nat.zero_le _, Nat.zero_le _⟩ dX11_sizes_102) hS (fun H locs hP hS => ?_)
              rw [hQ]
              exact xzretr C0 hP hS rfl h dX11_sizes_105
            · have h := ie c_20 h
              by_cases c_23 : p3 = 1
              · have h := it c_23 h
                refine lv_lookup (off := 35) (tgt := 106) hx hb dX11_sizes_71 (by decide) (by rw [c_23]; rfl) (by decide) ?_
                refine lv_aload_n hx hb dX11_sizes_106 rfl (lv_at hl 2 rfl) ?_
                refine lv_aload hx hb dX11_sizes_107 (lv_at hl 1 rfl) ?_
                refine lv_iconst (v := 0) hx hb dX11_sizes_109 (by decide) ?_
                refine lv_aload hx hb dX11_sizes_110 (lv_at hl 0 rfl) ?_
                obtain ⟨r_25, h_24, h⟩ := b1_e h
                refine xcall (rV C0 hK hP hl.1 (fun _ _ _ => trivial) Bt_b (c_X11_spareOfSizes hI hk_16 hk_19 h_24) cv_X11_spareOfSizes tw693 (rcX11 hK hP) (rest := []) rfl (Nat.le_of_ble_eq_true rfl) ⟨rfl, rfl, Nat.le_of_ble_eq_true rfl, Nat.le_of_ble_eq_true rfl⟩ ⟨Nat.zero_le _, Nat.zero_le _⟩ dX11_sizes_112) hS (fun H locs hP hS => ?_)
                rw [hQ]
                exact xzretr C0 hP hS rfl h dX11_sizes_115
              · have h := ie c_23 h
                refine lv_lookup (off := 45) (tgt := 116) hx hb dX11_sizes_71 (by decide) (by have z0 := Ne.symm (sw_ne (k := 0) (by decide) c_20); have z1 := Ne.symm (sw_ne (k := 1) (by decide) c_23); simp [Op.lookupswitch.offset, z0, z1]) (by decide) ?_
                refine lv_aload_n hx hb dX11_sizes_116 rfl (lv_at hl 2 rfl) ?_
                refine lv_aload hx hb dX11_sizes_117 (lv_at hl 1 rfl) ?_
                refine lv_aload hx hb dX11_sizes_119 (lv_at hl 0 rfl) ?_
                obtain ⟨r_27, h_26, h⟩ := b1_e h
                refine xcall (rV C0 hK hP hl.1 (fun _ _ _ => trivial) Bt_b (c_X11_oneMoreSize hI hk_16 hk_19 h_26) cv_X11_oneMoreSize tw697 (rcX11 hK hP) (rest := []) rfl (Nat.le_of_ble_eq_true rfl) ⟨rfl, rfl, Nat.le_of_ble_eq_true rfl, Nat.le_of_ble_eq_true rfl⟩ ⟨Nat.zero_le _, Nat.zero_le _⟩ dX11_sizes_121) hS (fun H locs hP hS => ?_)
                rw [hQ]
                exact xzretr C0 hP hS rfl h dX11_sizes_124
          · have h := ie c_13 h
            refine lv_iload hx hb dX11_sizes_53 (lv_at hl 4 rfl) ?_
            rw [hQ]
            exact xzretr C0 hP hS rfl h dX11_sizes_55
        refine lv_if_ne (tgt := 48) hx hb dX11_sizes_36 (by decide) (fun c_28 => ?_) (fun c_28 => ?_)
        · have h := ie c_28 h
          exact hJ48 r_11 _ _ ls h hP hS (lv_sub hl [1, 2, 3, 4, 0] rfl)
        · have h := it c_28 h
          refine lv_aload_n hx hb dX11_sizes_39 rfl (lv_at hl 1 rfl) ?_
          refine lv_iload_n hx hb dX11_sizes_40 rfl (lv_at hl 3 rfl) ?_
          refine lv_bipush (v := 20) hx hb dX11_sizes_41 (by decide) ?_
          obtain ⟨r_30, h_29, h⟩ := b1_e h
          refine xcall (rV C0 hK hP hl.1 (fun _ _ _ => trivial) Bt_b (c_X11_lengthsRefusal hI h_29) cv_X11_lengthsRefusal tw679 (rcX11 hK hP) (rest := []) rfl (Nat.le_of_ble_eq_true rfl) ⟨rfl, rfl, Nat.le_of_ble_eq_true rfl, Nat.le_of_ble_eq_true rfl⟩ ⟨Nat.zero_le _, Nat.zero_le _⟩ dX11_sizes_43) hS (fun H locs hP hS => ?_)
          refine lv_istore (lv' := [(4, .int r_30), (0, .ref (a 0)), (1, .int p1), (2, .int p2), (3, .int p3)]) hx hb dX11_sizes_46 hl (by decide) rfl (fun ls hl => ?_)
          exact hJ48 r_30 _ _ ls h hP hS (lv_sub hl [1, 2, 3, 4, 0] rfl)
      · have h := it c_9 h
        refine lv_iconst (v := (-1)) hx hb dX11_sizes_23 (by decide) ?_
        rw [hQ]
        exact xzretr C0 hP hS rfl h dX11_sizes_24
def f_X11_tightestSource_L9 (p1 : Int32) (p2 : Int32) (σ : Mem) : Nat → Int32 → Int32 → Int32 → (Int32 → Int32 → Int32 → Option (Int32)) → Option (Int32)
  | 0, _, _, _, _ => none
  | n + 1, x3_1, x4_2, x5_3, K1 =>
    if (σ (1 + 2 * 0) 1) ≤ x5_3 then
      K1 x3_1 x4_2 x5_3
    else
      b1 (f_X0_get 0 x5_3 1 σ) fun r_6 =>
      b1 (f_X0_get 0 x5_3 2 σ) fun r_8 =>
      bnd (r_6 + r_8) fun (x6_9 : Int32) =>
      jn (fun (v_10 : Int32) =>
        if v_10 = 0 then
          bnd (x5_3 + 1) fun (x5_12 : Int32) =>
          f_X11_tightestSource_L9 p1 p2 σ n x3_1 x4_2 x5_12 K1
        else
          if x6_9 < p1 then
            bnd (x5_3 + 1) fun (x5_14 : Int32) =>
            f_X11_tightestSource_L9 p1 p2 σ n x3_1 x4_2 x5_14 K1
          else
            if x3_1 = (-4) then
              bnd (x5_3 + 1) fun (x5_16 : Int32) =>
              f_X11_tightestSource_L9 p1 p2 σ n x5_3 x6_9 x5_16 K1
            else
              if x4_2 ≤ x6_9 then
                bnd (x5_3 + 1) fun (x5_18 : Int32) =>
                f_X11_tightestSource_L9 p1 p2 σ n x3_1 x4_2 x5_18 K1
              else
                bnd (x5_3 + 1) fun (x5_19 : Int32) =>
                f_X11_tightestSource_L9 p1 p2 σ n x5_3 x6_9 x5_19 K1) fun J58 =>
      if ((p2 >>> (x5_3 &&& 31)) &&& 1) = 0 then
        J58 1
      else
        J58 0
def f_X11_tightestSource (p1 : Int32) (p2 : Int32) (σ : Mem) : Option (Int32) :=
  f_X11_tightestSource_L9 p1 p2 σ 5000 (-4) 0 0 fun (x3_21 : Int32) (u_22 : Int32) (u_23 : Int32) =>
    some x3_21
def rm_X11_tightestSource : Room := { frames := 1, cells := 0, slots := 0, locals := 23 }
set_option maxHeartbeats 4000000 in
set_option maxRecDepth 100000 in
theorem c_X11_tightestSource {l : Launch} {D : va_G} {ca : Nat → ClassId} {a : Nat → Nat} (hI : InjN 37 a) {p1 : Int32} {p2 : Int32} {σ : Mem} {r : Int32}  (h : f_X11_tightestSource p1 p2 σ = some r) : XMX l D ca a Bt yX11_tightestSource cX11_tightestSource 8 (some .int) rm_X11_tightestSource [.ref (a 0), .int p1, .int p2] σ (some (.int r)) σ := by
  refine XM.of pn_X11 (Nat.le_of_ble_eq_true rfl) ?_
  intro p e s m args below meth c ls Q hQ C0 hK hB hP hS hl
  have C0 : Cx p s m args meth c RX11 cX11_tightestSource 8 (some .int) := C0
  have hx := C0.1
  have hb := C0.2.1
  have hl : lv_has ls 8 [(0, .ref (a 0)), (1, .int p1), (2, .int p2)] := hl
  rw [f_X11_tightestSource] at h
  refine lv_bipush (v := (-4)) hx hb dX11_tightestSource_0 (by decide) ?_
  refine lv_istore_n (lv' := [(3, .int (-4)), (0, .ref (a 0)), (1, .int p1), (2, .int p2)]) hx hb dX11_tightestSource_2 rfl hl (by decide) rfl (fun ls hl => ?_)
  refine lv_iconst (v := 0) hx hb dX11_tightestSource_3 (by decide) ?_
  refine lv_istore (lv' := [(4, .int 0), (3, .int (-4)), (0, .ref (a 0)), (1, .int p1), (2, .int p2)]) hx hb dX11_tightestSource_4 hl (by decide) rfl (fun ls hl => ?_)
  refine lv_iconst (v := 0) hx hb dX11_tightestSource_6 (by decide) ?_
  refine lv_istore (lv' := [(5, .int 0), (4, .int 0), (3, .int (-4)), (0, .ref (a 0)), (1, .int p1), (2, .int p2)]) hx hb dX11_tightestSource_7 hl (by decide) rfl (fun ls hl => ?_)
  obtain ⟨K1, eK1, h⟩ := lp_e (f := fun K => f_X11_tightestSource_L9 p1 p2 σ 5000 (-4) 0 0 K) h
  have h : f_X11_tightestSource_L9 p1 p2 σ 5000 (-4) 0 0 K1 = some r := h
  have hX1 : ∀ (x3_21 : Int32) (u_22 : Int32) (u_23 : Int32) (H : Heap) (locs : List Loc) (ls : Array Slot), K1 x3_21 u_22 u_23 = some r → va_P D vwCl (wX ca a σ) H → va_S (AW 37 a) s.heap H locs → lv_has ls 8 [(3, .int x3_21)] → W p l e rm_X11_tightestSource s m args below meth c H locs 0 0 Q (F0 m 97 ls []) := by
    intro x3_21 u_22 u_23 H locs ls h hP hS hl
    have h := ap3 eK1 h
    refine lv_iload_n hx hb dX11_tightestSource_97 rfl (lv_at hl 0 rfl) ?_
    rw [hQ]
    exact xzretr C0 hP hS rfl h dX11_tightestSource_98
  have hL1 : ∀ (n : Nat) (x3_1 : Int32) (x4_2 : Int32) (x5_3 : Int32) (H : Heap) (locs : List Loc) (ls : Array Slot), f_X11_tightestSource_L9 p1 p2 σ n x3_1 x4_2 x5_3 K1 = some r → va_P D vwCl (wX ca a σ) H → va_S (AW 37 a) s.heap H locs → lv_has ls 8 [(0, .ref (a 0)), (1, .int p1), (2, .int p2), (3, .int x3_1), (4, .int x4_2), (5, .int x5_3)] → W p l e rm_X11_tightestSource s m args below meth c H locs 0 0 Q (F0 m 9 ls []) := by
    intro n
    induction n with
    | zero => intro x3_1 x4_2 x5_3 H locs ls h; rw [f_X11_tightestSource_L9] at h; cases h
    | succ n ih1 =>
      intro x3_1 x4_2 x5_3 H locs ls h hP hS hl
      rw [f_X11_tightestSource_L9] at h
      refine lv_iload hx hb dX11_tightestSource_9 (lv_at hl 5 rfl) ?_
      refine lv_aload_n hx hb dX11_tightestSource_11 rfl (lv_at hl 0 rfl) ?_
      refine gX11_0 C0 hK hP tw233 dX11_tightestSource_12 ?_
      refine gX0_1N C0 hK hP (by decide) tw100 dX11_tightestSource_15 ?_
      refine lv_icmp_ge (tgt := 97) hx hb dX11_tightestSource_18 (by decide) (fun c_4 => ?_) (fun c_4 => ?_)
      · have h := it c_4 h
        exact hX1 x3_1 x4_2 x5_3 _ _ ls h hP hS (lv_sub hl [3] rfl)
      · have h := ie c_4 h
        refine lv_aload_n hx hb dX11_tightestSource_21 rfl (lv_at hl 0 rfl) ?_
        refine gX11_0 C0 hK hP tw233 dX11_tightestSource_22 ?_
        refine lv_iload hx hb dX11_tightestSource_25 (lv_at hl 5 rfl) ?_
        refine lv_iconst (v := 1) hx hb dX11_tightestSource_27 (by decide) ?_
        obtain ⟨r_6, h_5, h⟩ := b1_e h
        refine xcall (rV C0 hK hP hl.1 (fun _ _ _ => trivial) Bt_b (c_X0_get hI (by decide) h_5) cv_X0_get tw534 (rcX0 hK hP (by decide)) (rest := []) rfl (Nat.le_of_ble_eq_true rfl) ⟨rfl, rfl, Nat.le_of_ble_eq_true rfl, Nat.le_of_ble_eq_true rfl⟩ ⟨Nat.zero_le _, Nat.zero_le _⟩ dX11_tightestSource_28) hS (fun H locs hP hS => ?_)
        refine lv_aload_n hx hb dX11_tightestSource_31 rfl (lv_at hl 0 rfl) ?_
        refine gX11_0 C0 hK hP tw233 dX11_tightestSource_32 ?_
        refine lv_iload hx hb dX11_tightestSource_35 (lv_at hl 5 rfl) ?_
        refine lv_iconst (v := 2) hx hb dX11_tightestSource_37 (by decide) ?_
        obtain ⟨r_8, h_7, h⟩ := b1_e h
        refine xcall (rV C0 hK hP hl.1 (fun _ _ _ => trivial) Bt_b (c_X0_get hI (by decide) h_7) cv_X0_get tw534 (rcX0 hK hP (by decide)) (rest := [.int r_6]) rfl (Nat.le_of_ble_eq_true rfl) ⟨rfl, rfl, Nat.le_of_ble_eq_true rfl, Nat.le_of_ble_eq_true rfl⟩ ⟨Nat.zero_le _, Nat.zero_le _⟩ dX11_tightestSource_38) hS (fun H locs hP hS => ?_)
        refine lv_iadd hx hb dX11_tightestSource_41 ?_
        obtain ⟨x6_9, ex6_9, h⟩ := bnd_e h
        refine nm_i ex6_9 ?_
        refine lv_istore (lv' := [(6, .int x6_9), (0, .ref (a 0)), (1, .int p1), (2, .int p2), (3, .int x3_1), (4, .int x4_2), (5, .int x5_3)]) hx hb dX11_tightestSource_42 hl (by decide) rfl (fun ls hl => ?_)
        refine lv_iload_n hx hb dX11_tightestSource_44 rfl (lv_at hl 3 rfl) ?_
        refine lv_iload hx hb dX11_tightestSource_45 (lv_at hl 6 rfl) ?_
        refine lv_ishr hx hb dX11_tightestSource_47 ?_
        refine lv_iconst (v := 1) hx hb dX11_tightestSource_48 (by decide) ?_
        refine lv_iand hx hb dX11_tightestSource_49 ?_
        obtain ⟨J58, eJ58, h⟩ := jn_e h
        have hJ58 : ∀ (v_10 : Int32) (H : Heap) (locs : List Loc) (ls : Array Slot), J58 v_10 = some r → va_P D vwCl (wX ca a σ) H → va_S (AW 37 a) s.heap H locs → lv_has ls 8 [(0, .ref (a 0)), (1, .int p1), (2, .int p2), (3, .int x3_1), (4, .int x4_2), (5, .int x5_3), (6, .int x6_9)] → W p l e rm_X11_tightestSource s m args below meth c H locs 0 0 Q (F0 m 58 ls [.int v_10]) := by
          intro v_10 H locs ls h hP hS hl
          have h := ap1 eJ58 h
          refine lv_istore (lv' := [(7, .int v_10), (0, .ref (a 0)), (1, .int p1), (2, .int p2), (3, .int x3_1), (4, .int x4_2), (5, .int x5_3), (6, .int x6_9)]) hx hb dX11_tightestSource_58 hl (by decide) rfl (fun ls hl => ?_)
          refine lv_iload hx hb dX11_tightestSource_60 (lv_at hl 0 rfl) ?_
          refine lv_if_eq (tgt := 91) hx hb dX11_tightestSource_62 (by decide) (fun c_11 => ?_) (fun c_11 => ?_)
          · have h := it c_11 h
            obtain ⟨x5_12, ex5_12, h⟩ := bnd_e h
            refine lv_iinc (v := x5_12) (lv' := [(5, .int x5_12), (7, .int v_10), (0, .ref (a 0)), (1, .int p1), (2, .int p2), (3, .int x3_1), (4, .int x4_2), (6, .int x6_9)]) hx hb dX11_tightestSource_91 hl (k := 6) rfl (by rw [ex5_12]; rfl) (by decide) rfl (fun ls hl => ?_)
            refine lv_goto (tgt := 9) hx hb dX11_tightestSource_94 (by decide) ?_
            exact ih1 x3_1 x4_2 x5_12 _ _ ls h hP hS (lv_sub hl [2, 3, 4, 5, 6, 0] rfl)
          · have h := ie c_11 h
            refine lv_iload hx hb dX11_tightestSource_65 (lv_at hl 7 rfl) ?_
            refine lv_iload_n hx hb dX11_tightestSource_67 rfl (lv_at hl 2 rfl) ?_
            refine lv_icmp_lt (tgt := 91) hx hb dX11_tightestSource_68 (by decide) (fun c_13 => ?_) (fun c_13 => ?_)
            · have h := it c_13 h
              obtain ⟨x5_14, ex5_14, h⟩ := bnd_e h
              refine lv_iinc (v := x5_14) (lv' := [(5, .int x5_14), (7, .int v_10), (0, .ref (a 0)), (1, .int p1), (2, .int p2), (3, .int x3_1), (4, .int x4_2), (6, .int x6_9)]) hx hb dX11_tightestSource_91 hl (k := 6) rfl (by rw [ex5_14]; rfl) (by decide) rfl (fun ls hl => ?_)
              refine lv_goto (tgt := 9) hx hb dX11_tightestSource_94 (by decide) ?_
              exact ih1 x3_1 x4_2 x5_14 _ _ ls h hP hS (lv_sub hl [2, 3, 4, 5, 6, 0] rfl)
            · have h := ie c_13 h
              refine lv_iload_n hx hb dX11_tightestSource_71 rfl (lv_at hl 4 rfl) ?_
              refine lv_bipush (v := (-4)) hx hb dX11_tightestSource_72 (by decide) ?_
              refine lv_icmp_eq (tgt := 84) hx hb dX11_tightestSource_74 (by decide) (fun c_15 => ?_) (fun c_15 => ?_)
              · have h := it c_15 h
                refine lv_iload hx hb dX11_tightestSource_84 (lv_at hl 6 rfl) ?_
                refine lv_istore_n (lv' := [(3, .int x5_3), (7, .int v_10), (0, .ref (a 0)), (1, .int p1), (2, .int p2), (4, .int x4_2), (5, .int x5_3), (6, .int x6_9)]) hx hb dX11_tightestSource_86 rfl hl (by decide) rfl (fun ls hl => ?_)
                refine lv_iload hx hb dX11_tightestSource_87 (lv_at hl 7 rfl) ?_
                refine lv_istore (lv' := [(4, .int x6_9), (3, .int x5_3), (7, .int v_10), (0, .ref (a 0)), (1, .int p1), (2, .int p2), (5, .int x5_3), (6, .int x6_9)]) hx hb dX11_tightestSource_89 hl (by decide) rfl (fun ls hl => ?_)
                obtain ⟨x5_16, ex5_16, h⟩ := bnd_e h
                refine lv_iinc (v := x5_16) (lv' := [(5, .int x5_16), (4, .int x6_9), (3, .int x5_3), (7, .int v_10), (0, .ref (a 0)), (1, .int p1), (2, .int p2), (6, .int x6_9)]) hx hb dX11_tightestSource_91 hl (k := 6) rfl (by rw [ex5_16]; rfl) (by decide) rfl (fun ls hl => ?_)
                refine lv_goto (tgt := 9) hx hb dX11_tightestSource_94 (by decide) ?_
                exact ih1 x5_3 x6_9 x5_16 _ _ ls h hP hS (lv_sub hl [4, 5, 6, 2, 1, 0] rfl)
              · have h := ie c_15 h
                refine lv_iload hx hb dX11_tightestSource_77 (lv_at hl 7 rfl) ?_
                refine lv_iload hx hb dX11_tightestSource_79 (lv_at hl 5 rfl) ?_
                refine lv_icmp_ge (tgt := 91) hx hb dX11_tightestSource_81 (by decide) (fun c_17 => ?_) (fun c_17 => ?_)
                · have h := it c_17 h
                  obtain ⟨x5_18, ex5_18, h⟩ := bnd_e h
                  refine lv_iinc (v := x5_18) (lv' := [(5, .int x5_18), (7, .int v_10), (0, .ref (a 0)), (1, .int p1), (2, .int p2), (3, .int x3_1), (4, .int x4_2), (6, .int x6_9)]) hx hb dX11_tightestSource_91 hl (k := 6) rfl (by rw [ex5_18]; rfl) (by decide) rfl (fun ls hl => ?_)
                  refine lv_goto (tgt := 9) hx hb dX11_tightestSource_94 (by decide) ?_
                  exact ih1 x3_1 x4_2 x5_18 _ _ ls h hP hS (lv_sub hl [2, 3, 4, 5, 6, 0] rfl)
                · have h := ie c_17 h
                  refine lv_iload hx hb dX11_tightestSource_84 (lv_at hl 6 rfl) ?_
                  refine lv_istore_n (lv' := [(3, .int x5_3), (7, .int v_10), (0, .ref (a 0)), (1, .int p1), (2, .int p2), (4, .int x4_2), (5, .int x5_3), (6, .int x6_9)]) hx hb dX11_tightestSource_86 rfl hl (by decide) rfl (fun ls hl => ?_)
                  refine lv_iload hx hb dX11_tightestSource_87 (lv_at hl 7 rfl) ?_
                  refine lv_istore (lv' := [(4, .int x6_9), (3, .int x5_3), (7, .int v_10), (0, .ref (a 0)), (1, .int p1), (2, .int p2), (5, .int x5_3), (6, .int x6_9)]) hx hb dX11_tightestSource_89 hl (by decide) rfl (fun ls hl => ?_)
                  obtain ⟨x5_19, ex5_19, h⟩ := bnd_e h
                  refine lv_iinc (v := x5_19) (lv' := [(5, .int x5_19), (4, .int x6_9), (3, .int x5_3), (7, .int v_10), (0, .ref (a 0)), (1, .int p1), (2, .int p2), (6, .int x6_9)]) hx hb dX11_tightestSource_91 hl (k := 6) rfl (by rw [ex5_19]; rfl) (by decide) rfl (fun ls hl => ?_)
                  refine lv_goto (tgt := 9) hx hb dX11_tightestSource_94 (by decide) ?_
                  exact ih1 x5_3 x6_9 x5_19 _ _ ls h hP hS (lv_sub hl [4, 5, 6, 2, 1, 0] rfl)
        refine lv_if_ne (tgt := 57) hx hb dX11_tightestSource_50 (by decide) (fun c_20 => ?_) (fun c_20 => ?_)
        · have h := ie c_20 h
          refine lv_iconst (v := 0) hx hb dX11_tightestSource_57 (by decide) ?_
          exact hJ58 0 _ _ ls h hP hS (lv_sub hl [1, 2, 3, 4, 5, 6, 0] rfl)
        · have h := it c_20 h
          refine lv_iconst (v := 1) hx hb dX11_tightestSource_53 (by decide) ?_
          refine lv_goto (tgt := 58) hx hb dX11_tightestSource_54 (by decide) ?_
          exact hJ58 1 _ _ ls h hP hS (lv_sub hl [1, 2, 3, 4, 5, 6, 0] rfl)
  exact hL1 5000 (-4) 0 0 _ _ ls h hP hS (lv_sub hl [3, 4, 5, 2, 1, 0] rfl)
def f_X11_old_L29 (σ : Mem) (r_5 : Nat) : Nat → Int32 → Int32 → Int32 → (Int32 → Int32 → Int32 → Option (Int32)) → Option (Int32)
  | 0, _, _, _, _ => none
  | n + 1, x4_7, x5_8, x6_9, K1 =>
    if (σ (7 + 2 * r_5) 5) ≤ x6_9 then
      K1 x4_7 x5_8 x6_9
    else
      b1 (f_X5_at r_5 x6_9 σ) fun r_12 =>
      b1 (f_X11_tightestSource r_12 x4_7 σ) fun r_14 =>
      if r_14 = (-4) then
        bnd (x6_9 + 1) fun (x6_16 : Int32) =>
        f_X11_old_L29 σ r_5 n x4_7 x5_8 x6_16 K1
      else
        bnd (x4_7 ||| (1 <<< (r_14 &&& 31))) fun (x4_17 : Int32) =>
        bnd (x5_8 + 1) fun (x5_18 : Int32) =>
        bnd (x6_9 + 1) fun (x6_19 : Int32) =>
        f_X11_old_L29 σ r_5 n x4_17 x5_18 x6_19 K1
def f_X11_old (p1 : Int32) (σ : Mem) : Option (Int32) :=
  b1 (f_X11_lengthsRefusal p1 6 σ) fun r_2 =>
  if r_2 = 0 then
    b1 (f_X11_shelfAt p1) fun r_5 =>
    if r_5 < 9 then
      f_X11_old_L29 σ r_5 5000 0 0 0 fun (u_21 : Int32) (x5_20 : Int32) (u_22 : Int32) =>
        some x5_20
    else none
  else
    some r_2
def rm_X11_old : Room := { frames := 4, cells := 0, slots := 0, locals := 89 }
set_option maxHeartbeats 4000000 in
set_option maxRecDepth 100000 in
theorem c_X11_old {l : Launch} {D : va_G} {ca : Nat → ClassId} {a : Nat → Nat} (hI : InjN 37 a) {p1 : Int32} {σ : Mem} {r : Int32}  (h : f_X11_old p1 σ = some r) : XMX l D ca a Bt yX11_old cX11_old 8 (some .int) rm_X11_old [.ref (a 0), .int p1] σ (some (.int r)) σ := by
  refine XM.of pn_X11 (Nat.le_of_ble_eq_true rfl) ?_
  intro p e s m args below meth c ls Q hQ C0 hK hB hP hS hl
  have C0 : Cx p s m args meth c RX11 cX11_old 8 (some .int) := C0
  have hx := C0.1
  have hb := C0.2.1
  have hl : lv_has ls 8 [(0, .ref (a 0)), (1, .int p1)] := hl
  rw [f_X11_old] at h
  refine lv_aload_n hx hb dX11_old_0 rfl (lv_at hl 0 rfl) ?_
  refine lv_iload_n hx hb dX11_old_1 rfl (lv_at hl 1 rfl) ?_
  refine lv_bipush (v := 6) hx hb dX11_old_2 (by decide) ?_
  obtain ⟨r_2, h_1, h⟩ := b1_e h
  refine xcall (rV C0 hK hP hl.1 (fun _ _ _ => trivial) Bt_b (c_X11_lengthsRefusal hI h_1) cv_X11_lengthsRefusal tw679 (rcX11 hK hP) (rest := []) rfl (Nat.le_of_ble_eq_true rfl) ⟨rfl, rfl, Nat.le_of_ble_eq_true rfl, Nat.le_of_ble_eq_true rfl⟩ ⟨Nat.zero_le _, Nat.zero_le _⟩ dX11_old_4) hS (fun H locs hP hS => ?_)
  refine lv_istore_n (lv' := [(2, .int r_2), (0, .ref (a 0)), (1, .int p1)]) hx hb dX11_old_7 rfl hl (by decide) rfl (fun ls hl => ?_)
  refine lv_iload_n hx hb dX11_old_8 rfl (lv_at hl 0 rfl) ?_
  refine lv_if_eq (tgt := 14) hx hb dX11_old_9 (by decide) (fun c_3 => ?_) (fun c_3 => ?_)
  · have h := it c_3 h
    refine lv_aload_n hx hb dX11_old_14 rfl (lv_at hl 1 rfl) ?_
    refine lv_iload_n hx hb dX11_old_15 rfl (lv_at hl 2 rfl) ?_
    obtain ⟨r_5, h_4, h⟩ := b1_e h
    refine xcall (rV C0 hK hP hl.1 (fun _ _ _ => trivial) Bt_b (c_X11_shelfAt hI h_4) cv_X11_shelfAt tw275 (rcX11 hK hP) (rest := []) rfl (Nat.le_of_ble_eq_true rfl) ⟨rfl, rfl, Nat.le_of_ble_eq_true rfl, Nat.le_of_ble_eq_true rfl⟩ ⟨Nat.zero_le _, Nat.zero_le _⟩ dX11_old_16) hS (fun H locs hP hS => ?_)
    obtain ⟨hk_6, h⟩ := asr h
    refine lv_astore_n (lv' := [(3, .ref (a (7 + 2 * r_5))), (2, .int r_2), (0, .ref (a 0)), (1, .int p1)]) hx hb dX11_old_19 rfl hl (by decide) rfl (fun ls hl => ?_)
    refine lv_iconst (v := 0) hx hb dX11_old_20 (by decide) ?_
    refine lv_istore (lv' := [(4, .int 0), (3, .ref (a (7 + 2 * r_5))), (2, .int r_2), (0, .ref (a 0)), (1, .int p1)]) hx hb dX11_old_21 hl (by decide) rfl (fun ls hl => ?_)
    refine lv_iconst (v := 0) hx hb dX11_old_23 (by decide) ?_
    refine lv_istore (lv' := [(5, .int 0), (4, .int 0), (3, .ref (a (7 + 2 * r_5))), (2, .int r_2), (0, .ref (a 0)), (1, .int p1)]) hx hb dX11_old_24 hl (by decide) rfl (fun ls hl => ?_)
    refine lv_iconst (v := 0) hx hb dX11_old_26 (by decide) ?_
    refine lv_istore (lv' := [(6, .int 0), (5, .int 0), (4, .int 0), (3, .ref (a (7 + 2 * r_5))), (2, .int r_2), (0, .ref (a 0)), (1, .int p1)]) hx hb dX11_old_27 hl (by decide) rfl (fun ls hl => ?_)
    obtain ⟨K1, eK1, h⟩ := lp_e (f := fun K => f_X11_old_L29 σ r_5 5000 0 0 0 K) h
    have h : f_X11_old_L29 σ r_5 5000 0 0 0 K1 = some r := h
    have hX1 : ∀ (u_21 : Int32) (x5_20 : Int32) (u_22 : Int32) (H : Heap) (locs : List Loc) (ls : Array Slot), K1 u_21 x5_20 u_22 = some r → va_P D vwCl (wX ca a σ) H → va_S (AW 37 a) s.heap H locs → lv_has ls 8 [(5, .int x5_20)] → W p l e rm_X11_old s m args below meth c H locs 0 0 Q (F0 m 77 ls []) := by
      intro u_21 x5_20 u_22 H locs ls h hP hS hl
      have h := ap3 eK1 h
      refine lv_iload hx hb dX11_old_77 (lv_at hl 0 rfl) ?_
      rw [hQ]
      exact xzretr C0 hP hS rfl h dX11_old_79
    have hL1 : ∀ (n : Nat) (x4_7 : Int32) (x5_8 : Int32) (x6_9 : Int32) (H : Heap) (locs : List Loc) (ls : Array Slot), f_X11_old_L29 σ r_5 n x4_7 x5_8 x6_9 K1 = some r → va_P D vwCl (wX ca a σ) H → va_S (AW 37 a) s.heap H locs → lv_has ls 8 [(0, .ref (a 0)), (3, .ref (a (7 + 2 * r_5))), (4, .int x4_7), (5, .int x5_8), (6, .int x6_9)] → W p l e rm_X11_old s m args below meth c H locs 0 0 Q (F0 m 29 ls []) := by
      intro n
      induction n with
      | zero => intro x4_7 x5_8 x6_9 H locs ls h; rw [f_X11_old_L29] at h; cases h
      | succ n ih1 =>
        intro x4_7 x5_8 x6_9 H locs ls h hP hS hl
        rw [f_X11_old_L29] at h
        refine lv_iload hx hb dX11_old_29 (lv_at hl 4 rfl) ?_
        refine lv_aload_n hx hb dX11_old_31 rfl (lv_at hl 1 rfl) ?_
        refine gX5_5N C0 hK hP hk_6 tw141 dX11_old_32 ?_
        refine lv_icmp_ge (tgt := 77) hx hb dX11_old_35 (by decide) (fun c_10 => ?_) (fun c_10 => ?_)
        · have h := it c_10 h
          exact hX1 x4_7 x5_8 x6_9 _ _ ls h hP hS (lv_sub hl [3] rfl)
        · have h := ie c_10 h
          refine lv_aload_n hx hb dX11_old_38 rfl (lv_at hl 0 rfl) ?_
          refine lv_aload_n hx hb dX11_old_39 rfl (lv_at hl 1 rfl) ?_
          refine lv_iload hx hb dX11_old_40 (lv_at hl 4 rfl) ?_
          obtain ⟨r_12, h_11, h⟩ := b1_e h
          refine xcall (rV C0 hK hP hl.1 (fun _ _ _ => trivial) Bt_b (c_X5_at hI hk_6 h_11) cv_X5_at tw607 (rcX5 hK hP hk_6) (rest := [.ref (a 0)]) rfl (Nat.le_of_ble_eq_true rfl) ⟨rfl, rfl, Nat.le_of_ble_eq_true rfl, Nat.le_of_ble_eq_true rfl⟩ ⟨Nat.zero_le _, Nat.zero_le _⟩ dX11_old_42) hS (fun H locs hP hS => ?_)
          refine lv_iload hx hb dX11_old_45 (lv_at hl 2 rfl) ?_
          obtain ⟨r_14, h_13, h⟩ := b1_e h
          refine xcall (rV C0 hK hP hl.1 (fun _ _ _ => trivial) Bt_b (c_X11_tightestSource hI h_13) cv_X11_tightestSource tw705 (rcX11 hK hP) (rest := []) rfl (Nat.le_of_ble_eq_true rfl) ⟨rfl, rfl, Nat.le_of_ble_eq_true rfl, Nat.le_of_ble_eq_true rfl⟩ ⟨Nat.zero_le _, Nat.zero_le _⟩ dX11_old_47) hS (fun H locs hP hS => ?_)
          refine lv_istore (lv' := [(7, .int r_14), (0, .ref (a 0)), (3, .ref (a (7 + 2 * r_5))), (4, .int x4_7), (5, .int x5_8), (6, .int x6_9)]) hx hb dX11_old_50 hl (by decide) rfl (fun ls hl => ?_)
          refine lv_iload hx hb dX11_old_52 (lv_at hl 0 rfl) ?_
          refine lv_bipush (v := (-4)) hx hb dX11_old_54 (by decide) ?_
          refine lv_icmp_eq (tgt := 71) hx hb dX11_old_56 (by decide) (fun c_15 => ?_) (fun c_15 => ?_)
          · have h := it c_15 h
            obtain ⟨x6_16, ex6_16, h⟩ := bnd_e h
            refine lv_iinc (v := x6_16) (lv' := [(6, .int x6_16), (7, .int r_14), (0, .ref (a 0)), (3, .ref (a (7 + 2 * r_5))), (4, .int x4_7), (5, .int x5_8)]) hx hb dX11_old_71 hl (k := 5) rfl (by rw [ex6_16]; rfl) (by decide) rfl (fun ls hl => ?_)
            refine lv_goto (tgt := 29) hx hb dX11_old_74 (by decide) ?_
            exact ih1 x4_7 x5_8 x6_16 _ _ ls h hP hS (lv_sub hl [2, 3, 4, 5, 0] rfl)
          · have h := ie c_15 h
            refine lv_iload hx hb dX11_old_59 (lv_at hl 3 rfl) ?_
            refine lv_iconst (v := 1) hx hb dX11_old_61 (by decide) ?_
            refine lv_iload hx hb dX11_old_62 (lv_at hl 0 rfl) ?_
            refine lv_ishl hx hb dX11_old_64 ?_
            refine lv_ior hx hb dX11_old_65 ?_
            obtain ⟨x4_17, ex4_17, h⟩ := bnd_e h
            refine nm_i ex4_17 ?_
            refine lv_istore (lv' := [(4, .int x4_17), (7, .int r_14), (0, .ref (a 0)), (3, .ref (a (7 + 2 * r_5))), (5, .int x5_8), (6, .int x6_9)]) hx hb dX11_old_66 hl (by decide) rfl (fun ls hl => ?_)
            obtain ⟨x5_18, ex5_18, h⟩ := bnd_e h
            refine lv_iinc (v := x5_18) (lv' := [(5, .int x5_18), (4, .int x4_17), (7, .int r_14), (0, .ref (a 0)), (3, .ref (a (7 + 2 * r_5))), (6, .int x6_9)]) hx hb dX11_old_68 hl (k := 4) rfl (by rw [ex5_18]; rfl) (by decide) rfl (fun ls hl => ?_)
            obtain ⟨x6_19, ex6_19, h⟩ := bnd_e h
            refine lv_iinc (v := x6_19) (lv' := [(6, .int x6_19), (5, .int x5_18), (4, .int x4_17), (7, .int r_14), (0, .ref (a 0)), (3, .ref (a (7 + 2 * r_5)))]) hx hb dX11_old_71 hl (k := 5) rfl (by rw [ex6_19]; rfl) (by decide) rfl (fun ls hl => ?_)
            refine lv_goto (tgt := 29) hx hb dX11_old_74 (by decide) ?_
            exact ih1 x4_17 x5_18 x6_19 _ _ ls h hP hS (lv_sub hl [4, 5, 2, 1, 0] rfl)
    exact hL1 5000 0 0 0 _ _ ls h hP hS (lv_sub hl [5, 3, 2, 1, 0] rfl)
  · have h := ie c_3 h
    refine lv_iload_n hx hb dX11_old_12 rfl (lv_at hl 0 rfl) ?_
    rw [hQ]
    exact xzretr C0 hP hS rfl h dX11_old_13
def f_X11_shape (p1 : Int32) (p2 : Int32) (σ : Mem) : Option (Int32) :=
  b1 (f_X0_has 0 p1 σ) fun r_2 =>
  if r_2 = 0 then
    some (-1000000001)
  else
    b1 (f_X11_within p2 0 9) fun r_5 =>
    if r_5 = 0 then
      some (-1000000001)
    else
      b1 (f_X0_get 0 p1 1 σ) fun r_8 =>
      b1 (f_X0_get 0 p1 0 σ) fun r_10 =>
      some (((r_8 + p2) - (σ (1 + 2 * 0) 2)) - r_10)
def rm_X11_shape : Room := { frames := 1, cells := 0, slots := 0, locals := 23 }
set_option maxHeartbeats 4000000 in
set_option maxRecDepth 100000 in
theorem c_X11_shape {l : Launch} {D : va_G} {ca : Nat → ClassId} {a : Nat → Nat} (hI : InjN 37 a) {p1 : Int32} {p2 : Int32} {σ : Mem} {r : Int32}  (h : f_X11_shape p1 p2 σ = some r) : XMX l D ca a Bt yX11_shape cX11_shape 3 (some .int) rm_X11_shape [.ref (a 0), .int p1, .int p2] σ (some (.int r)) σ := by
  refine XM.of pn_X11 (Nat.le_of_ble_eq_true rfl) ?_
  intro p e s m args below meth c ls Q hQ C0 hK hB hP hS hl
  have C0 : Cx p s m args meth c RX11 cX11_shape 3 (some .int) := C0
  have hx := C0.1
  have hb := C0.2.1
  have hl : lv_has ls 3 [(0, .ref (a 0)), (1, .int p1), (2, .int p2)] := hl
  rw [f_X11_shape] at h
  refine lv_aload_n hx hb dX11_shape_0 rfl (lv_at hl 0 rfl) ?_
  refine gX11_0 C0 hK hP tw233 dX11_shape_1 ?_
  refine lv_iload_n hx hb dX11_shape_4 rfl (lv_at hl 1 rfl) ?_
  obtain ⟨r_2, h_1, h⟩ := b1_e h
  refine xcall (rV C0 hK hP hl.1 (fun _ _ _ => trivial) Bt_b (c_X0_has hI (by decide) h_1) cv_X0_has tw533 (rcX0 hK hP (by decide)) (rest := []) rfl (Nat.le_of_ble_eq_true rfl) ⟨rfl, rfl, Nat.le_of_ble_eq_true rfl, Nat.le_of_ble_eq_true rfl⟩ ⟨Nat.zero_le _, Nat.zero_le _⟩ dX11_shape_5) hS (fun H locs hP hS => ?_)
  refine lv_if_eq (tgt := 21) hx hb dX11_shape_8 (by decide) (fun c_3 => ?_) (fun c_3 => ?_)
  · have h := it c_3 h
    refine lv_ldc (v := (-1000000001)) hx hb C0.2.2.2.1 (C0.2.2.2.2.1 _ tw573) dX11_shape_21 ?_
    rw [hQ]
    exact xzretr C0 hP hS rfl h dX11_shape_23
  · have h := ie c_3 h
    refine lv_iload_n hx hb dX11_shape_11 rfl (lv_at hl 2 rfl) ?_
    refine lv_iconst (v := 0) hx hb dX11_shape_12 (by decide) ?_
    refine lv_bipush (v := 9) hx hb dX11_shape_13 (by decide) ?_
    obtain ⟨r_5, h_4, h⟩ := b1_e h
    refine xcall (rS C0 hK hP hl.1 (fun _ _ _ => trivial) Bt_b (c_X11_within hI h_4) cs_X11_within tw272 (rest := []) rfl (Nat.le_of_ble_eq_true rfl) ⟨rfl, rfl, Nat.le_of_ble_eq_true rfl, Nat.le_of_ble_eq_true rfl⟩ ⟨Nat.zero_le _, Nat.zero_le _⟩ dX11_shape_15) hS (fun H locs hP hS => ?_)
    refine lv_if_ne (tgt := 24) hx hb dX11_shape_18 (by decide) (fun c_6 => ?_) (fun c_6 => ?_)
    · have h := ie c_6 h
      refine lv_aload_n hx hb dX11_shape_24 rfl (lv_at hl 0 rfl) ?_
      refine gX11_0 C0 hK hP tw233 dX11_shape_25 ?_
      refine lv_iload_n hx hb dX11_shape_28 rfl (lv_at hl 1 rfl) ?_
      refine lv_iconst (v := 1) hx hb dX11_shape_29 (by decide) ?_
      obtain ⟨r_8, h_7, h⟩ := b1_e h
      refine xcall (rV C0 hK hP hl.1 (fun _ _ _ => trivial) Bt_b (c_X0_get hI (by decide) h_7) cv_X0_get tw534 (rcX0 hK hP (by decide)) (rest := []) rfl (Nat.le_of_ble_eq_true rfl) ⟨rfl, rfl, Nat.le_of_ble_eq_true rfl, Nat.le_of_ble_eq_true rfl⟩ ⟨Nat.zero_le _, Nat.zero_le _⟩ dX11_shape_30) hS (fun H locs hP hS => ?_)
      refine lv_iload_n hx hb dX11_shape_33 rfl (lv_at hl 2 rfl) ?_
      refine lv_iadd hx hb dX11_shape_34 ?_
      refine lv_aload_n hx hb dX11_shape_35 rfl (lv_at hl 0 rfl) ?_
      refine gX11_0 C0 hK hP tw233 dX11_shape_36 ?_
      refine gX0_2N C0 hK hP (by decide) tw102 dX11_shape_39 ?_
      refine lv_isub hx hb dX11_shape_42 ?_
      refine lv_aload_n hx hb dX11_shape_43 rfl (lv_at hl 0 rfl) ?_
      refine gX11_0 C0 hK hP tw233 dX11_shape_44 ?_
      refine lv_iload_n hx hb dX11_shape_47 rfl (lv_at hl 1 rfl) ?_
      refine lv_iconst (v := 0) hx hb dX11_shape_48 (by decide) ?_
      obtain ⟨r_10, h_9, h⟩ := b1_e h
      refine xcall (rV C0 hK hP hl.1 (fun _ _ _ => trivial) Bt_b (c_X0_get hI (by decide) h_9) cv_X0_get tw534 (rcX0 hK hP (by decide)) (rest := [.int ((r_8 + p2) - (σ (1 + 2 * 0) 2))]) rfl (Nat.le_of_ble_eq_true rfl) ⟨rfl, rfl, Nat.le_of_ble_eq_true rfl, Nat.le_of_ble_eq_true rfl⟩ ⟨Nat.zero_le _, Nat.zero_le _⟩ dX11_shape_49) hS (fun H locs hP hS => ?_)
      refine lv_isub hx hb dX11_shape_52 ?_
      rw [hQ]
      exact xzretr C0 hP hS rfl h dX11_shape_53
    · have h := it c_6 h
      refine lv_ldc (v := (-1000000001)) hx hb C0.2.2.2.1 (C0.2.2.2.2.1 _ tw573) dX11_shape_21 ?_
      rw [hQ]
      exact xzretr C0 hP hS rfl h dX11_shape_23
def f_X11_nextSeed (p1 : Int32) : Option (Int32) :=
  some ((p1 * 1103515245) + 12345)
def rm_X11_nextSeed : Room := { frames := 0, cells := 0, slots := 0, locals := 0 }
set_option maxHeartbeats 4000000 in
set_option maxRecDepth 100000 in
theorem c_X11_nextSeed {l : Launch} {D : va_G} {ca : Nat → ClassId} {a : Nat → Nat} (hI : InjN 37 a) {p1 : Int32} {σ : Mem} {r : Int32}  (h : f_X11_nextSeed p1 = some r) : XMX l D ca a Bt yX11_nextSeed cX11_nextSeed 1 (some .int) rm_X11_nextSeed [.int p1] σ (some (.int r)) σ := by
  refine XM.of pn_X11 (Nat.le_of_ble_eq_true rfl) ?_
  intro p e s m args below meth c ls Q hQ C0 hK hB hP hS hl
  have C0 : Cx p s m args meth c RX11 cX11_nextSeed 1 (some .int) := C0
  have hx := C0.1
  have hb := C0.2.1
  have hl : lv_has ls 1 [(0, .int p1)] := hl
  rw [f_X11_nextSeed] at h
  refine lv_iload_n hx hb dX11_nextSeed_0 rfl (lv_at hl 0 rfl) ?_
  refine lv_ldcw (v := 1103515245) hx hb C0.2.2.2.1 (C0.2.2.2.2.1 _ tw720) dX11_nextSeed_1 ?_
  refine lv_imul hx hb dX11_nextSeed_4 ?_
  refine lv_sipush (v := 12345) hx hb dX11_nextSeed_5 (by decide) ?_
  refine lv_iadd hx hb dX11_nextSeed_8 ?_
  rw [hQ]
  exact xzretr C0 hP hS rfl h dX11_nextSeed_9
def f_X11_drawBelow (p1 : Int32) (p2 : Int32) : Option (Int32) :=
  if p2 ≤ 0 then
    some 0
  else
    if p2 = 0 then none else
    bnd ((p1 &&& 2147483647) >>> (16 &&& 31)) fun (y_3 : Int32) =>
    some (y_3 - y_3 / p2 * p2)
def rm_X11_drawBelow : Room := { frames := 0, cells := 0, slots := 0, locals := 0 }
set_option maxHeartbeats 4000000 in
set_option maxRecDepth 100000 in
theorem c_X11_drawBelow {l : Launch} {D : va_G} {ca : Nat → ClassId} {a : Nat → Nat} (hI : InjN 37 a) {p1 : Int32} {p2 : Int32} {σ : Mem} {r : Int32}  (h : f_X11_drawBelow p1 p2 = some r) : XMX l D ca a Bt yX11_drawBelow cX11_drawBelow 2 (some .int) rm_X11_drawBelow [.int p1, .int p2] σ (some (.int r)) σ := by
  refine XM.of pn_X11 (Nat.le_of_ble_eq_true rfl) ?_
  intro p e s m args below meth c ls Q hQ C0 hK hB hP hS hl
  have C0 : Cx p s m args meth c RX11 cX11_drawBelow 2 (some .int) := C0
  have hx := C0.1
  have hb := C0.2.1
  have hl : lv_has ls 2 [(0, .int p1), (1, .int p2)] := hl
  rw [f_X11_drawBelow] at h
  refine lv_iload_n hx hb dX11_drawBelow_0 rfl (lv_at hl 1 rfl) ?_
  refine lv_if_le (tgt := 17) hx hb dX11_drawBelow_1 (by decide) (fun c_1 => ?_) (fun c_1 => ?_)
  · have h := it c_1 h
    refine lv_iconst (v := 0) hx hb dX11_drawBelow_17 (by decide) ?_
    rw [hQ]
    exact xzretr C0 hP hS rfl h dX11_drawBelow_18
  · have h := ie c_1 h
    refine lv_iload_n hx hb dX11_drawBelow_4 rfl (lv_at hl 0 rfl) ?_
    refine lv_ldcw (v := 2147483647) hx hb C0.2.2.2.1 (C0.2.2.2.2.1 _ tw724) dX11_drawBelow_5 ?_
    refine lv_iand hx hb dX11_drawBelow_8 ?_
    refine lv_bipush (v := 16) hx hb dX11_drawBelow_9 (by decide) ?_
    refine lv_ishr hx hb dX11_drawBelow_11 ?_
    refine lv_iload_n hx hb dX11_drawBelow_12 rfl (lv_at hl 1 rfl) ?_
    obtain ⟨b_2, h⟩ := ck h
    obtain ⟨y_3, ey_3, h⟩ := bnd_e h
    rw [← ey_3]
    refine lv_irem hx hb dX11_drawBelow_13 b_2 ?_
    refine lv_goto (tgt := 18) hx hb dX11_drawBelow_14 (by decide) ?_
    rw [hQ]
    exact xzretr C0 hP hS rfl h dX11_drawBelow_18
def f_X11_seeded_L54 (p1 : Int32) : Nat → Int32 → Int32 → Int32 → Mem → (Int32 → Int32 → Int32 → Mem → Option (Int32 × Mem)) → Option (Int32 × Mem)
  | 0, _, _, _, _, _ => none
  | n + 1, x4_10, x5_11, x6_12, σ_13, K1 =>
    if p1 ≤ x6_12 then
      K1 x4_10 x5_11 x6_12 σ_13
    else
      b1 (f_X11_nextSeed x4_10) fun r_16 =>
      b1 (f_X11_drawBelow r_16 (σ_13 (1 + 2 * 0) 1)) fun r_18 =>
      b1 (f_X11_nextSeed r_16) fun r_20 =>
      b1 (f_X11_drawBelow r_20 8) fun r_22 =>
      b1 (f_X11_nextSeed r_20) fun r_24 =>
      b1 (f_X11_drawBelow r_24 10) fun r_26 =>
      b1 (f_X11_kindAt r_22) fun r_28 =>
      if r_28 < 8 then
        b2 (f_X0_tryPin 2 r_28 r_26 r_18 σ_13) fun r_31 σ_32 =>
        if r_31 = 0 then
          bnd (x6_12 + 1) fun (x6_34 : Int32) =>
          f_X11_seeded_L54 p1 n r_24 x5_11 x6_34 σ_32 K1
        else
          bnd (x5_11 + 1) fun (x5_35 : Int32) =>
          bnd (x6_12 + 1) fun (x6_36 : Int32) =>
          f_X11_seeded_L54 p1 n r_24 x5_35 x6_36 σ_32 K1
      else none
def f_X11_seeded (p1 : Int32) (p2 : Int32) (p3 : Int32) (σ : Mem) : Option (Int32 × Mem) :=
  b1 (f_X11_within p1 1 30) fun r_2 =>
  if r_2 = 0 then
    some ((-1), σ)
  else
    b1 (f_X11_within p3 0 1) fun r_5 =>
    if r_5 = 0 then
      some ((-1), σ)
    else
      if (σ (1 + 2 * 0) 1) = 0 then
        some ((-3), σ)
      else
        b1 (f_X0_becomeLike 2 0 σ) fun σ_9 =>
        f_X11_seeded_L54 p1 5000 p2 0 0 σ_9 fun (u_38 : Int32) (x5_37 : Int32) (u_39 : Int32) (σ_40 : Mem) =>
          if p3 = 0 then
            b1 (f_X0_lacking 2 σ_40) fun r_43 =>
            some (r_43, σ_40)
          else
            some (x5_37, σ_40)
def rm_X11_seeded : Room := { frames := 5, cells := 0, slots := 0, locals := 116 }
set_option maxHeartbeats 4000000 in
set_option maxRecDepth 100000 in
theorem c_X11_seeded {l : Launch} {D : va_G} {ca : Nat → ClassId} {a : Nat → Nat} (hI : InjN 37 a) {p1 : Int32} {p2 : Int32} {p3 : Int32} {σ : Mem} {r : Int32} {σ' : Mem}  (h : f_X11_seeded p1 p2 p3 σ = some (r, σ')) : XMX l D ca a Bt yX11_seeded cX11_seeded 10 (some .int) rm_X11_seeded [.ref (a 0), .int p1, .int p2, .int p3] σ (some (.int r)) σ' := by
  refine XM.of pn_X11 (Nat.le_of_ble_eq_true rfl) ?_
  intro p e s m args below meth c ls Q hQ C0 hK hB hP hS hl
  have C0 : Cx p s m args meth c RX11 cX11_seeded 10 (some .int) := C0
  have hx := C0.1
  have hb := C0.2.1
  have hl : lv_has ls 10 [(0, .ref (a 0)), (1, .int p1), (2, .int p2), (3, .int p3)] := hl
  rw [f_X11_seeded] at h
  refine lv_iload_n hx hb dX11_seeded_0 rfl (lv_at hl 1 rfl) ?_
  refine lv_iconst (v := 1) hx hb dX11_seeded_1 (by decide) ?_
  refine lv_bipush (v := 30) hx hb dX11_seeded_2 (by decide) ?_
  obtain ⟨r_2, h_1, h⟩ := b1_e h
  refine xcall (rS C0 hK hP hl.1 (fun _ _ _ => trivial) Bt_b (c_X11_within hI h_1) cs_X11_within tw272 (rest := []) rfl (Nat.le_of_ble_eq_true rfl) ⟨rfl, rfl, Nat.le_of_ble_eq_true rfl, Nat.le_of_ble_eq_true rfl⟩ ⟨Nat.zero_le _, Nat.zero_le _⟩ dX11_seeded_4) hS (fun H locs hP hS => ?_)
  refine lv_if_eq (tgt := 19) hx hb dX11_seeded_7 (by decide) (fun c_3 => ?_) (fun c_3 => ?_)
  · have h := it c_3 h
    refine lv_iconst (v := (-1)) hx hb dX11_seeded_19 (by decide) ?_
    rw [hQ]
    exact xzret C0 hP hS rfl h dX11_seeded_20
  · have h := ie c_3 h
    refine lv_iload_n hx hb dX11_seeded_10 rfl (lv_at hl 3 rfl) ?_
    refine lv_iconst (v := 0) hx hb dX11_seeded_11 (by decide) ?_
    refine lv_iconst (v := 1) hx hb dX11_seeded_12 (by decide) ?_
    obtain ⟨r_5, h_4, h⟩ := b1_e h
    refine xcall (rS C0 hK hP hl.1 (fun _ _ _ => trivial) Bt_b (c_X11_within hI h_4) cs_X11_within tw272 (rest := []) rfl (Nat.le_of_ble_eq_true rfl) ⟨rfl, rfl, Nat.le_of_ble_eq_true rfl, Nat.le_of_ble_eq_true rfl⟩ ⟨Nat.zero_le _, Nat.zero_le _⟩ dX11_seeded_13) hS (fun H locs hP hS => ?_)
    refine lv_if_ne (tgt := 21) hx hb dX11_seeded_16 (by decide) (fun c_6 => ?_) (fun c_6 => ?_)
    · have h := ie c_6 h
      refine lv_aload_n hx hb dX11_seeded_21 rfl (lv_at hl 0 rfl) ?_
      refine gX11_0 C0 hK hP tw233 dX11_seeded_22 ?_
      refine gX0_1N C0 hK hP (by decide) tw100 dX11_seeded_25 ?_
      refine lv_if_ne (tgt := 34) hx hb dX11_seeded_28 (by decide) (fun c_7 => ?_) (fun c_7 => ?_)
      · have h := ie c_7 h
        refine lv_aload_n hx hb dX11_seeded_34 rfl (lv_at hl 0 rfl) ?_
        refine gX11_2 C0 hK hP tw235 dX11_seeded_35 ?_
        refine lv_aload_n hx hb dX11_seeded_38 rfl (lv_at hl 0 rfl) ?_
        refine gX11_0 C0 hK hP tw233 dX11_seeded_39 ?_
        obtain ⟨σ_9, h_8, h⟩ := b1_e h
        refine xcall (rV C0 hK hP hl.1 (fun _ _ _ => trivial) Bt_b (c_X0_becomeLike hI (by decide) (by decide) h_8) cv_X0_becomeLike tw368 (rcX0 hK hP (by decide)) (rest := []) rfl (Nat.le_of_ble_eq_true rfl) ⟨rfl, rfl, Nat.le_of_ble_eq_true rfl, Nat.le_of_ble_eq_true rfl⟩ ⟨Nat.zero_le _, Nat.zero_le _⟩ dX11_seeded_42) hS (fun H locs hP hS => ?_)
        refine lv_iload_n hx hb dX11_seeded_45 rfl (lv_at hl 2 rfl) ?_
        refine lv_istore (lv' := [(4, .int p2), (0, .ref (a 0)), (1, .int p1), (2, .int p2), (3, .int p3)]) hx hb dX11_seeded_46 hl (by decide) rfl (fun ls hl => ?_)
        refine lv_iconst (v := 0) hx hb dX11_seeded_48 (by decide) ?_
        refine lv_istore (lv' := [(5, .int 0), (4, .int p2), (0, .ref (a 0)), (1, .int p1), (2, .int p2), (3, .int p3)]) hx hb dX11_seeded_49 hl (by decide) rfl (fun ls hl => ?_)
        refine lv_iconst (v := 0) hx hb dX11_seeded_51 (by decide) ?_
        refine lv_istore (lv' := [(6, .int 0), (5, .int 0), (4, .int p2), (0, .ref (a 0)), (1, .int p1), (2, .int p2), (3, .int p3)]) hx hb dX11_seeded_52 hl (by decide) rfl (fun ls hl => ?_)
        obtain ⟨K1, eK1, h⟩ := lp_e (f := fun K => f_X11_seeded_L54 p1 5000 p2 0 0 σ_9 K) h
        have h : f_X11_seeded_L54 p1 5000 p2 0 0 σ_9 K1 = some (r, σ') := h
        have hX1 : ∀ (u_38 : Int32) (x5_37 : Int32) (u_39 : Int32) (σ_40 : Mem) (H : Heap) (locs : List Loc) (ls : Array Slot), K1 u_38 x5_37 u_39 σ_40 = some (r, σ') → va_P D vwCl (wX ca a σ_40) H → va_S (AW 37 a) s.heap H locs → lv_has ls 10 [(0, .ref (a 0)), (3, .int p3), (5, .int x5_37)] → W p l e rm_X11_seeded s m args below meth c H locs 0 0 Q (F0 m 142 ls []) := by
          intro u_38 x5_37 u_39 σ_40 H locs ls h hP hS hl
          have h := ap4 eK1 h
          refine lv_iload_n hx hb dX11_seeded_142 rfl (lv_at hl 1 rfl) ?_
          refine lv_if_ne (tgt := 156) hx hb dX11_seeded_143 (by decide) (fun c_41 => ?_) (fun c_41 => ?_)
          · have h := ie c_41 h
            refine lv_iload hx hb dX11_seeded_156 (lv_at hl 2 rfl) ?_
            rw [hQ]
            exact xzret C0 hP hS rfl h dX11_seeded_158
          · have h := it c_41 h
            refine lv_aload_n hx hb dX11_seeded_146 rfl (lv_at hl 0 rfl) ?_
            refine gX11_2 C0 hK hP tw235 dX11_seeded_147 ?_
            obtain ⟨r_43, h_42, h⟩ := b1_e h
            refine xcall (rV C0 hK hP hl.1 (fun _ _ _ => trivial) Bt_b (c_X0_lacking hI (by decide) h_42) cv_X0_lacking tw556 (rcX0 hK hP (by decide)) (rest := []) rfl (Nat.le_of_ble_eq_true rfl) ⟨rfl, rfl, Nat.le_of_ble_eq_true rfl, Nat.le_of_ble_eq_true rfl⟩ ⟨Nat.zero_le _, Nat.zero_le _⟩ dX11_seeded_150) hS (fun H locs hP hS => ?_)
            refine lv_goto (tgt := 158) hx hb dX11_seeded_153 (by decide) ?_
            rw [hQ]
            exact xzret C0 hP hS rfl h dX11_seeded_158
        have hL1 : ∀ (n : Nat) (x4_10 : Int32) (x5_11 : Int32) (x6_12 : Int32) (σ_13 : Mem) (H : Heap) (locs : List Loc) (ls : Array Slot), f_X11_seeded_L54 p1 n x4_10 x5_11 x6_12 σ_13 K1 = some (r, σ') → va_P D vwCl (wX ca a σ_13) H → va_S (AW 37 a) s.heap H locs → lv_has ls 10 [(0, .ref (a 0)), (1, .int p1), (3, .int p3), (4, .int x4_10), (5, .int x5_11), (6, .int x6_12)] → W p l e rm_X11_seeded s m args below meth c H locs 0 0 Q (F0 m 54 ls []) := by
          intro n
          induction n with
          | zero => intro x4_10 x5_11 x6_12 σ_13 H locs ls h; rw [f_X11_seeded_L54] at h; cases h
          | succ n ih1 =>
            intro x4_10 x5_11 x6_12 σ_13 H locs ls h hP hS hl
            rw [f_X11_seeded_L54] at h
            refine lv_iload hx hb dX11_seeded_54 (lv_at hl 5 rfl) ?_
            refine lv_iload_n hx hb dX11_seeded_56 rfl (lv_at hl 1 rfl) ?_
            refine lv_icmp_ge (tgt := 142) hx hb dX11_seeded_57 (by decide) (fun c_14 => ?_) (fun c_14 => ?_)
            · have h := it c_14 h
              exact hX1 x4_10 x5_11 x6_12 σ_13 _ _ ls h hP hS (lv_sub hl [0, 2, 4] rfl)
            · have h := ie c_14 h
              refine lv_iload hx hb dX11_seeded_60 (lv_at hl 3 rfl) ?_
              obtain ⟨r_16, h_15, h⟩ := b1_e h
              refine xcall (rS C0 hK hP hl.1 (fun _ _ _ => trivial) Bt_b (c_X11_nextSeed hI h_15) cs_X11_nextSeed tw717 (rest := []) rfl (Nat.le_of_ble_eq_true rfl) ⟨rfl, rfl, Nat.le_of_ble_eq_true rfl, Nat.le_of_ble_eq_true rfl⟩ ⟨Nat.zero_le _, Nat.zero_le _⟩ dX11_seeded_62) hS (fun H locs hP hS => ?_)
              refine lv_istore (lv' := [(4, .int r_16), (0, .ref (a 0)), (1, .int p1), (3, .int p3), (5, .int x5_11), (6, .int x6_12)]) hx hb dX11_seeded_65 hl (by decide) rfl (fun ls hl => ?_)
              refine lv_iload hx hb dX11_seeded_67 (lv_at hl 0 rfl) ?_
              refine lv_aload_n hx hb dX11_seeded_69 rfl (lv_at hl 1 rfl) ?_
              refine gX11_0 C0 hK hP tw233 dX11_seeded_70 ?_
              refine gX0_1N C0 hK hP (by decide) tw100 dX11_seeded_73 ?_
              obtain ⟨r_18, h_17, h⟩ := b1_e h
              refine xcall (rS C0 hK hP hl.1 (fun _ _ _ => trivial) Bt_b (c_X11_drawBelow hI h_17) cs_X11_drawBelow tw721 (rest := []) rfl (Nat.le_of_ble_eq_true rfl) ⟨rfl, rfl, Nat.le_of_ble_eq_true rfl, Nat.le_of_ble_eq_true rfl⟩ ⟨Nat.zero_le _, Nat.zero_le _⟩ dX11_seeded_76) hS (fun H locs hP hS => ?_)
              refine lv_istore (lv' := [(7, .int r_18), (4, .int r_16), (0, .ref (a 0)), (1, .int p1), (3, .int p3), (5, .int x5_11), (6, .int x6_12)]) hx hb dX11_seeded_79 hl (by decide) rfl (fun ls hl => ?_)
              refine lv_iload hx hb dX11_seeded_81 (lv_at hl 1 rfl) ?_
              obtain ⟨r_20, h_19, h⟩ := b1_e h
              refine xcall (rS C0 hK hP hl.1 (fun _ _ _ => trivial) Bt_b (c_X11_nextSeed hI h_19) cs_X11_nextSeed tw717 (rest := []) rfl (Nat.le_of_ble_eq_true rfl) ⟨rfl, rfl, Nat.le_of_ble_eq_true rfl, Nat.le_of_ble_eq_true rfl⟩ ⟨Nat.zero_le _, Nat.zero_le _⟩ dX11_seeded_83) hS (fun H locs hP hS => ?_)
              refine lv_istore (lv' := [(4, .int r_20), (7, .int r_18), (0, .ref (a 0)), (1, .int p1), (3, .int p3), (5, .int x5_11), (6, .int x6_12)]) hx hb dX11_seeded_86 hl (by decide) rfl (fun ls hl => ?_)
              refine lv_iload hx hb dX11_seeded_88 (lv_at hl 0 rfl) ?_
              refine lv_bipush (v := 8) hx hb dX11_seeded_90 (by decide) ?_
              obtain ⟨r_22, h_21, h⟩ := b1_e h
              refine xcall (rS C0 hK hP hl.1 (fun _ _ _ => trivial) Bt_b (c_X11_drawBelow hI h_21) cs_X11_drawBelow tw721 (rest := []) rfl (Nat.le_of_ble_eq_true rfl) ⟨rfl, rfl, Nat.le_of_ble_eq_true rfl, Nat.le_of_ble_eq_true rfl⟩ ⟨Nat.zero_le _, Nat.zero_le _⟩ dX11_seeded_92) hS (fun H locs hP hS => ?_)
              refine lv_istore (lv' := [(8, .int r_22), (4, .int r_20), (7, .int r_18), (0, .ref (a 0)), (1, .int p1), (3, .int p3), (5, .int x5_11), (6, .int x6_12)]) hx hb dX11_seeded_95 hl (by decide) rfl (fun ls hl => ?_)
              refine lv_iload hx hb dX11_seeded_97 (lv_at hl 1 rfl) ?_
              obtain ⟨r_24, h_23, h⟩ := b1_e h
              refine xcall (rS C0 hK hP hl.1 (fun _ _ _ => trivial) Bt_b (c_X11_nextSeed hI h_23) cs_X11_nextSeed tw717 (rest := []) rfl (Nat.le_of_ble_eq_true rfl) ⟨rfl, rfl, Nat.le_of_ble_eq_true rfl, Nat.le_of_ble_eq_true rfl⟩ ⟨Nat.zero_le _, Nat.zero_le _⟩ dX11_seeded_99) hS (fun H locs hP hS => ?_)
              refine lv_istore (lv' := [(4, .int r_24), (8, .int r_22), (7, .int r_18), (0, .ref (a 0)), (1, .int p1), (3, .int p3), (5, .int x5_11), (6, .int x6_12)]) hx hb dX11_seeded_102 hl (by decide) rfl (fun ls hl => ?_)
              refine lv_iload hx hb dX11_seeded_104 (lv_at hl 0 rfl) ?_
              refine lv_bipush (v := 10) hx hb dX11_seeded_106 (by decide) ?_
              obtain ⟨r_26, h_25, h⟩ := b1_e h
              refine xcall (rS C0 hK hP hl.1 (fun _ _ _ => trivial) Bt_b (c_X11_drawBelow hI h_25) cs_X11_drawBelow tw721 (rest := []) rfl (Nat.le_of_ble_eq_true rfl) ⟨rfl, rfl, Nat.le_of_ble_eq_true rfl, Nat.le_of_ble_eq_true rfl⟩ ⟨Nat.zero_le _, Nat.zero_le _⟩ dX11_seeded_108) hS (fun H locs hP hS => ?_)
              refine lv_istore (lv' := [(9, .int r_26), (4, .int r_24), (8, .int r_22), (7, .int r_18), (0, .ref (a 0)), (1, .int p1), (3, .int p3), (5, .int x5_11), (6, .int x6_12)]) hx hb dX11_seeded_111 hl (by decide) rfl (fun ls hl => ?_)
              refine lv_aload_n hx hb dX11_seeded_113 rfl (lv_at hl 4 rfl) ?_
              refine gX11_2 C0 hK hP tw235 dX11_seeded_114 ?_
              refine lv_aload_n hx hb dX11_seeded_117 rfl (lv_at hl 4 rfl) ?_
              refine lv_iload hx hb dX11_seeded_118 (lv_at hl 2 rfl) ?_
              obtain ⟨r_28, h_27, h⟩ := b1_e h
              refine xcall (rV C0 hK hP hl.1 (fun _ _ _ => trivial) Bt_b (c_X11_kindAt hI h_27) cv_X11_kindAt tw395 (rcX11 hK hP) (rest := [.ref (a (1 + 2 * 2))]) rfl (Nat.le_of_ble_eq_true rfl) ⟨rfl, rfl, Nat.le_of_ble_eq_true rfl, Nat.le_of_ble_eq_true rfl⟩ ⟨Nat.zero_le _, Nat.zero_le _⟩ dX11_seeded_120) hS (fun H locs hP hS => ?_)
              obtain ⟨hk_29, h⟩ := asr h
              refine lv_iload hx hb dX11_seeded_123 (lv_at hl 0 rfl) ?_
              refine lv_iload hx hb dX11_seeded_125 (lv_at hl 3 rfl) ?_
              obtain ⟨r_31, σ_32, h_30, h⟩ := b2_e h
              refine xcall (rV C0 hK hP hl.1 (fun _ _ _ => trivial) Bt_b (c_X0_tryPin hI (by decide) hk_29 h_30) cv_X0_tryPin tw399 (rcX0 hK hP (by decide)) (rest := []) rfl (Nat.le_of_ble_eq_true rfl) ⟨rfl, rfl, Nat.le_of_ble_eq_true rfl, Nat.le_of_ble_eq_true rfl⟩ ⟨Nat.zero_le _, Nat.zero_le _⟩ dX11_seeded_127) hS (fun H locs hP hS => ?_)
              refine lv_if_eq (tgt := 136) hx hb dX11_seeded_130 (by decide) (fun c_33 => ?_) (fun c_33 => ?_)
              · have h := it c_33 h
                obtain ⟨x6_34, ex6_34, h⟩ := bnd_e h
                refine lv_iinc (v := x6_34) (lv' := [(6, .int x6_34), (9, .int r_26), (4, .int r_24), (8, .int r_22), (7, .int r_18), (0, .ref (a 0)), (1, .int p1), (3, .int p3), (5, .int x5_11)]) hx hb dX11_seeded_136 hl (k := 8) rfl (by rw [ex6_34]; rfl) (by decide) rfl (fun ls hl => ?_)
                refine lv_goto (tgt := 54) hx hb dX11_seeded_139 (by decide) ?_
                exact ih1 r_24 x5_11 x6_34 σ_32 _ _ ls h hP hS (lv_sub hl [5, 6, 7, 2, 8, 0] rfl)
              · have h := ie c_33 h
                obtain ⟨x5_35, ex5_35, h⟩ := bnd_e h
                refine lv_iinc (v := x5_35) (lv' := [(5, .int x5_35), (9, .int r_26), (4, .int r_24), (8, .int r_22), (7, .int r_18), (0, .ref (a 0)), (1, .int p1), (3, .int p3), (6, .int x6_12)]) hx hb dX11_seeded_133 hl (k := 7) rfl (by rw [ex5_35]; rfl) (by decide) rfl (fun ls hl => ?_)
                obtain ⟨x6_36, ex6_36, h⟩ := bnd_e h
                refine lv_iinc (v := x6_36) (lv' := [(6, .int x6_36), (5, .int x5_35), (9, .int r_26), (4, .int r_24), (8, .int r_22), (7, .int r_18), (0, .ref (a 0)), (1, .int p1), (3, .int p3)]) hx hb dX11_seeded_136 hl (k := 8) rfl (by rw [ex6_36]; rfl) (by decide) rfl (fun ls hl => ?_)
                refine lv_goto (tgt := 54) hx hb dX11_seeded_139 (by decide) ?_
                exact ih1 r_24 x5_35 x6_36 σ_32 _ _ ls h hP hS (lv_sub hl [6, 7, 8, 3, 1, 0] rfl)
        exact hL1 5000 p2 0 0 σ_9 _ _ ls h hP hS (lv_sub hl [3, 4, 6, 2, 1, 0] rfl)
      · have h := it c_7 h
        refine lv_bipush (v := (-3)) hx hb dX11_seeded_31 (by decide) ?_
        rw [hQ]
        exact xzret C0 hP hS rfl h dX11_seeded_33
    · have h := it c_6 h
      refine lv_iconst (v := (-1)) hx hb dX11_seeded_19 (by decide) ?_
      rw [hQ]
      exact xzret C0 hP hS rfl h dX11_seeded_20
def f_X11_judge_L63 (p1 : Int32) (σ : Mem) (r_8 : Nat) (y_13 : Int32) (r_15 : Int32) : Nat → Int32 → (Int32 → Option (Int32)) → Option (Int32)
  | 0, _, _ => none
  | n + 1, x7_16, K1 =>
    if y_13 ≤ x7_16 then
      K1 x7_16
    else
      b1 (f_X5_at r_8 x7_16 σ) fun r_19 =>
      if r_19 = r_15 then
        bnd (x7_16 + 1) fun (x7_21 : Int32) =>
        f_X11_judge_L63 p1 σ r_8 y_13 r_15 n x7_21 K1
      else
        b1 (f_X0_easeAt 0 x7_16 p1 σ) fun r_23 =>
        if r_19 = r_23 then
          bnd (x7_16 + 1) fun (x7_25 : Int32) =>
          f_X11_judge_L63 p1 σ r_8 y_13 r_15 n x7_25 K1
        else
          some x7_16
def f_X11_judge (p1 : Int32) (p2 : Int32) (σ : Mem) : Option (Int32) :=
  b1 (f_X11_within p1 0 3) fun r_2 =>
  if r_2 = 0 then
    some (-1)
  else
    b1 (f_X11_isShelf p2) fun r_5 =>
    if r_5 = 0 then
      some (-1)
    else
      b1 (f_X11_shelfAt p2) fun r_8 =>
      if r_8 < 9 then
        b1 (f_X5_rowRefusal r_8 σ) fun r_11 =>
        if r_11 = 0 then
          bnd (if σ (1 + 2 * 0) 1 < σ (7 + 2 * r_8) 5 then σ (1 + 2 * 0) 1 else σ (7 + 2 * r_8) 5) fun (y_13 : Int32) =>
          b1 (f_X5_leastNumber r_8 σ) fun r_15 =>
          f_X11_judge_L63 p1 σ r_8 y_13 r_15 5000 0 fun (u_26 : Int32) =>
            if (σ (7 + 2 * r_8) 5) = (σ (1 + 2 * 0) 1) then
              some (-4)
            else
              some y_13
        else
          some r_11
      else none
def rm_X11_judge : Room := { frames := 3, cells := 0, slots := 0, locals := 67 }
set_option maxHeartbeats 4000000 in
set_option maxRecDepth 100000 in
theorem c_X11_judge {l : Launch} {D : va_G} {ca : Nat → ClassId} {a : Nat → Nat} (hI : InjN 37 a) {p1 : Int32} {p2 : Int32} {σ : Mem} {r : Int32}  (h : f_X11_judge p1 p2 σ = some r) : XMX l D ca a Bt yX11_judge cX11_judge 9 (some .int) rm_X11_judge [.ref (a 0), .int p1, .int p2] σ (some (.int r)) σ := by
  refine XM.of pn_X11 (Nat.le_of_ble_eq_true rfl) ?_
  intro p e s m args below meth c ls Q hQ C0 hK hB hP hS hl
  have C0 : Cx p s m args meth c RX11 cX11_judge 9 (some .int) := C0
  have hx := C0.1
  have hb := C0.2.1
  have hl : lv_has ls 9 [(0, .ref (a 0)), (1, .int p1), (2, .int p2)] := hl
  rw [f_X11_judge] at h
  refine lv_iload_n hx hb dX11_judge_0 rfl (lv_at hl 1 rfl) ?_
  refine lv_iconst (v := 0) hx hb dX11_judge_1 (by decide) ?_
  refine lv_iconst (v := 3) hx hb dX11_judge_2 (by decide) ?_
  obtain ⟨r_2, h_1, h⟩ := b1_e h
  refine xcall (rS C0 hK hP hl.1 (fun _ _ _ => trivial) Bt_b (c_X11_within hI h_1) cs_X11_within tw272 (rest := []) rfl (Nat.le_of_ble_eq_true rfl) ⟨rfl, rfl, Nat.le_of_ble_eq_true rfl, Nat.le_of_ble_eq_true rfl⟩ ⟨Nat.zero_le _, Nat.zero_le _⟩ dX11_judge_3) hS (fun H locs hP hS => ?_)
  refine lv_if_eq (tgt := 16) hx hb dX11_judge_6 (by decide) (fun c_3 => ?_) (fun c_3 => ?_)
  · have h := it c_3 h
    refine lv_iconst (v := (-1)) hx hb dX11_judge_16 (by decide) ?_
    rw [hQ]
    exact xzretr C0 hP hS rfl h dX11_judge_17
  · have h := ie c_3 h
    refine lv_iload_n hx hb dX11_judge_9 rfl (lv_at hl 2 rfl) ?_
    obtain ⟨r_5, h_4, h⟩ := b1_e h
    refine xcall (rS C0 hK hP hl.1 (fun _ _ _ => trivial) Bt_b (c_X11_isShelf hI h_4) cs_X11_isShelf tw269 (rest := []) rfl (Nat.le_of_ble_eq_true rfl) ⟨rfl, rfl, Nat.le_of_ble_eq_true rfl, Nat.le_of_ble_eq_true rfl⟩ ⟨Nat.zero_le _, Nat.zero_le _⟩ dX11_judge_10) hS (fun H locs hP hS => ?_)
    refine lv_if_ne (tgt := 18) hx hb dX11_judge_13 (by decide) (fun c_6 => ?_) (fun c_6 => ?_)
    · have h := ie c_6 h
      refine lv_aload_n hx hb dX11_judge_18 rfl (lv_at hl 0 rfl) ?_
      refine lv_iload_n hx hb dX11_judge_19 rfl (lv_at hl 2 rfl) ?_
      obtain ⟨r_8, h_7, h⟩ := b1_e h
      refine xcall (rV C0 hK hP hl.1 (fun _ _ _ => trivial) Bt_b (c_X11_shelfAt hI h_7) cv_X11_shelfAt tw275 (rcX11 hK hP) (rest := []) rfl (Nat.le_of_ble_eq_true rfl) ⟨rfl, rfl, Nat.le_of_ble_eq_true rfl, Nat.le_of_ble_eq_true rfl⟩ ⟨Nat.zero_le _, Nat.zero_le _⟩ dX11_judge_20) hS (fun H locs hP hS => ?_)
      obtain ⟨hk_9, h⟩ := asr h
      refine lv_astore_n (lv' := [(3, .ref (a (7 + 2 * r_8))), (0, .ref (a 0)), (1, .int p1), (2, .int p2)]) hx hb dX11_judge_23 rfl hl (by decide) rfl (fun ls hl => ?_)
      refine lv_aload_n hx hb dX11_judge_24 rfl (lv_at hl 0 rfl) ?_
      obtain ⟨r_11, h_10, h⟩ := b1_e h
      refine xcall (rV C0 hK hP hl.1 (fun _ _ _ => trivial) Bt_b (c_X5_rowRefusal hI hk_9 h_10) cv_X5_rowRefusal tw279 (rcX5 hK hP hk_9) (rest := []) rfl (Nat.le_of_ble_eq_true rfl) ⟨rfl, rfl, Nat.le_of_ble_eq_true rfl, Nat.le_of_ble_eq_true rfl⟩ ⟨Nat.zero_le _, Nat.zero_le _⟩ dX11_judge_25) hS (fun H locs hP hS => ?_)
      refine lv_istore (lv' := [(4, .int r_11), (3, .ref (a (7 + 2 * r_8))), (0, .ref (a 0)), (1, .int p1), (2, .int p2)]) hx hb dX11_judge_28 hl (by decide) rfl (fun ls hl => ?_)
      refine lv_iload hx hb dX11_judge_30 (lv_at hl 0 rfl) ?_
      refine lv_if_eq (tgt := 38) hx hb dX11_judge_32 (by decide) (fun c_12 => ?_) (fun c_12 => ?_)
      · have h := it c_12 h
        refine lv_aload_n hx hb dX11_judge_38 rfl (lv_at hl 1 rfl) ?_
        refine gX5_5N C0 hK hP hk_9 tw141 dX11_judge_39 ?_
        refine lv_aload_n hx hb dX11_judge_42 rfl (lv_at hl 2 rfl) ?_
        refine gX11_0 C0 hK hP tw233 dX11_judge_43 ?_
        refine gX0_1N C0 hK hP (by decide) tw100 dX11_judge_46 ?_
        refine va_mmin hx hb (C0.2.2.1.trans hl.1.symm) C0.2.2.2.1 (C0.2.2.2.2.1 _ tw638) (C0.2.2.2.2.1 _ tw373) (C0.2.2.2.2.1 _ tw76) (C0.2.2.2.2.1 _ tw374) (Nat.le_of_ble_eq_true rfl) (Nat.le_of_ble_eq_true rfl) (Nat.zero_le _) (Nat.zero_le _) dX11_judge_49 ?_
        obtain ⟨y_13, ey_13, h⟩ := bnd_e h
        refine nm_i ey_13 ?_
        refine lv_istore (lv' := [(5, .int y_13), (4, .int r_11), (3, .ref (a (7 + 2 * r_8))), (0, .ref (a 0)), (1, .int p1), (2, .int p2)]) hx hb dX11_judge_52 hl (by decide) rfl (fun ls hl => ?_)
        refine lv_aload_n hx hb dX11_judge_54 rfl (lv_at hl 2 rfl) ?_
        obtain ⟨r_15, h_14, h⟩ := b1_e h
        refine xcall (rV C0 hK hP hl.1 (fun _ _ _ => trivial) Bt_b (c_X5_leastNumber hI hk_9 h_14) cv_X5_leastNumber tw729 (rcX5 hK hP hk_9) (rest := []) rfl (Nat.le_of_ble_eq_true rfl) ⟨rfl, rfl, Nat.le_of_ble_eq_true rfl, Nat.le_of_ble_eq_true rfl⟩ ⟨Nat.zero_le _, Nat.zero_le _⟩ dX11_judge_55) hS (fun H locs hP hS => ?_)
        refine lv_istore (lv' := [(6, .int r_15), (5, .int y_13), (4, .int r_11), (3, .ref (a (7 + 2 * r_8))), (0, .ref (a 0)), (1, .int p1), (2, .int p2)]) hx hb dX11_judge_58 hl (by decide) rfl (fun ls hl => ?_)
        refine lv_iconst (v := 0) hx hb dX11_judge_60 (by decide) ?_
        refine lv_istore (lv' := [(7, .int 0), (6, .int r_15), (5, .int y_13), (4, .int r_11), (3, .ref (a (7 + 2 * r_8))), (0, .ref (a 0)), (1, .int p1), (2, .int p2)]) hx hb dX11_judge_61 hl (by decide) rfl (fun ls hl => ?_)
        obtain ⟨K1, eK1, h⟩ := lp_e (f := fun K => f_X11_judge_L63 p1 σ r_8 y_13 r_15 5000 0 K) h
        have h : f_X11_judge_L63 p1 σ r_8 y_13 r_15 5000 0 K1 = some r := h
        have hX1 : ∀ (u_26 : Int32) (H : Heap) (locs : List Loc) (ls : Array Slot), K1 u_26 = some r → va_P D vwCl (wX ca a σ) H → va_S (AW 37 a) s.heap H locs → lv_has ls 9 [(0, .ref (a 0)), (3, .ref (a (7 + 2 * r_8))), (5, .int y_13)] → W p l e rm_X11_judge s m args below meth c H locs 0 0 Q (F0 m 109 ls []) := by
          intro u_26 H locs ls h hP hS hl
          have h := ap1 eK1 h
          refine lv_aload_n hx hb dX11_judge_109 rfl (lv_at hl 1 rfl) ?_
          refine gX5_5N C0 hK hP hk_9 tw141 dX11_judge_110 ?_
          refine lv_aload_n hx hb dX11_judge_113 rfl (lv_at hl 0 rfl) ?_
          refine gX11_0 C0 hK hP tw233 dX11_judge_114 ?_
          refine gX0_1N C0 hK hP (by decide) tw100 dX11_judge_117 ?_
          refine lv_icmp_ne (tgt := 128) hx hb dX11_judge_120 (by decide) (fun c_27 => ?_) (fun c_27 => ?_)
          · have h := ie c_27 h
            refine lv_iload hx hb dX11_judge_128 (lv_at hl 2 rfl) ?_
            rw [hQ]
            exact xzretr C0 hP hS rfl h dX11_judge_130
          · have h := it c_27 h
            refine lv_bipush (v := (-4)) hx hb dX11_judge_123 (by decide) ?_
            refine lv_goto (tgt := 130) hx hb dX11_judge_125 (by decide) ?_
            rw [hQ]
            exact xzretr C0 hP hS rfl h dX11_judge_130
        have hL1 : ∀ (n : Nat) (x7_16 : Int32) (H : Heap) (locs : List Loc) (ls : Array Slot), f_X11_judge_L63 p1 σ r_8 y_13 r_15 n x7_16 K1 = some r → va_P D vwCl (wX ca a σ) H → va_S (AW 37 a) s.heap H locs → lv_has ls 9 [(0, .ref (a 0)), (1, .int p1), (3, .ref (a (7 + 2 * r_8))), (5, .int y_13), (6, .int r_15), (7, .int x7_16)] → W p l e rm_X11_judge s m args below meth c H locs 0 0 Q (F0 m 63 ls []) := by
          intro n
          induction n with
          | zero => intro x7_16 H locs ls h; rw [f_X11_judge_L63] at h; cases h
          | succ n ih1 =>
            intro x7_16 H locs ls h hP hS hl
            rw [f_X11_judge_L63] at h
            refine lv_iload hx hb dX11_judge_63 (lv_at hl 5 rfl) ?_
            refine lv_iload hx hb dX11_judge_65 (lv_at hl 3 rfl) ?_
            refine lv_icmp_ge (tgt := 109) hx hb dX11_judge_67 (by decide) (fun c_17 => ?_) (fun c_17 => ?_)
            · have h := it c_17 h
              exact hX1 x7_16 _ _ ls h hP hS (lv_sub hl [0, 2, 3] rfl)
            · have h := ie c_17 h
              refine lv_aload_n hx hb dX11_judge_70 rfl (lv_at hl 2 rfl) ?_
              refine lv_iload hx hb dX11_judge_71 (lv_at hl 5 rfl) ?_
              obtain ⟨r_19, h_18, h⟩ := b1_e h
              refine xcall (rV C0 hK hP hl.1 (fun _ _ _ => trivial) Bt_b (c_X5_at hI hk_9 h_18) cv_X5_at tw607 (rcX5 hK hP hk_9) (rest := []) rfl (Nat.le_of_ble_eq_true rfl) ⟨rfl, rfl, Nat.le_of_ble_eq_true rfl, Nat.le_of_ble_eq_true rfl⟩ ⟨Nat.zero_le _, Nat.zero_le _⟩ dX11_judge_73) hS (fun H locs hP hS => ?_)
              refine lv_istore (lv' := [(8, .int r_19), (0, .ref (a 0)), (1, .int p1), (3, .ref (a (7 + 2 * r_8))), (5, .int y_13), (6, .int r_15), (7, .int x7_16)]) hx hb dX11_judge_76 hl (by decide) rfl (fun ls hl => ?_)
              refine lv_iload hx hb dX11_judge_78 (lv_at hl 0 rfl) ?_
              refine lv_iload hx hb dX11_judge_80 (lv_at hl 5 rfl) ?_
              refine lv_icmp_eq (tgt := 103) hx hb dX11_judge_82 (by decide) (fun c_20 => ?_) (fun c_20 => ?_)
              · have h := it c_20 h
                obtain ⟨x7_21, ex7_21, h⟩ := bnd_e h
                refine lv_iinc (v := x7_21) (lv' := [(7, .int x7_21), (8, .int r_19), (0, .ref (a 0)), (1, .int p1), (3, .ref (a (7 + 2 * r_8))), (5, .int y_13), (6, .int r_15)]) hx hb dX11_judge_103 hl (k := 6) rfl (by rw [ex7_21]; rfl) (by decide) rfl (fun ls hl => ?_)
                refine lv_goto (tgt := 63) hx hb dX11_judge_106 (by decide) ?_
                exact ih1 x7_21 _ _ ls h hP hS (lv_sub hl [2, 3, 4, 5, 6, 0] rfl)
              · have h := ie c_20 h
                refine lv_iload hx hb dX11_judge_85 (lv_at hl 0 rfl) ?_
                refine lv_aload_n hx hb dX11_judge_87 rfl (lv_at hl 1 rfl) ?_
                refine gX11_0 C0 hK hP tw233 dX11_judge_88 ?_
                refine lv_iload hx hb dX11_judge_91 (lv_at hl 6 rfl) ?_
                refine lv_iload_n hx hb dX11_judge_93 rfl (lv_at hl 2 rfl) ?_
                obtain ⟨r_23, h_22, h⟩ := b1_e h
                refine xcall (rV C0 hK hP hl.1 (fun _ _ _ => trivial) Bt_b (c_X0_easeAt hI (by decide) h_22) cv_X0_easeAt tw572 (rcX0 hK hP (by decide)) (rest := [.int r_19]) rfl (Nat.le_of_ble_eq_true rfl) ⟨rfl, rfl, Nat.le_of_ble_eq_true rfl, Nat.le_of_ble_eq_true rfl⟩ ⟨Nat.zero_le _, Nat.zero_le _⟩ dX11_judge_94) hS (fun H locs hP hS => ?_)
                refine lv_icmp_eq (tgt := 103) hx hb dX11_judge_97 (by decide) (fun c_24 => ?_) (fun c_24 => ?_)
                · have h := it c_24 h
                  obtain ⟨x7_25, ex7_25, h⟩ := bnd_e h
                  refine lv_iinc (v := x7_25) (lv' := [(7, .int x7_25), (8, .int r_19), (0, .ref (a 0)), (1, .int p1), (3, .ref (a (7 + 2 * r_8))), (5, .int y_13), (6, .int r_15)]) hx hb dX11_judge_103 hl (k := 6) rfl (by rw [ex7_25]; rfl) (by decide) rfl (fun ls hl => ?_)
                  refine lv_goto (tgt := 63) hx hb dX11_judge_106 (by decide) ?_
                  exact ih1 x7_25 _ _ ls h hP hS (lv_sub hl [2, 3, 4, 5, 6, 0] rfl)
                · have h := ie c_24 h
                  refine lv_iload hx hb dX11_judge_100 (lv_at hl 6 rfl) ?_
                  rw [hQ]
                  exact xzretr C0 hP hS rfl h dX11_judge_102
        exact hL1 5000 0 _ _ ls h hP hS (lv_sub hl [5, 6, 4, 2, 1, 0] rfl)
      · have h := ie c_12 h
        refine lv_iload hx hb dX11_judge_35 (lv_at hl 0 rfl) ?_
        rw [hQ]
        exact xzretr C0 hP hS rfl h dX11_judge_37
    · have h := it c_6 h
      refine lv_iconst (v := (-1)) hx hb dX11_judge_16 (by decide) ?_
      rw [hQ]
      exact xzretr C0 hP hS rfl h dX11_judge_17
def f_X11_image (σ : Mem) : Option (Int32 × Mem) :=
  b1 (f_X0_becomeLike 1 0 σ) fun σ_2 =>
  bnd (uX σ_2 0 9 1) fun (σ_3 : Mem) =>
  some (σ_3 (1 + 2 * 0) 1, σ_3)
def rm_X11_image : Room := { frames := 2, cells := 0, slots := 0, locals := 89 }
set_option maxHeartbeats 4000000 in
set_option maxRecDepth 100000 in
theorem c_X11_image {l : Launch} {D : va_G} {ca : Nat → ClassId} {a : Nat → Nat} (hI : InjN 37 a)  {σ : Mem} {r : Int32} {σ' : Mem}  (h : f_X11_image σ = some (r, σ')) : XMX l D ca a Bt yX11_image cX11_image 1 (some .int) rm_X11_image [.ref (a 0)] σ (some (.int r)) σ' := by
  refine XM.of pn_X11 (Nat.le_of_ble_eq_true rfl) ?_
  intro p e s m args below meth c ls Q hQ C0 hK hB hP hS hl
  have C0 : Cx p s m args meth c RX11 cX11_image 1 (some .int) := C0
  have hx := C0.1
  have hb := C0.2.1
  have hl : lv_has ls 1 [(0, .ref (a 0))] := hl
  rw [f_X11_image] at h
  refine lv_aload_n hx hb dX11_image_0 rfl (lv_at hl 0 rfl) ?_
  refine gX11_1 C0 hK hP tw234 dX11_image_1 ?_
  refine lv_aload_n hx hb dX11_image_4 rfl (lv_at hl 0 rfl) ?_
  refine gX11_0 C0 hK hP tw233 dX11_image_5 ?_
  obtain ⟨σ_2, h_1, h⟩ := b1_e h
  refine xcall (rV C0 hK hP hl.1 (fun _ _ _ => trivial) Bt_b (c_X0_becomeLike hI (by decide) (by decide) h_1) cv_X0_becomeLike tw368 (rcX0 hK hP (by decide)) (rest := []) rfl (Nat.le_of_ble_eq_true rfl) ⟨rfl, rfl, Nat.le_of_ble_eq_true rfl, Nat.le_of_ble_eq_true rfl⟩ ⟨Nat.zero_le _, Nat.zero_le _⟩ dX11_image_8) hS (fun H locs hP hS => ?_)
  refine lv_aload_n hx hb dX11_image_11 rfl (lv_at hl 0 rfl) ?_
  refine lv_iconst (v := 1) hx hb dX11_image_12 (by decide) ?_
  obtain ⟨σ_3, eσ_3, h⟩ := bnd_e h
  refine pX11_8 C0 hK hP tw241 hI hS (by decide) dX11_image_13 (fun H locs hP hS => ?_)
  rw [← eσ_3] at hP
  refine lv_aload_n hx hb dX11_image_16 rfl (lv_at hl 0 rfl) ?_
  refine gX11_0 C0 hK hP tw233 dX11_image_17 ?_
  refine gX0_1N C0 hK hP (by decide) tw100 dX11_image_20 ?_
  rw [hQ]
  exact xzret C0 hP hS rfl h dX11_image_23
def f_X11_restore (σ : Mem) : Option (Int32 × Mem) :=
  if (σ 0 9) = 0 then
    some ((-3), σ)
  else
    b1 (f_X0_becomeLike 0 1 σ) fun σ_3 =>
    some (σ_3 (1 + 2 * 0) 1, σ_3)
def rm_X11_restore : Room := { frames := 2, cells := 0, slots := 0, locals := 89 }
set_option maxHeartbeats 4000000 in
set_option maxRecDepth 100000 in
theorem c_X11_restore {l : Launch} {D : va_G} {ca : Nat → ClassId} {a : Nat → Nat} (hI : InjN 37 a)  {σ : Mem} {r : Int32} {σ' : Mem}  (h : f_X11_restore σ = some (r, σ')) : XMX l D ca a Bt yX11_restore cX11_restore 1 (some .int) rm_X11_restore [.ref (a 0)] σ (some (.int r)) σ' := by
  refine XM.of pn_X11 (Nat.le_of_ble_eq_true rfl) ?_
  intro p e s m args below meth c ls Q hQ C0 hK hB hP hS hl
  have C0 : Cx p s m args meth c RX11 cX11_restore 1 (some .int) := C0
  have hx := C0.1
  have hb := C0.2.1
  have hl : lv_has ls 1 [(0, .ref (a 0))] := hl
  rw [f_X11_restore] at h
  refine lv_aload_n hx hb dX11_restore_0 rfl (lv_at hl 0 rfl) ?_
  refine gX11_8 C0 hK hP tw241 dX11_restore_1 ?_
  refine lv_if_ne (tgt := 10) hx hb dX11_restore_4 (by decide) (fun c_1 => ?_) (fun c_1 => ?_)
  · have h := ie c_1 h
    refine lv_aload_n hx hb dX11_restore_10 rfl (lv_at hl 0 rfl) ?_
    refine gX11_0 C0 hK hP tw233 dX11_restore_11 ?_
    refine lv_aload_n hx hb dX11_restore_14 rfl (lv_at hl 0 rfl) ?_
    refine gX11_1 C0 hK hP tw234 dX11_restore_15 ?_
    obtain ⟨σ_3, h_2, h⟩ := b1_e h
    refine xcall (rV C0 hK hP hl.1 (fun _ _ _ => trivial) Bt_b (c_X0_becomeLike hI (by decide) (by decide) h_2) cv_X0_becomeLike tw368 (rcX0 hK hP (by decide)) (rest := []) rfl (Nat.le_of_ble_eq_true rfl) ⟨rfl, rfl, Nat.le_of_ble_eq_true rfl, Nat.le_of_ble_eq_true rfl⟩ ⟨Nat.zero_le _, Nat.zero_le _⟩ dX11_restore_18) hS (fun H locs hP hS => ?_)
    refine lv_aload_n hx hb dX11_restore_21 rfl (lv_at hl 0 rfl) ?_
    refine gX11_0 C0 hK hP tw233 dX11_restore_22 ?_
    refine gX0_1N C0 hK hP (by decide) tw100 dX11_restore_25 ?_
    rw [hQ]
    exact xzret C0 hP hS rfl h dX11_restore_28
  · have h := it c_1 h
    refine lv_bipush (v := (-3)) hx hb dX11_restore_7 (by decide) ?_
    rw [hQ]
    exact xzret C0 hP hS rfl h dX11_restore_9
def f_X11_count (p1 : Int32) (σ : Mem) : Option (Int32) :=
  if p1 = 0 then
    some (σ (1 + 2 * 0) 1)
  else
    if p1 = 1 then
      some (σ (1 + 2 * 0) 4)
    else
      if p1 = 2 then
        some (σ (1 + 2 * 0) 5)
      else
        if p1 = 3 then
          some (σ (1 + 2 * 0) 2)
        else
          if p1 = 4 then
            some (σ (1 + 2 * 0) 3)
          else
            if p1 = 5 then
              b1 (f_X0_total 0 2 σ) fun r_8 =>
              some r_8
            else
              if p1 = 6 then
                b1 (f_X0_total 0 1 σ) fun r_11 =>
                some r_11
              else
                some (-1)
def rm_X11_count : Room := { frames := 2, cells := 0, slots := 0, locals := 46 }
set_option maxHeartbeats 4000000 in
set_option maxRecDepth 100000 in
theorem c_X11_count {l : Launch} {D : va_G} {ca : Nat → ClassId} {a : Nat → Nat} (hI : InjN 37 a) {p1 : Int32} {σ : Mem} {r : Int32}  (h : f_X11_count p1 σ = some r) : XMX l D ca a Bt yX11_count cX11_count 2 (some .int) rm_X11_count [.ref (a 0), .int p1] σ (some (.int r)) σ := by
  refine XM.of pn_X11 (Nat.le_of_ble_eq_true rfl) ?_
  intro p e s m args below meth c ls Q hQ C0 hK hB hP hS hl
  have C0 : Cx p s m args meth c RX11 cX11_count 2 (some .int) := C0
  have hx := C0.1
  have hb := C0.2.1
  have hl : lv_has ls 2 [(0, .ref (a 0)), (1, .int p1)] := hl
  rw [f_X11_count] at h
  refine lv_iload_n hx hb dX11_count_0 rfl (lv_at hl 1 rfl) ?_
  by_cases c_1 : p1 = 0
  · have h := it c_1 h
    refine lv_tableIn (off := 43) (tgt := 44) hx hb dX11_count_1 (by rw [c_1]; decide) (by rw [c_1]; decide) (by rw [c_1]; rfl) (by decide) ?_
    refine lv_aload_n hx hb dX11_count_44 rfl (lv_at hl 0 rfl) ?_
    refine gX11_0 C0 hK hP tw233 dX11_count_45 ?_
    refine gX0_1N C0 hK hP (by decide) tw100 dX11_count_48 ?_
    rw [hQ]
    exact xzretr C0 hP hS rfl h dX11_count_51
  · have h := ie c_1 h
    by_cases c_2 : p1 = 1
    · have h := it c_2 h
      refine lv_tableIn (off := 51) (tgt := 52) hx hb dX11_count_1 (by rw [c_2]; decide) (by rw [c_2]; decide) (by rw [c_2]; rfl) (by decide) ?_
      refine lv_aload_n hx hb dX11_count_52 rfl (lv_at hl 0 rfl) ?_
      refine gX11_0 C0 hK hP tw233 dX11_count_53 ?_
      refine gX0_4N C0 hK hP (by decide) tw107 dX11_count_56 ?_
      rw [hQ]
      exact xzretr C0 hP hS rfl h dX11_count_59
    · have h := ie c_2 h
      by_cases c_3 : p1 = 2
      · have h := it c_3 h
        refine lv_tableIn (off := 59) (tgt := 60) hx hb dX11_count_1 (by rw [c_3]; decide) (by rw [c_3]; decide) (by rw [c_3]; rfl) (by decide) ?_
        refine lv_aload_n hx hb dX11_count_60 rfl (lv_at hl 0 rfl) ?_
        refine gX11_0 C0 hK hP tw233 dX11_count_61 ?_
        refine gX0_5N C0 hK hP (by decide) tw109 dX11_count_64 ?_
        rw [hQ]
        exact xzretr C0 hP hS rfl h dX11_count_67
      · have h := ie c_3 h
        by_cases c_4 : p1 = 3
        · have h := it c_4 h
          refine lv_tableIn (off := 67) (tgt := 68) hx hb dX11_count_1 (by rw [c_4]; decide) (by rw [c_4]; decide) (by rw [c_4]; rfl) (by decide) ?_
          refine lv_aload_n hx hb dX11_count_68 rfl (lv_at hl 0 rfl) ?_
          refine gX11_0 C0 hK hP tw233 dX11_count_69 ?_
          refine gX0_2N C0 hK hP (by decide) tw102 dX11_count_72 ?_
          rw [hQ]
          exact xzretr C0 hP hS rfl h dX11_count_75
        · have h := ie c_4 h
          by_cases c_5 : p1 = 4
          · have h := it c_5 h
            refine lv_tableIn (off := 75) (tgt := 76) hx hb dX11_count_1 (by rw [c_5]; decide) (by rw [c_5]; decide) (by rw [c_5]; rfl) (by decide) ?_
            refine lv_aload_n hx hb dX11_count_76 rfl (lv_at hl 0 rfl) ?_
            refine gX11_0 C0 hK hP tw233 dX11_count_77 ?_
            refine gX0_3N C0 hK hP (by decide) tw104 dX11_count_80 ?_
            rw [hQ]
            exact xzretr C0 hP hS rfl h dX11_count_83
          · have h := ie c_5 h
            by_cases c_6 : p1 = 5
            · have h := it c_6 h
              refine lv_tableIn (off := 83) (tgt := 84) hx hb dX11_count_1 (by rw [c_6]; decide) (by rw [c_6]; decide) (by rw [c_6]; rfl) (by decide) ?_
              refine lv_aload_n hx hb dX11_count_84 rfl (lv_at hl 0 rfl) ?_
              refine gX11_0 C0 hK hP tw233 dX11_count_85 ?_
              refine lv_iconst (v := 2) hx hb dX11_count_88 (by decide) ?_
              obtain ⟨r_8, h_7, h⟩ := b1_e h
              refine xcall (rV C0 hK hP hl.1 (fun _ _ _ => trivial) Bt_b (c_X0_total hI (by decide) h_7) cv_X0_total tw746 (rcX0 hK hP (by decide)) (rest := []) rfl (Nat.le_of_ble_eq_true rfl) ⟨rfl, rfl, Nat.le_of_ble_eq_true rfl, Nat.le_of_ble_eq_true rfl⟩ ⟨Nat.zero_le _, Nat.zero_le _⟩ dX11_count_89) hS (fun H locs hP hS => ?_)
              rw [hQ]
              exact xzretr C0 hP hS rfl h dX11_count_92
            · have h := ie c_6 h
              by_cases c_9 : p1 = 6
              · have h := it c_9 h
                refine lv_tableIn (off := 92) (tgt := 93) hx hb dX11_count_1 (by rw [c_9]; decide) (by rw [c_9]; decide) (by rw [c_9]; rfl) (by decide) ?_
                refine lv_aload_n hx hb dX11_count_93 rfl (lv_at hl 0 rfl) ?_
                refine gX11_0 C0 hK hP tw233 dX11_count_94 ?_
                refine lv_iconst (v := 1) hx hb dX11_count_97 (by decide) ?_
                obtain ⟨r_11, h_10, h⟩ := b1_e h
                refine xcall (rV C0 hK hP hl.1 (fun _ _ _ => trivial) Bt_b (c_X0_total hI (by decide) h_10) cv_X0_total tw746 (rcX0 hK hP (by decide)) (rest := []) rfl (Nat.le_of_ble_eq_true rfl) ⟨rfl, rfl, Nat.le_of_ble_eq_true rfl, Nat.le_of_ble_eq_true rfl⟩ ⟨Nat.zero_le _, Nat.zero_le _⟩ dX11_count_98) hS (fun H locs hP hS => ?_)
                rw [hQ]
                exact xzretr C0 hP hS rfl h dX11_count_101
              · have h := ie c_9 h
                refine lv_tableOut (tgt := 102) hx hb dX11_count_1 (by have := sw_ne (k := 0) (by decide) c_1; have := sw_ne (k := 1) (by decide) c_2; have := sw_ne (k := 2) (by decide) c_3; have := sw_ne (k := 3) (by decide) c_4; have := sw_ne (k := 4) (by decide) c_5; have := sw_ne (k := 5) (by decide) c_6; have := sw_ne (k := 6) (by decide) c_9; omega) (by decide) ?_
                refine lv_iconst (v := (-1)) hx hb dX11_count_102 (by decide) ?_
                rw [hQ]
                exact xzretr C0 hP hS rfl h dX11_count_103
def f_X11_keep (p1 : Int32) (p2 : Int32) (p3 : Int32) (p4 : Int32) (σ : Mem) : Option (Int32 × Mem) :=
  b1 (f_X11_isShelf p1) fun r_2 =>
  if r_2 = 0 then
    some ((-1), σ)
  else
    if p2 = 0 then
      b1 (f_X11_shelfAt p1) fun r_18 =>
      if r_18 < 9 then
        b1 (f_X5_holdNothing r_18 σ) fun σ_21 =>
        some (0, σ_21)
      else none
    else
      if p2 = 1 then
        b1 (f_X11_within p3 0 7) fun r_7 =>
        if r_7 = 0 then
          some ((-1), σ)
        else
          b1 (f_X11_within p4 0 9) fun r_10 =>
          if r_10 = 0 then
            some ((-1), σ)
          else
            b1 (f_X11_shelfAt p1) fun r_13 =>
            if r_13 < 9 then
              b1 (f_X5_holdPin r_13 p3 p4 σ) fun σ_16 =>
              some (0, σ_16)
            else none
      else
        some ((-1), σ)
def rm_X11_keep : Room := { frames := 2, cells := 0, slots := 0, locals := 42 }
set_option maxHeartbeats 4000000 in
set_option maxRecDepth 100000 in
theorem c_X11_keep {l : Launch} {D : va_G} {ca : Nat → ClassId} {a : Nat → Nat} (hI : InjN 37 a) {p1 : Int32} {p2 : Int32} {p3 : Int32} {p4 : Int32} {σ : Mem} {r : Int32} {σ' : Mem}  (h : f_X11_keep p1 p2 p3 p4 σ = some (r, σ')) : XMX l D ca a Bt yX11_keep cX11_keep 5 (some .int) rm_X11_keep [.ref (a 0), .int p1, .int p2, .int p3, .int p4] σ (some (.int r)) σ' := by
  refine XM.of pn_X11 (Nat.le_of_ble_eq_true rfl) ?_
  intro p e s m args below meth c ls Q hQ C0 hK hB hP hS hl
  have C0 : Cx p s m args meth c RX11 cX11_keep 5 (some .int) := C0
  have hx := C0.1
  have hb := C0.2.1
  have hl : lv_has ls 5 [(0, .ref (a 0)), (1, .int p1), (2, .int p2), (3, .int p3), (4, .int p4)] := hl
  rw [f_X11_keep] at h
  refine lv_iload_n hx hb dX11_keep_0 rfl (lv_at hl 1 rfl) ?_
  obtain ⟨r_2, h_1, h⟩ := b1_e h
  refine xcall (rS C0 hK hP hl.1 (fun _ _ _ => trivial) Bt_b (c_X11_isShelf hI h_1) cs_X11_isShelf tw269 (rest := []) rfl (Nat.le_of_ble_eq_true rfl) ⟨rfl, rfl, Nat.le_of_ble_eq_true rfl, Nat.le_of_ble_eq_true rfl⟩ ⟨Nat.zero_le _, Nat.zero_le _⟩ dX11_keep_1) hS (fun H locs hP hS => ?_)
  refine lv_if_ne (tgt := 9) hx hb dX11_keep_4 (by decide) (fun c_3 => ?_) (fun c_3 => ?_)
  · have h := ie c_3 h
    refine lv_iload_n hx hb dX11_keep_9 rfl (lv_at hl 2 rfl) ?_
    refine lv_if_ne (tgt := 23) hx hb dX11_keep_10 (by decide) (fun c_4 => ?_) (fun c_4 => ?_)
    · have h := ie c_4 h
      refine lv_iload_n hx hb dX11_keep_23 rfl (lv_at hl 2 rfl) ?_
      refine lv_iconst (v := 1) hx hb dX11_keep_24 (by decide) ?_
      refine lv_icmp_ne (tgt := 49) hx hb dX11_keep_25 (by decide) (fun c_5 => ?_) (fun c_5 => ?_)
      · have h := ie c_5 h
        refine lv_iconst (v := (-1)) hx hb dX11_keep_49 (by decide) ?_
        rw [hQ]
        exact xzret C0 hP hS rfl h dX11_keep_50
      · have h := it c_5 h
        refine lv_iload_n hx hb dX11_keep_28 rfl (lv_at hl 3 rfl) ?_
        refine lv_iconst (v := 0) hx hb dX11_keep_29 (by decide) ?_
        refine lv_bipush (v := 7) hx hb dX11_keep_30 (by decide) ?_
        obtain ⟨r_7, h_6, h⟩ := b1_e h
        refine xcall (rS C0 hK hP hl.1 (fun _ _ _ => trivial) Bt_b (c_X11_within hI h_6) cs_X11_within tw272 (rest := []) rfl (Nat.le_of_ble_eq_true rfl) ⟨rfl, rfl, Nat.le_of_ble_eq_true rfl, Nat.le_of_ble_eq_true rfl⟩ ⟨Nat.zero_le _, Nat.zero_le _⟩ dX11_keep_32) hS (fun H locs hP hS => ?_)
        refine lv_if_eq (tgt := 49) hx hb dX11_keep_35 (by decide) (fun c_8 => ?_) (fun c_8 => ?_)
        · have h := it c_8 h
          refine lv_iconst (v := (-1)) hx hb dX11_keep_49 (by decide) ?_
          rw [hQ]
          exact xzret C0 hP hS rfl h dX11_keep_50
        · have h := ie c_8 h
          refine lv_iload hx hb dX11_keep_38 (lv_at hl 4 rfl) ?_
          refine lv_iconst (v := 0) hx hb dX11_keep_40 (by decide) ?_
          refine lv_bipush (v := 9) hx hb dX11_keep_41 (by decide) ?_
          obtain ⟨r_10, h_9, h⟩ := b1_e h
          refine xcall (rS C0 hK hP hl.1 (fun _ _ _ => trivial) Bt_b (c_X11_within hI h_9) cs_X11_within tw272 (rest := []) rfl (Nat.le_of_ble_eq_true rfl) ⟨rfl, rfl, Nat.le_of_ble_eq_true rfl, Nat.le_of_ble_eq_true rfl⟩ ⟨Nat.zero_le _, Nat.zero_le _⟩ dX11_keep_43) hS (fun H locs hP hS => ?_)
          refine lv_if_ne (tgt := 51) hx hb dX11_keep_46 (by decide) (fun c_11 => ?_) (fun c_11 => ?_)
          · have h := ie c_11 h
            refine lv_aload_n hx hb dX11_keep_51 rfl (lv_at hl 0 rfl) ?_
            refine lv_iload_n hx hb dX11_keep_52 rfl (lv_at hl 1 rfl) ?_
            obtain ⟨r_13, h_12, h⟩ := b1_e h
            refine xcall (rV C0 hK hP hl.1 (fun _ _ _ => trivial) Bt_b (c_X11_shelfAt hI h_12) cv_X11_shelfAt tw275 (rcX11 hK hP) (rest := []) rfl (Nat.le_of_ble_eq_true rfl) ⟨rfl, rfl, Nat.le_of_ble_eq_true rfl, Nat.le_of_ble_eq_true rfl⟩ ⟨Nat.zero_le _, Nat.zero_le _⟩ dX11_keep_53) hS (fun H locs hP hS => ?_)
            obtain ⟨hk_14, h⟩ := asr h
            refine lv_iload_n hx hb dX11_keep_56 rfl (lv_at hl 3 rfl) ?_
            refine lv_iload hx hb dX11_keep_57 (lv_at hl 4 rfl) ?_
            obtain ⟨σ_16, h_15, h⟩ := b1_e h
            refine xcall (rV C0 hK hP hl.1 (fun _ _ _ => trivial) Bt_b (c_X5_holdPin hI hk_14 h_15) cv_X5_holdPin tw758 (rcX5 hK hP hk_14) (rest := []) rfl (Nat.le_of_ble_eq_true rfl) ⟨rfl, rfl, Nat.le_of_ble_eq_true rfl, Nat.le_of_ble_eq_true rfl⟩ ⟨Nat.zero_le _, Nat.zero_le _⟩ dX11_keep_59) hS (fun H locs hP hS => ?_)
            refine lv_iconst (v := 0) hx hb dX11_keep_62 (by decide) ?_
            rw [hQ]
            exact xzret C0 hP hS rfl h dX11_keep_63
          · have h := it c_11 h
            refine lv_iconst (v := (-1)) hx hb dX11_keep_49 (by decide) ?_
            rw [hQ]
            exact xzret C0 hP hS rfl h dX11_keep_50
    · have h := it c_4 h
      refine lv_aload_n hx hb dX11_keep_13 rfl (lv_at hl 0 rfl) ?_
      refine lv_iload_n hx hb dX11_keep_14 rfl (lv_at hl 1 rfl) ?_
      obtain ⟨r_18, h_17, h⟩ := b1_e h
      refine xcall (rV C0 hK hP hl.1 (fun _ _ _ => trivial) Bt_b (c_X11_shelfAt hI h_17) cv_X11_shelfAt tw275 (rcX11 hK hP) (rest := []) rfl (Nat.le_of_ble_eq_true rfl) ⟨rfl, rfl, Nat.le_of_ble_eq_true rfl, Nat.le_of_ble_eq_true rfl⟩ ⟨Nat.zero_le _, Nat.zero_le _⟩ dX11_keep_15) hS (fun H locs hP hS => ?_)
      obtain ⟨hk_19, h⟩ := asr h
      obtain ⟨σ_21, h_20, h⟩ := b1_e h
      refine xcall (rV C0 hK hP hl.1 (fun _ _ _ => trivial) Bt_b (c_X5_holdNothing hI hk_19 h_20) cv_X5_holdNothing tw754 (rcX5 hK hP hk_19) (rest := []) rfl (Nat.le_of_ble_eq_true rfl) ⟨rfl, rfl, Nat.le_of_ble_eq_true rfl, Nat.le_of_ble_eq_true rfl⟩ ⟨Nat.zero_le _, Nat.zero_le _⟩ dX11_keep_18) hS (fun H locs hP hS => ?_)
      refine lv_iconst (v := 0) hx hb dX11_keep_21 (by decide) ?_
      rw [hQ]
      exact xzret C0 hP hS rfl h dX11_keep_22
  · have h := it c_3 h
    refine lv_iconst (v := (-1)) hx hb dX11_keep_7 (by decide) ?_
    rw [hQ]
    exact xzret C0 hP hS rfl h dX11_keep_8
