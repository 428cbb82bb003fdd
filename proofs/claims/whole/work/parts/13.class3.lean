def f_X11_row (p1 : Int32) (p2 : Int32) (p3 : Int32) (σ : Mem) : Option (Int32 × Mem) :=
  b1 (f_X11_isShelf p1) fun r_2 =>
  if r_2 = 0 then
    some ((-1), σ)
  else
    b1 (f_X11_within p2 0 2) fun r_5 =>
    if r_5 = 0 then
      some ((-1), σ)
    else
      if p3 ≤ 100 then
        if 0 ≤ p3 then
          b1 (f_X11_shelfAt p1) fun r_10 =>
          if r_10 < 9 then
            b1 (f_X5_holdRow r_10 p2 p3 σ) fun σ_13 =>
            some (0, σ_13)
          else none
        else
          some ((-14), σ)
      else
        some ((-1), σ)
def rm_X11_row : Room := { frames := 2, cells := 0, slots := 0, locals := 44 }
set_option maxHeartbeats 4000000 in
set_option maxRecDepth 100000 in
theorem c_X11_row {l : Launch} {D : va_G} {ca : Nat → ClassId} {a : Nat → Nat} (hI : InjN 37 a) {p1 : Int32} {p2 : Int32} {p3 : Int32} {σ : Mem} {r : Int32} {σ' : Mem}  (h : f_X11_row p1 p2 p3 σ = some (r, σ')) : XMX l D ca a Bt yX11_row cX11_row 4 (some .int) rm_X11_row [.ref (a 0), .int p1, .int p2, .int p3] σ (some (.int r)) σ' := by
  refine XM.of pn_X11 (Nat.le_of_ble_eq_true rfl) ?_
  intro p e s m args below meth c ls Q hQ C0 hK hB hP hS hl
  have C0 : Cx p s m args meth c RX11 cX11_row 4 (some .int) := C0
  have hx := C0.1
  have hb := C0.2.1
  have hl : lv_has ls 4 [(0, .ref (a 0)), (1, .int p1), (2, .int p2), (3, .int p3)] := hl
  rw [f_X11_row] at h
  refine lv_iload_n hx hb dX11_row_0 rfl (lv_at hl 1 rfl) ?_
  obtain ⟨r_2, h_1, h⟩ := b1_e h
  refine xcall (rS C0 hK hP hl.1 (fun _ _ _ => trivial) Bt_b (c_X11_isShelf hI h_1) cs_X11_isShelf tw269 (rest := []) rfl (Nat.le_of_ble_eq_true rfl) ⟨rfl, rfl, Nat.le_of_ble_eq_true rfl, Nat.le_of_ble_eq_true rfl⟩ ⟨Nat.zero_le _, Nat.zero_le _⟩ dX11_row_1) hS (fun H locs hP hS => ?_)
  refine lv_if_eq (tgt := 22) hx hb dX11_row_4 (by decide) (fun c_3 => ?_) (fun c_3 => ?_)
  · have h := it c_3 h
    refine lv_iconst (v := (-1)) hx hb dX11_row_22 (by decide) ?_
    rw [hQ]
    exact xzret C0 hP hS rfl h dX11_row_23
  · have h := ie c_3 h
    refine lv_iload_n hx hb dX11_row_7 rfl (lv_at hl 2 rfl) ?_
    refine lv_iconst (v := 0) hx hb dX11_row_8 (by decide) ?_
    refine lv_iconst (v := 2) hx hb dX11_row_9 (by decide) ?_
    obtain ⟨r_5, h_4, h⟩ := b1_e h
    refine xcall (rS C0 hK hP hl.1 (fun _ _ _ => trivial) Bt_b (c_X11_within hI h_4) cs_X11_within tw272 (rest := []) rfl (Nat.le_of_ble_eq_true rfl) ⟨rfl, rfl, Nat.le_of_ble_eq_true rfl, Nat.le_of_ble_eq_true rfl⟩ ⟨Nat.zero_le _, Nat.zero_le _⟩ dX11_row_10) hS (fun H locs hP hS => ?_)
    refine lv_if_eq (tgt := 22) hx hb dX11_row_13 (by decide) (fun c_6 => ?_) (fun c_6 => ?_)
    · have h := it c_6 h
      refine lv_iconst (v := (-1)) hx hb dX11_row_22 (by decide) ?_
      rw [hQ]
      exact xzret C0 hP hS rfl h dX11_row_23
    · have h := ie c_6 h
      refine lv_iload_n hx hb dX11_row_16 rfl (lv_at hl 3 rfl) ?_
      refine lv_bipush (v := 100) hx hb dX11_row_17 (by decide) ?_
      refine lv_icmp_le (tgt := 24) hx hb dX11_row_19 (by decide) (fun c_7 => ?_) (fun c_7 => ?_)
      · have h := it c_7 h
        refine lv_iload_n hx hb dX11_row_24 rfl (lv_at hl 3 rfl) ?_
        refine lv_if_ge (tgt := 31) hx hb dX11_row_25 (by decide) (fun c_8 => ?_) (fun c_8 => ?_)
        · have h := it c_8 h
          refine lv_aload_n hx hb dX11_row_31 rfl (lv_at hl 0 rfl) ?_
          refine lv_iload_n hx hb dX11_row_32 rfl (lv_at hl 1 rfl) ?_
          obtain ⟨r_10, h_9, h⟩ := b1_e h
          refine xcall (rV C0 hK hP hl.1 (fun _ _ _ => trivial) Bt_b (c_X11_shelfAt hI h_9) cv_X11_shelfAt tw275 (rcX11 hK hP) (rest := []) rfl (Nat.le_of_ble_eq_true rfl) ⟨rfl, rfl, Nat.le_of_ble_eq_true rfl, Nat.le_of_ble_eq_true rfl⟩ ⟨Nat.zero_le _, Nat.zero_le _⟩ dX11_row_33) hS (fun H locs hP hS => ?_)
          obtain ⟨hk_11, h⟩ := asr h
          refine lv_iload_n hx hb dX11_row_36 rfl (lv_at hl 2 rfl) ?_
          refine lv_iload_n hx hb dX11_row_37 rfl (lv_at hl 3 rfl) ?_
          obtain ⟨σ_13, h_12, h⟩ := b1_e h
          refine xcall (rV C0 hK hP hl.1 (fun _ _ _ => trivial) Bt_b (c_X5_holdRow hI hk_11 h_12) cv_X5_holdRow tw766 (rcX5 hK hP hk_11) (rest := []) rfl (Nat.le_of_ble_eq_true rfl) ⟨rfl, rfl, Nat.le_of_ble_eq_true rfl, Nat.le_of_ble_eq_true rfl⟩ ⟨Nat.zero_le _, Nat.zero_le _⟩ dX11_row_38) hS (fun H locs hP hS => ?_)
          refine lv_iconst (v := 0) hx hb dX11_row_41 (by decide) ?_
          rw [hQ]
          exact xzret C0 hP hS rfl h dX11_row_42
        · have h := ie c_8 h
          refine lv_bipush (v := (-14)) hx hb dX11_row_28 (by decide) ?_
          rw [hQ]
          exact xzret C0 hP hS rfl h dX11_row_30
      · have h := ie c_7 h
        refine lv_iconst (v := (-1)) hx hb dX11_row_22 (by decide) ?_
        rw [hQ]
        exact xzret C0 hP hS rfl h dX11_row_23
def f_X11_put (p1 : Int32) (p2 : Int32) (p3 : Int32) (σ : Mem) : Option (Int32 × Mem) :=
  b1 (f_X11_isShelf p1) fun r_2 =>
  if r_2 = 0 then
    some ((-1), σ)
  else
    b1 (f_X11_shelfAt p1) fun r_5 =>
    if r_5 < 9 then
      b1 (f_X5_rowRefusal r_5 σ) fun r_8 =>
      if r_8 = 0 then
        b1 (f_X5_hasPlaces r_5 p2 1 σ) fun r_11 =>
        if r_11 = 0 then
          some ((-13), σ)
        else
          b1 (f_X5_putAt r_5 p2 p3 σ) fun σ_14 =>
          some (0, σ_14)
      else
        some (r_8, σ)
    else none
def rm_X11_put : Room := { frames := 2, cells := 0, slots := 0, locals := 42 }
set_option maxHeartbeats 4000000 in
set_option maxRecDepth 100000 in
theorem c_X11_put {l : Launch} {D : va_G} {ca : Nat → ClassId} {a : Nat → Nat} (hI : InjN 37 a) {p1 : Int32} {p2 : Int32} {p3 : Int32} {σ : Mem} {r : Int32} {σ' : Mem}  (h : f_X11_put p1 p2 p3 σ = some (r, σ')) : XMX l D ca a Bt yX11_put cX11_put 6 (some .int) rm_X11_put [.ref (a 0), .int p1, .int p2, .int p3] σ (some (.int r)) σ' := by
  refine XM.of pn_X11 (Nat.le_of_ble_eq_true rfl) ?_
  intro p e s m args below meth c ls Q hQ C0 hK hB hP hS hl
  have C0 : Cx p s m args meth c RX11 cX11_put 6 (some .int) := C0
  have hx := C0.1
  have hb := C0.2.1
  have hl : lv_has ls 6 [(0, .ref (a 0)), (1, .int p1), (2, .int p2), (3, .int p3)] := hl
  rw [f_X11_put] at h
  refine lv_iload_n hx hb dX11_put_0 rfl (lv_at hl 1 rfl) ?_
  obtain ⟨r_2, h_1, h⟩ := b1_e h
  refine xcall (rS C0 hK hP hl.1 (fun _ _ _ => trivial) Bt_b (c_X11_isShelf hI h_1) cs_X11_isShelf tw269 (rest := []) rfl (Nat.le_of_ble_eq_true rfl) ⟨rfl, rfl, Nat.le_of_ble_eq_true rfl, Nat.le_of_ble_eq_true rfl⟩ ⟨Nat.zero_le _, Nat.zero_le _⟩ dX11_put_1) hS (fun H locs hP hS => ?_)
  refine lv_if_ne (tgt := 9) hx hb dX11_put_4 (by decide) (fun c_3 => ?_) (fun c_3 => ?_)
  · have h := ie c_3 h
    refine lv_aload_n hx hb dX11_put_9 rfl (lv_at hl 0 rfl) ?_
    refine lv_iload_n hx hb dX11_put_10 rfl (lv_at hl 1 rfl) ?_
    obtain ⟨r_5, h_4, h⟩ := b1_e h
    refine xcall (rV C0 hK hP hl.1 (fun _ _ _ => trivial) Bt_b (c_X11_shelfAt hI h_4) cv_X11_shelfAt tw275 (rcX11 hK hP) (rest := []) rfl (Nat.le_of_ble_eq_true rfl) ⟨rfl, rfl, Nat.le_of_ble_eq_true rfl, Nat.le_of_ble_eq_true rfl⟩ ⟨Nat.zero_le _, Nat.zero_le _⟩ dX11_put_11) hS (fun H locs hP hS => ?_)
    obtain ⟨hk_6, h⟩ := asr h
    refine lv_astore (lv' := [(4, .ref (a (7 + 2 * r_5))), (0, .ref (a 0)), (1, .int p1), (2, .int p2), (3, .int p3)]) hx hb dX11_put_14 hl (by decide) rfl (fun ls hl => ?_)
    refine lv_aload hx hb dX11_put_16 (lv_at hl 0 rfl) ?_
    obtain ⟨r_8, h_7, h⟩ := b1_e h
    refine xcall (rV C0 hK hP hl.1 (fun _ _ _ => trivial) Bt_b (c_X5_rowRefusal hI hk_6 h_7) cv_X5_rowRefusal tw279 (rcX5 hK hP hk_6) (rest := []) rfl (Nat.le_of_ble_eq_true rfl) ⟨rfl, rfl, Nat.le_of_ble_eq_true rfl, Nat.le_of_ble_eq_true rfl⟩ ⟨Nat.zero_le _, Nat.zero_le _⟩ dX11_put_18) hS (fun H locs hP hS => ?_)
    refine lv_istore (lv' := [(5, .int r_8), (4, .ref (a (7 + 2 * r_5))), (0, .ref (a 0)), (1, .int p1), (2, .int p2), (3, .int p3)]) hx hb dX11_put_21 hl (by decide) rfl (fun ls hl => ?_)
    refine lv_iload hx hb dX11_put_23 (lv_at hl 0 rfl) ?_
    refine lv_if_eq (tgt := 31) hx hb dX11_put_25 (by decide) (fun c_9 => ?_) (fun c_9 => ?_)
    · have h := it c_9 h
      refine lv_aload hx hb dX11_put_31 (lv_at hl 1 rfl) ?_
      refine lv_iload_n hx hb dX11_put_33 rfl (lv_at hl 4 rfl) ?_
      refine lv_iconst (v := 1) hx hb dX11_put_34 (by decide) ?_
      obtain ⟨r_11, h_10, h⟩ := b1_e h
      refine xcall (rV C0 hK hP hl.1 (fun _ _ _ => trivial) Bt_b (c_X5_hasPlaces hI hk_6 h_10) cv_X5_hasPlaces tw776 (rcX5 hK hP hk_6) (rest := []) rfl (Nat.le_of_ble_eq_true rfl) ⟨rfl, rfl, Nat.le_of_ble_eq_true rfl, Nat.le_of_ble_eq_true rfl⟩ ⟨Nat.zero_le _, Nat.zero_le _⟩ dX11_put_35) hS (fun H locs hP hS => ?_)
      refine lv_if_ne (tgt := 44) hx hb dX11_put_38 (by decide) (fun c_12 => ?_) (fun c_12 => ?_)
      · have h := ie c_12 h
        refine lv_aload hx hb dX11_put_44 (lv_at hl 1 rfl) ?_
        refine lv_iload_n hx hb dX11_put_46 rfl (lv_at hl 4 rfl) ?_
        refine lv_iload_n hx hb dX11_put_47 rfl (lv_at hl 5 rfl) ?_
        obtain ⟨σ_14, h_13, h⟩ := b1_e h
        refine xcall (rV C0 hK hP hl.1 (fun _ _ _ => trivial) Bt_b (c_X5_putAt hI hk_6 h_13) cv_X5_putAt tw780 (rcX5 hK hP hk_6) (rest := []) rfl (Nat.le_of_ble_eq_true rfl) ⟨rfl, rfl, Nat.le_of_ble_eq_true rfl, Nat.le_of_ble_eq_true rfl⟩ ⟨Nat.zero_le _, Nat.zero_le _⟩ dX11_put_48) hS (fun H locs hP hS => ?_)
        refine lv_iconst (v := 0) hx hb dX11_put_51 (by decide) ?_
        rw [hQ]
        exact xzret C0 hP hS rfl h dX11_put_52
      · have h := it c_12 h
        refine lv_bipush (v := (-13)) hx hb dX11_put_41 (by decide) ?_
        rw [hQ]
        exact xzret C0 hP hS rfl h dX11_put_43
    · have h := ie c_9 h
      refine lv_iload hx hb dX11_put_28 (lv_at hl 0 rfl) ?_
      rw [hQ]
      exact xzret C0 hP hS rfl h dX11_put_30
  · have h := it c_3 h
    refine lv_iconst (v := (-1)) hx hb dX11_put_7 (by decide) ?_
    rw [hQ]
    exact xzret C0 hP hS rfl h dX11_put_8
def f_X11_copy (p1 : Int32) (p2 : Int32) (p3 : Int32) (p4 : Int32) (p5 : Int32) (σ : Mem) : Option (Int32 × Mem) :=
  b1 (f_X11_isShelf p1) fun r_2 =>
  if r_2 = 0 then
    some ((-1), σ)
  else
    b1 (f_X11_isShelf p3) fun r_5 =>
    if r_5 = 0 then
      some ((-1), σ)
    else
      b1 (f_X11_shelfAt p1) fun r_8 =>
      if r_8 < 9 then
        b1 (f_X11_shelfAt p3) fun r_11 =>
        if r_11 < 9 then
          if (σ (7 + 2 * r_8) 1) = 0 then
            some ((-11), σ)
          else
            if (σ (7 + 2 * r_11) 1) = 0 then
              some ((-11), σ)
            else
              b1 (f_X5_rowRefusal r_8 σ) fun r_16 =>
              if r_16 = 0 then
                b1 (f_X5_rowRefusal r_11 σ) fun r_19 =>
                if r_19 = 0 then
                  if (σ (7 + 2 * r_8) 4) = (σ (7 + 2 * r_11) 4) then
                    b1 (f_X5_hasPlaces r_8 p2 p5 σ) fun r_23 =>
                    if r_23 = 0 then
                      some ((-13), σ)
                    else
                      b1 (f_X5_hasPlaces r_11 p4 p5 σ) fun r_26 =>
                      if r_26 = 0 then
                        some ((-13), σ)
                      else
                        b1 (f_X5_takeFrom r_11 r_8 p2 p4 p5 σ) fun σ_29 =>
                        some (p5, σ_29)
                  else
                    some ((-12), σ)
                else
                  some ((-12), σ)
              else
                some ((-12), σ)
        else none
      else none
def rm_X11_copy : Room := { frames := 2, cells := 0, slots := 0, locals := 92 }
set_option maxHeartbeats 4000000 in
set_option maxRecDepth 100000 in
theorem c_X11_copy {l : Launch} {D : va_G} {ca : Nat → ClassId} {a : Nat → Nat} (hI : InjN 37 a) {p1 : Int32} {p2 : Int32} {p3 : Int32} {p4 : Int32} {p5 : Int32} {σ : Mem} {r : Int32} {σ' : Mem}  (h : f_X11_copy p1 p2 p3 p4 p5 σ = some (r, σ')) : XMX l D ca a Bt yX11_copy cX11_copy 8 (some .int) rm_X11_copy [.ref (a 0), .int p1, .int p2, .int p3, .int p4, .int p5] σ (some (.int r)) σ' := by
  refine XM.of pn_X11 (Nat.le_of_ble_eq_true rfl) ?_
  intro p e s m args below meth c ls Q hQ C0 hK hB hP hS hl
  have C0 : Cx p s m args meth c RX11 cX11_copy 8 (some .int) := C0
  have hx := C0.1
  have hb := C0.2.1
  have hl : lv_has ls 8 [(0, .ref (a 0)), (1, .int p1), (2, .int p2), (3, .int p3), (4, .int p4), (5, .int p5)] := hl
  rw [f_X11_copy] at h
  refine lv_iload_n hx hb dX11_copy_0 rfl (lv_at hl 1 rfl) ?_
  obtain ⟨r_2, h_1, h⟩ := b1_e h
  refine xcall (rS C0 hK hP hl.1 (fun _ _ _ => trivial) Bt_b (c_X11_isShelf hI h_1) cs_X11_isShelf tw269 (rest := []) rfl (Nat.le_of_ble_eq_true rfl) ⟨rfl, rfl, Nat.le_of_ble_eq_true rfl, Nat.le_of_ble_eq_true rfl⟩ ⟨Nat.zero_le _, Nat.zero_le _⟩ dX11_copy_1) hS (fun H locs hP hS => ?_)
  refine lv_if_eq (tgt := 14) hx hb dX11_copy_4 (by decide) (fun c_3 => ?_) (fun c_3 => ?_)
  · have h := it c_3 h
    refine lv_iconst (v := (-1)) hx hb dX11_copy_14 (by decide) ?_
    rw [hQ]
    exact xzret C0 hP hS rfl h dX11_copy_15
  · have h := ie c_3 h
    refine lv_iload_n hx hb dX11_copy_7 rfl (lv_at hl 3 rfl) ?_
    obtain ⟨r_5, h_4, h⟩ := b1_e h
    refine xcall (rS C0 hK hP hl.1 (fun _ _ _ => trivial) Bt_b (c_X11_isShelf hI h_4) cs_X11_isShelf tw269 (rest := []) rfl (Nat.le_of_ble_eq_true rfl) ⟨rfl, rfl, Nat.le_of_ble_eq_true rfl, Nat.le_of_ble_eq_true rfl⟩ ⟨Nat.zero_le _, Nat.zero_le _⟩ dX11_copy_8) hS (fun H locs hP hS => ?_)
    refine lv_if_ne (tgt := 16) hx hb dX11_copy_11 (by decide) (fun c_6 => ?_) (fun c_6 => ?_)
    · have h := ie c_6 h
      refine lv_aload_n hx hb dX11_copy_16 rfl (lv_at hl 0 rfl) ?_
      refine lv_iload_n hx hb dX11_copy_17 rfl (lv_at hl 1 rfl) ?_
      obtain ⟨r_8, h_7, h⟩ := b1_e h
      refine xcall (rV C0 hK hP hl.1 (fun _ _ _ => trivial) Bt_b (c_X11_shelfAt hI h_7) cv_X11_shelfAt tw275 (rcX11 hK hP) (rest := []) rfl (Nat.le_of_ble_eq_true rfl) ⟨rfl, rfl, Nat.le_of_ble_eq_true rfl, Nat.le_of_ble_eq_true rfl⟩ ⟨Nat.zero_le _, Nat.zero_le _⟩ dX11_copy_18) hS (fun H locs hP hS => ?_)
      obtain ⟨hk_9, h⟩ := asr h
      refine lv_astore (lv' := [(6, .ref (a (7 + 2 * r_8))), (0, .ref (a 0)), (1, .int p1), (2, .int p2), (3, .int p3), (4, .int p4), (5, .int p5)]) hx hb dX11_copy_21 hl (by decide) rfl (fun ls hl => ?_)
      refine lv_aload_n hx hb dX11_copy_23 rfl (lv_at hl 1 rfl) ?_
      refine lv_iload_n hx hb dX11_copy_24 rfl (lv_at hl 4 rfl) ?_
      obtain ⟨r_11, h_10, h⟩ := b1_e h
      refine xcall (rV C0 hK hP hl.1 (fun _ _ _ => trivial) Bt_b (c_X11_shelfAt hI h_10) cv_X11_shelfAt tw275 (rcX11 hK hP) (rest := []) rfl (Nat.le_of_ble_eq_true rfl) ⟨rfl, rfl, Nat.le_of_ble_eq_true rfl, Nat.le_of_ble_eq_true rfl⟩ ⟨Nat.zero_le _, Nat.zero_le _⟩ dX11_copy_25) hS (fun H locs hP hS => ?_)
      obtain ⟨hk_12, h⟩ := asr h
      refine lv_astore (lv' := [(7, .ref (a (7 + 2 * r_11))), (6, .ref (a (7 + 2 * r_8))), (0, .ref (a 0)), (1, .int p1), (2, .int p2), (3, .int p3), (4, .int p4), (5, .int p5)]) hx hb dX11_copy_28 hl (by decide) rfl (fun ls hl => ?_)
      refine lv_aload hx hb dX11_copy_30 (lv_at hl 1 rfl) ?_
      refine gX5_1N C0 hK hP hk_9 tw133 dX11_copy_32 ?_
      refine lv_if_eq (tgt := 46) hx hb dX11_copy_35 (by decide) (fun c_13 => ?_) (fun c_13 => ?_)
      · have h := it c_13 h
        refine lv_bipush (v := (-11)) hx hb dX11_copy_46 (by decide) ?_
        rw [hQ]
        exact xzret C0 hP hS rfl h dX11_copy_48
      · have h := ie c_13 h
        refine lv_aload hx hb dX11_copy_38 (lv_at hl 0 rfl) ?_
        refine gX5_1N C0 hK hP hk_12 tw133 dX11_copy_40 ?_
        refine lv_if_ne (tgt := 49) hx hb dX11_copy_43 (by decide) (fun c_14 => ?_) (fun c_14 => ?_)
        · have h := ie c_14 h
          refine lv_aload hx hb dX11_copy_49 (lv_at hl 1 rfl) ?_
          obtain ⟨r_16, h_15, h⟩ := b1_e h
          refine xcall (rV C0 hK hP hl.1 (fun _ _ _ => trivial) Bt_b (c_X5_rowRefusal hI hk_9 h_15) cv_X5_rowRefusal tw279 (rcX5 hK hP hk_9) (rest := []) rfl (Nat.le_of_ble_eq_true rfl) ⟨rfl, rfl, Nat.le_of_ble_eq_true rfl, Nat.le_of_ble_eq_true rfl⟩ ⟨Nat.zero_le _, Nat.zero_le _⟩ dX11_copy_51) hS (fun H locs hP hS => ?_)
          refine lv_if_ne (tgt := 78) hx hb dX11_copy_54 (by decide) (fun c_17 => ?_) (fun c_17 => ?_)
          · have h := ie c_17 h
            refine lv_bipush (v := (-12)) hx hb dX11_copy_78 (by decide) ?_
            rw [hQ]
            exact xzret C0 hP hS rfl h dX11_copy_80
          · have h := it c_17 h
            refine lv_aload hx hb dX11_copy_57 (lv_at hl 0 rfl) ?_
            obtain ⟨r_19, h_18, h⟩ := b1_e h
            refine xcall (rV C0 hK hP hl.1 (fun _ _ _ => trivial) Bt_b (c_X5_rowRefusal hI hk_12 h_18) cv_X5_rowRefusal tw279 (rcX5 hK hP hk_12) (rest := []) rfl (Nat.le_of_ble_eq_true rfl) ⟨rfl, rfl, Nat.le_of_ble_eq_true rfl, Nat.le_of_ble_eq_true rfl⟩ ⟨Nat.zero_le _, Nat.zero_le _⟩ dX11_copy_59) hS (fun H locs hP hS => ?_)
            refine lv_if_ne (tgt := 78) hx hb dX11_copy_62 (by decide) (fun c_20 => ?_) (fun c_20 => ?_)
            · have h := ie c_20 h
              refine lv_bipush (v := (-12)) hx hb dX11_copy_78 (by decide) ?_
              rw [hQ]
              exact xzret C0 hP hS rfl h dX11_copy_80
            · have h := it c_20 h
              refine lv_aload hx hb dX11_copy_65 (lv_at hl 1 rfl) ?_
              refine gX5_4N C0 hK hP hk_9 tw139 dX11_copy_67 ?_
              refine lv_aload hx hb dX11_copy_70 (lv_at hl 0 rfl) ?_
              refine gX5_4N C0 hK hP hk_12 tw139 dX11_copy_72 ?_
              refine lv_icmp_eq (tgt := 81) hx hb dX11_copy_75 (by decide) (fun c_21 => ?_) (fun c_21 => ?_)
              · have h := it c_21 h
                refine lv_aload hx hb dX11_copy_81 (lv_at hl 1 rfl) ?_
                refine lv_iload_n hx hb dX11_copy_83 rfl (lv_at hl 4 rfl) ?_
                refine lv_iload hx hb dX11_copy_84 (lv_at hl 7 rfl) ?_
                obtain ⟨r_23, h_22, h⟩ := b1_e h
                refine xcall (rV C0 hK hP hl.1 (fun _ _ _ => trivial) Bt_b (c_X5_hasPlaces hI hk_9 h_22) cv_X5_hasPlaces tw776 (rcX5 hK hP hk_9) (rest := []) rfl (Nat.le_of_ble_eq_true rfl) ⟨rfl, rfl, Nat.le_of_ble_eq_true rfl, Nat.le_of_ble_eq_true rfl⟩ ⟨Nat.zero_le _, Nat.zero_le _⟩ dX11_copy_86) hS (fun H locs hP hS => ?_)
                refine lv_if_eq (tgt := 104) hx hb dX11_copy_89 (by decide) (fun c_24 => ?_) (fun c_24 => ?_)
                · have h := it c_24 h
                  refine lv_bipush (v := (-13)) hx hb dX11_copy_104 (by decide) ?_
                  rw [hQ]
                  exact xzret C0 hP hS rfl h dX11_copy_106
                · have h := ie c_24 h
                  refine lv_aload hx hb dX11_copy_92 (lv_at hl 0 rfl) ?_
                  refine lv_iload hx hb dX11_copy_94 (lv_at hl 6 rfl) ?_
                  refine lv_iload hx hb dX11_copy_96 (lv_at hl 7 rfl) ?_
                  obtain ⟨r_26, h_25, h⟩ := b1_e h
                  refine xcall (rV C0 hK hP hl.1 (fun _ _ _ => trivial) Bt_b (c_X5_hasPlaces hI hk_12 h_25) cv_X5_hasPlaces tw776 (rcX5 hK hP hk_12) (rest := []) rfl (Nat.le_of_ble_eq_true rfl) ⟨rfl, rfl, Nat.le_of_ble_eq_true rfl, Nat.le_of_ble_eq_true rfl⟩ ⟨Nat.zero_le _, Nat.zero_le _⟩ dX11_copy_98) hS (fun H locs hP hS => ?_)
                  refine lv_if_ne (tgt := 107) hx hb dX11_copy_101 (by decide) (fun c_27 => ?_) (fun c_27 => ?_)
                  · have h := ie c_27 h
                    refine lv_aload hx hb dX11_copy_107 (lv_at hl 0 rfl) ?_
                    refine lv_aload hx hb dX11_copy_109 (lv_at hl 1 rfl) ?_
                    refine lv_iload_n hx hb dX11_copy_111 rfl (lv_at hl 4 rfl) ?_
                    refine lv_iload hx hb dX11_copy_112 (lv_at hl 6 rfl) ?_
                    refine lv_iload hx hb dX11_copy_114 (lv_at hl 7 rfl) ?_
                    obtain ⟨σ_29, h_28, h⟩ := b1_e h
                    refine xcall (rV C0 hK hP hl.1 (fun _ _ _ => trivial) Bt_b (c_X5_takeFrom hI hk_12 hk_9 h_28) cv_X5_takeFrom tw788 (rcX5 hK hP hk_12) (rest := []) rfl (Nat.le_of_ble_eq_true rfl) ⟨rfl, rfl, Nat.le_of_ble_eq_true rfl, Nat.le_of_ble_eq_true rfl⟩ ⟨Nat.zero_le _, Nat.zero_le _⟩ dX11_copy_116) hS (fun H locs hP hS => ?_)
                    refine lv_iload hx hb dX11_copy_119 (lv_at hl 7 rfl) ?_
                    rw [hQ]
                    exact xzret C0 hP hS rfl h dX11_copy_121
                  · have h := it c_27 h
                    refine lv_bipush (v := (-13)) hx hb dX11_copy_104 (by decide) ?_
                    rw [hQ]
                    exact xzret C0 hP hS rfl h dX11_copy_106
              · have h := ie c_21 h
                refine lv_bipush (v := (-12)) hx hb dX11_copy_78 (by decide) ?_
                rw [hQ]
                exact xzret C0 hP hS rfl h dX11_copy_80
        · have h := it c_14 h
          refine lv_bipush (v := (-11)) hx hb dX11_copy_46 (by decide) ?_
          rw [hQ]
          exact xzret C0 hP hS rfl h dX11_copy_48
    · have h := it c_6 h
      refine lv_iconst (v := (-1)) hx hb dX11_copy_14 (by decide) ?_
      rw [hQ]
      exact xzret C0 hP hS rfl h dX11_copy_15
def f_X11_minutes (p1 : Int32) (σ : Mem) : Option (Int32) :=
  b1 (f_X11_pinRefusal p1 σ) fun r_2 =>
  if r_2 = 0 then
    b1 (f_X11_shelfAt p1) fun r_5 =>
    if r_5 < 9 then
      b1 (f_X11_kindAt (σ (7 + 2 * r_5) 2)) fun r_8 =>
      if r_8 < 8 then
        b1 (f_dp_cost r_8 (σ (7 + 2 * r_5) 3)) fun r_11 =>
        some r_11
      else none
    else none
  else
    some r_2
def rm_X11_minutes : Room := { frames := 3, cells := 0, slots := 0, locals := 63 }
set_option maxHeartbeats 4000000 in
set_option maxRecDepth 100000 in
theorem c_X11_minutes {l : Launch} {D : va_G} {ca : Nat → ClassId} {a : Nat → Nat} (hI : InjN 37 a) {p1 : Int32} {σ : Mem} {r : Int32}  (h : f_X11_minutes p1 σ = some r) : XMX l D ca a Bt yX11_minutes cX11_minutes 4 (some .int) rm_X11_minutes [.ref (a 0), .int p1] σ (some (.int r)) σ := by
  refine XM.of pn_X11 (Nat.le_of_ble_eq_true rfl) ?_
  intro p e s m args below meth c ls Q hQ C0 hK hB hP hS hl
  have C0 : Cx p s m args meth c RX11 cX11_minutes 4 (some .int) := C0
  have hx := C0.1
  have hb := C0.2.1
  have hl : lv_has ls 4 [(0, .ref (a 0)), (1, .int p1)] := hl
  rw [f_X11_minutes] at h
  refine lv_aload_n hx hb dX11_minutes_0 rfl (lv_at hl 0 rfl) ?_
  refine lv_iload_n hx hb dX11_minutes_1 rfl (lv_at hl 1 rfl) ?_
  obtain ⟨r_2, h_1, h⟩ := b1_e h
  refine xcall (rV C0 hK hP hl.1 (fun _ _ _ => trivial) Bt_b (c_X11_pinRefusal hI h_1) cv_X11_pinRefusal tw543 (rcX11 hK hP) (rest := []) rfl (Nat.le_of_ble_eq_true rfl) ⟨rfl, rfl, Nat.le_of_ble_eq_true rfl, Nat.le_of_ble_eq_true rfl⟩ ⟨Nat.zero_le _, Nat.zero_le _⟩ dX11_minutes_2) hS (fun H locs hP hS => ?_)
  refine lv_istore_n (lv' := [(2, .int r_2), (0, .ref (a 0)), (1, .int p1)]) hx hb dX11_minutes_5 rfl hl (by decide) rfl (fun ls hl => ?_)
  refine lv_iload_n hx hb dX11_minutes_6 rfl (lv_at hl 0 rfl) ?_
  refine lv_if_eq (tgt := 12) hx hb dX11_minutes_7 (by decide) (fun c_3 => ?_) (fun c_3 => ?_)
  · have h := it c_3 h
    refine lv_aload_n hx hb dX11_minutes_12 rfl (lv_at hl 1 rfl) ?_
    refine lv_iload_n hx hb dX11_minutes_13 rfl (lv_at hl 2 rfl) ?_
    obtain ⟨r_5, h_4, h⟩ := b1_e h
    refine xcall (rV C0 hK hP hl.1 (fun _ _ _ => trivial) Bt_b (c_X11_shelfAt hI h_4) cv_X11_shelfAt tw275 (rcX11 hK hP) (rest := []) rfl (Nat.le_of_ble_eq_true rfl) ⟨rfl, rfl, Nat.le_of_ble_eq_true rfl, Nat.le_of_ble_eq_true rfl⟩ ⟨Nat.zero_le _, Nat.zero_le _⟩ dX11_minutes_14) hS (fun H locs hP hS => ?_)
    obtain ⟨hk_6, h⟩ := asr h
    refine lv_astore_n (lv' := [(3, .ref (a (7 + 2 * r_5))), (2, .int r_2), (0, .ref (a 0)), (1, .int p1)]) hx hb dX11_minutes_17 rfl hl (by decide) rfl (fun ls hl => ?_)
    refine lv_aload_n hx hb dX11_minutes_18 rfl (lv_at hl 2 rfl) ?_
    refine lv_aload_n hx hb dX11_minutes_19 rfl (lv_at hl 0 rfl) ?_
    refine gX5_2N C0 hK hP hk_6 tw135 dX11_minutes_20 ?_
    obtain ⟨r_8, h_7, h⟩ := b1_e h
    refine xcall (rV C0 hK hP hl.1 (fun _ _ _ => trivial) Bt_b (c_X11_kindAt hI h_7) cv_X11_kindAt tw395 (rcX11 hK hP) (rest := []) rfl (Nat.le_of_ble_eq_true rfl) ⟨rfl, rfl, Nat.le_of_ble_eq_true rfl, Nat.le_of_ble_eq_true rfl⟩ ⟨Nat.zero_le _, Nat.zero_le _⟩ dX11_minutes_23) hS (fun H locs hP hS => ?_)
    obtain ⟨hk_9, h⟩ := asr h
    refine lv_aload_n hx hb dX11_minutes_26 rfl (lv_at hl 0 rfl) ?_
    refine gX5_3N C0 hK hP hk_6 tw137 dX11_minutes_27 ?_
    obtain ⟨r_11, h_10, h⟩ := b1_e h
    refine xcall (dp_X11_cost hI C0 hK hP hl.1 hk_9 h_10 (rest := []) rfl (Nat.le_of_ble_eq_true rfl) ⟨Nat.le_of_ble_eq_true rfl, Nat.le_of_ble_eq_true rfl⟩ dX11_minutes_30) hS (fun H locs hP hS => ?_)
    rw [hQ]
    exact xzretr C0 hP hS rfl h dX11_minutes_33
  · have h := ie c_3 h
    refine lv_iload_n hx hb dX11_minutes_10 rfl (lv_at hl 0 rfl) ?_
    rw [hQ]
    exact xzretr C0 hP hS rfl h dX11_minutes_11
def f_X11_carryOut (k1 : Nat) (σ : Mem) : Option (Int32 × Mem) :=
  b1 (f_X8_number 0 σ) fun r_2 =>
  if (σ 35 3) = 108 then
    if r_2 ≤ 30 then
      bnd (uX σ (1 + 2 * k1) 3 r_2) fun (σ_5 : Mem) =>
      some (1, σ_5)
    else
      some (0, σ)
  else
    if (σ 35 3) = 114 then
      b1 (f_X8_number 1 σ) fun r_8 =>
      b1 (f_X8_number 2 σ) fun r_10 =>
      b1 (f_X8_number 3 σ) fun r_12 =>
      b2 (f_X0_addRing k1 r_2 r_8 r_10 r_12 σ) fun r_14 σ_15 =>
      if r_14 = 0 ∨ r_14 = 1 then some (r_14, σ_15) else none
    else
      if (σ 35 3) = 116 then
        bnd (uX σ (1 + 2 * k1) 2 r_2) fun (σ_18 : Mem) =>
        some (1, σ_18)
      else
        if 8 ≤ r_2 then
          some (0, σ)
        else
          b1 (f_X11_kindAt r_2) fun r_21 =>
          if r_21 < 8 then
            b1 (f_X8_number 1 σ) fun r_24 =>
            b1 (f_X8_number 2 σ) fun r_26 =>
            b2 (f_X0_tryPin k1 r_21 r_24 r_26 σ) fun r_28 σ_29 =>
            if r_28 = 0 then
              some (0, σ_29)
            else
              some (1, σ_29)
          else none
def rm_X11_carryOut : Room := { frames := 5, cells := 0, slots := 0, locals := 116 }
set_option maxHeartbeats 4000000 in
set_option maxRecDepth 100000 in
theorem c_X11_carryOut {l : Launch} {D : va_G} {ca : Nat → ClassId} {a : Nat → Nat} (hI : InjN 37 a) {k1 : Nat} {σ : Mem} {r : Int32} {σ' : Mem} (hk_k1 : k1 < 3) (h : f_X11_carryOut k1 σ = some (r, σ')) : XMX l D ca a Bt yX11_carryOut cX11_carryOut 3 (some .boolean) rm_X11_carryOut [.ref (a 0), .ref (a (1 + 2 * k1))] σ (some (.int r)) σ' := by
  refine XM.of pn_X11 (Nat.le_of_ble_eq_true rfl) ?_
  intro p e s m args below meth c ls Q hQ C0 hK hB hP hS hl
  have C0 : Cx p s m args meth c RX11 cX11_carryOut 3 (some .boolean) := C0
  have hx := C0.1
  have hb := C0.2.1
  have hl : lv_has ls 3 [(0, .ref (a 0)), (1, .ref (a (1 + 2 * k1)))] := hl
  rw [f_X11_carryOut] at h
  refine lv_aload_n hx hb dX11_carryOut_0 rfl (lv_at hl 0 rfl) ?_
  refine gX11_7 C0 hK hP tw240 dX11_carryOut_1 ?_
  refine lv_iconst (v := 0) hx hb dX11_carryOut_4 (by decide) ?_
  obtain ⟨r_2, h_1, h⟩ := b1_e h
  refine xcall (rV C0 hK hP hl.1 (fun _ _ _ => trivial) Bt_b (c_X8_number hI h_1) cv_X8_number tw382 (rcX8 hK hP) (rest := []) rfl (Nat.le_of_ble_eq_true rfl) ⟨rfl, rfl, Nat.le_of_ble_eq_true rfl, Nat.le_of_ble_eq_true rfl⟩ ⟨Nat.zero_le _, Nat.zero_le _⟩ dX11_carryOut_5) hS (fun H locs hP hS => ?_)
  refine lv_istore_n (lv' := [(2, .int r_2), (0, .ref (a 0)), (1, .ref (a (1 + 2 * k1)))]) hx hb dX11_carryOut_8 rfl hl (by decide) rfl (fun ls hl => ?_)
  refine lv_aload_n hx hb dX11_carryOut_9 rfl (lv_at hl 1 rfl) ?_
  refine gX11_7 C0 hK hP tw240 dX11_carryOut_10 ?_
  refine gX8_3N C0 hK hP tw174 dX11_carryOut_13 ?_
  by_cases c_3 : (σ 35 3) = 108
  · have h := it c_3 h
    refine lv_lookup (off := 73) (tgt := 89) hx hb dX11_carryOut_16 (by decide) (by rw [c_3]; rfl) (by decide) ?_
    refine lv_iload_n hx hb dX11_carryOut_89 rfl (lv_at hl 0 rfl) ?_
    refine lv_bipush (v := 30) hx hb dX11_carryOut_90 (by decide) ?_
    refine lv_icmp_le (tgt := 97) hx hb dX11_carryOut_92 (by decide) (fun c_4 => ?_) (fun c_4 => ?_)
    · have h := it c_4 h
      refine lv_aload_n hx hb dX11_carryOut_97 rfl (lv_at hl 2 rfl) ?_
      refine lv_iload_n hx hb dX11_carryOut_98 rfl (lv_at hl 0 rfl) ?_
      obtain ⟨σ_5, eσ_5, h⟩ := bnd_e h
      refine pX0_3N C0 hK hP hk_k1 tw104 hI hS dX11_carryOut_99 (fun H locs hP hS => ?_)
      rw [← eσ_5] at hP
      refine lv_iconst (v := 1) hx hb dX11_carryOut_102 (by decide) ?_
      rw [hQ]
      exact xzret C0 hP hS rfl h dX11_carryOut_103
    · have h := ie c_4 h
      refine lv_iconst (v := 0) hx hb dX11_carryOut_95 (by decide) ?_
      rw [hQ]
      exact xzret C0 hP hS rfl h dX11_carryOut_96
  · have h := ie c_3 h
    by_cases c_6 : (σ 35 3) = 114
    · have h := it c_6 h
      refine lv_lookup (off := 36) (tgt := 52) hx hb dX11_carryOut_16 (by decide) (by rw [c_6]; rfl) (by decide) ?_
      refine lv_aload_n hx hb dX11_carryOut_52 rfl (lv_at hl 2 rfl) ?_
      refine lv_iload_n hx hb dX11_carryOut_53 rfl (lv_at hl 0 rfl) ?_
      refine lv_aload_n hx hb dX11_carryOut_54 rfl (lv_at hl 1 rfl) ?_
      refine gX11_7 C0 hK hP tw240 dX11_carryOut_55 ?_
      refine lv_iconst (v := 1) hx hb dX11_carryOut_58 (by decide) ?_
      obtain ⟨r_8, h_7, h⟩ := b1_e h
      refine xcall (rV C0 hK hP hl.1 (fun _ _ _ => trivial) Bt_b (c_X8_number hI h_7) cv_X8_number tw382 (rcX8 hK hP) (rest := [.int r_2, .ref (a (1 + 2 * k1))]) rfl (Nat.le_of_ble_eq_true rfl) ⟨rfl, rfl, Nat.le_of_ble_eq_true rfl, Nat.le_of_ble_eq_true rfl⟩ ⟨Nat.zero_le _, Nat.zero_le _⟩ dX11_carryOut_59) hS (fun H locs hP hS => ?_)
      refine lv_aload_n hx hb dX11_carryOut_62 rfl (lv_at hl 1 rfl) ?_
      refine gX11_7 C0 hK hP tw240 dX11_carryOut_63 ?_
      refine lv_iconst (v := 2) hx hb dX11_carryOut_66 (by decide) ?_
      obtain ⟨r_10, h_9, h⟩ := b1_e h
      refine xcall (rV C0 hK hP hl.1 (fun _ _ _ => trivial) Bt_b (c_X8_number hI h_9) cv_X8_number tw382 (rcX8 hK hP) (rest := [.int r_8, .int r_2, .ref (a (1 + 2 * k1))]) rfl (Nat.le_of_ble_eq_true rfl) ⟨rfl, rfl, Nat.le_of_ble_eq_true rfl, Nat.le_of_ble_eq_true rfl⟩ ⟨Nat.zero_le _, Nat.zero_le _⟩ dX11_carryOut_67) hS (fun H locs hP hS => ?_)
      refine lv_aload_n hx hb dX11_carryOut_70 rfl (lv_at hl 1 rfl) ?_
      refine gX11_7 C0 hK hP tw240 dX11_carryOut_71 ?_
      refine lv_iconst (v := 3) hx hb dX11_carryOut_74 (by decide) ?_
      obtain ⟨r_12, h_11, h⟩ := b1_e h
      refine xcall (rV C0 hK hP hl.1 (fun _ _ _ => trivial) Bt_b (c_X8_number hI h_11) cv_X8_number tw382 (rcX8 hK hP) (rest := [.int r_10, .int r_8, .int r_2, .ref (a (1 + 2 * k1))]) rfl (Nat.le_of_ble_eq_true rfl) ⟨rfl, rfl, Nat.le_of_ble_eq_true rfl, Nat.le_of_ble_eq_true rfl⟩ ⟨Nat.zero_le _, Nat.zero_le _⟩ dX11_carryOut_75) hS (fun H locs hP hS => ?_)
      obtain ⟨r_14, σ_15, h_13, h⟩ := b2_e h
      refine xcall (rV C0 hK hP hl.1 (fun _ _ _ => trivial) Bt_b (c_X0_addRing hI hk_k1 h_13) cv_X0_addRing tw386 (rcX0 hK hP hk_k1) (rest := []) rfl (Nat.le_of_ble_eq_true rfl) ⟨rfl, rfl, Nat.le_of_ble_eq_true rfl, Nat.le_of_ble_eq_true rfl⟩ ⟨Nat.zero_le _, Nat.zero_le _⟩ dX11_carryOut_78) hS (fun H locs hP hS => ?_)
      obtain ⟨b_16, h⟩ := asr h
      rw [hQ]
      exact xzret C0 hP hS (by rcases b_16 with hz | hz <;> rw [hz] <;> rfl) h dX11_carryOut_81
    · have h := ie c_6 h
      by_cases c_17 : (σ 35 3) = 116
      · have h := it c_17 h
        refine lv_lookup (off := 66) (tgt := 82) hx hb dX11_carryOut_16 (by decide) (by rw [c_17]; rfl) (by decide) ?_
        refine lv_aload_n hx hb dX11_carryOut_82 rfl (lv_at hl 2 rfl) ?_
        refine lv_iload_n hx hb dX11_carryOut_83 rfl (lv_at hl 0 rfl) ?_
        obtain ⟨σ_18, eσ_18, h⟩ := bnd_e h
        refine pX0_2N C0 hK hP hk_k1 tw102 hI hS dX11_carryOut_84 (fun H locs hP hS => ?_)
        rw [← eσ_18] at hP
        refine lv_iconst (v := 1) hx hb dX11_carryOut_87 (by decide) ?_
        rw [hQ]
        exact xzret C0 hP hS rfl h dX11_carryOut_88
      · have h := ie c_17 h
        refine lv_lookup (off := 88) (tgt := 104) hx hb dX11_carryOut_16 (by decide) (by have z0 := Ne.symm (sw_ne (k := 108) (by decide) c_3); have z1 := Ne.symm (sw_ne (k := 114) (by decide) c_6); have z2 := Ne.symm (sw_ne (k := 116) (by decide) c_17); simp [Op.lookupswitch.offset, z0, z1, z2]) (by decide) ?_
        refine lv_iload_n hx hb dX11_carryOut_104 rfl (lv_at hl 0 rfl) ?_
        refine lv_bipush (v := 8) hx hb dX11_carryOut_105 (by decide) ?_
        refine lv_icmp_ge (tgt := 142) hx hb dX11_carryOut_107 (by decide) (fun c_19 => ?_) (fun c_19 => ?_)
        · have h := it c_19 h
          refine lv_iconst (v := 0) hx hb dX11_carryOut_142 (by decide) ?_
          rw [hQ]
          exact xzret C0 hP hS rfl h dX11_carryOut_143
        · have h := ie c_19 h
          refine lv_aload_n hx hb dX11_carryOut_110 rfl (lv_at hl 2 rfl) ?_
          refine lv_aload_n hx hb dX11_carryOut_111 rfl (lv_at hl 1 rfl) ?_
          refine lv_iload_n hx hb dX11_carryOut_112 rfl (lv_at hl 0 rfl) ?_
          obtain ⟨r_21, h_20, h⟩ := b1_e h
          refine xcall (rV C0 hK hP hl.1 (fun _ _ _ => trivial) Bt_b (c_X11_kindAt hI h_20) cv_X11_kindAt tw395 (rcX11 hK hP) (rest := [.ref (a (1 + 2 * k1))]) rfl (Nat.le_of_ble_eq_true rfl) ⟨rfl, rfl, Nat.le_of_ble_eq_true rfl, Nat.le_of_ble_eq_true rfl⟩ ⟨Nat.zero_le _, Nat.zero_le _⟩ dX11_carryOut_113) hS (fun H locs hP hS => ?_)
          obtain ⟨hk_22, h⟩ := asr h
          refine lv_aload_n hx hb dX11_carryOut_116 rfl (lv_at hl 1 rfl) ?_
          refine gX11_7 C0 hK hP tw240 dX11_carryOut_117 ?_
          refine lv_iconst (v := 1) hx hb dX11_carryOut_120 (by decide) ?_
          obtain ⟨r_24, h_23, h⟩ := b1_e h
          refine xcall (rV C0 hK hP hl.1 (fun _ _ _ => trivial) Bt_b (c_X8_number hI h_23) cv_X8_number tw382 (rcX8 hK hP) (rest := [.ref (a (27 + r_21)), .ref (a (1 + 2 * k1))]) rfl (Nat.le_of_ble_eq_true rfl) ⟨rfl, rfl, Nat.le_of_ble_eq_true rfl, Nat.le_of_ble_eq_true rfl⟩ ⟨Nat.zero_le _, Nat.zero_le _⟩ dX11_carryOut_121) hS (fun H locs hP hS => ?_)
          refine lv_aload_n hx hb dX11_carryOut_124 rfl (lv_at hl 1 rfl) ?_
          refine gX11_7 C0 hK hP tw240 dX11_carryOut_125 ?_
          refine lv_iconst (v := 2) hx hb dX11_carryOut_128 (by decide) ?_
          obtain ⟨r_26, h_25, h⟩ := b1_e h
          refine xcall (rV C0 hK hP hl.1 (fun _ _ _ => trivial) Bt_b (c_X8_number hI h_25) cv_X8_number tw382 (rcX8 hK hP) (rest := [.int r_24, .ref (a (27 + r_21)), .ref (a (1 + 2 * k1))]) rfl (Nat.le_of_ble_eq_true rfl) ⟨rfl, rfl, Nat.le_of_ble_eq_true rfl, Nat.le_of_ble_eq_true rfl⟩ ⟨Nat.zero_le _, Nat.zero_le _⟩ dX11_carryOut_129) hS (fun H locs hP hS => ?_)
          obtain ⟨r_28, σ_29, h_27, h⟩ := b2_e h
          refine xcall (rV C0 hK hP hl.1 (fun _ _ _ => trivial) Bt_b (c_X0_tryPin hI hk_k1 hk_22 h_27) cv_X0_tryPin tw399 (rcX0 hK hP hk_k1) (rest := []) rfl (Nat.le_of_ble_eq_true rfl) ⟨rfl, rfl, Nat.le_of_ble_eq_true rfl, Nat.le_of_ble_eq_true rfl⟩ ⟨Nat.zero_le _, Nat.zero_le _⟩ dX11_carryOut_132) hS (fun H locs hP hS => ?_)
          refine lv_if_eq (tgt := 142) hx hb dX11_carryOut_135 (by decide) (fun c_30 => ?_) (fun c_30 => ?_)
          · have h := it c_30 h
            refine lv_iconst (v := 0) hx hb dX11_carryOut_142 (by decide) ?_
            rw [hQ]
            exact xzret C0 hP hS rfl h dX11_carryOut_143
          · have h := ie c_30 h
            refine lv_iconst (v := 1) hx hb dX11_carryOut_138 (by decide) ?_
            refine lv_goto (tgt := 143) hx hb dX11_carryOut_139 (by decide) ?_
            rw [hQ]
            exact xzret C0 hP hS rfl h dX11_carryOut_143
