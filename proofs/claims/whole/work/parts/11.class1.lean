def f_X8_number (p1 : Int32) (σ : Mem) : Option (Int32) :=
  if p1 < 0 then
    some 0
  else
    if (σ 35 1) ≤ p1 then
      some 0
    else
      if 4 ≤ p1 then
        some 0
      else
        if p1 < 0 ∨ 4 ≤ p1.toNatClampNeg then none else
        some (σ 36 p1.toNatClampNeg)
def rm_X8_number : Room := { frames := 0, cells := 0, slots := 0, locals := 0 }
set_option maxHeartbeats 4000000 in
set_option maxRecDepth 100000 in
theorem c_X8_number {l : Launch} {D : va_G} {ca : Nat → ClassId} {a : Nat → Nat} (hI : InjN 37 a) {p1 : Int32} {σ : Mem} {r : Int32}  (h : f_X8_number p1 σ = some r) : XMX l D ca a Bt yX8_number cX8_number 2 (some .int) rm_X8_number [.ref (a 35), .int p1] σ (some (.int r)) σ := by
  refine XM.of pn_X8 (Nat.le_of_ble_eq_true rfl) ?_
  intro p e s m args below meth c ls Q hQ C0 hK hB hP hS hl
  have C0 : Cx p s m args meth c RX8 cX8_number 2 (some .int) := C0
  have hx := C0.1
  have hb := C0.2.1
  have hl : lv_has ls 2 [(0, .ref (a 35)), (1, .int p1)] := hl
  rw [f_X8_number] at h
  refine lv_iload_n hx hb dX8_number_0 rfl (lv_at hl 1 rfl) ?_
  refine lv_if_lt (tgt := 30) hx hb dX8_number_1 (by decide) (fun c_1 => ?_) (fun c_1 => ?_)
  · have h := it c_1 h
    refine lv_iconst (v := 0) hx hb dX8_number_30 (by decide) ?_
    rw [hQ]
    exact xzretr C0 hP hS rfl h dX8_number_31
  · have h := ie c_1 h
    refine lv_iload_n hx hb dX8_number_4 rfl (lv_at hl 1 rfl) ?_
    refine lv_aload_n hx hb dX8_number_5 rfl (lv_at hl 0 rfl) ?_
    refine gX8_1 C0 hK hP tw170 dX8_number_6 ?_
    refine lv_icmp_ge (tgt := 30) hx hb dX8_number_9 (by decide) (fun c_2 => ?_) (fun c_2 => ?_)
    · have h := it c_2 h
      refine lv_iconst (v := 0) hx hb dX8_number_30 (by decide) ?_
      rw [hQ]
      exact xzretr C0 hP hS rfl h dX8_number_31
    · have h := ie c_2 h
      refine lv_iload_n hx hb dX8_number_12 rfl (lv_at hl 1 rfl) ?_
      refine lv_aload_n hx hb dX8_number_13 rfl (lv_at hl 0 rfl) ?_
      refine gX8_0 C0 hK hP tw169 dX8_number_14 ?_
      refine xalenR (N := 4) (v := 4) 0 C0 hK hP (by decide) (fun _ => sh_TA) rfl (by decide) dX8_number_17 ?_
      refine lv_icmp_ge (tgt := 30) hx hb dX8_number_18 (by decide) (fun c_3 => ?_) (fun c_3 => ?_)
      · have h := it c_3 h
        refine lv_iconst (v := 0) hx hb dX8_number_30 (by decide) ?_
        rw [hQ]
        exact xzretr C0 hP hS rfl h dX8_number_31
      · have h := ie c_3 h
        refine lv_aload_n hx hb dX8_number_21 rfl (lv_at hl 0 rfl) ?_
        refine gX8_0 C0 hK hP tw169 dX8_number_22 ?_
        refine lv_iload_n hx hb dX8_number_25 rfl (lv_at hl 1 rfl) ?_
        obtain ⟨b_4, h⟩ := ck h
        refine xald (i := 36) (N := 4) C0 hK hP (by decide) (fun _ => sh_TA) b_4 dX8_number_26 ?_
        refine lv_goto (tgt := 31) hx hb dX8_number_27 (by decide) ?_
        rw [hQ]
        exact xzretr C0 hP hS rfl h dX8_number_31
def f_X11_ring (p1 : Int32) (p2 : Int32) (σ : Mem) : Option (Int32) :=
  b1 (f_X0_has 0 p1 σ) fun r_2 =>
  if r_2 = 0 then
    some (-1)
  else
    b1 (f_X11_within p2 0 3) fun r_5 =>
    if r_5 = 0 then
      some (-1)
    else
      b1 (f_X0_get 0 p1 p2 σ) fun r_8 =>
      some r_8
def rm_X11_ring : Room := { frames := 1, cells := 0, slots := 0, locals := 23 }
set_option maxHeartbeats 4000000 in
set_option maxRecDepth 100000 in
theorem c_X11_ring {l : Launch} {D : va_G} {ca : Nat → ClassId} {a : Nat → Nat} (hI : InjN 37 a) {p1 : Int32} {p2 : Int32} {σ : Mem} {r : Int32}  (h : f_X11_ring p1 p2 σ = some r) : XMX l D ca a Bt yX11_ring cX11_ring 3 (some .int) rm_X11_ring [.ref (a 0), .int p1, .int p2] σ (some (.int r)) σ := by
  refine XM.of pn_X11 (Nat.le_of_ble_eq_true rfl) ?_
  intro p e s m args below meth c ls Q hQ C0 hK hB hP hS hl
  have C0 : Cx p s m args meth c RX11 cX11_ring 3 (some .int) := C0
  have hx := C0.1
  have hb := C0.2.1
  have hl : lv_has ls 3 [(0, .ref (a 0)), (1, .int p1), (2, .int p2)] := hl
  rw [f_X11_ring] at h
  refine lv_aload_n hx hb dX11_ring_0 rfl (lv_at hl 0 rfl) ?_
  refine gX11_0 C0 hK hP tw233 dX11_ring_1 ?_
  refine lv_iload_n hx hb dX11_ring_4 rfl (lv_at hl 1 rfl) ?_
  obtain ⟨r_2, h_1, h⟩ := b1_e h
  refine xcall (rV C0 hK hP hl.1 (fun _ _ _ => trivial) Bt_b (c_X0_has hI (by decide) h_1) cv_X0_has tw533 (rcX0 hK hP (by decide)) (rest := []) rfl (Nat.le_of_ble_eq_true rfl) ⟨rfl, rfl, Nat.le_of_ble_eq_true rfl, Nat.le_of_ble_eq_true rfl⟩ ⟨Nat.zero_le _, Nat.zero_le _⟩ dX11_ring_5) hS (fun H locs hP hS => ?_)
  refine lv_if_eq (tgt := 32) hx hb dX11_ring_8 (by decide) (fun c_3 => ?_) (fun c_3 => ?_)
  · have h := it c_3 h
    refine lv_iconst (v := (-1)) hx hb dX11_ring_32 (by decide) ?_
    rw [hQ]
    exact xzretr C0 hP hS rfl h dX11_ring_33
  · have h := ie c_3 h
    refine lv_iload_n hx hb dX11_ring_11 rfl (lv_at hl 2 rfl) ?_
    refine lv_iconst (v := 0) hx hb dX11_ring_12 (by decide) ?_
    refine lv_iconst (v := 3) hx hb dX11_ring_13 (by decide) ?_
    obtain ⟨r_5, h_4, h⟩ := b1_e h
    refine xcall (rS C0 hK hP hl.1 (fun _ _ _ => trivial) Bt_b (c_X11_within hI h_4) cs_X11_within tw272 (rest := []) rfl (Nat.le_of_ble_eq_true rfl) ⟨rfl, rfl, Nat.le_of_ble_eq_true rfl, Nat.le_of_ble_eq_true rfl⟩ ⟨Nat.zero_le _, Nat.zero_le _⟩ dX11_ring_14) hS (fun H locs hP hS => ?_)
    refine lv_if_eq (tgt := 32) hx hb dX11_ring_17 (by decide) (fun c_6 => ?_) (fun c_6 => ?_)
    · have h := it c_6 h
      refine lv_iconst (v := (-1)) hx hb dX11_ring_32 (by decide) ?_
      rw [hQ]
      exact xzretr C0 hP hS rfl h dX11_ring_33
    · have h := ie c_6 h
      refine lv_aload_n hx hb dX11_ring_20 rfl (lv_at hl 0 rfl) ?_
      refine gX11_0 C0 hK hP tw233 dX11_ring_21 ?_
      refine lv_iload_n hx hb dX11_ring_24 rfl (lv_at hl 1 rfl) ?_
      refine lv_iload_n hx hb dX11_ring_25 rfl (lv_at hl 2 rfl) ?_
      obtain ⟨r_8, h_7, h⟩ := b1_e h
      refine xcall (rV C0 hK hP hl.1 (fun _ _ _ => trivial) Bt_b (c_X0_get hI (by decide) h_7) cv_X0_get tw534 (rcX0 hK hP (by decide)) (rest := []) rfl (Nat.le_of_ble_eq_true rfl) ⟨rfl, rfl, Nat.le_of_ble_eq_true rfl, Nat.le_of_ble_eq_true rfl⟩ ⟨Nat.zero_le _, Nat.zero_le _⟩ dX11_ring_26) hS (fun H locs hP hS => ?_)
      refine lv_goto (tgt := 33) hx hb dX11_ring_29 (by decide) ?_
      rw [hQ]
      exact xzretr C0 hP hS rfl h dX11_ring_33
def f_X11_line (p1 : Int32) (p2 : Int32) (σ : Mem) : Option (Int32 × Mem) :=
  jn (fun (σ_1 : Mem) =>
    if p1 = 1 then
      b1 (f_X11_within p2 0 30) fun r_4 =>
      if r_4 = 0 then
        some ((-1), σ_1)
      else
        bnd (σ_1 (1 + 2 * 0) 3) fun (x3_6 : Int32) =>
        bnd (uX σ_1 (1 + 2 * 0) 3 p2) fun (σ_7 : Mem) =>
        some (x3_6, σ_7)
    else
      some ((-1), σ_1)) fun J32 =>
  if p1 = 0 then
    b1 (f_X11_within p2 0 9) fun r_10 =>
    if r_10 = 0 then
      J32 σ
    else
      bnd (σ (1 + 2 * 0) 2) fun (x3_12 : Int32) =>
      bnd (uX σ (1 + 2 * 0) 2 p2) fun (σ_13 : Mem) =>
      some (x3_12, σ_13)
  else
    J32 σ
def rm_X11_line : Room := { frames := 1, cells := 0, slots := 0, locals := 22 }
set_option maxHeartbeats 4000000 in
set_option maxRecDepth 100000 in
theorem c_X11_line {l : Launch} {D : va_G} {ca : Nat → ClassId} {a : Nat → Nat} (hI : InjN 37 a) {p1 : Int32} {p2 : Int32} {σ : Mem} {r : Int32} {σ' : Mem}  (h : f_X11_line p1 p2 σ = some (r, σ')) : XMX l D ca a Bt yX11_line cX11_line 4 (some .int) rm_X11_line [.ref (a 0), .int p1, .int p2] σ (some (.int r)) σ' := by
  refine XM.of pn_X11 (Nat.le_of_ble_eq_true rfl) ?_
  intro p e s m args below meth c ls Q hQ C0 hK hB hP hS hl
  have C0 : Cx p s m args meth c RX11 cX11_line 4 (some .int) := C0
  have hx := C0.1
  have hb := C0.2.1
  have hl : lv_has ls 4 [(0, .ref (a 0)), (1, .int p1), (2, .int p2)] := hl
  rw [f_X11_line] at h
  refine lv_iload_n hx hb dX11_line_0 rfl (lv_at hl 1 rfl) ?_
  obtain ⟨J32, eJ32, h⟩ := jn_e h
  have hJ32 : ∀ (σ_1 : Mem) (H : Heap) (locs : List Loc) (ls : Array Slot), J32 σ_1 = some (r, σ') → va_P D vwCl (wX ca a σ_1) H → va_S (AW 37 a) s.heap H locs → lv_has ls 4 [(0, .ref (a 0)), (1, .int p1), (2, .int p2)] → W p l e rm_X11_line s m args below meth c H locs 0 0 Q (F0 m 32 ls []) := by
    intro σ_1 H locs ls h hP hS hl
    have h := ap1 eJ32 h
    refine lv_iload_n hx hb dX11_line_32 rfl (lv_at hl 1 rfl) ?_
    refine lv_iconst (v := 1) hx hb dX11_line_33 (by decide) ?_
    refine lv_icmp_ne (tgt := 65) hx hb dX11_line_34 (by decide) (fun c_2 => ?_) (fun c_2 => ?_)
    · have h := ie c_2 h
      refine lv_iconst (v := (-1)) hx hb dX11_line_65 (by decide) ?_
      rw [hQ]
      exact xzret C0 hP hS rfl h dX11_line_66
    · have h := it c_2 h
      refine lv_iload_n hx hb dX11_line_37 rfl (lv_at hl 2 rfl) ?_
      refine lv_iconst (v := 0) hx hb dX11_line_38 (by decide) ?_
      refine lv_bipush (v := 30) hx hb dX11_line_39 (by decide) ?_
      obtain ⟨r_4, h_3, h⟩ := b1_e h
      refine xcall (rS C0 hK hP hl.1 (fun _ _ _ => trivial) Bt_b (c_X11_within hI h_3) cs_X11_within tw272 (rest := []) rfl (Nat.le_of_ble_eq_true rfl) ⟨rfl, rfl, Nat.le_of_ble_eq_true rfl, Nat.le_of_ble_eq_true rfl⟩ ⟨Nat.zero_le _, Nat.zero_le _⟩ dX11_line_41) hS (fun H locs hP hS => ?_)
      refine lv_if_eq (tgt := 65) hx hb dX11_line_44 (by decide) (fun c_5 => ?_) (fun c_5 => ?_)
      · have h := it c_5 h
        refine lv_iconst (v := (-1)) hx hb dX11_line_65 (by decide) ?_
        rw [hQ]
        exact xzret C0 hP hS rfl h dX11_line_66
      · have h := ie c_5 h
        refine lv_aload_n hx hb dX11_line_47 rfl (lv_at hl 0 rfl) ?_
        refine gX11_0 C0 hK hP tw233 dX11_line_48 ?_
        refine gX0_3N C0 hK hP (by decide) tw104 dX11_line_51 ?_
        obtain ⟨x3_6, ex3_6, h⟩ := bnd_e h
        refine nm_i ex3_6 ?_
        refine lv_istore_n (lv' := [(3, .int x3_6), (0, .ref (a 0)), (1, .int p1), (2, .int p2)]) hx hb dX11_line_54 rfl hl (by decide) rfl (fun ls hl => ?_)
        refine lv_aload_n hx hb dX11_line_55 rfl (lv_at hl 1 rfl) ?_
        refine gX11_0 C0 hK hP tw233 dX11_line_56 ?_
        refine lv_iload_n hx hb dX11_line_59 rfl (lv_at hl 3 rfl) ?_
        obtain ⟨σ_7, eσ_7, h⟩ := bnd_e h
        refine pX0_3N C0 hK hP (by decide) tw104 hI hS dX11_line_60 (fun H locs hP hS => ?_)
        rw [← eσ_7] at hP
        refine lv_iload_n hx hb dX11_line_63 rfl (lv_at hl 0 rfl) ?_
        rw [hQ]
        exact xzret C0 hP hS rfl h dX11_line_64
  refine lv_if_ne (tgt := 32) hx hb dX11_line_1 (by decide) (fun c_8 => ?_) (fun c_8 => ?_)
  · have h := ie c_8 h
    exact hJ32 σ _ _ ls h hP hS (lv_sub hl [0, 1, 2] rfl)
  · have h := it c_8 h
    refine lv_iload_n hx hb dX11_line_4 rfl (lv_at hl 2 rfl) ?_
    refine lv_iconst (v := 0) hx hb dX11_line_5 (by decide) ?_
    refine lv_bipush (v := 9) hx hb dX11_line_6 (by decide) ?_
    obtain ⟨r_10, h_9, h⟩ := b1_e h
    refine xcall (rS C0 hK hP hl.1 (fun _ _ _ => trivial) Bt_b (c_X11_within hI h_9) cs_X11_within tw272 (rest := []) rfl (Nat.le_of_ble_eq_true rfl) ⟨rfl, rfl, Nat.le_of_ble_eq_true rfl, Nat.le_of_ble_eq_true rfl⟩ ⟨Nat.zero_le _, Nat.zero_le _⟩ dX11_line_8) hS (fun H locs hP hS => ?_)
    refine lv_if_eq (tgt := 32) hx hb dX11_line_11 (by decide) (fun c_11 => ?_) (fun c_11 => ?_)
    · have h := it c_11 h
      exact hJ32 σ _ _ ls h hP hS (lv_sub hl [0, 1, 2] rfl)
    · have h := ie c_11 h
      refine lv_aload_n hx hb dX11_line_14 rfl (lv_at hl 0 rfl) ?_
      refine gX11_0 C0 hK hP tw233 dX11_line_15 ?_
      refine gX0_2N C0 hK hP (by decide) tw102 dX11_line_18 ?_
      obtain ⟨x3_12, ex3_12, h⟩ := bnd_e h
      refine nm_i ex3_12 ?_
      refine lv_istore_n (lv' := [(3, .int x3_12), (0, .ref (a 0)), (1, .int p1), (2, .int p2)]) hx hb dX11_line_21 rfl hl (by decide) rfl (fun ls hl => ?_)
      refine lv_aload_n hx hb dX11_line_22 rfl (lv_at hl 1 rfl) ?_
      refine gX11_0 C0 hK hP tw233 dX11_line_23 ?_
      refine lv_iload_n hx hb dX11_line_26 rfl (lv_at hl 3 rfl) ?_
      obtain ⟨σ_13, eσ_13, h⟩ := bnd_e h
      refine pX0_2N C0 hK hP (by decide) tw102 hI hS dX11_line_27 (fun H locs hP hS => ?_)
      rw [← eσ_13] at hP
      refine lv_iload_n hx hb dX11_line_30 rfl (lv_at hl 0 rfl) ?_
      rw [hQ]
      exact xzret C0 hP hS rfl h dX11_line_31
def f_X11_isShelf (p1 : Int32) : Option (Int32) :=
  b1 (f_X11_within p1 0 7) fun r_2 =>
  if r_2 = 0 ∨ r_2 = 1 then some r_2 else none
def rm_X11_isShelf : Room := { frames := 1, cells := 0, slots := 0, locals := 22 }
set_option maxHeartbeats 4000000 in
set_option maxRecDepth 100000 in
theorem c_X11_isShelf {l : Launch} {D : va_G} {ca : Nat → ClassId} {a : Nat → Nat} (hI : InjN 37 a) {p1 : Int32} {σ : Mem} {r : Int32}  (h : f_X11_isShelf p1 = some r) : XMX l D ca a Bt yX11_isShelf cX11_isShelf 1 (some .boolean) rm_X11_isShelf [.int p1] σ (some (.int r)) σ := by
  refine XM.of pn_X11 (Nat.le_of_ble_eq_true rfl) ?_
  intro p e s m args below meth c ls Q hQ C0 hK hB hP hS hl
  have C0 : Cx p s m args meth c RX11 cX11_isShelf 1 (some .boolean) := C0
  have hx := C0.1
  have hb := C0.2.1
  have hl : lv_has ls 1 [(0, .int p1)] := hl
  rw [f_X11_isShelf] at h
  refine lv_iload_n hx hb dX11_isShelf_0 rfl (lv_at hl 0 rfl) ?_
  refine lv_iconst (v := 0) hx hb dX11_isShelf_1 (by decide) ?_
  refine lv_bipush (v := 7) hx hb dX11_isShelf_2 (by decide) ?_
  obtain ⟨r_2, h_1, h⟩ := b1_e h
  refine xcall (rS C0 hK hP hl.1 (fun _ _ _ => trivial) Bt_b (c_X11_within hI h_1) cs_X11_within tw272 (rest := []) rfl (Nat.le_of_ble_eq_true rfl) ⟨rfl, rfl, Nat.le_of_ble_eq_true rfl, Nat.le_of_ble_eq_true rfl⟩ ⟨Nat.zero_le _, Nat.zero_le _⟩ dX11_isShelf_4) hS (fun H locs hP hS => ?_)
  obtain ⟨b_3, h⟩ := asr h
  rw [hQ]
  exact xzretr C0 hP hS (by rcases b_3 with hz | hz <;> rw [hz] <;> rfl) h dX11_isShelf_7
def f_X11_shelfAt (p1 : Int32) : Option (Nat) :=
  if p1 < 0 then
    some 8
  else
    if 8 ≤ p1 then
      some 8
    else
      if p1 < 0 ∨ 8 ≤ p1.toNatClampNeg then none else
      some p1.toNatClampNeg
def rm_X11_shelfAt : Room := { frames := 0, cells := 0, slots := 0, locals := 0 }
set_option maxHeartbeats 4000000 in
set_option maxRecDepth 100000 in
theorem c_X11_shelfAt {l : Launch} {D : va_G} {ca : Nat → ClassId} {a : Nat → Nat} (hI : InjN 37 a) {p1 : Int32} {σ : Mem} {r : Nat}  (h : f_X11_shelfAt p1 = some r) : XMX l D ca a Bt yX11_shelfAt cX11_shelfAt 3 (some (.object "PinnedToFit$Shelf")) rm_X11_shelfAt [.ref (a 0), .int p1] σ (some (.ref (a (7 + 2 * r)))) σ := by
  refine XM.of pn_X11 (Nat.le_of_ble_eq_true rfl) ?_
  intro p e s m args below meth c ls Q hQ C0 hK hB hP hS hl
  have C0 : Cx p s m args meth c RX11 cX11_shelfAt 3 (some (.object "PinnedToFit$Shelf")) := C0
  have hx := C0.1
  have hb := C0.2.1
  have hl : lv_has ls 3 [(0, .ref (a 0)), (1, .int p1)] := hl
  rw [f_X11_shelfAt] at h
  refine lv_iload_n hx hb dX11_shelfAt_0 rfl (lv_at hl 1 rfl) ?_
  refine lv_if_lt (tgt := 22) hx hb dX11_shelfAt_1 (by decide) (fun c_1 => ?_) (fun c_1 => ?_)
  · have h := it c_1 h
    refine lv_null hx hb dX11_shelfAt_22 ?_
    refine lv_astore_nN (lv' := [(2, .null), (0, .ref (a 0)), (1, .int p1)]) hx hb dX11_shelfAt_23 rfl hl (by decide) rfl (fun ls hl => ?_)
    refine lv_aload_nN hx hb dX11_shelfAt_24 rfl (lv_at hl 0 rfl) ?_
    refine lv_ifnonnullN hx hb dX11_shelfAt_25 ?_
    refine lv_aload_n hx hb dX11_shelfAt_28 rfl (lv_at hl 1 rfl) ?_
    refine gX11_4 C0 hK hP tw237 dX11_shelfAt_29 ?_
    refine lv_goto (tgt := 36) hx hb dX11_shelfAt_32 (by decide) ?_
    rw [hQ]
    exact xaretr (ad := fun r => a (7 + 2 * r)) C0 hP hS h dX11_shelfAt_36
  · have h := ie c_1 h
    refine lv_iload_n hx hb dX11_shelfAt_4 rfl (lv_at hl 1 rfl) ?_
    refine lv_aload_n hx hb dX11_shelfAt_5 rfl (lv_at hl 0 rfl) ?_
    refine gX11_3 C0 hK hP tw236 dX11_shelfAt_6 ?_
    refine xalenR (N := 8) (v := 8) 3 C0 hK hP (by decide) (fun _ => sh_AH) rfl (by decide) dX11_shelfAt_9 ?_
    refine lv_icmp_ge (tgt := 22) hx hb dX11_shelfAt_10 (by decide) (fun c_2 => ?_) (fun c_2 => ?_)
    · have h := it c_2 h
      refine lv_null hx hb dX11_shelfAt_22 ?_
      refine lv_astore_nN (lv' := [(2, .null), (0, .ref (a 0)), (1, .int p1)]) hx hb dX11_shelfAt_23 rfl hl (by decide) rfl (fun ls hl => ?_)
      refine lv_aload_nN hx hb dX11_shelfAt_24 rfl (lv_at hl 0 rfl) ?_
      refine lv_ifnonnullN hx hb dX11_shelfAt_25 ?_
      refine lv_aload_n hx hb dX11_shelfAt_28 rfl (lv_at hl 1 rfl) ?_
      refine gX11_4 C0 hK hP tw237 dX11_shelfAt_29 ?_
      refine lv_goto (tgt := 36) hx hb dX11_shelfAt_32 (by decide) ?_
      rw [hQ]
      exact xaretr (ad := fun r => a (7 + 2 * r)) C0 hP hS h dX11_shelfAt_36
    · have h := ie c_2 h
      refine lv_aload_n hx hb dX11_shelfAt_13 rfl (lv_at hl 0 rfl) ?_
      refine gX11_3 C0 hK hP tw236 dX11_shelfAt_14 ?_
      refine lv_iload_n hx hb dX11_shelfAt_17 rfl (lv_at hl 1 rfl) ?_
      obtain ⟨b_3, h⟩ := ck h
      have hk_4 := ckb b_3
      refine xaldq (i := 25) (N := 8) (q := a (7 + 2 * p1.toNatClampNeg)) 3 C0 hK hP (by decide) (fun _ => sh_AH) rfl b_3 rfl dX11_shelfAt_18 ?_
      refine lv_goto (tgt := 23) hx hb dX11_shelfAt_19 (by decide) ?_
      refine lv_astore_n (lv' := [(2, .ref (a (7 + 2 * p1.toNatClampNeg))), (0, .ref (a 0)), (1, .int p1)]) hx hb dX11_shelfAt_23 rfl hl (by decide) rfl (fun ls hl => ?_)
      refine lv_aload_n hx hb dX11_shelfAt_24 rfl (lv_at hl 0 rfl) ?_
      refine lv_ifnonnull (tgt := 35) hx hb dX11_shelfAt_25 (by decide) ?_
      refine lv_aload_n hx hb dX11_shelfAt_35 rfl (lv_at hl 0 rfl) ?_
      rw [hQ]
      exact xaretr (ad := fun r => a (7 + 2 * r)) C0 hP hS h dX11_shelfAt_36
def f_X11_pinRefusal (p1 : Int32) (σ : Mem) : Option (Int32) :=
  b1 (f_X11_isShelf p1) fun r_2 =>
  if r_2 = 0 then
    some (-1)
  else
    b1 (f_X11_shelfAt p1) fun r_5 =>
    if r_5 < 9 then
      b1 (f_X5_pinRefusal r_5 σ) fun r_8 =>
      some r_8
    else none
def rm_X11_pinRefusal : Room := { frames := 2, cells := 0, slots := 0, locals := 42 }
set_option maxHeartbeats 4000000 in
set_option maxRecDepth 100000 in
theorem c_X11_pinRefusal {l : Launch} {D : va_G} {ca : Nat → ClassId} {a : Nat → Nat} (hI : InjN 37 a) {p1 : Int32} {σ : Mem} {r : Int32}  (h : f_X11_pinRefusal p1 σ = some r) : XMX l D ca a Bt yX11_pinRefusal cX11_pinRefusal 2 (some .int) rm_X11_pinRefusal [.ref (a 0), .int p1] σ (some (.int r)) σ := by
  refine XM.of pn_X11 (Nat.le_of_ble_eq_true rfl) ?_
  intro p e s m args below meth c ls Q hQ C0 hK hB hP hS hl
  have C0 : Cx p s m args meth c RX11 cX11_pinRefusal 2 (some .int) := C0
  have hx := C0.1
  have hb := C0.2.1
  have hl : lv_has ls 2 [(0, .ref (a 0)), (1, .int p1)] := hl
  rw [f_X11_pinRefusal] at h
  refine lv_iload_n hx hb dX11_pinRefusal_0 rfl (lv_at hl 1 rfl) ?_
  obtain ⟨r_2, h_1, h⟩ := b1_e h
  refine xcall (rS C0 hK hP hl.1 (fun _ _ _ => trivial) Bt_b (c_X11_isShelf hI h_1) cs_X11_isShelf tw269 (rest := []) rfl (Nat.le_of_ble_eq_true rfl) ⟨rfl, rfl, Nat.le_of_ble_eq_true rfl, Nat.le_of_ble_eq_true rfl⟩ ⟨Nat.zero_le _, Nat.zero_le _⟩ dX11_pinRefusal_1) hS (fun H locs hP hS => ?_)
  refine lv_if_eq (tgt := 18) hx hb dX11_pinRefusal_4 (by decide) (fun c_3 => ?_) (fun c_3 => ?_)
  · have h := it c_3 h
    refine lv_iconst (v := (-1)) hx hb dX11_pinRefusal_18 (by decide) ?_
    rw [hQ]
    exact xzretr C0 hP hS rfl h dX11_pinRefusal_19
  · have h := ie c_3 h
    refine lv_aload_n hx hb dX11_pinRefusal_7 rfl (lv_at hl 0 rfl) ?_
    refine lv_iload_n hx hb dX11_pinRefusal_8 rfl (lv_at hl 1 rfl) ?_
    obtain ⟨r_5, h_4, h⟩ := b1_e h
    refine xcall (rV C0 hK hP hl.1 (fun _ _ _ => trivial) Bt_b (c_X11_shelfAt hI h_4) cv_X11_shelfAt tw275 (rcX11 hK hP) (rest := []) rfl (Nat.le_of_ble_eq_true rfl) ⟨rfl, rfl, Nat.le_of_ble_eq_true rfl, Nat.le_of_ble_eq_true rfl⟩ ⟨Nat.zero_le _, Nat.zero_le _⟩ dX11_pinRefusal_9) hS (fun H locs hP hS => ?_)
    obtain ⟨hk_6, h⟩ := asr h
    obtain ⟨r_8, h_7, h⟩ := b1_e h
    refine xcall (rV C0 hK hP hl.1 (fun _ _ _ => trivial) Bt_b (c_X5_pinRefusal hI hk_6 h_7) cv_X5_pinRefusal tw547 (rcX5 hK hP hk_6) (rest := []) rfl (Nat.le_of_ble_eq_true rfl) ⟨rfl, rfl, Nat.le_of_ble_eq_true rfl, Nat.le_of_ble_eq_true rfl⟩ ⟨Nat.zero_le _, Nat.zero_le _⟩ dX11_pinRefusal_12) hS (fun H locs hP hS => ?_)
    refine lv_goto (tgt := 19) hx hb dX11_pinRefusal_15 (by decide) ?_
    rw [hQ]
    exact xzretr C0 hP hS rfl h dX11_pinRefusal_19
def f_X11_kindAt (p1 : Int32) : Option (Nat) :=
  if p1 < 0 then
    some 0
  else
    if 8 ≤ p1 then
      some 0
    else
      if p1 < 0 ∨ 8 ≤ p1.toNatClampNeg then none else
      some p1.toNatClampNeg
def rm_X11_kindAt : Room := { frames := 0, cells := 0, slots := 0, locals := 0 }
set_option maxHeartbeats 4000000 in
set_option maxRecDepth 100000 in
theorem c_X11_kindAt {l : Launch} {D : va_G} {ca : Nat → ClassId} {a : Nat → Nat} (hI : InjN 37 a) {p1 : Int32} {σ : Mem} {r : Nat}  (h : f_X11_kindAt p1 = some r) : XMX l D ca a Bt yX11_kindAt cX11_kindAt 3 (some (.object "PinnedToFit$Pin")) rm_X11_kindAt [.ref (a 0), .int p1] σ (some (.ref (a (27 + r)))) σ := by
  refine XM.of pn_X11 (Nat.le_of_ble_eq_true rfl) ?_
  intro p e s m args below meth c ls Q hQ C0 hK hB hP hS hl
  have C0 : Cx p s m args meth c RX11 cX11_kindAt 3 (some (.object "PinnedToFit$Pin")) := C0
  have hx := C0.1
  have hb := C0.2.1
  have hl : lv_has ls 3 [(0, .ref (a 0)), (1, .int p1)] := hl
  rw [f_X11_kindAt] at h
  refine lv_iload_n hx hb dX11_kindAt_0 rfl (lv_at hl 1 rfl) ?_
  refine lv_if_lt (tgt := 22) hx hb dX11_kindAt_1 (by decide) (fun c_1 => ?_) (fun c_1 => ?_)
  · have h := it c_1 h
    refine lv_null hx hb dX11_kindAt_22 ?_
    refine lv_astore_nN (lv' := [(2, .null), (0, .ref (a 0)), (1, .int p1)]) hx hb dX11_kindAt_23 rfl hl (by decide) rfl (fun ls hl => ?_)
    refine lv_aload_nN hx hb dX11_kindAt_24 rfl (lv_at hl 0 rfl) ?_
    refine lv_ifnonnullN hx hb dX11_kindAt_25 ?_
    refine lv_aload_n hx hb dX11_kindAt_28 rfl (lv_at hl 1 rfl) ?_
    refine gX11_6 C0 hK hP tw239 dX11_kindAt_29 ?_
    refine lv_goto (tgt := 36) hx hb dX11_kindAt_32 (by decide) ?_
    rw [hQ]
    exact xaretr (ad := fun r => a (27 + r)) C0 hP hS h dX11_kindAt_36
  · have h := ie c_1 h
    refine lv_iload_n hx hb dX11_kindAt_4 rfl (lv_at hl 1 rfl) ?_
    refine lv_aload_n hx hb dX11_kindAt_5 rfl (lv_at hl 0 rfl) ?_
    refine gX11_5 C0 hK hP tw238 dX11_kindAt_6 ?_
    refine xalenR (N := 8) (v := 8) 2 C0 hK hP (by decide) (fun _ => sh_AK) rfl (by decide) dX11_kindAt_9 ?_
    refine lv_icmp_ge (tgt := 22) hx hb dX11_kindAt_10 (by decide) (fun c_2 => ?_) (fun c_2 => ?_)
    · have h := it c_2 h
      refine lv_null hx hb dX11_kindAt_22 ?_
      refine lv_astore_nN (lv' := [(2, .null), (0, .ref (a 0)), (1, .int p1)]) hx hb dX11_kindAt_23 rfl hl (by decide) rfl (fun ls hl => ?_)
      refine lv_aload_nN hx hb dX11_kindAt_24 rfl (lv_at hl 0 rfl) ?_
      refine lv_ifnonnullN hx hb dX11_kindAt_25 ?_
      refine lv_aload_n hx hb dX11_kindAt_28 rfl (lv_at hl 1 rfl) ?_
      refine gX11_6 C0 hK hP tw239 dX11_kindAt_29 ?_
      refine lv_goto (tgt := 36) hx hb dX11_kindAt_32 (by decide) ?_
      rw [hQ]
      exact xaretr (ad := fun r => a (27 + r)) C0 hP hS h dX11_kindAt_36
    · have h := ie c_2 h
      refine lv_aload_n hx hb dX11_kindAt_13 rfl (lv_at hl 0 rfl) ?_
      refine gX11_5 C0 hK hP tw238 dX11_kindAt_14 ?_
      refine lv_iload_n hx hb dX11_kindAt_17 rfl (lv_at hl 1 rfl) ?_
      obtain ⟨b_3, h⟩ := ck h
      have hk_4 := ckb b_3
      refine xaldq (i := 26) (N := 8) (q := a (27 + p1.toNatClampNeg)) 2 C0 hK hP (by decide) (fun _ => sh_AK) rfl b_3 rfl dX11_kindAt_18 ?_
      refine lv_goto (tgt := 23) hx hb dX11_kindAt_19 (by decide) ?_
      refine lv_astore_n (lv' := [(2, .ref (a (27 + p1.toNatClampNeg))), (0, .ref (a 0)), (1, .int p1)]) hx hb dX11_kindAt_23 rfl hl (by decide) rfl (fun ls hl => ?_)
      refine lv_aload_n hx hb dX11_kindAt_24 rfl (lv_at hl 0 rfl) ?_
      refine lv_ifnonnull (tgt := 35) hx hb dX11_kindAt_25 (by decide) ?_
      refine lv_aload_n hx hb dX11_kindAt_35 rfl (lv_at hl 0 rfl) ?_
      rw [hQ]
      exact xaretr (ad := fun r => a (27 + r)) C0 hP hS h dX11_kindAt_36
def f_X11_may (p1 : Int32) (p2 : Int32) (σ : Mem) : Option (Int32) :=
  b1 (f_X0_has 0 p2 σ) fun r_2 =>
  jn (fun (v_3 : Int32) =>
    if v_3 = 0 then
      b1 (f_X11_shelfAt p1) fun r_6 =>
      if r_6 < 9 then
        b1 (f_X11_kindAt (σ (7 + 2 * r_6) 2)) fun r_9 =>
        if r_9 < 8 then
          b1 (f_X0_allows 0 r_9 (σ (7 + 2 * r_6) 3) p2 σ) fun r_12 =>
          if r_12 = 0 then
            some 0
          else
            some 1
        else none
      else none
    else
      some v_3) fun J20 =>
  if r_2 = 0 then
    J20 (-1)
  else
    b1 (f_X11_pinRefusal p1 σ) fun r_16 =>
    J20 r_16
def rm_X11_may : Room := { frames := 4, cells := 0, slots := 0, locals := 92 }
set_option maxHeartbeats 4000000 in
set_option maxRecDepth 100000 in
theorem c_X11_may {l : Launch} {D : va_G} {ca : Nat → ClassId} {a : Nat → Nat} (hI : InjN 37 a) {p1 : Int32} {p2 : Int32} {σ : Mem} {r : Int32}  (h : f_X11_may p1 p2 σ = some r) : XMX l D ca a Bt yX11_may cX11_may 5 (some .int) rm_X11_may [.ref (a 0), .int p1, .int p2] σ (some (.int r)) σ := by
  refine XM.of pn_X11 (Nat.le_of_ble_eq_true rfl) ?_
  intro p e s m args below meth c ls Q hQ C0 hK hB hP hS hl
  have C0 : Cx p s m args meth c RX11 cX11_may 5 (some .int) := C0
  have hx := C0.1
  have hb := C0.2.1
  have hl : lv_has ls 5 [(0, .ref (a 0)), (1, .int p1), (2, .int p2)] := hl
  rw [f_X11_may] at h
  refine lv_aload_n hx hb dX11_may_0 rfl (lv_at hl 0 rfl) ?_
  refine gX11_0 C0 hK hP tw233 dX11_may_1 ?_
  refine lv_iload_n hx hb dX11_may_4 rfl (lv_at hl 2 rfl) ?_
  obtain ⟨r_2, h_1, h⟩ := b1_e h
  refine xcall (rV C0 hK hP hl.1 (fun _ _ _ => trivial) Bt_b (c_X0_has hI (by decide) h_1) cv_X0_has tw533 (rcX0 hK hP (by decide)) (rest := []) rfl (Nat.le_of_ble_eq_true rfl) ⟨rfl, rfl, Nat.le_of_ble_eq_true rfl, Nat.le_of_ble_eq_true rfl⟩ ⟨Nat.zero_le _, Nat.zero_le _⟩ dX11_may_5) hS (fun H locs hP hS => ?_)
  obtain ⟨J20, eJ20, h⟩ := jn_e h
  have hJ20 : ∀ (v_3 : Int32) (H : Heap) (locs : List Loc) (ls : Array Slot), J20 v_3 = some r → va_P D vwCl (wX ca a σ) H → va_S (AW 37 a) s.heap H locs → lv_has ls 5 [(0, .ref (a 0)), (1, .int p1), (2, .int p2)] → W p l e rm_X11_may s m args below meth c H locs 0 0 Q (F0 m 20 ls [.int v_3]) := by
    intro v_3 H locs ls h hP hS hl
    have h := ap1 eJ20 h
    refine lv_istore_n (lv' := [(3, .int v_3), (0, .ref (a 0)), (1, .int p1), (2, .int p2)]) hx hb dX11_may_20 rfl hl (by decide) rfl (fun ls hl => ?_)
    refine lv_iload_n hx hb dX11_may_21 rfl (lv_at hl 0 rfl) ?_
    refine lv_if_eq (tgt := 27) hx hb dX11_may_22 (by decide) (fun c_4 => ?_) (fun c_4 => ?_)
    · have h := it c_4 h
      refine lv_aload_n hx hb dX11_may_27 rfl (lv_at hl 1 rfl) ?_
      refine lv_iload_n hx hb dX11_may_28 rfl (lv_at hl 2 rfl) ?_
      obtain ⟨r_6, h_5, h⟩ := b1_e h
      refine xcall (rV C0 hK hP hl.1 (fun _ _ _ => trivial) Bt_b (c_X11_shelfAt hI h_5) cv_X11_shelfAt tw275 (rcX11 hK hP) (rest := []) rfl (Nat.le_of_ble_eq_true rfl) ⟨rfl, rfl, Nat.le_of_ble_eq_true rfl, Nat.le_of_ble_eq_true rfl⟩ ⟨Nat.zero_le _, Nat.zero_le _⟩ dX11_may_29) hS (fun H locs hP hS => ?_)
      obtain ⟨hk_7, h⟩ := asr h
      refine lv_astore (lv' := [(4, .ref (a (7 + 2 * r_6))), (3, .int v_3), (0, .ref (a 0)), (1, .int p1), (2, .int p2)]) hx hb dX11_may_32 hl (by decide) rfl (fun ls hl => ?_)
      refine lv_aload_n hx hb dX11_may_34 rfl (lv_at hl 2 rfl) ?_
      refine gX11_0 C0 hK hP tw233 dX11_may_35 ?_
      refine lv_aload_n hx hb dX11_may_38 rfl (lv_at hl 2 rfl) ?_
      refine lv_aload hx hb dX11_may_39 (lv_at hl 0 rfl) ?_
      refine gX5_2N C0 hK hP hk_7 tw135 dX11_may_41 ?_
      obtain ⟨r_9, h_8, h⟩ := b1_e h
      refine xcall (rV C0 hK hP hl.1 (fun _ _ _ => trivial) Bt_b (c_X11_kindAt hI h_8) cv_X11_kindAt tw395 (rcX11 hK hP) (rest := [.ref (a (1 + 2 * 0))]) rfl (Nat.le_of_ble_eq_true rfl) ⟨rfl, rfl, Nat.le_of_ble_eq_true rfl, Nat.le_of_ble_eq_true rfl⟩ ⟨Nat.zero_le _, Nat.zero_le _⟩ dX11_may_44) hS (fun H locs hP hS => ?_)
      obtain ⟨hk_10, h⟩ := asr h
      refine lv_aload hx hb dX11_may_47 (lv_at hl 0 rfl) ?_
      refine gX5_3N C0 hK hP hk_7 tw137 dX11_may_49 ?_
      refine lv_iload_n hx hb dX11_may_52 rfl (lv_at hl 4 rfl) ?_
      obtain ⟨r_12, h_11, h⟩ := b1_e h
      refine xcall (rV C0 hK hP hl.1 (fun _ _ _ => trivial) Bt_b (c_X0_allows hI (by decide) hk_10 h_11) cv_X0_allows tw551 (rcX0 hK hP (by decide)) (rest := []) rfl (Nat.le_of_ble_eq_true rfl) ⟨rfl, rfl, Nat.le_of_ble_eq_true rfl, Nat.le_of_ble_eq_true rfl⟩ ⟨Nat.zero_le _, Nat.zero_le _⟩ dX11_may_53) hS (fun H locs hP hS => ?_)
      refine lv_if_eq (tgt := 63) hx hb dX11_may_56 (by decide) (fun c_13 => ?_) (fun c_13 => ?_)
      · have h := it c_13 h
        refine lv_iconst (v := 0) hx hb dX11_may_63 (by decide) ?_
        rw [hQ]
        exact xzretr C0 hP hS rfl h dX11_may_64
      · have h := ie c_13 h
        refine lv_iconst (v := 1) hx hb dX11_may_59 (by decide) ?_
        refine lv_goto (tgt := 64) hx hb dX11_may_60 (by decide) ?_
        rw [hQ]
        exact xzretr C0 hP hS rfl h dX11_may_64
    · have h := ie c_4 h
      refine lv_iload_n hx hb dX11_may_25 rfl (lv_at hl 0 rfl) ?_
      rw [hQ]
      exact xzretr C0 hP hS rfl h dX11_may_26
  refine lv_if_eq (tgt := 19) hx hb dX11_may_8 (by decide) (fun c_14 => ?_) (fun c_14 => ?_)
  · have h := it c_14 h
    refine lv_iconst (v := (-1)) hx hb dX11_may_19 (by decide) ?_
    exact hJ20 (-1) _ _ ls h hP hS (lv_sub hl [0, 1, 2] rfl)
  · have h := ie c_14 h
    refine lv_aload_n hx hb dX11_may_11 rfl (lv_at hl 0 rfl) ?_
    refine lv_iload_n hx hb dX11_may_12 rfl (lv_at hl 1 rfl) ?_
    obtain ⟨r_16, h_15, h⟩ := b1_e h
    refine xcall (rV C0 hK hP hl.1 (fun _ _ _ => trivial) Bt_b (c_X11_pinRefusal hI h_15) cv_X11_pinRefusal tw543 (rcX11 hK hP) (rest := []) rfl (Nat.le_of_ble_eq_true rfl) ⟨rfl, rfl, Nat.le_of_ble_eq_true rfl, Nat.le_of_ble_eq_true rfl⟩ ⟨Nat.zero_le _, Nat.zero_le _⟩ dX11_may_13) hS (fun H locs hP hS => ?_)
    refine lv_goto (tgt := 20) hx hb dX11_may_16 (by decide) ?_
    exact hJ20 r_16 _ _ ls h hP hS (lv_sub hl [0, 1, 2] rfl)
def f_X11_pin (p1 : Int32) (p2 : Int32) (σ : Mem) : Option (Int32 × Mem) :=
  b1 (f_X0_has 0 p2 σ) fun r_2 =>
  jn (fun (v_3 : Int32) (σ_4 : Mem) =>
    if v_3 = 0 then
      b1 (f_X11_shelfAt p1) fun r_7 =>
      if r_7 < 9 then
        bnd (σ_4 (7 + 2 * r_7) 2) fun (y_9 : Int32) =>
        b1 (f_X11_kindAt y_9) fun r_11 =>
        if r_11 < 8 then
          bnd (σ_4 (7 + 2 * r_7) 3) fun (y_13 : Int32) =>
          b2 (f_X0_tryPin 0 r_11 y_13 p2 σ_4) fun r_15 σ_16 =>
          if r_15 = 0 then
            some ((-3), σ_16)
          else
            b1 (f_X0_lacking 0 σ_16) fun r_19 =>
            some (r_19, σ_16)
        else none
      else none
    else
      some (v_3, σ_4)) fun J20 =>
  if r_2 = 0 then
    J20 (-1) σ
  else
    b1 (f_X11_pinRefusal p1 σ) fun r_22 =>
    J20 r_22 σ
def rm_X11_pin : Room := { frames := 5, cells := 0, slots := 0, locals := 116 }
set_option maxHeartbeats 4000000 in
set_option maxRecDepth 100000 in
theorem c_X11_pin {l : Launch} {D : va_G} {ca : Nat → ClassId} {a : Nat → Nat} (hI : InjN 37 a) {p1 : Int32} {p2 : Int32} {σ : Mem} {r : Int32} {σ' : Mem}  (h : f_X11_pin p1 p2 σ = some (r, σ')) : XMX l D ca a Bt yX11_pin cX11_pin 5 (some .int) rm_X11_pin [.ref (a 0), .int p1, .int p2] σ (some (.int r)) σ' := by
  refine XM.of pn_X11 (Nat.le_of_ble_eq_true rfl) ?_
  intro p e s m args below meth c ls Q hQ C0 hK hB hP hS hl
  have C0 : Cx p s m args meth c RX11 cX11_pin 5 (some .int) := C0
  have hx := C0.1
  have hb := C0.2.1
  have hl : lv_has ls 5 [(0, .ref (a 0)), (1, .int p1), (2, .int p2)] := hl
  rw [f_X11_pin] at h
  refine lv_aload_n hx hb dX11_pin_0 rfl (lv_at hl 0 rfl) ?_
  refine gX11_0 C0 hK hP tw233 dX11_pin_1 ?_
  refine lv_iload_n hx hb dX11_pin_4 rfl (lv_at hl 2 rfl) ?_
  obtain ⟨r_2, h_1, h⟩ := b1_e h
  refine xcall (rV C0 hK hP hl.1 (fun _ _ _ => trivial) Bt_b (c_X0_has hI (by decide) h_1) cv_X0_has tw533 (rcX0 hK hP (by decide)) (rest := []) rfl (Nat.le_of_ble_eq_true rfl) ⟨rfl, rfl, Nat.le_of_ble_eq_true rfl, Nat.le_of_ble_eq_true rfl⟩ ⟨Nat.zero_le _, Nat.zero_le _⟩ dX11_pin_5) hS (fun H locs hP hS => ?_)
  obtain ⟨J20, eJ20, h⟩ := jn_e h
  have hJ20 : ∀ (v_3 : Int32) (σ_4 : Mem) (H : Heap) (locs : List Loc) (ls : Array Slot), J20 v_3 σ_4 = some (r, σ') → va_P D vwCl (wX ca a σ_4) H → va_S (AW 37 a) s.heap H locs → lv_has ls 5 [(0, .ref (a 0)), (1, .int p1), (2, .int p2)] → W p l e rm_X11_pin s m args below meth c H locs 0 0 Q (F0 m 20 ls [.int v_3]) := by
    intro v_3 σ_4 H locs ls h hP hS hl
    have h := ap2 eJ20 h
    refine lv_istore_n (lv' := [(3, .int v_3), (0, .ref (a 0)), (1, .int p1), (2, .int p2)]) hx hb dX11_pin_20 rfl hl (by decide) rfl (fun ls hl => ?_)
    refine lv_iload_n hx hb dX11_pin_21 rfl (lv_at hl 0 rfl) ?_
    refine lv_if_eq (tgt := 27) hx hb dX11_pin_22 (by decide) (fun c_5 => ?_) (fun c_5 => ?_)
    · have h := it c_5 h
      refine lv_aload_n hx hb dX11_pin_27 rfl (lv_at hl 1 rfl) ?_
      refine lv_iload_n hx hb dX11_pin_28 rfl (lv_at hl 2 rfl) ?_
      obtain ⟨r_7, h_6, h⟩ := b1_e h
      refine xcall (rV C0 hK hP hl.1 (fun _ _ _ => trivial) Bt_b (c_X11_shelfAt hI h_6) cv_X11_shelfAt tw275 (rcX11 hK hP) (rest := []) rfl (Nat.le_of_ble_eq_true rfl) ⟨rfl, rfl, Nat.le_of_ble_eq_true rfl, Nat.le_of_ble_eq_true rfl⟩ ⟨Nat.zero_le _, Nat.zero_le _⟩ dX11_pin_29) hS (fun H locs hP hS => ?_)
      obtain ⟨hk_8, h⟩ := asr h
      refine lv_astore (lv' := [(4, .ref (a (7 + 2 * r_7))), (3, .int v_3), (0, .ref (a 0)), (1, .int p1), (2, .int p2)]) hx hb dX11_pin_32 hl (by decide) rfl (fun ls hl => ?_)
      refine lv_aload_n hx hb dX11_pin_34 rfl (lv_at hl 2 rfl) ?_
      refine gX11_0 C0 hK hP tw233 dX11_pin_35 ?_
      refine lv_aload_n hx hb dX11_pin_38 rfl (lv_at hl 2 rfl) ?_
      refine lv_aload hx hb dX11_pin_39 (lv_at hl 0 rfl) ?_
      refine gX5_2N C0 hK hP hk_8 tw135 dX11_pin_41 ?_
      obtain ⟨y_9, ey_9, h⟩ := bnd_e h
      rw [← ey_9]
      obtain ⟨r_11, h_10, h⟩ := b1_e h
      refine xcall (rV C0 hK hP hl.1 (fun _ _ _ => trivial) Bt_b (c_X11_kindAt hI h_10) cv_X11_kindAt tw395 (rcX11 hK hP) (rest := [.ref (a (1 + 2 * 0))]) rfl (Nat.le_of_ble_eq_true rfl) ⟨rfl, rfl, Nat.le_of_ble_eq_true rfl, Nat.le_of_ble_eq_true rfl⟩ ⟨Nat.zero_le _, Nat.zero_le _⟩ dX11_pin_44) hS (fun H locs hP hS => ?_)
      obtain ⟨hk_12, h⟩ := asr h
      refine lv_aload hx hb dX11_pin_47 (lv_at hl 0 rfl) ?_
      refine gX5_3N C0 hK hP hk_8 tw137 dX11_pin_49 ?_
      refine lv_iload_n hx hb dX11_pin_52 rfl (lv_at hl 4 rfl) ?_
      obtain ⟨y_13, ey_13, h⟩ := bnd_e h
      rw [← ey_13]
      obtain ⟨r_15, σ_16, h_14, h⟩ := b2_e h
      refine xcall (rV C0 hK hP hl.1 (fun _ _ _ => trivial) Bt_b (c_X0_tryPin hI (by decide) hk_12 h_14) cv_X0_tryPin tw399 (rcX0 hK hP (by decide)) (rest := []) rfl (Nat.le_of_ble_eq_true rfl) ⟨rfl, rfl, Nat.le_of_ble_eq_true rfl, Nat.le_of_ble_eq_true rfl⟩ ⟨Nat.zero_le _, Nat.zero_le _⟩ dX11_pin_53) hS (fun H locs hP hS => ?_)
      refine lv_if_eq (tgt := 69) hx hb dX11_pin_56 (by decide) (fun c_17 => ?_) (fun c_17 => ?_)
      · have h := it c_17 h
        refine lv_bipush (v := (-3)) hx hb dX11_pin_69 (by decide) ?_
        rw [hQ]
        exact xzret C0 hP hS rfl h dX11_pin_71
      · have h := ie c_17 h
        refine lv_aload_n hx hb dX11_pin_59 rfl (lv_at hl 2 rfl) ?_
        refine gX11_0 C0 hK hP tw233 dX11_pin_60 ?_
        obtain ⟨r_19, h_18, h⟩ := b1_e h
        refine xcall (rV C0 hK hP hl.1 (fun _ _ _ => trivial) Bt_b (c_X0_lacking hI (by decide) h_18) cv_X0_lacking tw556 (rcX0 hK hP (by decide)) (rest := []) rfl (Nat.le_of_ble_eq_true rfl) ⟨rfl, rfl, Nat.le_of_ble_eq_true rfl, Nat.le_of_ble_eq_true rfl⟩ ⟨Nat.zero_le _, Nat.zero_le _⟩ dX11_pin_63) hS (fun H locs hP hS => ?_)
        refine lv_goto (tgt := 71) hx hb dX11_pin_66 (by decide) ?_
        rw [hQ]
        exact xzret C0 hP hS rfl h dX11_pin_71
    · have h := ie c_5 h
      refine lv_iload_n hx hb dX11_pin_25 rfl (lv_at hl 0 rfl) ?_
      rw [hQ]
      exact xzret C0 hP hS rfl h dX11_pin_26
  refine lv_if_eq (tgt := 19) hx hb dX11_pin_8 (by decide) (fun c_20 => ?_) (fun c_20 => ?_)
  · have h := it c_20 h
    refine lv_iconst (v := (-1)) hx hb dX11_pin_19 (by decide) ?_
    exact hJ20 (-1) σ _ _ ls h hP hS (lv_sub hl [0, 1, 2] rfl)
  · have h := ie c_20 h
    refine lv_aload_n hx hb dX11_pin_11 rfl (lv_at hl 0 rfl) ?_
    refine lv_iload_n hx hb dX11_pin_12 rfl (lv_at hl 1 rfl) ?_
    obtain ⟨r_22, h_21, h⟩ := b1_e h
    refine xcall (rV C0 hK hP hl.1 (fun _ _ _ => trivial) Bt_b (c_X11_pinRefusal hI h_21) cv_X11_pinRefusal tw543 (rcX11 hK hP) (rest := []) rfl (Nat.le_of_ble_eq_true rfl) ⟨rfl, rfl, Nat.le_of_ble_eq_true rfl, Nat.le_of_ble_eq_true rfl⟩ ⟨Nat.zero_le _, Nat.zero_le _⟩ dX11_pin_13) hS (fun H locs hP hS => ?_)
    refine lv_goto (tgt := 20) hx hb dX11_pin_16 (by decide) ?_
    exact hJ20 r_22 σ _ _ ls h hP hS (lv_sub hl [0, 1, 2] rfl)
def f_X11_ease (p1 : Int32) (p2 : Int32) (σ : Mem) : Option (Int32) :=
  b1 (f_X0_has 0 p1 σ) fun r_2 =>
  if r_2 = 0 then
    if (0 : Int32) = 0 then
      some (-1000000001)
    else
      b1 (f_X0_easeAt 0 p1 p2 σ) fun r_6 =>
      some r_6
  else
    b1 (f_X11_within p2 0 3) fun r_8 =>
    if r_8 = 0 then
      if (0 : Int32) = 0 then
        some (-1000000001)
      else
        b1 (f_X0_easeAt 0 p1 p2 σ) fun r_12 =>
        some r_12
    else
      if (1 : Int32) = 0 then
        some (-1000000001)
      else
        b1 (f_X0_easeAt 0 p1 p2 σ) fun r_15 =>
        some r_15
def rm_X11_ease : Room := { frames := 3, cells := 0, slots := 0, locals := 67 }
set_option maxHeartbeats 4000000 in
set_option maxRecDepth 100000 in
theorem c_X11_ease {l : Launch} {D : va_G} {ca : Nat → ClassId} {a : Nat → Nat} (hI : InjN 37 a) {p1 : Int32} {p2 : Int32} {σ : Mem} {r : Int32}  (h : f_X11_ease p1 p2 σ = some r) : XMX l D ca a Bt yX11_ease cX11_ease 4 (some .int) rm_X11_ease [.ref (a 0), .int p1, .int p2] σ (some (.int r)) σ := by
  refine XM.of pn_X11 (Nat.le_of_ble_eq_true rfl) ?_
  intro p e s m args below meth c ls Q hQ C0 hK hB hP hS hl
  have C0 : Cx p s m args meth c RX11 cX11_ease 4 (some .int) := C0
  have hx := C0.1
  have hb := C0.2.1
  have hl : lv_has ls 4 [(0, .ref (a 0)), (1, .int p1), (2, .int p2)] := hl
  rw [f_X11_ease] at h
  refine lv_aload_n hx hb dX11_ease_0 rfl (lv_at hl 0 rfl) ?_
  refine gX11_0 C0 hK hP tw233 dX11_ease_1 ?_
  refine lv_iload_n hx hb dX11_ease_4 rfl (lv_at hl 1 rfl) ?_
  obtain ⟨r_2, h_1, h⟩ := b1_e h
  refine xcall (rV C0 hK hP hl.1 (fun _ _ _ => trivial) Bt_b (c_X0_has hI (by decide) h_1) cv_X0_has tw533 (rcX0 hK hP (by decide)) (rest := []) rfl (Nat.le_of_ble_eq_true rfl) ⟨rfl, rfl, Nat.le_of_ble_eq_true rfl, Nat.le_of_ble_eq_true rfl⟩ ⟨Nat.zero_le _, Nat.zero_le _⟩ dX11_ease_5) hS (fun H locs hP hS => ?_)
  refine lv_if_eq (tgt := 24) hx hb dX11_ease_8 (by decide) (fun c_3 => ?_) (fun c_3 => ?_)
  · have h := it c_3 h
    refine lv_iconst (v := 0) hx hb dX11_ease_24 (by decide) ?_
    refine lv_istore_n (lv' := [(3, .int 0), (0, .ref (a 0)), (1, .int p1), (2, .int p2)]) hx hb dX11_ease_25 rfl hl (by decide) rfl (fun ls hl => ?_)
    refine lv_iload_n hx hb dX11_ease_26 rfl (lv_at hl 0 rfl) ?_
    refine lv_if_eq (tgt := 42) hx hb dX11_ease_27 (by decide) (fun c_4 => ?_) (fun c_4 => ?_)
    · have h := it c_4 h
      refine lv_ldc (v := (-1000000001)) hx hb C0.2.2.2.1 (C0.2.2.2.2.1 _ tw573) dX11_ease_42 ?_
      rw [hQ]
      exact xzretr C0 hP hS rfl h dX11_ease_44
    · have h := ie c_4 h
      refine lv_aload_n hx hb dX11_ease_30 rfl (lv_at hl 1 rfl) ?_
      refine gX11_0 C0 hK hP tw233 dX11_ease_31 ?_
      refine lv_iload_n hx hb dX11_ease_34 rfl (lv_at hl 2 rfl) ?_
      refine lv_iload_n hx hb dX11_ease_35 rfl (lv_at hl 3 rfl) ?_
      obtain ⟨r_6, h_5, h⟩ := b1_e h
      refine xcall (rV C0 hK hP hl.1 (fun _ _ _ => trivial) Bt_b (c_X0_easeAt hI (by decide) h_5) cv_X0_easeAt tw572 (rcX0 hK hP (by decide)) (rest := []) rfl (Nat.le_of_ble_eq_true rfl) ⟨rfl, rfl, Nat.le_of_ble_eq_true rfl, Nat.le_of_ble_eq_true rfl⟩ ⟨Nat.zero_le _, Nat.zero_le _⟩ dX11_ease_36) hS (fun H locs hP hS => ?_)
      refine lv_goto (tgt := 44) hx hb dX11_ease_39 (by decide) ?_
      rw [hQ]
      exact xzretr C0 hP hS rfl h dX11_ease_44
  · have h := ie c_3 h
    refine lv_iload_n hx hb dX11_ease_11 rfl (lv_at hl 2 rfl) ?_
    refine lv_iconst (v := 0) hx hb dX11_ease_12 (by decide) ?_
    refine lv_iconst (v := 3) hx hb dX11_ease_13 (by decide) ?_
    obtain ⟨r_8, h_7, h⟩ := b1_e h
    refine xcall (rS C0 hK hP hl.1 (fun _ _ _ => trivial) Bt_b (c_X11_within hI h_7) cs_X11_within tw272 (rest := []) rfl (Nat.le_of_ble_eq_true rfl) ⟨rfl, rfl, Nat.le_of_ble_eq_true rfl, Nat.le_of_ble_eq_true rfl⟩ ⟨Nat.zero_le _, Nat.zero_le _⟩ dX11_ease_14) hS (fun H locs hP hS => ?_)
    refine lv_if_eq (tgt := 24) hx hb dX11_ease_17 (by decide) (fun c_9 => ?_) (fun c_9 => ?_)
    · have h := it c_9 h
      refine lv_iconst (v := 0) hx hb dX11_ease_24 (by decide) ?_
      refine lv_istore_n (lv' := [(3, .int 0), (0, .ref (a 0)), (1, .int p1), (2, .int p2)]) hx hb dX11_ease_25 rfl hl (by decide) rfl (fun ls hl => ?_)
      refine lv_iload_n hx hb dX11_ease_26 rfl (lv_at hl 0 rfl) ?_
      refine lv_if_eq (tgt := 42) hx hb dX11_ease_27 (by decide) (fun c_10 => ?_) (fun c_10 => ?_)
      · have h := it c_10 h
        refine lv_ldc (v := (-1000000001)) hx hb C0.2.2.2.1 (C0.2.2.2.2.1 _ tw573) dX11_ease_42 ?_
        rw [hQ]
        exact xzretr C0 hP hS rfl h dX11_ease_44
      · have h := ie c_10 h
        refine lv_aload_n hx hb dX11_ease_30 rfl (lv_at hl 1 rfl) ?_
        refine gX11_0 C0 hK hP tw233 dX11_ease_31 ?_
        refine lv_iload_n hx hb dX11_ease_34 rfl (lv_at hl 2 rfl) ?_
        refine lv_iload_n hx hb dX11_ease_35 rfl (lv_at hl 3 rfl) ?_
        obtain ⟨r_12, h_11, h⟩ := b1_e h
        refine xcall (rV C0 hK hP hl.1 (fun _ _ _ => trivial) Bt_b (c_X0_easeAt hI (by decide) h_11) cv_X0_easeAt tw572 (rcX0 hK hP (by decide)) (rest := []) rfl (Nat.le_of_ble_eq_true rfl) ⟨rfl, rfl, Nat.le_of_ble_eq_true rfl, Nat.le_of_ble_eq_true rfl⟩ ⟨Nat.zero_le _, Nat.zero_le _⟩ dX11_ease_36) hS (fun H locs hP hS => ?_)
        refine lv_goto (tgt := 44) hx hb dX11_ease_39 (by decide) ?_
        rw [hQ]
        exact xzretr C0 hP hS rfl h dX11_ease_44
    · have h := ie c_9 h
      refine lv_iconst (v := 1) hx hb dX11_ease_20 (by decide) ?_
      refine lv_goto (tgt := 25) hx hb dX11_ease_21 (by decide) ?_
      refine lv_istore_n (lv' := [(3, .int 1), (0, .ref (a 0)), (1, .int p1), (2, .int p2)]) hx hb dX11_ease_25 rfl hl (by decide) rfl (fun ls hl => ?_)
      refine lv_iload_n hx hb dX11_ease_26 rfl (lv_at hl 0 rfl) ?_
      refine lv_if_eq (tgt := 42) hx hb dX11_ease_27 (by decide) (fun c_13 => ?_) (fun c_13 => ?_)
      · have h := it c_13 h
        refine lv_ldc (v := (-1000000001)) hx hb C0.2.2.2.1 (C0.2.2.2.2.1 _ tw573) dX11_ease_42 ?_
        rw [hQ]
        exact xzretr C0 hP hS rfl h dX11_ease_44
      · have h := ie c_13 h
        refine lv_aload_n hx hb dX11_ease_30 rfl (lv_at hl 1 rfl) ?_
        refine gX11_0 C0 hK hP tw233 dX11_ease_31 ?_
        refine lv_iload_n hx hb dX11_ease_34 rfl (lv_at hl 2 rfl) ?_
        refine lv_iload_n hx hb dX11_ease_35 rfl (lv_at hl 3 rfl) ?_
        obtain ⟨r_15, h_14, h⟩ := b1_e h
        refine xcall (rV C0 hK hP hl.1 (fun _ _ _ => trivial) Bt_b (c_X0_easeAt hI (by decide) h_14) cv_X0_easeAt tw572 (rcX0 hK hP (by decide)) (rest := []) rfl (Nat.le_of_ble_eq_true rfl) ⟨rfl, rfl, Nat.le_of_ble_eq_true rfl, Nat.le_of_ble_eq_true rfl⟩ ⟨Nat.zero_le _, Nat.zero_le _⟩ dX11_ease_36) hS (fun H locs hP hS => ?_)
        refine lv_goto (tgt := 44) hx hb dX11_ease_39 (by decide) ?_
        rw [hQ]
        exact xzretr C0 hP hS rfl h dX11_ease_44
def f_X11_fitting_L4 (p1 : Int32) (σ : Mem) : Nat → Int32 → Int32 → (Int32 → Int32 → Option (Int32)) → Option (Int32)
  | 0, _, _, _ => none
  | n + 1, x2_1, x3_2, K1 =>
    if (σ (1 + 2 * 0) 1) ≤ x3_2 then
      K1 x2_1 x3_2
    else
      b1 (f_X0_fits 0 x3_2 p1 σ) fun r_5 =>
      if r_5 = 0 then
        bnd (x3_2 + 1) fun (x3_7 : Int32) =>
        f_X11_fitting_L4 p1 σ n x2_1 x3_7 K1
      else
        bnd (x2_1 ||| (1 <<< (x3_2 &&& 31))) fun (x2_8 : Int32) =>
        bnd (x3_2 + 1) fun (x3_9 : Int32) =>
        f_X11_fitting_L4 p1 σ n x2_8 x3_9 K1
def f_X11_fitting (p1 : Int32) (σ : Mem) : Option (Int32) :=
  f_X11_fitting_L4 p1 σ 5000 0 0 fun (x2_10 : Int32) (u_11 : Int32) =>
    some x2_10
def rm_X11_fitting : Room := { frames := 4, cells := 0, slots := 0, locals := 90 }
set_option maxHeartbeats 4000000 in
set_option maxRecDepth 100000 in
theorem c_X11_fitting {l : Launch} {D : va_G} {ca : Nat → ClassId} {a : Nat → Nat} (hI : InjN 37 a) {p1 : Int32} {σ : Mem} {r : Int32}  (h : f_X11_fitting p1 σ = some r) : XMX l D ca a Bt yX11_fitting cX11_fitting 4 (some .int) rm_X11_fitting [.ref (a 0), .int p1] σ (some (.int r)) σ := by
  refine XM.of pn_X11 (Nat.le_of_ble_eq_true rfl) ?_
  intro p e s m args below meth c ls Q hQ C0 hK hB hP hS hl
  have C0 : Cx p s m args meth c RX11 cX11_fitting 4 (some .int) := C0
  have hx := C0.1
  have hb := C0.2.1
  have hl : lv_has ls 4 [(0, .ref (a 0)), (1, .int p1)] := hl
  rw [f_X11_fitting] at h
  refine lv_iconst (v := 0) hx hb dX11_fitting_0 (by decide) ?_
  refine lv_istore_n (lv' := [(2, .int 0), (0, .ref (a 0)), (1, .int p1)]) hx hb dX11_fitting_1 rfl hl (by decide) rfl (fun ls hl => ?_)
  refine lv_iconst (v := 0) hx hb dX11_fitting_2 (by decide) ?_
  refine lv_istore_n (lv' := [(3, .int 0), (2, .int 0), (0, .ref (a 0)), (1, .int p1)]) hx hb dX11_fitting_3 rfl hl (by decide) rfl (fun ls hl => ?_)
  obtain ⟨K1, eK1, h⟩ := lp_e (f := fun K => f_X11_fitting_L4 p1 σ 5000 0 0 K) h
  have h : f_X11_fitting_L4 p1 σ 5000 0 0 K1 = some r := h
  have hX1 : ∀ (x2_10 : Int32) (u_11 : Int32) (H : Heap) (locs : List Loc) (ls : Array Slot), K1 x2_10 u_11 = some r → va_P D vwCl (wX ca a σ) H → va_S (AW 37 a) s.heap H locs → lv_has ls 4 [(2, .int x2_10)] → W p l e rm_X11_fitting s m args below meth c H locs 0 0 Q (F0 m 39 ls []) := by
    intro x2_10 u_11 H locs ls h hP hS hl
    have h := ap2 eK1 h
    refine lv_iload_n hx hb dX11_fitting_39 rfl (lv_at hl 0 rfl) ?_
    rw [hQ]
    exact xzretr C0 hP hS rfl h dX11_fitting_40
  have hL1 : ∀ (n : Nat) (x2_1 : Int32) (x3_2 : Int32) (H : Heap) (locs : List Loc) (ls : Array Slot), f_X11_fitting_L4 p1 σ n x2_1 x3_2 K1 = some r → va_P D vwCl (wX ca a σ) H → va_S (AW 37 a) s.heap H locs → lv_has ls 4 [(0, .ref (a 0)), (1, .int p1), (2, .int x2_1), (3, .int x3_2)] → W p l e rm_X11_fitting s m args below meth c H locs 0 0 Q (F0 m 4 ls []) := by
    intro n
    induction n with
    | zero => intro x2_1 x3_2 H locs ls h; rw [f_X11_fitting_L4] at h; cases h
    | succ n ih1 =>
      intro x2_1 x3_2 H locs ls h hP hS hl
      rw [f_X11_fitting_L4] at h
      refine lv_iload_n hx hb dX11_fitting_4 rfl (lv_at hl 3 rfl) ?_
      refine lv_aload_n hx hb dX11_fitting_5 rfl (lv_at hl 0 rfl) ?_
      refine gX11_0 C0 hK hP tw233 dX11_fitting_6 ?_
      refine gX0_1N C0 hK hP (by decide) tw100 dX11_fitting_9 ?_
      refine lv_icmp_ge (tgt := 39) hx hb dX11_fitting_12 (by decide) (fun c_3 => ?_) (fun c_3 => ?_)
      · have h := it c_3 h
        exact hX1 x2_1 x3_2 _ _ ls h hP hS (lv_sub hl [2] rfl)
      · have h := ie c_3 h
        refine lv_aload_n hx hb dX11_fitting_15 rfl (lv_at hl 0 rfl) ?_
        refine gX11_0 C0 hK hP tw233 dX11_fitting_16 ?_
        refine lv_iload_n hx hb dX11_fitting_19 rfl (lv_at hl 3 rfl) ?_
        refine lv_iload_n hx hb dX11_fitting_20 rfl (lv_at hl 1 rfl) ?_
        obtain ⟨r_5, h_4, h⟩ := b1_e h
        refine xcall (rV C0 hK hP hl.1 (fun _ _ _ => trivial) Bt_b (c_X0_fits hI (by decide) h_4) cv_X0_fits tw582 (rcX0 hK hP (by decide)) (rest := []) rfl (Nat.le_of_ble_eq_true rfl) ⟨rfl, rfl, Nat.le_of_ble_eq_true rfl, Nat.le_of_ble_eq_true rfl⟩ ⟨Nat.zero_le _, Nat.zero_le _⟩ dX11_fitting_21) hS (fun H locs hP hS => ?_)
        refine lv_if_eq (tgt := 33) hx hb dX11_fitting_24 (by decide) (fun c_6 => ?_) (fun c_6 => ?_)
        · have h := it c_6 h
          obtain ⟨x3_7, ex3_7, h⟩ := bnd_e h
          refine lv_iinc (v := x3_7) (lv' := [(3, .int x3_7), (0, .ref (a 0)), (1, .int p1), (2, .int x2_1)]) hx hb dX11_fitting_33 hl (k := 3) rfl (by rw [ex3_7]; rfl) (by decide) rfl (fun ls hl => ?_)
          refine lv_goto (tgt := 4) hx hb dX11_fitting_36 (by decide) ?_
          exact ih1 x2_1 x3_7 _ _ ls h hP hS (lv_sub hl [1, 2, 3, 0] rfl)
        · have h := ie c_6 h
          refine lv_iload_n hx hb dX11_fitting_27 rfl (lv_at hl 2 rfl) ?_
          refine lv_iconst (v := 1) hx hb dX11_fitting_28 (by decide) ?_
          refine lv_iload_n hx hb dX11_fitting_29 rfl (lv_at hl 3 rfl) ?_
          refine lv_ishl hx hb dX11_fitting_30 ?_
          refine lv_ior hx hb dX11_fitting_31 ?_
          obtain ⟨x2_8, ex2_8, h⟩ := bnd_e h
          refine nm_i ex2_8 ?_
          refine lv_istore_n (lv' := [(2, .int x2_8), (0, .ref (a 0)), (1, .int p1), (3, .int x3_2)]) hx hb dX11_fitting_32 rfl hl (by decide) rfl (fun ls hl => ?_)
          obtain ⟨x3_9, ex3_9, h⟩ := bnd_e h
          refine lv_iinc (v := x3_9) (lv' := [(3, .int x3_9), (2, .int x2_8), (0, .ref (a 0)), (1, .int p1)]) hx hb dX11_fitting_33 hl (k := 3) rfl (by rw [ex3_9]; rfl) (by decide) rfl (fun ls hl => ?_)
          refine lv_goto (tgt := 4) hx hb dX11_fitting_36 (by decide) ?_
          exact ih1 x2_8 x3_9 _ _ ls h hP hS (lv_sub hl [2, 3, 1, 0] rfl)
  exact hL1 5000 0 0 _ _ ls h hP hS (lv_sub hl [2, 3, 1, 0] rfl)
def f_X11_fit_L13 (σ : Mem) : Nat → Int32 → Int32 → (Int32 → Int32 → Option (Int32)) → Option (Int32)
  | 0, _, _, _ => none
  | n + 1, x2_9, x3_10, K1 =>
    if 4 ≤ x3_10 then
      K1 x2_9 x3_10
    else
      b1 (f_X11_fitting x3_10 σ) fun r_13 =>
      bnd (x2_9 &&& r_13) fun (x2_14 : Int32) =>
      bnd (x3_10 + 1) fun (x3_15 : Int32) =>
      f_X11_fit_L13 σ n x2_14 x3_15 K1
def f_X11_fit (p1 : Int32) (σ : Mem) : Option (Int32) :=
  if p1 = (-1) then
    b1 (f_X11_fitting 0 σ) fun r_8 =>
    f_X11_fit_L13 σ 5000 r_8 1 fun (x2_16 : Int32) (u_17 : Int32) =>
      some x2_16
  else
    b1 (f_X11_within p1 0 3) fun r_3 =>
    if r_3 = 0 then
      some (-1)
    else
      b1 (f_X11_fitting p1 σ) fun r_6 =>
      some r_6
def rm_X11_fit : Room := { frames := 5, cells := 0, slots := 0, locals := 113 }
set_option maxHeartbeats 4000000 in
set_option maxRecDepth 100000 in
theorem c_X11_fit {l : Launch} {D : va_G} {ca : Nat → ClassId} {a : Nat → Nat} (hI : InjN 37 a) {p1 : Int32} {σ : Mem} {r : Int32}  (h : f_X11_fit p1 σ = some r) : XMX l D ca a Bt yX11_fit cX11_fit 4 (some .int) rm_X11_fit [.ref (a 0), .int p1] σ (some (.int r)) σ := by
  refine XM.of pn_X11 (Nat.le_of_ble_eq_true rfl) ?_
  intro p e s m args below meth c ls Q hQ C0 hK hB hP hS hl
  have C0 : Cx p s m args meth c RX11 cX11_fit 4 (some .int) := C0
  have hx := C0.1
  have hb := C0.2.1
  have hl : lv_has ls 4 [(0, .ref (a 0)), (1, .int p1)] := hl
  rw [f_X11_fit] at h
  refine lv_iload_n hx hb dX11_fit_0 rfl (lv_at hl 1 rfl) ?_
  refine lv_iconst (v := (-1)) hx hb dX11_fit_1 (by decide) ?_
  refine lv_icmp_ne (tgt := 34) hx hb dX11_fit_2 (by decide) (fun c_1 => ?_) (fun c_1 => ?_)
  · have h := ie c_1 h
    refine lv_iload_n hx hb dX11_fit_34 rfl (lv_at hl 1 rfl) ?_
    refine lv_iconst (v := 0) hx hb dX11_fit_35 (by decide) ?_
    refine lv_iconst (v := 3) hx hb dX11_fit_36 (by decide) ?_
    obtain ⟨r_3, h_2, h⟩ := b1_e h
    refine xcall (rS C0 hK hP hl.1 (fun _ _ _ => trivial) Bt_b (c_X11_within hI h_2) cs_X11_within tw272 (rest := []) rfl (Nat.le_of_ble_eq_true rfl) ⟨rfl, rfl, Nat.le_of_ble_eq_true rfl, Nat.le_of_ble_eq_true rfl⟩ ⟨Nat.zero_le _, Nat.zero_le _⟩ dX11_fit_37) hS (fun H locs hP hS => ?_)
    refine lv_if_eq (tgt := 51) hx hb dX11_fit_40 (by decide) (fun c_4 => ?_) (fun c_4 => ?_)
    · have h := it c_4 h
      refine lv_iconst (v := (-1)) hx hb dX11_fit_51 (by decide) ?_
      rw [hQ]
      exact xzretr C0 hP hS rfl h dX11_fit_52
    · have h := ie c_4 h
      refine lv_aload_n hx hb dX11_fit_43 rfl (lv_at hl 0 rfl) ?_
      refine lv_iload_n hx hb dX11_fit_44 rfl (lv_at hl 1 rfl) ?_
      obtain ⟨r_6, h_5, h⟩ := b1_e h
      refine xcall (rV C0 hK hP hl.1 (fun _ _ _ => trivial) Bt_b (c_X11_fitting hI h_5) cv_X11_fitting tw578 (rcX11 hK hP) (rest := []) rfl (Nat.le_of_ble_eq_true rfl) ⟨rfl, rfl, Nat.le_of_ble_eq_true rfl, Nat.le_of_ble_eq_true rfl⟩ ⟨Nat.zero_le _, Nat.zero_le _⟩ dX11_fit_45) hS (fun H locs hP hS => ?_)
      refine lv_goto (tgt := 52) hx hb dX11_fit_48 (by decide) ?_
      rw [hQ]
      exact xzretr C0 hP hS rfl h dX11_fit_52
  · have h := it c_1 h
    refine lv_aload_n hx hb dX11_fit_5 rfl (lv_at hl 0 rfl) ?_
    refine lv_iconst (v := 0) hx hb dX11_fit_6 (by decide) ?_
    obtain ⟨r_8, h_7, h⟩ := b1_e h
    refine xcall (rV C0 hK hP hl.1 (fun _ _ _ => trivial) Bt_b (c_X11_fitting hI h_7) cv_X11_fitting tw578 (rcX11 hK hP) (rest := []) rfl (Nat.le_of_ble_eq_true rfl) ⟨rfl, rfl, Nat.le_of_ble_eq_true rfl, Nat.le_of_ble_eq_true rfl⟩ ⟨Nat.zero_le _, Nat.zero_le _⟩ dX11_fit_7) hS (fun H locs hP hS => ?_)
    refine lv_istore_n (lv' := [(2, .int r_8), (0, .ref (a 0)), (1, .int p1)]) hx hb dX11_fit_10 rfl hl (by decide) rfl (fun ls hl => ?_)
    refine lv_iconst (v := 1) hx hb dX11_fit_11 (by decide) ?_
    refine lv_istore_n (lv' := [(3, .int 1), (2, .int r_8), (0, .ref (a 0)), (1, .int p1)]) hx hb dX11_fit_12 rfl hl (by decide) rfl (fun ls hl => ?_)
    obtain ⟨K1, eK1, h⟩ := lp_e (f := fun K => f_X11_fit_L13 σ 5000 r_8 1 K) h
    have h : f_X11_fit_L13 σ 5000 r_8 1 K1 = some r := h
    have hX1 : ∀ (x2_16 : Int32) (u_17 : Int32) (H : Heap) (locs : List Loc) (ls : Array Slot), K1 x2_16 u_17 = some r → va_P D vwCl (wX ca a σ) H → va_S (AW 37 a) s.heap H locs → lv_has ls 4 [(2, .int x2_16)] → W p l e rm_X11_fit s m args below meth c H locs 0 0 Q (F0 m 32 ls []) := by
      intro x2_16 u_17 H locs ls h hP hS hl
      have h := ap2 eK1 h
      refine lv_iload_n hx hb dX11_fit_32 rfl (lv_at hl 0 rfl) ?_
      rw [hQ]
      exact xzretr C0 hP hS rfl h dX11_fit_33
    have hL1 : ∀ (n : Nat) (x2_9 : Int32) (x3_10 : Int32) (H : Heap) (locs : List Loc) (ls : Array Slot), f_X11_fit_L13 σ n x2_9 x3_10 K1 = some r → va_P D vwCl (wX ca a σ) H → va_S (AW 37 a) s.heap H locs → lv_has ls 4 [(0, .ref (a 0)), (2, .int x2_9), (3, .int x3_10)] → W p l e rm_X11_fit s m args below meth c H locs 0 0 Q (F0 m 13 ls []) := by
      intro n
      induction n with
      | zero => intro x2_9 x3_10 H locs ls h; rw [f_X11_fit_L13] at h; cases h
      | succ n ih1 =>
        intro x2_9 x3_10 H locs ls h hP hS hl
        rw [f_X11_fit_L13] at h
        refine lv_iload_n hx hb dX11_fit_13 rfl (lv_at hl 2 rfl) ?_
        refine lv_iconst (v := 4) hx hb dX11_fit_14 (by decide) ?_
        refine lv_icmp_ge (tgt := 32) hx hb dX11_fit_15 (by decide) (fun c_11 => ?_) (fun c_11 => ?_)
        · have h := it c_11 h
          exact hX1 x2_9 x3_10 _ _ ls h hP hS (lv_sub hl [1] rfl)
        · have h := ie c_11 h
          refine lv_iload_n hx hb dX11_fit_18 rfl (lv_at hl 1 rfl) ?_
          refine lv_aload_n hx hb dX11_fit_19 rfl (lv_at hl 0 rfl) ?_
          refine lv_iload_n hx hb dX11_fit_20 rfl (lv_at hl 2 rfl) ?_
          obtain ⟨r_13, h_12, h⟩ := b1_e h
          refine xcall (rV C0 hK hP hl.1 (fun _ _ _ => trivial) Bt_b (c_X11_fitting hI h_12) cv_X11_fitting tw578 (rcX11 hK hP) (rest := [.int x2_9]) rfl (Nat.le_of_ble_eq_true rfl) ⟨rfl, rfl, Nat.le_of_ble_eq_true rfl, Nat.le_of_ble_eq_true rfl⟩ ⟨Nat.zero_le _, Nat.zero_le _⟩ dX11_fit_21) hS (fun H locs hP hS => ?_)
          refine lv_iand hx hb dX11_fit_24 ?_
          obtain ⟨x2_14, ex2_14, h⟩ := bnd_e h
          refine nm_i ex2_14 ?_
          refine lv_istore_n (lv' := [(2, .int x2_14), (0, .ref (a 0)), (3, .int x3_10)]) hx hb dX11_fit_25 rfl hl (by decide) rfl (fun ls hl => ?_)
          obtain ⟨x3_15, ex3_15, h⟩ := bnd_e h
          refine lv_iinc (v := x3_15) (lv' := [(3, .int x3_15), (2, .int x2_14), (0, .ref (a 0))]) hx hb dX11_fit_26 hl (k := 2) rfl (by rw [ex3_15]; rfl) (by decide) rfl (fun ls hl => ?_)
          refine lv_goto (tgt := 13) hx hb dX11_fit_29 (by decide) ?_
          exact ih1 x2_14 x3_15 _ _ ls h hP hS (lv_sub hl [2, 1, 0] rfl)
    exact hL1 5000 r_8 1 _ _ ls h hP hS (lv_sub hl [2, 1, 0] rfl)
def f_X11_lacks (σ : Mem) : Option (Int32) :=
  b1 (f_X0_lacking 0 σ) fun r_2 =>
  some r_2
def rm_X11_lacks : Room := { frames := 4, cells := 0, slots := 0, locals := 90 }
set_option maxHeartbeats 4000000 in
set_option maxRecDepth 100000 in
theorem c_X11_lacks {l : Launch} {D : va_G} {ca : Nat → ClassId} {a : Nat → Nat} (hI : InjN 37 a)  {σ : Mem} {r : Int32}  (h : f_X11_lacks σ = some r) : XMX l D ca a Bt yX11_lacks cX11_lacks 1 (some .int) rm_X11_lacks [.ref (a 0)] σ (some (.int r)) σ := by
  refine XM.of pn_X11 (Nat.le_of_ble_eq_true rfl) ?_
  intro p e s m args below meth c ls Q hQ C0 hK hB hP hS hl
  have C0 : Cx p s m args meth c RX11 cX11_lacks 1 (some .int) := C0
  have hx := C0.1
  have hb := C0.2.1
  have hl : lv_has ls 1 [(0, .ref (a 0))] := hl
  rw [f_X11_lacks] at h
  refine lv_aload_n hx hb dX11_lacks_0 rfl (lv_at hl 0 rfl) ?_
  refine gX11_0 C0 hK hP tw233 dX11_lacks_1 ?_
  obtain ⟨r_2, h_1, h⟩ := b1_e h
  refine xcall (rV C0 hK hP hl.1 (fun _ _ _ => trivial) Bt_b (c_X0_lacking hI (by decide) h_1) cv_X0_lacking tw556 (rcX0 hK hP (by decide)) (rest := []) rfl (Nat.le_of_ble_eq_true rfl) ⟨rfl, rfl, Nat.le_of_ble_eq_true rfl, Nat.le_of_ble_eq_true rfl⟩ ⟨Nat.zero_le _, Nat.zero_le _⟩ dX11_lacks_4) hS (fun H locs hP hS => ?_)
  rw [hQ]
  exact xzretr C0 hP hS rfl h dX11_lacks_7
set_option maxRecDepth 100000 in
theorem dp_X11_cost {p : Program} {l : Launch} {e : Env} {R : Room} {s : State} {m : MethodId} {args : Array Value} {below : List Frame} {meth : Method} {c : Code} {H : Heap} {locs : List Loc} {D : va_G} {ca : Nat → ClassId} {a : Nat → Nat} {cc : ByteArray} {nL pc : Nat} {ret : Option FieldType} {ls : Array Slot} {rest st0 : List Value} {σ : Mem} {j0 : Nat} {p1 : Int32} {r : Int32} (hI : InjN 37 a) (C0 : Cx p s m args meth c RX11 cc nL ret) (hK : KX D vwCl (tysE ca) s) (hP : va_P D vwCl (wX ca a σ) H) (hn : ls.size = nL) (hj : j0 < 8)  (h : f_dp_cost j0 p1 = some r) (hst : st0 = [.int p1].reverse ++ .ref (a (27 + j0)) :: rest) (hcat : (rest.map fun v => v.category).sum ≤ 8) (hR : 3 ≤ R.frames ∧ 63 ≤ R.locals) (hdg : decode cc pc = .ok (.invokevirtual 152, 3)) :
    va_Run p l e R s m args below meth c H locs 0 0 0 0 (F0 m pc ls st0) rest (XQ D vwCl (AW 37 a) (wX ca a σ) (some (.int r)) (Value.ref (a (27 + j0)) :: [.int p1]).toArray) (AW 37 a) := by
  rw [f_dp_cost] at h
  by_cases c0 : j0 = 0
  · have h9 := it c0 h
    subst c0
    exact rV C0 hK hP hn (fun _ _ _ => trivial) Bt_b (c_X3_cost hI hj  h9) cv_X3_cost tw594 (rcP0 hK hP) hst hcat ⟨rfl, rfl, Nat.le_trans (Nat.le_of_ble_eq_true rfl) hR.1, Nat.le_trans (Nat.le_of_ble_eq_true rfl) hR.2⟩ ⟨Nat.zero_le _, Nat.zero_le _⟩ hdg
  have h := ie c0 h
  by_cases c1 : j0 = 1
  · have h9 := it c1 h
    subst c1
    exact rO (x := yX3_cost) (C := RX7) (owner := RX3) C0 hK hP hn (fun _ _ _ => trivial) Bt_b (c_X7_cost hI hj  h9) ⟨tw498, tw496, tw518, tw503, tw64, tw504, tw527, by decide, by decide, ar_X3_cost⟩ tw594 (rcP1 hK hP) hst hcat ⟨rfl, rfl, Nat.le_trans (Nat.le_of_ble_eq_true rfl) hR.1, Nat.le_trans (Nat.le_of_ble_eq_true rfl) hR.2⟩ ⟨Nat.zero_le _, Nat.zero_le _⟩ hdg
  have h := ie c1 h
  by_cases c2 : j0 = 2
  · have h9 := it c2 h
    subst c2
    exact rO (x := yX3_cost) (C := RX2) (owner := RX3) C0 hK hP hn (fun _ _ _ => trivial) Bt_b (c_X2_cost hI hj  h9) ⟨tw498, tw496, tw506, tw507, tw65, tw508, tw527, by decide, by decide, ar_X3_cost⟩ tw594 (rcP2 hK hP) hst hcat ⟨rfl, rfl, Nat.le_trans (Nat.le_of_ble_eq_true rfl) hR.1, Nat.le_trans (Nat.le_of_ble_eq_true rfl) hR.2⟩ ⟨Nat.zero_le _, Nat.zero_le _⟩ hdg
  have h := ie c2 h
  by_cases c3 : j0 = 3
  · have h9 := it c3 h
    subst c3
    exact rO (x := yX3_cost) (C := RX9) (owner := RX3) C0 hK hP hn (fun _ _ _ => trivial) Bt_b (c_X9_cost hI hj  h9) ⟨tw498, tw496, tw519, tw520, tw66, tw521, tw527, by decide, by decide, ar_X3_cost⟩ tw594 (rcP3 hK hP) hst hcat ⟨rfl, rfl, Nat.le_trans (Nat.le_of_ble_eq_true rfl) hR.1, Nat.le_trans (Nat.le_of_ble_eq_true rfl) hR.2⟩ ⟨Nat.zero_le _, Nat.zero_le _⟩ hdg
  have h := ie c3 h
  by_cases c4 : j0 = 4
  · have h9 := it c4 h
    subst c4
    exact rO (x := yX3_cost) (C := RX4) (owner := RX3) C0 hK hP hn (fun _ _ _ => trivial) Bt_b (c_X4_cost hI hj  h9) ⟨tw498, tw496, tw510, tw511, tw67, tw512, tw527, by decide, by decide, ar_X3_cost⟩ tw594 (rcP4 hK hP) hst hcat ⟨rfl, rfl, Nat.le_trans (Nat.le_of_ble_eq_true rfl) hR.1, Nat.le_trans (Nat.le_of_ble_eq_true rfl) hR.2⟩ ⟨Nat.zero_le _, Nat.zero_le _⟩ hdg
  have h := ie c4 h
  by_cases c5 : j0 = 5
  · have h9 := it c5 h
    subst c5
    exact rO (x := yX3_cost) (C := RX10) (owner := RX3) C0 hK hP hn (fun _ _ _ => trivial) Bt_b (c_X10_cost hI hj  h9) ⟨tw498, tw496, tw523, tw524, tw68, tw525, tw527, by decide, by decide, ar_X3_cost⟩ tw594 (rcP5 hK hP) hst hcat ⟨rfl, rfl, Nat.le_trans (Nat.le_of_ble_eq_true rfl) hR.1, Nat.le_trans (Nat.le_of_ble_eq_true rfl) hR.2⟩ ⟨Nat.zero_le _, Nat.zero_le _⟩ hdg
  have h := ie c5 h
  by_cases c6 : j0 = 6
  · have h9 := it c6 h
    subst c6
    exact rO (x := yX3_cost) (C := RX6) (owner := RX3) C0 hK hP hn (fun _ _ _ => trivial) Bt_b (c_X6_cost hI hj  h9) ⟨tw498, tw496, tw514, tw515, tw69, tw516, tw527, by decide, by decide, ar_X3_cost⟩ tw594 (rcP6 hK hP) hst hcat ⟨rfl, rfl, Nat.le_trans (Nat.le_of_ble_eq_true rfl) hR.1, Nat.le_trans (Nat.le_of_ble_eq_true rfl) hR.2⟩ ⟨Nat.zero_le _, Nat.zero_le _⟩ hdg
  have h := ie c6 h
  by_cases c7 : j0 = 7
  · have h9 := it c7 h
    subst c7
    exact rO (x := yX3_cost) (C := RX1) (owner := RX3) C0 hK hP hn (fun _ _ _ => trivial) Bt_b (c_X1_cost hI hj  h9) ⟨tw498, tw496, tw499, tw500, tw70, tw501, tw527, by decide, by decide, ar_X3_cost⟩ tw594 (rcP7 hK hP) hst hcat ⟨rfl, rfl, Nat.le_trans (Nat.le_of_ble_eq_true rfl) hR.1, Nat.le_trans (Nat.le_of_ble_eq_true rfl) hR.2⟩ ⟨Nat.zero_le _, Nat.zero_le _⟩ hdg
  have h := ie c7 h
  cases h
def f_X11_bestPin_L38 (p1 : Int32) : Nat → Int32 → Int32 → Int32 → Int32 → Mem → (Int32 → Int32 → Int32 → Int32 → Mem → Option (Int32 × Mem)) → Option (Int32 × Mem)
  | 0, _, _, _, _, _, _ => none
  | n + 1, x3_9, x4_10, x5_11, x6_12, σ_13, K1 =>
    if (100 * (σ_13 (1 + 2 * 0) 1)) ≤ x6_12 then
      K1 x3_9 x4_10 x5_11 x6_12 σ_13
    else
      bnd (x6_12 / 10) fun (y_15 : Int32) =>
      bnd (y_15 - y_15 / 10 * 10) fun (x7_16 : Int32) =>
      bnd (x6_12 - x6_12 / 10 * 10) fun (x8_17 : Int32) =>
      if 8 ≤ x7_16 then
        bnd (x6_12 + 1) fun (x6_19 : Int32) =>
        f_X11_bestPin_L38 p1 n x3_9 x4_10 x5_11 x6_19 σ_13 K1
      else
        jn (fun (σ_20 : Mem) =>
          b1 (f_X0_becomeLike 2 0 σ_20) fun σ_22 =>
          b1 (f_X11_kindAt x7_16) fun r_24 =>
          if r_24 < 8 then
            b2 (f_X0_tryPin 2 r_24 x8_17 (x6_12 / 100) σ_22) fun r_27 σ_28 =>
            if r_27 = 0 then
              bnd (x6_12 + 1) fun (x6_46 : Int32) =>
              f_X11_bestPin_L38 p1 n x3_9 x4_10 x5_11 x6_46 σ_28 K1
            else
              b1 (f_X0_lacking 2 σ_28) fun r_31 =>
              b1 (f_X11_kindAt x7_16) fun r_33 =>
              if r_33 < 8 then
                b1 (f_dp_cost r_33 x8_17) fun r_36 =>
                if r_31 < x4_10 then
                  bnd (x6_12 + 1) fun (x6_38 : Int32) =>
                  f_X11_bestPin_L38 p1 n x6_12 r_31 r_36 x6_38 σ_28 K1
                else
                  if x3_9 = (-4) then
                    bnd (x6_12 + 1) fun (x6_40 : Int32) =>
                    f_X11_bestPin_L38 p1 n x3_9 x4_10 x5_11 x6_40 σ_28 K1
                  else
                    if r_31 = x4_10 then
                      if x5_11 ≤ r_36 then
                        bnd (x6_12 + 1) fun (x6_44 : Int32) =>
                        f_X11_bestPin_L38 p1 n x3_9 x4_10 x5_11 x6_44 σ_28 K1
                      else
                        bnd (x6_12 + 1) fun (x6_45 : Int32) =>
                        f_X11_bestPin_L38 p1 n x6_12 r_31 r_36 x6_45 σ_28 K1
                    else
                      bnd (x6_12 + 1) fun (x6_42 : Int32) =>
                      f_X11_bestPin_L38 p1 n x3_9 x4_10 x5_11 x6_42 σ_28 K1
              else none
          else none) fun J90 =>
        if x7_16 = 4 then
          if p1 = 0 then
            bnd (x6_12 + 1) fun (x6_49 : Int32) =>
            f_X11_bestPin_L38 p1 n x3_9 x4_10 x5_11 x6_49 σ_13 K1
          else
            J90 σ_13
        else
          J90 σ_13
def f_X11_bestPin (p1 : Int32) (p2 : Int32) (σ : Mem) : Option (Int32 × Mem) :=
  b1 (f_X11_within p1 0 1) fun r_2 =>
  if r_2 = 0 then
    some ((-1), σ)
  else
    b1 (f_X11_within p2 0 1) fun r_5 =>
    if r_5 = 0 then
      some ((-1), σ)
    else
      b1 (f_X0_lacking 0 σ) fun r_8 =>
      f_X11_bestPin_L38 p1 5000 (-4) r_8 0 0 σ fun (x3_50 : Int32) (x4_51 : Int32) (u_52 : Int32) (u_53 : Int32) (σ_54 : Mem) =>
        if p2 = 0 then
          some (x3_50, σ_54)
        else
          some (x4_51, σ_54)
def rm_X11_bestPin : Room := { frames := 5, cells := 0, slots := 0, locals := 116 }
set_option maxHeartbeats 4000000 in
set_option maxRecDepth 100000 in
theorem c_X11_bestPin {l : Launch} {D : va_G} {ca : Nat → ClassId} {a : Nat → Nat} (hI : InjN 37 a) {p1 : Int32} {p2 : Int32} {σ : Mem} {r : Int32} {σ' : Mem}  (h : f_X11_bestPin p1 p2 σ = some (r, σ')) : XMX l D ca a Bt yX11_bestPin cX11_bestPin 11 (some .int) rm_X11_bestPin [.ref (a 0), .int p1, .int p2] σ (some (.int r)) σ' := by
  refine XM.of pn_X11 (Nat.le_of_ble_eq_true rfl) ?_
  intro p e s m args below meth c ls Q hQ C0 hK hB hP hS hl
  have C0 : Cx p s m args meth c RX11 cX11_bestPin 11 (some .int) := C0
  have hx := C0.1
  have hb := C0.2.1
  have hl : lv_has ls 11 [(0, .ref (a 0)), (1, .int p1), (2, .int p2)] := hl
  rw [f_X11_bestPin] at h
  refine lv_iload_n hx hb dX11_bestPin_0 rfl (lv_at hl 1 rfl) ?_
  refine lv_iconst (v := 0) hx hb dX11_bestPin_1 (by decide) ?_
  refine lv_iconst (v := 1) hx hb dX11_bestPin_2 (by decide) ?_
  obtain ⟨r_2, h_1, h⟩ := b1_e h
  refine xcall (rS C0 hK hP hl.1 (fun _ _ _ => trivial) Bt_b (c_X11_within hI h_1) cs_X11_within tw272 (rest := []) rfl (Nat.le_of_ble_eq_true rfl) ⟨rfl, rfl, Nat.le_of_ble_eq_true rfl, Nat.le_of_ble_eq_true rfl⟩ ⟨Nat.zero_le _, Nat.zero_le _⟩ dX11_bestPin_3) hS (fun H locs hP hS => ?_)
  refine lv_if_eq (tgt := 18) hx hb dX11_bestPin_6 (by decide) (fun c_3 => ?_) (fun c_3 => ?_)
  · have h := it c_3 h
    refine lv_iconst (v := (-1)) hx hb dX11_bestPin_18 (by decide) ?_
    rw [hQ]
    exact xzret C0 hP hS rfl h dX11_bestPin_19
  · have h := ie c_3 h
    refine lv_iload_n hx hb dX11_bestPin_9 rfl (lv_at hl 2 rfl) ?_
    refine lv_iconst (v := 0) hx hb dX11_bestPin_10 (by decide) ?_
    refine lv_iconst (v := 1) hx hb dX11_bestPin_11 (by decide) ?_
    obtain ⟨r_5, h_4, h⟩ := b1_e h
    refine xcall (rS C0 hK hP hl.1 (fun _ _ _ => trivial) Bt_b (c_X11_within hI h_4) cs_X11_within tw272 (rest := []) rfl (Nat.le_of_ble_eq_true rfl) ⟨rfl, rfl, Nat.le_of_ble_eq_true rfl, Nat.le_of_ble_eq_true rfl⟩ ⟨Nat.zero_le _, Nat.zero_le _⟩ dX11_bestPin_12) hS (fun H locs hP hS => ?_)
    refine lv_if_ne (tgt := 20) hx hb dX11_bestPin_15 (by decide) (fun c_6 => ?_) (fun c_6 => ?_)
    · have h := ie c_6 h
      refine lv_bipush (v := (-4)) hx hb dX11_bestPin_20 (by decide) ?_
      refine lv_istore_n (lv' := [(3, .int (-4)), (0, .ref (a 0)), (1, .int p1), (2, .int p2)]) hx hb dX11_bestPin_22 rfl hl (by decide) rfl (fun ls hl => ?_)
      refine lv_aload_n hx hb dX11_bestPin_23 rfl (lv_at hl 1 rfl) ?_
      refine gX11_0 C0 hK hP tw233 dX11_bestPin_24 ?_
      obtain ⟨r_8, h_7, h⟩ := b1_e h
      refine xcall (rV C0 hK hP hl.1 (fun _ _ _ => trivial) Bt_b (c_X0_lacking hI (by decide) h_7) cv_X0_lacking tw556 (rcX0 hK hP (by decide)) (rest := []) rfl (Nat.le_of_ble_eq_true rfl) ⟨rfl, rfl, Nat.le_of_ble_eq_true rfl, Nat.le_of_ble_eq_true rfl⟩ ⟨Nat.zero_le _, Nat.zero_le _⟩ dX11_bestPin_27) hS (fun H locs hP hS => ?_)
      refine lv_istore (lv' := [(4, .int r_8), (3, .int (-4)), (0, .ref (a 0)), (1, .int p1), (2, .int p2)]) hx hb dX11_bestPin_30 hl (by decide) rfl (fun ls hl => ?_)
      refine lv_iconst (v := 0) hx hb dX11_bestPin_32 (by decide) ?_
      refine lv_istore (lv' := [(5, .int 0), (4, .int r_8), (3, .int (-4)), (0, .ref (a 0)), (1, .int p1), (2, .int p2)]) hx hb dX11_bestPin_33 hl (by decide) rfl (fun ls hl => ?_)
      refine lv_iconst (v := 0) hx hb dX11_bestPin_35 (by decide) ?_
      refine lv_istore (lv' := [(6, .int 0), (5, .int 0), (4, .int r_8), (3, .int (-4)), (0, .ref (a 0)), (1, .int p1), (2, .int p2)]) hx hb dX11_bestPin_36 hl (by decide) rfl (fun ls hl => ?_)
      obtain ⟨K1, eK1, h⟩ := lp_e (f := fun K => f_X11_bestPin_L38 p1 5000 (-4) r_8 0 0 σ K) h
      have h : f_X11_bestPin_L38 p1 5000 (-4) r_8 0 0 σ K1 = some (r, σ') := h
      have hX1 : ∀ (x3_50 : Int32) (x4_51 : Int32) (u_52 : Int32) (u_53 : Int32) (σ_54 : Mem) (H : Heap) (locs : List Loc) (ls : Array Slot), K1 x3_50 x4_51 u_52 u_53 σ_54 = some (r, σ') → va_P D vwCl (wX ca a σ_54) H → va_S (AW 37 a) s.heap H locs → lv_has ls 11 [(2, .int p2), (3, .int x3_50), (4, .int x4_51)] → W p l e rm_X11_bestPin s m args below meth c H locs 0 0 Q (F0 m 193 ls []) := by
        intro x3_50 x4_51 u_52 u_53 σ_54 H locs ls h hP hS hl
        have h := ap5 eK1 h
        refine lv_iload_n hx hb dX11_bestPin_193 rfl (lv_at hl 0 rfl) ?_
        refine lv_if_ne (tgt := 201) hx hb dX11_bestPin_194 (by decide) (fun c_55 => ?_) (fun c_55 => ?_)
        · have h := ie c_55 h
          refine lv_iload hx hb dX11_bestPin_201 (lv_at hl 2 rfl) ?_
          rw [hQ]
          exact xzret C0 hP hS rfl h dX11_bestPin_203
        · have h := it c_55 h
          refine lv_iload_n hx hb dX11_bestPin_197 rfl (lv_at hl 1 rfl) ?_
          refine lv_goto (tgt := 203) hx hb dX11_bestPin_198 (by decide) ?_
          rw [hQ]
          exact xzret C0 hP hS rfl h dX11_bestPin_203
      have hL1 : ∀ (n : Nat) (x3_9 : Int32) (x4_10 : Int32) (x5_11 : Int32) (x6_12 : Int32) (σ_13 : Mem) (H : Heap) (locs : List Loc) (ls : Array Slot), f_X11_bestPin_L38 p1 n x3_9 x4_10 x5_11 x6_12 σ_13 K1 = some (r, σ') → va_P D vwCl (wX ca a σ_13) H → va_S (AW 37 a) s.heap H locs → lv_has ls 11 [(0, .ref (a 0)), (1, .int p1), (2, .int p2), (3, .int x3_9), (4, .int x4_10), (5, .int x5_11), (6, .int x6_12)] → W p l e rm_X11_bestPin s m args below meth c H locs 0 0 Q (F0 m 38 ls []) := by
        intro n
        induction n with
        | zero => intro x3_9 x4_10 x5_11 x6_12 σ_13 H locs ls h; rw [f_X11_bestPin_L38] at h; cases h
        | succ n ih1 =>
          intro x3_9 x4_10 x5_11 x6_12 σ_13 H locs ls h hP hS hl
          rw [f_X11_bestPin_L38] at h
          refine lv_iload hx hb dX11_bestPin_38 (lv_at hl 6 rfl) ?_
          refine lv_bipush (v := 100) hx hb dX11_bestPin_40 (by decide) ?_
          refine lv_aload_n hx hb dX11_bestPin_42 rfl (lv_at hl 0 rfl) ?_
          refine gX11_0 C0 hK hP tw233 dX11_bestPin_43 ?_
          refine gX0_1N C0 hK hP (by decide) tw100 dX11_bestPin_46 ?_
          refine lv_imul hx hb dX11_bestPin_49 ?_
          refine lv_icmp_ge (tgt := 193) hx hb dX11_bestPin_50 (by decide) (fun c_14 => ?_) (fun c_14 => ?_)
          · have h := it c_14 h
            exact hX1 x3_9 x4_10 x5_11 x6_12 σ_13 _ _ ls h hP hS (lv_sub hl [2, 3, 4] rfl)
          · have h := ie c_14 h
            refine lv_iload hx hb dX11_bestPin_53 (lv_at hl 6 rfl) ?_
            refine lv_bipush (v := 10) hx hb dX11_bestPin_55 (by decide) ?_
            refine lv_idiv hx hb dX11_bestPin_57 (by decide) ?_
            refine lv_bipush (v := 10) hx hb dX11_bestPin_58 (by decide) ?_
            obtain ⟨y_15, ey_15, h⟩ := bnd_e h
            rw [← ey_15]
            refine lv_irem hx hb dX11_bestPin_60 (by decide) ?_
            obtain ⟨x7_16, ex7_16, h⟩ := bnd_e h
            refine nm_i ex7_16 ?_
            refine lv_istore (lv' := [(7, .int x7_16), (0, .ref (a 0)), (1, .int p1), (2, .int p2), (3, .int x3_9), (4, .int x4_10), (5, .int x5_11), (6, .int x6_12)]) hx hb dX11_bestPin_61 hl (by decide) rfl (fun ls hl => ?_)
            refine lv_iload hx hb dX11_bestPin_63 (lv_at hl 7 rfl) ?_
            refine lv_bipush (v := 10) hx hb dX11_bestPin_65 (by decide) ?_
            refine lv_irem hx hb dX11_bestPin_67 (by decide) ?_
            obtain ⟨x8_17, ex8_17, h⟩ := bnd_e h
            refine nm_i ex8_17 ?_
            refine lv_istore (lv' := [(8, .int x8_17), (7, .int x7_16), (0, .ref (a 0)), (1, .int p1), (2, .int p2), (3, .int x3_9), (4, .int x4_10), (5, .int x5_11), (6, .int x6_12)]) hx hb dX11_bestPin_68 hl (by decide) rfl (fun ls hl => ?_)
            refine lv_iload hx hb dX11_bestPin_70 (lv_at hl 1 rfl) ?_
            refine lv_bipush (v := 8) hx hb dX11_bestPin_72 (by decide) ?_
            refine lv_icmp_ge (tgt := 187) hx hb dX11_bestPin_74 (by decide) (fun c_18 => ?_) (fun c_18 => ?_)
            · have h := it c_18 h
              obtain ⟨x6_19, ex6_19, h⟩ := bnd_e h
              refine lv_iinc (v := x6_19) (lv' := [(6, .int x6_19), (8, .int x8_17), (7, .int x7_16), (0, .ref (a 0)), (1, .int p1), (2, .int p2), (3, .int x3_9), (4, .int x4_10), (5, .int x5_11)]) hx hb dX11_bestPin_187 hl (k := 8) rfl (by rw [ex6_19]; rfl) (by decide) rfl (fun ls hl => ?_)
              refine lv_goto (tgt := 38) hx hb dX11_bestPin_190 (by decide) ?_
              exact ih1 x3_9 x4_10 x5_11 x6_19 σ_13 _ _ ls h hP hS (lv_sub hl [3, 4, 5, 6, 7, 8, 0] rfl)
            · have h := ie c_18 h
              refine lv_iload hx hb dX11_bestPin_77 (lv_at hl 1 rfl) ?_
              refine lv_iconst (v := 4) hx hb dX11_bestPin_79 (by decide) ?_
              obtain ⟨J90, eJ90, h⟩ := jn_e h
              have hJ90 : ∀ (σ_20 : Mem) (H : Heap) (locs : List Loc) (ls : Array Slot), J90 σ_20 = some (r, σ') → va_P D vwCl (wX ca a σ_20) H → va_S (AW 37 a) s.heap H locs → lv_has ls 11 [(0, .ref (a 0)), (1, .int p1), (2, .int p2), (3, .int x3_9), (4, .int x4_10), (5, .int x5_11), (6, .int x6_12), (7, .int x7_16), (8, .int x8_17)] → W p l e rm_X11_bestPin s m args below meth c H locs 0 0 Q (F0 m 90 ls []) := by
                intro σ_20 H locs ls h hP hS hl
                have h := ap1 eJ90 h
                refine lv_aload_n hx hb dX11_bestPin_90 rfl (lv_at hl 0 rfl) ?_
                refine gX11_2 C0 hK hP tw235 dX11_bestPin_91 ?_
                refine lv_aload_n hx hb dX11_bestPin_94 rfl (lv_at hl 0 rfl) ?_
                refine gX11_0 C0 hK hP tw233 dX11_bestPin_95 ?_
                obtain ⟨σ_22, h_21, h⟩ := b1_e h
                refine xcall (rV C0 hK hP hl.1 (fun _ _ _ => trivial) Bt_b (c_X0_becomeLike hI (by decide) (by decide) h_21) cv_X0_becomeLike tw368 (rcX0 hK hP (by decide)) (rest := []) rfl (Nat.le_of_ble_eq_true rfl) ⟨rfl, rfl, Nat.le_of_ble_eq_true rfl, Nat.le_of_ble_eq_true rfl⟩ ⟨Nat.zero_le _, Nat.zero_le _⟩ dX11_bestPin_98) hS (fun H locs hP hS => ?_)
                refine lv_aload_n hx hb dX11_bestPin_101 rfl (lv_at hl 0 rfl) ?_
                refine gX11_2 C0 hK hP tw235 dX11_bestPin_102 ?_
                refine lv_aload_n hx hb dX11_bestPin_105 rfl (lv_at hl 0 rfl) ?_
                refine lv_iload hx hb dX11_bestPin_106 (lv_at hl 7 rfl) ?_
                obtain ⟨r_24, h_23, h⟩ := b1_e h
                refine xcall (rV C0 hK hP hl.1 (fun _ _ _ => trivial) Bt_b (c_X11_kindAt hI h_23) cv_X11_kindAt tw395 (rcX11 hK hP) (rest := [.ref (a (1 + 2 * 2))]) rfl (Nat.le_of_ble_eq_true rfl) ⟨rfl, rfl, Nat.le_of_ble_eq_true rfl, Nat.le_of_ble_eq_true rfl⟩ ⟨Nat.zero_le _, Nat.zero_le _⟩ dX11_bestPin_108) hS (fun H locs hP hS => ?_)
                obtain ⟨hk_25, h⟩ := asr h
                refine lv_iload hx hb dX11_bestPin_111 (lv_at hl 8 rfl) ?_
                refine lv_iload hx hb dX11_bestPin_113 (lv_at hl 6 rfl) ?_
                refine lv_bipush (v := 100) hx hb dX11_bestPin_115 (by decide) ?_
                refine lv_idiv hx hb dX11_bestPin_117 (by decide) ?_
                obtain ⟨r_27, σ_28, h_26, h⟩ := b2_e h
                refine xcall (rV C0 hK hP hl.1 (fun _ _ _ => trivial) Bt_b (c_X0_tryPin hI (by decide) hk_25 h_26) cv_X0_tryPin tw399 (rcX0 hK hP (by decide)) (rest := []) rfl (Nat.le_of_ble_eq_true rfl) ⟨rfl, rfl, Nat.le_of_ble_eq_true rfl, Nat.le_of_ble_eq_true rfl⟩ ⟨Nat.zero_le _, Nat.zero_le _⟩ dX11_bestPin_118) hS (fun H locs hP hS => ?_)
                refine lv_if_ne (tgt := 127) hx hb dX11_bestPin_121 (by decide) (fun c_29 => ?_) (fun c_29 => ?_)
                · have h := ie c_29 h
                  refine lv_aload_n hx hb dX11_bestPin_127 rfl (lv_at hl 0 rfl) ?_
                  refine gX11_2 C0 hK hP tw235 dX11_bestPin_128 ?_
                  obtain ⟨r_31, h_30, h⟩ := b1_e h
                  refine xcall (rV C0 hK hP hl.1 (fun _ _ _ => trivial) Bt_b (c_X0_lacking hI (by decide) h_30) cv_X0_lacking tw556 (rcX0 hK hP (by decide)) (rest := []) rfl (Nat.le_of_ble_eq_true rfl) ⟨rfl, rfl, Nat.le_of_ble_eq_true rfl, Nat.le_of_ble_eq_true rfl⟩ ⟨Nat.zero_le _, Nat.zero_le _⟩ dX11_bestPin_131) hS (fun H locs hP hS => ?_)
                  refine lv_istore (lv' := [(9, .int r_31), (0, .ref (a 0)), (1, .int p1), (2, .int p2), (3, .int x3_9), (4, .int x4_10), (5, .int x5_11), (6, .int x6_12), (7, .int x7_16), (8, .int x8_17)]) hx hb dX11_bestPin_134 hl (by decide) rfl (fun ls hl => ?_)
                  refine lv_aload_n hx hb dX11_bestPin_136 rfl (lv_at hl 1 rfl) ?_
                  refine lv_iload hx hb dX11_bestPin_137 (lv_at hl 8 rfl) ?_
                  obtain ⟨r_33, h_32, h⟩ := b1_e h
                  refine xcall (rV C0 hK hP hl.1 (fun _ _ _ => trivial) Bt_b (c_X11_kindAt hI h_32) cv_X11_kindAt tw395 (rcX11 hK hP) (rest := []) rfl (Nat.le_of_ble_eq_true rfl) ⟨rfl, rfl, Nat.le_of_ble_eq_true rfl, Nat.le_of_ble_eq_true rfl⟩ ⟨Nat.zero_le _, Nat.zero_le _⟩ dX11_bestPin_139) hS (fun H locs hP hS => ?_)
                  obtain ⟨hk_34, h⟩ := asr h
                  refine lv_iload hx hb dX11_bestPin_142 (lv_at hl 9 rfl) ?_
                  obtain ⟨r_36, h_35, h⟩ := b1_e h
                  refine xcall (dp_X11_cost hI C0 hK hP hl.1 hk_34 h_35 (rest := []) rfl (Nat.le_of_ble_eq_true rfl) ⟨Nat.le_of_ble_eq_true rfl, Nat.le_of_ble_eq_true rfl⟩ dX11_bestPin_144) hS (fun H locs hP hS => ?_)
                  refine lv_istore (lv' := [(10, .int r_36), (9, .int r_31), (0, .ref (a 0)), (1, .int p1), (2, .int p2), (3, .int x3_9), (4, .int x4_10), (5, .int x5_11), (6, .int x6_12), (7, .int x7_16), (8, .int x8_17)]) hx hb dX11_bestPin_147 hl (by decide) rfl (fun ls hl => ?_)
                  refine lv_iload hx hb dX11_bestPin_149 (lv_at hl 1 rfl) ?_
                  refine lv_iload hx hb dX11_bestPin_151 (lv_at hl 6 rfl) ?_
                  refine lv_icmp_lt (tgt := 176) hx hb dX11_bestPin_153 (by decide) (fun c_37 => ?_) (fun c_37 => ?_)
                  · have h := it c_37 h
                    refine lv_iload hx hb dX11_bestPin_176 (lv_at hl 8 rfl) ?_
                    refine lv_istore_n (lv' := [(3, .int x6_12), (10, .int r_36), (9, .int r_31), (0, .ref (a 0)), (1, .int p1), (2, .int p2), (4, .int x4_10), (5, .int x5_11), (6, .int x6_12), (7, .int x7_16), (8, .int x8_17)]) hx hb dX11_bestPin_178 rfl hl (by decide) rfl (fun ls hl => ?_)
                    refine lv_iload hx hb dX11_bestPin_179 (lv_at hl 2 rfl) ?_
                    refine lv_istore (lv' := [(4, .int r_31), (3, .int x6_12), (10, .int r_36), (9, .int r_31), (0, .ref (a 0)), (1, .int p1), (2, .int p2), (5, .int x5_11), (6, .int x6_12), (7, .int x7_16), (8, .int x8_17)]) hx hb dX11_bestPin_181 hl (by decide) rfl (fun ls hl => ?_)
                    refine lv_iload hx hb dX11_bestPin_183 (lv_at hl 2 rfl) ?_
                    refine lv_istore (lv' := [(5, .int r_36), (4, .int r_31), (3, .int x6_12), (10, .int r_36), (9, .int r_31), (0, .ref (a 0)), (1, .int p1), (2, .int p2), (6, .int x6_12), (7, .int x7_16), (8, .int x8_17)]) hx hb dX11_bestPin_185 hl (by decide) rfl (fun ls hl => ?_)
                    obtain ⟨x6_38, ex6_38, h⟩ := bnd_e h
                    refine lv_iinc (v := x6_38) (lv' := [(6, .int x6_38), (5, .int r_36), (4, .int r_31), (3, .int x6_12), (10, .int r_36), (9, .int r_31), (0, .ref (a 0)), (1, .int p1), (2, .int p2), (7, .int x7_16), (8, .int x8_17)]) hx hb dX11_bestPin_187 hl (k := 8) rfl (by rw [ex6_38]; rfl) (by decide) rfl (fun ls hl => ?_)
                    refine lv_goto (tgt := 38) hx hb dX11_bestPin_190 (by decide) ?_
                    exact ih1 x6_12 r_31 r_36 x6_38 σ_28 _ _ ls h hP hS (lv_sub hl [6, 7, 8, 3, 2, 1, 0] rfl)
                  · have h := ie c_37 h
                    refine lv_iload_n hx hb dX11_bestPin_156 rfl (lv_at hl 5 rfl) ?_
                    refine lv_bipush (v := (-4)) hx hb dX11_bestPin_157 (by decide) ?_
                    refine lv_icmp_eq (tgt := 187) hx hb dX11_bestPin_159 (by decide) (fun c_39 => ?_) (fun c_39 => ?_)
                    · have h := it c_39 h
                      obtain ⟨x6_40, ex6_40, h⟩ := bnd_e h
                      refine lv_iinc (v := x6_40) (lv' := [(6, .int x6_40), (10, .int r_36), (9, .int r_31), (0, .ref (a 0)), (1, .int p1), (2, .int p2), (3, .int x3_9), (4, .int x4_10), (5, .int x5_11), (7, .int x7_16), (8, .int x8_17)]) hx hb dX11_bestPin_187 hl (k := 8) rfl (by rw [ex6_40]; rfl) (by decide) rfl (fun ls hl => ?_)
                      refine lv_goto (tgt := 38) hx hb dX11_bestPin_190 (by decide) ?_
                      exact ih1 x3_9 x4_10 x5_11 x6_40 σ_28 _ _ ls h hP hS (lv_sub hl [3, 4, 5, 6, 7, 8, 0] rfl)
                    · have h := ie c_39 h
                      refine lv_iload hx hb dX11_bestPin_162 (lv_at hl 1 rfl) ?_
                      refine lv_iload hx hb dX11_bestPin_164 (lv_at hl 6 rfl) ?_
                      refine lv_icmp_ne (tgt := 187) hx hb dX11_bestPin_166 (by decide) (fun c_41 => ?_) (fun c_41 => ?_)
                      · have h := ie c_41 h
                        obtain ⟨x6_42, ex6_42, h⟩ := bnd_e h
                        refine lv_iinc (v := x6_42) (lv' := [(6, .int x6_42), (10, .int r_36), (9, .int r_31), (0, .ref (a 0)), (1, .int p1), (2, .int p2), (3, .int x3_9), (4, .int x4_10), (5, .int x5_11), (7, .int x7_16), (8, .int x8_17)]) hx hb dX11_bestPin_187 hl (k := 8) rfl (by rw [ex6_42]; rfl) (by decide) rfl (fun ls hl => ?_)
                        refine lv_goto (tgt := 38) hx hb dX11_bestPin_190 (by decide) ?_
                        exact ih1 x3_9 x4_10 x5_11 x6_42 σ_28 _ _ ls h hP hS (lv_sub hl [3, 4, 5, 6, 7, 8, 0] rfl)
                      · have h := it c_41 h
                        refine lv_iload hx hb dX11_bestPin_169 (lv_at hl 0 rfl) ?_
                        refine lv_iload hx hb dX11_bestPin_171 (lv_at hl 7 rfl) ?_
                        refine lv_icmp_ge (tgt := 187) hx hb dX11_bestPin_173 (by decide) (fun c_43 => ?_) (fun c_43 => ?_)
                        · have h := it c_43 h
                          obtain ⟨x6_44, ex6_44, h⟩ := bnd_e h
                          refine lv_iinc (v := x6_44) (lv' := [(6, .int x6_44), (10, .int r_36), (9, .int r_31), (0, .ref (a 0)), (1, .int p1), (2, .int p2), (3, .int x3_9), (4, .int x4_10), (5, .int x5_11), (7, .int x7_16), (8, .int x8_17)]) hx hb dX11_bestPin_187 hl (k := 8) rfl (by rw [ex6_44]; rfl) (by decide) rfl (fun ls hl => ?_)
                          refine lv_goto (tgt := 38) hx hb dX11_bestPin_190 (by decide) ?_
                          exact ih1 x3_9 x4_10 x5_11 x6_44 σ_28 _ _ ls h hP hS (lv_sub hl [3, 4, 5, 6, 7, 8, 0] rfl)
                        · have h := ie c_43 h
                          refine lv_iload hx hb dX11_bestPin_176 (lv_at hl 8 rfl) ?_
                          refine lv_istore_n (lv' := [(3, .int x6_12), (10, .int r_36), (9, .int r_31), (0, .ref (a 0)), (1, .int p1), (2, .int p2), (4, .int x4_10), (5, .int x5_11), (6, .int x6_12), (7, .int x7_16), (8, .int x8_17)]) hx hb dX11_bestPin_178 rfl hl (by decide) rfl (fun ls hl => ?_)
                          refine lv_iload hx hb dX11_bestPin_179 (lv_at hl 2 rfl) ?_
                          refine lv_istore (lv' := [(4, .int r_31), (3, .int x6_12), (10, .int r_36), (9, .int r_31), (0, .ref (a 0)), (1, .int p1), (2, .int p2), (5, .int x5_11), (6, .int x6_12), (7, .int x7_16), (8, .int x8_17)]) hx hb dX11_bestPin_181 hl (by decide) rfl (fun ls hl => ?_)
                          refine lv_iload hx hb dX11_bestPin_183 (lv_at hl 2 rfl) ?_
                          refine lv_istore (lv' := [(5, .int r_36), (4, .int r_31), (3, .int x6_12), (10, .int r_36), (9, .int r_31), (0, .ref (a 0)), (1, .int p1), (2, .int p2), (6, .int x6_12), (7, .int x7_16), (8, .int x8_17)]) hx hb dX11_bestPin_185 hl (by decide) rfl (fun ls hl => ?_)
                          obtain ⟨x6_45, ex6_45, h⟩ := bnd_e h
                          refine lv_iinc (v := x6_45) (lv' := [(6, .int x6_45), (5, .int r_36), (4, .int r_31), (3, .int x6_12), (10, .int r_36), (9, .int r_31), (0, .ref (a 0)), (1, .int p1), (2, .int p2), (7, .int x7_16), (8, .int x8_17)]) hx hb dX11_bestPin_187 hl (k := 8) rfl (by rw [ex6_45]; rfl) (by decide) rfl (fun ls hl => ?_)
                          refine lv_goto (tgt := 38) hx hb dX11_bestPin_190 (by decide) ?_
                          exact ih1 x6_12 r_31 r_36 x6_45 σ_28 _ _ ls h hP hS (lv_sub hl [6, 7, 8, 3, 2, 1, 0] rfl)
                · have h := it c_29 h
                  refine lv_goto (tgt := 187) hx hb dX11_bestPin_124 (by decide) ?_
                  obtain ⟨x6_46, ex6_46, h⟩ := bnd_e h
                  refine lv_iinc (v := x6_46) (lv' := [(6, .int x6_46), (0, .ref (a 0)), (1, .int p1), (2, .int p2), (3, .int x3_9), (4, .int x4_10), (5, .int x5_11), (7, .int x7_16), (8, .int x8_17)]) hx hb dX11_bestPin_187 hl (k := 6) rfl (by rw [ex6_46]; rfl) (by decide) rfl (fun ls hl => ?_)
                  refine lv_goto (tgt := 38) hx hb dX11_bestPin_190 (by decide) ?_
                  exact ih1 x3_9 x4_10 x5_11 x6_46 σ_28 _ _ ls h hP hS (lv_sub hl [1, 2, 3, 4, 5, 6, 0] rfl)
              refine lv_icmp_ne (tgt := 90) hx hb dX11_bestPin_80 (by decide) (fun c_47 => ?_) (fun c_47 => ?_)
              · have h := ie c_47 h
                exact hJ90 σ_13 _ _ ls h hP hS (lv_sub hl [2, 3, 4, 5, 6, 7, 8, 1, 0] rfl)
              · have h := it c_47 h
                refine lv_iload_n hx hb dX11_bestPin_83 rfl (lv_at hl 3 rfl) ?_
                refine lv_if_ne (tgt := 90) hx hb dX11_bestPin_84 (by decide) (fun c_48 => ?_) (fun c_48 => ?_)
                · have h := ie c_48 h
                  exact hJ90 σ_13 _ _ ls h hP hS (lv_sub hl [2, 3, 4, 5, 6, 7, 8, 1, 0] rfl)
                · have h := it c_48 h
                  refine lv_goto (tgt := 187) hx hb dX11_bestPin_87 (by decide) ?_
                  obtain ⟨x6_49, ex6_49, h⟩ := bnd_e h
                  refine lv_iinc (v := x6_49) (lv' := [(6, .int x6_49), (8, .int x8_17), (7, .int x7_16), (0, .ref (a 0)), (1, .int p1), (2, .int p2), (3, .int x3_9), (4, .int x4_10), (5, .int x5_11)]) hx hb dX11_bestPin_187 hl (k := 8) rfl (by rw [ex6_49]; rfl) (by decide) rfl (fun ls hl => ?_)
                  refine lv_goto (tgt := 38) hx hb dX11_bestPin_190 (by decide) ?_
                  exact ih1 x3_9 x4_10 x5_11 x6_49 σ_13 _ _ ls h hP hS (lv_sub hl [3, 4, 5, 6, 7, 8, 0] rfl)
      exact hL1 5000 (-4) r_8 0 0 σ _ _ ls h hP hS (lv_sub hl [4, 5, 6, 3, 2, 1, 0] rfl)
    · have h := it c_6 h
      refine lv_iconst (v := (-1)) hx hb dX11_bestPin_18 (by decide) ?_
      rw [hQ]
      exact xzret C0 hP hS rfl h dX11_bestPin_19
def f_X11_rowRefusal (p1 : Int32) (p2 : Int32) (σ : Mem) : Option (Int32) :=
  b1 (f_X11_isShelf p1) fun r_2 =>
  if r_2 = 0 then
    some (-1)
  else
    b1 (f_X11_shelfAt p1) fun r_5 =>
    if r_5 < 9 then
      b1 (f_X5_rowRefusal r_5 σ) fun r_8 =>
      if r_8 = 0 then
        if (σ (7 + 2 * r_5) 4) = p2 then
          some r_8
        else
          some (-12)
      else
        some r_8
    else none
def rm_X11_rowRefusal : Room := { frames := 2, cells := 0, slots := 0, locals := 42 }
set_option maxHeartbeats 4000000 in
set_option maxRecDepth 100000 in
theorem c_X11_rowRefusal {l : Launch} {D : va_G} {ca : Nat → ClassId} {a : Nat → Nat} (hI : InjN 37 a) {p1 : Int32} {p2 : Int32} {σ : Mem} {r : Int32}  (h : f_X11_rowRefusal p1 p2 σ = some r) : XMX l D ca a Bt yX11_rowRefusal cX11_rowRefusal 5 (some .int) rm_X11_rowRefusal [.ref (a 0), .int p1, .int p2] σ (some (.int r)) σ := by
  refine XM.of pn_X11 (Nat.le_of_ble_eq_true rfl) ?_
  intro p e s m args below meth c ls Q hQ C0 hK hB hP hS hl
  have C0 : Cx p s m args meth c RX11 cX11_rowRefusal 5 (some .int) := C0
  have hx := C0.1
  have hb := C0.2.1
  have hl : lv_has ls 5 [(0, .ref (a 0)), (1, .int p1), (2, .int p2)] := hl
  rw [f_X11_rowRefusal] at h
  refine lv_iload_n hx hb dX11_rowRefusal_0 rfl (lv_at hl 1 rfl) ?_
  obtain ⟨r_2, h_1, h⟩ := b1_e h
  refine xcall (rS C0 hK hP hl.1 (fun _ _ _ => trivial) Bt_b (c_X11_isShelf hI h_1) cs_X11_isShelf tw269 (rest := []) rfl (Nat.le_of_ble_eq_true rfl) ⟨rfl, rfl, Nat.le_of_ble_eq_true rfl, Nat.le_of_ble_eq_true rfl⟩ ⟨Nat.zero_le _, Nat.zero_le _⟩ dX11_rowRefusal_1) hS (fun H locs hP hS => ?_)
  refine lv_if_ne (tgt := 9) hx hb dX11_rowRefusal_4 (by decide) (fun c_3 => ?_) (fun c_3 => ?_)
  · have h := ie c_3 h
    refine lv_aload_n hx hb dX11_rowRefusal_9 rfl (lv_at hl 0 rfl) ?_
    refine lv_iload_n hx hb dX11_rowRefusal_10 rfl (lv_at hl 1 rfl) ?_
    obtain ⟨r_5, h_4, h⟩ := b1_e h
    refine xcall (rV C0 hK hP hl.1 (fun _ _ _ => trivial) Bt_b (c_X11_shelfAt hI h_4) cv_X11_shelfAt tw275 (rcX11 hK hP) (rest := []) rfl (Nat.le_of_ble_eq_true rfl) ⟨rfl, rfl, Nat.le_of_ble_eq_true rfl, Nat.le_of_ble_eq_true rfl⟩ ⟨Nat.zero_le _, Nat.zero_le _⟩ dX11_rowRefusal_11) hS (fun H locs hP hS => ?_)
    obtain ⟨hk_6, h⟩ := asr h
    refine lv_astore_n (lv' := [(3, .ref (a (7 + 2 * r_5))), (0, .ref (a 0)), (1, .int p1), (2, .int p2)]) hx hb dX11_rowRefusal_14 rfl hl (by decide) rfl (fun ls hl => ?_)
    refine lv_aload_n hx hb dX11_rowRefusal_15 rfl (lv_at hl 0 rfl) ?_
    obtain ⟨r_8, h_7, h⟩ := b1_e h
    refine xcall (rV C0 hK hP hl.1 (fun _ _ _ => trivial) Bt_b (c_X5_rowRefusal hI hk_6 h_7) cv_X5_rowRefusal tw279 (rcX5 hK hP hk_6) (rest := []) rfl (Nat.le_of_ble_eq_true rfl) ⟨rfl, rfl, Nat.le_of_ble_eq_true rfl, Nat.le_of_ble_eq_true rfl⟩ ⟨Nat.zero_le _, Nat.zero_le _⟩ dX11_rowRefusal_16) hS (fun H locs hP hS => ?_)
    refine lv_istore (lv' := [(4, .int r_8), (3, .ref (a (7 + 2 * r_5))), (0, .ref (a 0)), (1, .int p1), (2, .int p2)]) hx hb dX11_rowRefusal_19 hl (by decide) rfl (fun ls hl => ?_)
    refine lv_iload hx hb dX11_rowRefusal_21 (lv_at hl 0 rfl) ?_
    refine lv_if_ne (tgt := 39) hx hb dX11_rowRefusal_23 (by decide) (fun c_9 => ?_) (fun c_9 => ?_)
    · have h := ie c_9 h
      refine lv_iload hx hb dX11_rowRefusal_39 (lv_at hl 0 rfl) ?_
      rw [hQ]
      exact xzretr C0 hP hS rfl h dX11_rowRefusal_41
    · have h := it c_9 h
      refine lv_aload_n hx hb dX11_rowRefusal_26 rfl (lv_at hl 1 rfl) ?_
      refine gX5_4N C0 hK hP hk_6 tw139 dX11_rowRefusal_27 ?_
      refine lv_iload_n hx hb dX11_rowRefusal_30 rfl (lv_at hl 4 rfl) ?_
      refine lv_icmp_eq (tgt := 39) hx hb dX11_rowRefusal_31 (by decide) (fun c_10 => ?_) (fun c_10 => ?_)
      · have h := it c_10 h
        refine lv_iload hx hb dX11_rowRefusal_39 (lv_at hl 0 rfl) ?_
        rw [hQ]
        exact xzretr C0 hP hS rfl h dX11_rowRefusal_41
      · have h := ie c_10 h
        refine lv_bipush (v := (-12)) hx hb dX11_rowRefusal_34 (by decide) ?_
        refine lv_goto (tgt := 41) hx hb dX11_rowRefusal_36 (by decide) ?_
        rw [hQ]
        exact xzretr C0 hP hS rfl h dX11_rowRefusal_41
  · have h := it c_3 h
    refine lv_iconst (v := (-1)) hx hb dX11_rowRefusal_7 (by decide) ?_
    rw [hQ]
    exact xzretr C0 hP hS rfl h dX11_rowRefusal_8
def f_X11_tellsPins_L22 (d1 : Nat) (σ : Mem) : Nat → Int32 → (Int32 → Option (Int32)) → Option (Int32)
  | 0, _, _ => none
  | n + 1, x2_4, K1 =>
    if (σ (7 + 2 * d1) 5) ≤ x2_4 then
      K1 x2_4
    else
      b1 (f_X5_at d1 x2_4 σ) fun r_7 =>
      b1 (f_X11_within r_7 0 7) fun r_9 =>
      jn (fun (v_10 : Int32) =>
        if v_10 = 0 then
          some 0
        else
          b1 (f_X5_at d1 (x2_4 + 2) σ) fun r_13 =>
          b1 (f_X0_has 0 r_13 σ) fun r_15 =>
          if r_15 = 0 then
            some 0
          else
            bnd (x2_4 + 3) fun (x2_17 : Int32) =>
            f_X11_tellsPins_L22 d1 σ n x2_17 K1) fun J65 =>
      jn (fun (_ : Unit) =>
        J65 0) fun J64 =>
      if r_9 = 0 then
        J64 ()
      else
        b1 (f_X5_at d1 (x2_4 + 1) σ) fun r_20 =>
        b1 (f_X11_within r_20 0 9) fun r_22 =>
        if r_22 = 0 then
          J64 ()
        else
          J65 1
def f_X11_tellsPins (d1 : Nat) (σ : Mem) : Option (Int32) :=
  bnd (σ (7 + 2 * d1) 5) fun (y_1 : Int32) =>
  if (y_1 - y_1 / 3 * 3) = 0 then
    if (σ (7 + 2 * d1) 5) ≤ 18 then
      f_X11_tellsPins_L22 d1 σ 5000 0 fun (u_24 : Int32) =>
        some 1
    else
      some 0
  else
    some 0
def rm_X11_tellsPins : Room := { frames := 1, cells := 0, slots := 0, locals := 22 }
set_option maxHeartbeats 4000000 in
set_option maxRecDepth 100000 in
theorem c_X11_tellsPins {l : Launch} {D : va_G} {ca : Nat → ClassId} {a : Nat → Nat} (hI : InjN 37 a) {d1 : Nat} {σ : Mem} {r : Int32} (hk_d1 : d1 < 9) (h : f_X11_tellsPins d1 σ = some r) : XMX l D ca a Bt yX11_tellsPins cX11_tellsPins 4 (some .boolean) rm_X11_tellsPins [.ref (a 0), .ref (a (7 + 2 * d1))] σ (some (.int r)) σ := by
  refine XM.of pn_X11 (Nat.le_of_ble_eq_true rfl) ?_
  intro p e s m args below meth c ls Q hQ C0 hK hB hP hS hl
  have C0 : Cx p s m args meth c RX11 cX11_tellsPins 4 (some .boolean) := C0
  have hx := C0.1
  have hb := C0.2.1
  have hl : lv_has ls 4 [(0, .ref (a 0)), (1, .ref (a (7 + 2 * d1)))] := hl
  rw [f_X11_tellsPins] at h
  refine lv_aload_n hx hb dX11_tellsPins_0 rfl (lv_at hl 1 rfl) ?_
  refine gX5_5N C0 hK hP hk_d1 tw141 dX11_tellsPins_1 ?_
  refine lv_iconst (v := 3) hx hb dX11_tellsPins_4 (by decide) ?_
  obtain ⟨y_1, ey_1, h⟩ := bnd_e h
  rw [← ey_1]
  refine lv_irem hx hb dX11_tellsPins_5 (by decide) ?_
  refine lv_if_ne (tgt := 18) hx hb dX11_tellsPins_6 (by decide) (fun c_2 => ?_) (fun c_2 => ?_)
  · have h := ie c_2 h
    refine lv_iconst (v := 0) hx hb dX11_tellsPins_18 (by decide) ?_
    rw [hQ]
    exact xzretr C0 hP hS rfl h dX11_tellsPins_19
  · have h := it c_2 h
    refine lv_aload_n hx hb dX11_tellsPins_9 rfl (lv_at hl 1 rfl) ?_
    refine gX5_5N C0 hK hP hk_d1 tw141 dX11_tellsPins_10 ?_
    refine lv_bipush (v := 18) hx hb dX11_tellsPins_13 (by decide) ?_
    refine lv_icmp_le (tgt := 20) hx hb dX11_tellsPins_15 (by decide) (fun c_3 => ?_) (fun c_3 => ?_)
    · have h := it c_3 h
      refine lv_iconst (v := 0) hx hb dX11_tellsPins_20 (by decide) ?_
      refine lv_istore_n (lv' := [(2, .int 0), (0, .ref (a 0)), (1, .ref (a (7 + 2 * d1)))]) hx hb dX11_tellsPins_21 rfl hl (by decide) rfl (fun ls hl => ?_)
      obtain ⟨K1, eK1, h⟩ := lp_e (f := fun K => f_X11_tellsPins_L22 d1 σ 5000 0 K) h
      have h : f_X11_tellsPins_L22 d1 σ 5000 0 K1 = some r := h
      have hX1 : ∀ (u_24 : Int32) (H : Heap) (locs : List Loc) (ls : Array Slot), K1 u_24 = some r → va_P D vwCl (wX ca a σ) H → va_S (AW 37 a) s.heap H locs → lv_has ls 4 [] → W p l e rm_X11_tellsPins s m args below meth c H locs 0 0 Q (F0 m 95 ls []) := by
        intro u_24 H locs ls h hP hS hl
        have h := ap1 eK1 h
        refine lv_iconst (v := 1) hx hb dX11_tellsPins_95 (by decide) ?_
        rw [hQ]
        exact xzretr C0 hP hS rfl h dX11_tellsPins_96
      have hL1 : ∀ (n : Nat) (x2_4 : Int32) (H : Heap) (locs : List Loc) (ls : Array Slot), f_X11_tellsPins_L22 d1 σ n x2_4 K1 = some r → va_P D vwCl (wX ca a σ) H → va_S (AW 37 a) s.heap H locs → lv_has ls 4 [(0, .ref (a 0)), (1, .ref (a (7 + 2 * d1))), (2, .int x2_4)] → W p l e rm_X11_tellsPins s m args below meth c H locs 0 0 Q (F0 m 22 ls []) := by
        intro n
        induction n with
        | zero => intro x2_4 H locs ls h; rw [f_X11_tellsPins_L22] at h; cases h
        | succ n ih1 =>
          intro x2_4 H locs ls h hP hS hl
          rw [f_X11_tellsPins_L22] at h
          refine lv_iload_n hx hb dX11_tellsPins_22 rfl (lv_at hl 2 rfl) ?_
          refine lv_aload_n hx hb dX11_tellsPins_23 rfl (lv_at hl 1 rfl) ?_
          refine gX5_5N C0 hK hP hk_d1 tw141 dX11_tellsPins_24 ?_
          refine lv_icmp_ge (tgt := 95) hx hb dX11_tellsPins_27 (by decide) (fun c_5 => ?_) (fun c_5 => ?_)
          · have h := it c_5 h
            exact hX1 x2_4 _ _ ls h hP hS (lv_sub hl [] rfl)
          · have h := ie c_5 h
            refine lv_aload_n hx hb dX11_tellsPins_30 rfl (lv_at hl 1 rfl) ?_
            refine lv_iload_n hx hb dX11_tellsPins_31 rfl (lv_at hl 2 rfl) ?_
            obtain ⟨r_7, h_6, h⟩ := b1_e h
            refine xcall (rV C0 hK hP hl.1 (fun _ _ _ => trivial) Bt_b (c_X5_at hI hk_d1 h_6) cv_X5_at tw607 (rcX5 hK hP hk_d1) (rest := []) rfl (Nat.le_of_ble_eq_true rfl) ⟨rfl, rfl, Nat.le_of_ble_eq_true rfl, Nat.le_of_ble_eq_true rfl⟩ ⟨Nat.zero_le _, Nat.zero_le _⟩ dX11_tellsPins_32) hS (fun H locs hP hS => ?_)
            refine lv_iconst (v := 0) hx hb dX11_tellsPins_35 (by decide) ?_
            refine lv_bipush (v := 7) hx hb dX11_tellsPins_36 (by decide) ?_
            obtain ⟨r_9, h_8, h⟩ := b1_e h
            refine xcall (rS C0 hK hP hl.1 (fun _ _ _ => trivial) Bt_b (c_X11_within hI h_8) cs_X11_within tw272 (rest := []) rfl (Nat.le_of_ble_eq_true rfl) ⟨rfl, rfl, Nat.le_of_ble_eq_true rfl, Nat.le_of_ble_eq_true rfl⟩ ⟨Nat.zero_le _, Nat.zero_le _⟩ dX11_tellsPins_38) hS (fun H locs hP hS => ?_)
            obtain ⟨J65, eJ65, h⟩ := jn_e h
            have hJ65 : ∀ (v_10 : Int32) (H : Heap) (locs : List Loc) (ls : Array Slot), J65 v_10 = some r → va_P D vwCl (wX ca a σ) H → va_S (AW 37 a) s.heap H locs → lv_has ls 4 [(0, .ref (a 0)), (1, .ref (a (7 + 2 * d1))), (2, .int x2_4)] → W p l e rm_X11_tellsPins s m args below meth c H locs 0 0 Q (F0 m 65 ls [.int v_10]) := by
              intro v_10 H locs ls h hP hS hl
              have h := ap1 eJ65 h
              refine lv_istore_n (lv' := [(3, .int v_10), (0, .ref (a 0)), (1, .ref (a (7 + 2 * d1))), (2, .int x2_4)]) hx hb dX11_tellsPins_65 rfl hl (by decide) rfl (fun ls hl => ?_)
              refine lv_iload_n hx hb dX11_tellsPins_66 rfl (lv_at hl 0 rfl) ?_
              refine lv_if_eq (tgt := 87) hx hb dX11_tellsPins_67 (by decide) (fun c_11 => ?_) (fun c_11 => ?_)
              · have h := it c_11 h
                refine lv_iconst (v := 0) hx hb dX11_tellsPins_87 (by decide) ?_
                rw [hQ]
                exact xzretr C0 hP hS rfl h dX11_tellsPins_88
              · have h := ie c_11 h
                refine lv_aload_n hx hb dX11_tellsPins_70 rfl (lv_at hl 1 rfl) ?_
                refine gX11_0 C0 hK hP tw233 dX11_tellsPins_71 ?_
                refine lv_aload_n hx hb dX11_tellsPins_74 rfl (lv_at hl 2 rfl) ?_
                refine lv_iload_n hx hb dX11_tellsPins_75 rfl (lv_at hl 3 rfl) ?_
                refine lv_iconst (v := 2) hx hb dX11_tellsPins_76 (by decide) ?_
                refine lv_iadd hx hb dX11_tellsPins_77 ?_
                obtain ⟨r_13, h_12, h⟩ := b1_e h
                refine xcall (rV C0 hK hP hl.1 (fun _ _ _ => trivial) Bt_b (c_X5_at hI hk_d1 h_12) cv_X5_at tw607 (rcX5 hK hP hk_d1) (rest := [.ref (a (1 + 2 * 0))]) rfl (Nat.le_of_ble_eq_true rfl) ⟨rfl, rfl, Nat.le_of_ble_eq_true rfl, Nat.le_of_ble_eq_true rfl⟩ ⟨Nat.zero_le _, Nat.zero_le _⟩ dX11_tellsPins_78) hS (fun H locs hP hS => ?_)
                obtain ⟨r_15, h_14, h⟩ := b1_e h
                refine xcall (rV C0 hK hP hl.1 (fun _ _ _ => trivial) Bt_b (c_X0_has hI (by decide) h_14) cv_X0_has tw533 (rcX0 hK hP (by decide)) (rest := []) rfl (Nat.le_of_ble_eq_true rfl) ⟨rfl, rfl, Nat.le_of_ble_eq_true rfl, Nat.le_of_ble_eq_true rfl⟩ ⟨Nat.zero_le _, Nat.zero_le _⟩ dX11_tellsPins_81) hS (fun H locs hP hS => ?_)
                refine lv_if_ne (tgt := 89) hx hb dX11_tellsPins_84 (by decide) (fun c_16 => ?_) (fun c_16 => ?_)
                · have h := ie c_16 h
                  obtain ⟨x2_17, ex2_17, h⟩ := bnd_e h
                  refine lv_iinc (v := x2_17) (lv' := [(2, .int x2_17), (3, .int v_10), (0, .ref (a 0)), (1, .ref (a (7 + 2 * d1)))]) hx hb dX11_tellsPins_89 hl (k := 3) rfl (by rw [ex2_17]; rfl) (by decide) rfl (fun ls hl => ?_)
                  refine lv_goto (tgt := 22) hx hb dX11_tellsPins_92 (by decide) ?_
                  exact ih1 x2_17 _ _ ls h hP hS (lv_sub hl [2, 3, 0] rfl)
                · have h := it c_16 h
                  refine lv_iconst (v := 0) hx hb dX11_tellsPins_87 (by decide) ?_
                  rw [hQ]
                  exact xzretr C0 hP hS rfl h dX11_tellsPins_88
            obtain ⟨J64, eJ64, h⟩ := jn_e h
            have hJ64 : ∀ (_ : Unit) (H : Heap) (locs : List Loc) (ls : Array Slot), J64 () = some r → va_P D vwCl (wX ca a σ) H → va_S (AW 37 a) s.heap H locs → lv_has ls 4 [(0, .ref (a 0)), (1, .ref (a (7 + 2 * d1))), (2, .int x2_4)] → W p l e rm_X11_tellsPins s m args below meth c H locs 0 0 Q (F0 m 64 ls []) := by
              intro _ H locs ls h hP hS hl
              have h := ap1 eJ64 h
              refine lv_iconst (v := 0) hx hb dX11_tellsPins_64 (by decide) ?_
              exact hJ65 0 _ _ ls h hP hS (lv_sub hl [0, 1, 2] rfl)
            refine lv_if_eq (tgt := 64) hx hb dX11_tellsPins_41 (by decide) (fun c_18 => ?_) (fun c_18 => ?_)
            · have h := it c_18 h
              exact hJ64 () _ _ ls h hP hS (lv_sub hl [0, 1, 2] rfl)
            · have h := ie c_18 h
              refine lv_aload_n hx hb dX11_tellsPins_44 rfl (lv_at hl 1 rfl) ?_
              refine lv_iload_n hx hb dX11_tellsPins_45 rfl (lv_at hl 2 rfl) ?_
              refine lv_iconst (v := 1) hx hb dX11_tellsPins_46 (by decide) ?_
              refine lv_iadd hx hb dX11_tellsPins_47 ?_
              obtain ⟨r_20, h_19, h⟩ := b1_e h
              refine xcall (rV C0 hK hP hl.1 (fun _ _ _ => trivial) Bt_b (c_X5_at hI hk_d1 h_19) cv_X5_at tw607 (rcX5 hK hP hk_d1) (rest := []) rfl (Nat.le_of_ble_eq_true rfl) ⟨rfl, rfl, Nat.le_of_ble_eq_true rfl, Nat.le_of_ble_eq_true rfl⟩ ⟨Nat.zero_le _, Nat.zero_le _⟩ dX11_tellsPins_48) hS (fun H locs hP hS => ?_)
              refine lv_iconst (v := 0) hx hb dX11_tellsPins_51 (by decide) ?_
              refine lv_bipush (v := 9) hx hb dX11_tellsPins_52 (by decide) ?_
              obtain ⟨r_22, h_21, h⟩ := b1_e h
              refine xcall (rS C0 hK hP hl.1 (fun _ _ _ => trivial) Bt_b (c_X11_within hI h_21) cs_X11_within tw272 (rest := []) rfl (Nat.le_of_ble_eq_true rfl) ⟨rfl, rfl, Nat.le_of_ble_eq_true rfl, Nat.le_of_ble_eq_true rfl⟩ ⟨Nat.zero_le _, Nat.zero_le _⟩ dX11_tellsPins_54) hS (fun H locs hP hS => ?_)
              refine lv_if_eq (tgt := 64) hx hb dX11_tellsPins_57 (by decide) (fun c_23 => ?_) (fun c_23 => ?_)
              · have h := it c_23 h
                exact hJ64 () _ _ ls h hP hS (lv_sub hl [0, 1, 2] rfl)
              · have h := ie c_23 h
                refine lv_iconst (v := 1) hx hb dX11_tellsPins_60 (by decide) ?_
                refine lv_goto (tgt := 65) hx hb dX11_tellsPins_61 (by decide) ?_
                exact hJ65 1 _ _ ls h hP hS (lv_sub hl [0, 1, 2] rfl)
      exact hL1 5000 0 _ _ ls h hP hS (lv_sub hl [1, 2, 0] rfl)
    · have h := ie c_3 h
      refine lv_iconst (v := 0) hx hb dX11_tellsPins_18 (by decide) ?_
      rw [hQ]
      exact xzretr C0 hP hS rfl h dX11_tellsPins_19
def f_X11_pinsRefusal (p1 : Int32) (σ : Mem) : Option (Int32) :=
  b1 (f_X11_rowRefusal p1 0 σ) fun r_2 =>
  if r_2 = 0 then
    b1 (f_X11_shelfAt p1) fun r_5 =>
    if r_5 < 9 then
      b1 (f_X11_tellsPins r_5 σ) fun r_8 =>
      if r_8 = 0 then
        some (-13)
      else
        some r_2
    else none
  else
    some r_2
def rm_X11_pinsRefusal : Room := { frames := 3, cells := 0, slots := 0, locals := 66 }
set_option maxHeartbeats 4000000 in
set_option maxRecDepth 100000 in
theorem c_X11_pinsRefusal {l : Launch} {D : va_G} {ca : Nat → ClassId} {a : Nat → Nat} (hI : InjN 37 a) {p1 : Int32} {σ : Mem} {r : Int32}  (h : f_X11_pinsRefusal p1 σ = some r) : XMX l D ca a Bt yX11_pinsRefusal cX11_pinsRefusal 3 (some .int) rm_X11_pinsRefusal [.ref (a 0), .int p1] σ (some (.int r)) σ := by
  refine XM.of pn_X11 (Nat.le_of_ble_eq_true rfl) ?_
  intro p e s m args below meth c ls Q hQ C0 hK hB hP hS hl
  have C0 : Cx p s m args meth c RX11 cX11_pinsRefusal 3 (some .int) := C0
  have hx := C0.1
  have hb := C0.2.1
  have hl : lv_has ls 3 [(0, .ref (a 0)), (1, .int p1)] := hl
  rw [f_X11_pinsRefusal] at h
  refine lv_aload_n hx hb dX11_pinsRefusal_0 rfl (lv_at hl 0 rfl) ?_
  refine lv_iload_n hx hb dX11_pinsRefusal_1 rfl (lv_at hl 1 rfl) ?_
  refine lv_iconst (v := 0) hx hb dX11_pinsRefusal_2 (by decide) ?_
  obtain ⟨r_2, h_1, h⟩ := b1_e h
  refine xcall (rV C0 hK hP hl.1 (fun _ _ _ => trivial) Bt_b (c_X11_rowRefusal hI h_1) cv_X11_rowRefusal tw265 (rcX11 hK hP) (rest := []) rfl (Nat.le_of_ble_eq_true rfl) ⟨rfl, rfl, Nat.le_of_ble_eq_true rfl, Nat.le_of_ble_eq_true rfl⟩ ⟨Nat.zero_le _, Nat.zero_le _⟩ dX11_pinsRefusal_3) hS (fun H locs hP hS => ?_)
  refine lv_istore_n (lv' := [(2, .int r_2), (0, .ref (a 0)), (1, .int p1)]) hx hb dX11_pinsRefusal_6 rfl hl (by decide) rfl (fun ls hl => ?_)
  refine lv_iload_n hx hb dX11_pinsRefusal_7 rfl (lv_at hl 0 rfl) ?_
  refine lv_if_ne (tgt := 28) hx hb dX11_pinsRefusal_8 (by decide) (fun c_3 => ?_) (fun c_3 => ?_)
  · have h := ie c_3 h
    refine lv_iload_n hx hb dX11_pinsRefusal_28 rfl (lv_at hl 0 rfl) ?_
    rw [hQ]
    exact xzretr C0 hP hS rfl h dX11_pinsRefusal_29
  · have h := it c_3 h
    refine lv_aload_n hx hb dX11_pinsRefusal_11 rfl (lv_at hl 1 rfl) ?_
    refine lv_aload_n hx hb dX11_pinsRefusal_12 rfl (lv_at hl 1 rfl) ?_
    refine lv_iload_n hx hb dX11_pinsRefusal_13 rfl (lv_at hl 2 rfl) ?_
    obtain ⟨r_5, h_4, h⟩ := b1_e h
    refine xcall (rV C0 hK hP hl.1 (fun _ _ _ => trivial) Bt_b (c_X11_shelfAt hI h_4) cv_X11_shelfAt tw275 (rcX11 hK hP) (rest := [.ref (a 0)]) rfl (Nat.le_of_ble_eq_true rfl) ⟨rfl, rfl, Nat.le_of_ble_eq_true rfl, Nat.le_of_ble_eq_true rfl⟩ ⟨Nat.zero_le _, Nat.zero_le _⟩ dX11_pinsRefusal_14) hS (fun H locs hP hS => ?_)
    obtain ⟨hk_6, h⟩ := asr h
    obtain ⟨r_8, h_7, h⟩ := b1_e h
    refine xcall (rV C0 hK hP hl.1 (fun _ _ _ => trivial) Bt_b (c_X11_tellsPins hI hk_6 h_7) cv_X11_tellsPins tw603 (rcX11 hK hP) (rest := []) rfl (Nat.le_of_ble_eq_true rfl) ⟨rfl, rfl, Nat.le_of_ble_eq_true rfl, Nat.le_of_ble_eq_true rfl⟩ ⟨Nat.zero_le _, Nat.zero_le _⟩ dX11_pinsRefusal_17) hS (fun H locs hP hS => ?_)
    refine lv_if_ne (tgt := 28) hx hb dX11_pinsRefusal_20 (by decide) (fun c_9 => ?_) (fun c_9 => ?_)
    · have h := ie c_9 h
      refine lv_iload_n hx hb dX11_pinsRefusal_28 rfl (lv_at hl 0 rfl) ?_
      rw [hQ]
      exact xzretr C0 hP hS rfl h dX11_pinsRefusal_29
    · have h := it c_9 h
      refine lv_bipush (v := (-13)) hx hb dX11_pinsRefusal_23 (by decide) ?_
      refine lv_goto (tgt := 29) hx hb dX11_pinsRefusal_25 (by decide) ?_
      rw [hQ]
      exact xzretr C0 hP hS rfl h dX11_pinsRefusal_29
def f_X11_pinsIn (d1 : Nat) (σ : Mem) : Option (Int32) :=
  some ((σ (7 + 2 * d1) 5) / 3)
def rm_X11_pinsIn : Room := { frames := 0, cells := 0, slots := 0, locals := 0 }
set_option maxHeartbeats 4000000 in
set_option maxRecDepth 100000 in
theorem c_X11_pinsIn {l : Launch} {D : va_G} {ca : Nat → ClassId} {a : Nat → Nat} (hI : InjN 37 a) {d1 : Nat} {σ : Mem} {r : Int32} (hk_d1 : d1 < 9) (h : f_X11_pinsIn d1 σ = some r) : XMX l D ca a Bt yX11_pinsIn cX11_pinsIn 1 (some .int) rm_X11_pinsIn [.ref (a (7 + 2 * d1))] σ (some (.int r)) σ := by
  refine XM.of pn_X11 (Nat.le_of_ble_eq_true rfl) ?_
  intro p e s m args below meth c ls Q hQ C0 hK hB hP hS hl
  have C0 : Cx p s m args meth c RX11 cX11_pinsIn 1 (some .int) := C0
  have hx := C0.1
  have hb := C0.2.1
  have hl : lv_has ls 1 [(0, .ref (a (7 + 2 * d1)))] := hl
  rw [f_X11_pinsIn] at h
  refine lv_aload_n hx hb dX11_pinsIn_0 rfl (lv_at hl 0 rfl) ?_
  refine gX5_5N C0 hK hP hk_d1 tw141 dX11_pinsIn_1 ?_
  refine lv_iconst (v := 3) hx hb dX11_pinsIn_4 (by decide) ?_
  refine lv_idiv hx hb dX11_pinsIn_5 (by decide) ?_
  rw [hQ]
  exact xzretr C0 hP hS rfl h dX11_pinsIn_6
def f_X11_sewPinOfRow (k1 : Nat) (d2 : Nat) (p3 : Int32) (σ : Mem) : Option (Int32 × Mem) :=
  b1 (f_X5_at d2 (3 * p3) σ) fun r_2 =>
  b1 (f_X11_kindAt r_2) fun r_4 =>
  if r_4 < 8 then
    b1 (f_X5_at d2 ((3 * p3) + 1) σ) fun r_7 =>
    b1 (f_X5_at d2 ((3 * p3) + 2) σ) fun r_9 =>
    b2 (f_X0_tryPin k1 r_4 r_7 r_9 σ) fun r_11 σ_12 =>
    if r_11 = 0 ∨ r_11 = 1 then some (r_11, σ_12) else none
  else none
def rm_X11_sewPinOfRow : Room := { frames := 5, cells := 0, slots := 0, locals := 116 }
set_option maxHeartbeats 4000000 in
set_option maxRecDepth 100000 in
theorem c_X11_sewPinOfRow {l : Launch} {D : va_G} {ca : Nat → ClassId} {a : Nat → Nat} (hI : InjN 37 a) {k1 : Nat} {d2 : Nat} {p3 : Int32} {σ : Mem} {r : Int32} {σ' : Mem} (hk_k1 : k1 < 3) (hk_d2 : d2 < 9) (h : f_X11_sewPinOfRow k1 d2 p3 σ = some (r, σ')) : XMX l D ca a Bt yX11_sewPinOfRow cX11_sewPinOfRow 4 (some .boolean) rm_X11_sewPinOfRow [.ref (a 0), .ref (a (1 + 2 * k1)), .ref (a (7 + 2 * d2)), .int p3] σ (some (.int r)) σ' := by
  refine XM.of pn_X11 (Nat.le_of_ble_eq_true rfl) ?_
  intro p e s m args below meth c ls Q hQ C0 hK hB hP hS hl
  have C0 : Cx p s m args meth c RX11 cX11_sewPinOfRow 4 (some .boolean) := C0
  have hx := C0.1
  have hb := C0.2.1
  have hl : lv_has ls 4 [(0, .ref (a 0)), (1, .ref (a (1 + 2 * k1))), (2, .ref (a (7 + 2 * d2))), (3, .int p3)] := hl
  rw [f_X11_sewPinOfRow] at h
  refine lv_aload_n hx hb dX11_sewPinOfRow_0 rfl (lv_at hl 1 rfl) ?_
  refine lv_aload_n hx hb dX11_sewPinOfRow_1 rfl (lv_at hl 0 rfl) ?_
  refine lv_aload_n hx hb dX11_sewPinOfRow_2 rfl (lv_at hl 2 rfl) ?_
  refine lv_iconst (v := 3) hx hb dX11_sewPinOfRow_3 (by decide) ?_
  refine lv_iload_n hx hb dX11_sewPinOfRow_4 rfl (lv_at hl 3 rfl) ?_
  refine lv_imul hx hb dX11_sewPinOfRow_5 ?_
  obtain ⟨r_2, h_1, h⟩ := b1_e h
  refine xcall (rV C0 hK hP hl.1 (fun _ _ _ => trivial) Bt_b (c_X5_at hI hk_d2 h_1) cv_X5_at tw607 (rcX5 hK hP hk_d2) (rest := [.ref (a 0), .ref (a (1 + 2 * k1))]) rfl (Nat.le_of_ble_eq_true rfl) ⟨rfl, rfl, Nat.le_of_ble_eq_true rfl, Nat.le_of_ble_eq_true rfl⟩ ⟨Nat.zero_le _, Nat.zero_le _⟩ dX11_sewPinOfRow_6) hS (fun H locs hP hS => ?_)
  obtain ⟨r_4, h_3, h⟩ := b1_e h
  refine xcall (rV C0 hK hP hl.1 (fun _ _ _ => trivial) Bt_b (c_X11_kindAt hI h_3) cv_X11_kindAt tw395 (rcX11 hK hP) (rest := [.ref (a (1 + 2 * k1))]) rfl (Nat.le_of_ble_eq_true rfl) ⟨rfl, rfl, Nat.le_of_ble_eq_true rfl, Nat.le_of_ble_eq_true rfl⟩ ⟨Nat.zero_le _, Nat.zero_le _⟩ dX11_sewPinOfRow_9) hS (fun H locs hP hS => ?_)
  obtain ⟨hk_5, h⟩ := asr h
  refine lv_aload_n hx hb dX11_sewPinOfRow_12 rfl (lv_at hl 2 rfl) ?_
  refine lv_iconst (v := 3) hx hb dX11_sewPinOfRow_13 (by decide) ?_
  refine lv_iload_n hx hb dX11_sewPinOfRow_14 rfl (lv_at hl 3 rfl) ?_
  refine lv_imul hx hb dX11_sewPinOfRow_15 ?_
  refine lv_iconst (v := 1) hx hb dX11_sewPinOfRow_16 (by decide) ?_
  refine lv_iadd hx hb dX11_sewPinOfRow_17 ?_
  obtain ⟨r_7, h_6, h⟩ := b1_e h
  refine xcall (rV C0 hK hP hl.1 (fun _ _ _ => trivial) Bt_b (c_X5_at hI hk_d2 h_6) cv_X5_at tw607 (rcX5 hK hP hk_d2) (rest := [.ref (a (27 + r_4)), .ref (a (1 + 2 * k1))]) rfl (Nat.le_of_ble_eq_true rfl) ⟨rfl, rfl, Nat.le_of_ble_eq_true rfl, Nat.le_of_ble_eq_true rfl⟩ ⟨Nat.zero_le _, Nat.zero_le _⟩ dX11_sewPinOfRow_18) hS (fun H locs hP hS => ?_)
  refine lv_aload_n hx hb dX11_sewPinOfRow_21 rfl (lv_at hl 2 rfl) ?_
  refine lv_iconst (v := 3) hx hb dX11_sewPinOfRow_22 (by decide) ?_
  refine lv_iload_n hx hb dX11_sewPinOfRow_23 rfl (lv_at hl 3 rfl) ?_
  refine lv_imul hx hb dX11_sewPinOfRow_24 ?_
  refine lv_iconst (v := 2) hx hb dX11_sewPinOfRow_25 (by decide) ?_
  refine lv_iadd hx hb dX11_sewPinOfRow_26 ?_
  obtain ⟨r_9, h_8, h⟩ := b1_e h
  refine xcall (rV C0 hK hP hl.1 (fun _ _ _ => trivial) Bt_b (c_X5_at hI hk_d2 h_8) cv_X5_at tw607 (rcX5 hK hP hk_d2) (rest := [.int r_7, .ref (a (27 + r_4)), .ref (a (1 + 2 * k1))]) rfl (Nat.le_of_ble_eq_true rfl) ⟨rfl, rfl, Nat.le_of_ble_eq_true rfl, Nat.le_of_ble_eq_true rfl⟩ ⟨Nat.zero_le _, Nat.zero_le _⟩ dX11_sewPinOfRow_27) hS (fun H locs hP hS => ?_)
  obtain ⟨r_11, σ_12, h_10, h⟩ := b2_e h
  refine xcall (rV C0 hK hP hl.1 (fun _ _ _ => trivial) Bt_b (c_X0_tryPin hI hk_k1 hk_5 h_10) cv_X0_tryPin tw399 (rcX0 hK hP hk_k1) (rest := []) rfl (Nat.le_of_ble_eq_true rfl) ⟨rfl, rfl, Nat.le_of_ble_eq_true rfl, Nat.le_of_ble_eq_true rfl⟩ ⟨Nat.zero_le _, Nat.zero_le _⟩ dX11_sewPinOfRow_30) hS (fun H locs hP hS => ?_)
  obtain ⟨b_13, h⟩ := asr h
  rw [hQ]
  exact xzret C0 hP hS (by rcases b_13 with hz | hz <;> rw [hz] <;> rfl) h dX11_sewPinOfRow_33
def f_X11_sewSetInMind_L19 (d1 : Nat) (p2 : Int32) (r_2 : Int32) : Nat → Int32 → Mem → (Int32 → Mem → Option (Int32 × Mem)) → Option (Int32 × Mem)
  | 0, _, _, _ => none
  | n + 1, x4_5, σ_6, K1 =>
    if r_2 ≤ x4_5 then
      K1 x4_5 σ_6
    else
      if ((p2 >>> (x4_5 &&& 31)) &&& 1) = 0 then
        bnd (x4_5 + 1) fun (x4_9 : Int32) =>
        f_X11_sewSetInMind_L19 d1 p2 r_2 n x4_9 σ_6 K1
      else
        b2 (f_X11_sewPinOfRow 2 d1 x4_5 σ_6) fun r_11 σ_12 =>
        if r_11 = 0 then
          some (0, σ_12)
        else
          bnd (x4_5 + 1) fun (x4_14 : Int32) =>
          f_X11_sewSetInMind_L19 d1 p2 r_2 n x4_14 σ_12 K1
def f_X11_sewSetInMind (d1 : Nat) (p2 : Int32) (σ : Mem) : Option (Int32 × Mem) :=
  b1 (f_X11_pinsIn d1 σ) fun r_2 =>
  b1 (f_X0_becomeLike 2 0 σ) fun σ_4 =>
  f_X11_sewSetInMind_L19 d1 p2 r_2 5000 0 σ_4 fun (u_15 : Int32) (σ_16 : Mem) =>
    some (1, σ_16)
def rm_X11_sewSetInMind : Room := { frames := 6, cells := 0, slots := 0, locals := 139 }
set_option maxHeartbeats 4000000 in
set_option maxRecDepth 100000 in
theorem c_X11_sewSetInMind {l : Launch} {D : va_G} {ca : Nat → ClassId} {a : Nat → Nat} (hI : InjN 37 a) {d1 : Nat} {p2 : Int32} {σ : Mem} {r : Int32} {σ' : Mem} (hk_d1 : d1 < 9) (h : f_X11_sewSetInMind d1 p2 σ = some (r, σ')) : XMX l D ca a Bt yX11_sewSetInMind cX11_sewSetInMind 5 (some .boolean) rm_X11_sewSetInMind [.ref (a 0), .ref (a (7 + 2 * d1)), .int p2] σ (some (.int r)) σ' := by
  refine XM.of pn_X11 (Nat.le_of_ble_eq_true rfl) ?_
  intro p e s m args below meth c ls Q hQ C0 hK hB hP hS hl
  have C0 : Cx p s m args meth c RX11 cX11_sewSetInMind 5 (some .boolean) := C0
  have hx := C0.1
  have hb := C0.2.1
  have hl : lv_has ls 5 [(0, .ref (a 0)), (1, .ref (a (7 + 2 * d1))), (2, .int p2)] := hl
  rw [f_X11_sewSetInMind] at h
  refine lv_aload_n hx hb dX11_sewSetInMind_0 rfl (lv_at hl 1 rfl) ?_
  obtain ⟨r_2, h_1, h⟩ := b1_e h
  refine xcall (rS C0 hK hP hl.1 (fun _ _ _ => trivial) Bt_b (c_X11_pinsIn hI hk_d1 h_1) cs_X11_pinsIn tw608 (rest := []) rfl (Nat.le_of_ble_eq_true rfl) ⟨rfl, rfl, Nat.le_of_ble_eq_true rfl, Nat.le_of_ble_eq_true rfl⟩ ⟨Nat.zero_le _, Nat.zero_le _⟩ dX11_sewSetInMind_1) hS (fun H locs hP hS => ?_)
  refine lv_istore_n (lv' := [(3, .int r_2), (0, .ref (a 0)), (1, .ref (a (7 + 2 * d1))), (2, .int p2)]) hx hb dX11_sewSetInMind_4 rfl hl (by decide) rfl (fun ls hl => ?_)
  refine lv_aload_n hx hb dX11_sewSetInMind_5 rfl (lv_at hl 1 rfl) ?_
  refine gX11_2 C0 hK hP tw235 dX11_sewSetInMind_6 ?_
  refine lv_aload_n hx hb dX11_sewSetInMind_9 rfl (lv_at hl 1 rfl) ?_
  refine gX11_0 C0 hK hP tw233 dX11_sewSetInMind_10 ?_
  obtain ⟨σ_4, h_3, h⟩ := b1_e h
  refine xcall (rV C0 hK hP hl.1 (fun _ _ _ => trivial) Bt_b (c_X0_becomeLike hI (by decide) (by decide) h_3) cv_X0_becomeLike tw368 (rcX0 hK hP (by decide)) (rest := []) rfl (Nat.le_of_ble_eq_true rfl) ⟨rfl, rfl, Nat.le_of_ble_eq_true rfl, Nat.le_of_ble_eq_true rfl⟩ ⟨Nat.zero_le _, Nat.zero_le _⟩ dX11_sewSetInMind_13) hS (fun H locs hP hS => ?_)
  refine lv_iconst (v := 0) hx hb dX11_sewSetInMind_16 (by decide) ?_
  refine lv_istore (lv' := [(4, .int 0), (3, .int r_2), (0, .ref (a 0)), (1, .ref (a (7 + 2 * d1))), (2, .int p2)]) hx hb dX11_sewSetInMind_17 hl (by decide) rfl (fun ls hl => ?_)
  obtain ⟨K1, eK1, h⟩ := lp_e (f := fun K => f_X11_sewSetInMind_L19 d1 p2 r_2 5000 0 σ_4 K) h
  have h : f_X11_sewSetInMind_L19 d1 p2 r_2 5000 0 σ_4 K1 = some (r, σ') := h
  have hX1 : ∀ (u_15 : Int32) (σ_16 : Mem) (H : Heap) (locs : List Loc) (ls : Array Slot), K1 u_15 σ_16 = some (r, σ') → va_P D vwCl (wX ca a σ_16) H → va_S (AW 37 a) s.heap H locs → lv_has ls 5 [] → W p l e rm_X11_sewSetInMind s m args below meth c H locs 0 0 Q (F0 m 56 ls []) := by
    intro u_15 σ_16 H locs ls h hP hS hl
    have h := ap2 eK1 h
    refine lv_iconst (v := 1) hx hb dX11_sewSetInMind_56 (by decide) ?_
    rw [hQ]
    exact xzret C0 hP hS rfl h dX11_sewSetInMind_57
  have hL1 : ∀ (n : Nat) (x4_5 : Int32) (σ_6 : Mem) (H : Heap) (locs : List Loc) (ls : Array Slot), f_X11_sewSetInMind_L19 d1 p2 r_2 n x4_5 σ_6 K1 = some (r, σ') → va_P D vwCl (wX ca a σ_6) H → va_S (AW 37 a) s.heap H locs → lv_has ls 5 [(0, .ref (a 0)), (1, .ref (a (7 + 2 * d1))), (2, .int p2), (3, .int r_2), (4, .int x4_5)] → W p l e rm_X11_sewSetInMind s m args below meth c H locs 0 0 Q (F0 m 19 ls []) := by
    intro n
    induction n with
    | zero => intro x4_5 σ_6 H locs ls h; rw [f_X11_sewSetInMind_L19] at h; cases h
    | succ n ih1 =>
      intro x4_5 σ_6 H locs ls h hP hS hl
      rw [f_X11_sewSetInMind_L19] at h
      refine lv_iload hx hb dX11_sewSetInMind_19 (lv_at hl 4 rfl) ?_
      refine lv_iload_n hx hb dX11_sewSetInMind_21 rfl (lv_at hl 3 rfl) ?_
      refine lv_icmp_ge (tgt := 56) hx hb dX11_sewSetInMind_22 (by decide) (fun c_7 => ?_) (fun c_7 => ?_)
      · have h := it c_7 h
        exact hX1 x4_5 σ_6 _ _ ls h hP hS (lv_sub hl [] rfl)
      · have h := ie c_7 h
        refine lv_iload_n hx hb dX11_sewSetInMind_25 rfl (lv_at hl 2 rfl) ?_
        refine lv_iload hx hb dX11_sewSetInMind_26 (lv_at hl 4 rfl) ?_
        refine lv_ishr hx hb dX11_sewSetInMind_28 ?_
        refine lv_iconst (v := 1) hx hb dX11_sewSetInMind_29 (by decide) ?_
        refine lv_iand hx hb dX11_sewSetInMind_30 ?_
        refine lv_if_eq (tgt := 50) hx hb dX11_sewSetInMind_31 (by decide) (fun c_8 => ?_) (fun c_8 => ?_)
        · have h := it c_8 h
          obtain ⟨x4_9, ex4_9, h⟩ := bnd_e h
          refine lv_iinc (v := x4_9) (lv' := [(4, .int x4_9), (0, .ref (a 0)), (1, .ref (a (7 + 2 * d1))), (2, .int p2), (3, .int r_2)]) hx hb dX11_sewSetInMind_50 hl (k := 4) rfl (by rw [ex4_9]; rfl) (by decide) rfl (fun ls hl => ?_)
          refine lv_goto (tgt := 19) hx hb dX11_sewSetInMind_53 (by decide) ?_
          exact ih1 x4_9 σ_6 _ _ ls h hP hS (lv_sub hl [1, 2, 3, 4, 0] rfl)
        · have h := ie c_8 h
          refine lv_aload_n hx hb dX11_sewSetInMind_34 rfl (lv_at hl 0 rfl) ?_
          refine lv_aload_n hx hb dX11_sewSetInMind_35 rfl (lv_at hl 0 rfl) ?_
          refine gX11_2 C0 hK hP tw235 dX11_sewSetInMind_36 ?_
          refine lv_aload_n hx hb dX11_sewSetInMind_39 rfl (lv_at hl 1 rfl) ?_
          refine lv_iload hx hb dX11_sewSetInMind_40 (lv_at hl 4 rfl) ?_
          obtain ⟨r_11, σ_12, h_10, h⟩ := b2_e h
          refine xcall (rV C0 hK hP hl.1 (fun _ _ _ => trivial) Bt_b (c_X11_sewPinOfRow hI (by decide) hk_d1 h_10) cv_X11_sewPinOfRow tw615 (rcX11 hK hP) (rest := []) rfl (Nat.le_of_ble_eq_true rfl) ⟨rfl, rfl, Nat.le_of_ble_eq_true rfl, Nat.le_of_ble_eq_true rfl⟩ ⟨Nat.zero_le _, Nat.zero_le _⟩ dX11_sewSetInMind_42) hS (fun H locs hP hS => ?_)
          refine lv_if_ne (tgt := 50) hx hb dX11_sewSetInMind_45 (by decide) (fun c_13 => ?_) (fun c_13 => ?_)
          · have h := ie c_13 h
            obtain ⟨x4_14, ex4_14, h⟩ := bnd_e h
            refine lv_iinc (v := x4_14) (lv' := [(4, .int x4_14), (0, .ref (a 0)), (1, .ref (a (7 + 2 * d1))), (2, .int p2), (3, .int r_2)]) hx hb dX11_sewSetInMind_50 hl (k := 4) rfl (by rw [ex4_14]; rfl) (by decide) rfl (fun ls hl => ?_)
            refine lv_goto (tgt := 19) hx hb dX11_sewSetInMind_53 (by decide) ?_
            exact ih1 x4_14 σ_12 _ _ ls h hP hS (lv_sub hl [1, 2, 3, 4, 0] rfl)
          · have h := it c_13 h
            refine lv_iconst (v := 0) hx hb dX11_sewSetInMind_48 (by decide) ?_
            rw [hQ]
            exact xzret C0 hP hS rfl h dX11_sewSetInMind_49
  exact hL1 5000 0 σ_4 _ _ ls h hP hS (lv_sub hl [2, 3, 4, 1, 0] rfl)
def f_X11_costOfSet_L11 (d1 : Nat) (p2 : Int32) (σ : Mem) (r_2 : Int32) : Nat → Int32 → Int32 → (Int32 → Int32 → Option (Int32)) → Option (Int32)
  | 0, _, _, _ => none
  | n + 1, x4_3, x5_4, K1 =>
    if r_2 ≤ x5_4 then
      K1 x4_3 x5_4
    else
      if ((p2 >>> (x5_4 &&& 31)) &&& 1) = 0 then
        bnd (x5_4 + 1) fun (x5_7 : Int32) =>
        f_X11_costOfSet_L11 d1 p2 σ r_2 n x4_3 x5_7 K1
      else
        b1 (f_X5_at d1 (3 * x5_4) σ) fun r_9 =>
        b1 (f_X11_kindAt r_9) fun r_11 =>
        if r_11 < 8 then
          b1 (f_X5_at d1 ((3 * x5_4) + 1) σ) fun r_14 =>
          b1 (f_dp_cost r_11 r_14) fun r_16 =>
          bnd (x4_3 + r_16) fun (x4_17 : Int32) =>
          bnd (x5_4 + 1) fun (x5_18 : Int32) =>
          f_X11_costOfSet_L11 d1 p2 σ r_2 n x4_17 x5_18 K1
        else none
def f_X11_costOfSet (d1 : Nat) (p2 : Int32) (σ : Mem) : Option (Int32) :=
  b1 (f_X11_pinsIn d1 σ) fun r_2 =>
  f_X11_costOfSet_L11 d1 p2 σ r_2 5000 0 0 fun (x4_19 : Int32) (u_20 : Int32) =>
    some x4_19
def rm_X11_costOfSet : Room := { frames := 3, cells := 0, slots := 0, locals := 63 }
set_option maxHeartbeats 4000000 in
set_option maxRecDepth 100000 in
theorem c_X11_costOfSet {l : Launch} {D : va_G} {ca : Nat → ClassId} {a : Nat → Nat} (hI : InjN 37 a) {d1 : Nat} {p2 : Int32} {σ : Mem} {r : Int32} (hk_d1 : d1 < 9) (h : f_X11_costOfSet d1 p2 σ = some r) : XMX l D ca a Bt yX11_costOfSet cX11_costOfSet 6 (some .int) rm_X11_costOfSet [.ref (a 0), .ref (a (7 + 2 * d1)), .int p2] σ (some (.int r)) σ := by
  refine XM.of pn_X11 (Nat.le_of_ble_eq_true rfl) ?_
  intro p e s m args below meth c ls Q hQ C0 hK hB hP hS hl
  have C0 : Cx p s m args meth c RX11 cX11_costOfSet 6 (some .int) := C0
  have hx := C0.1
  have hb := C0.2.1
  have hl : lv_has ls 6 [(0, .ref (a 0)), (1, .ref (a (7 + 2 * d1))), (2, .int p2)] := hl
  rw [f_X11_costOfSet] at h
  refine lv_aload_n hx hb dX11_costOfSet_0 rfl (lv_at hl 1 rfl) ?_
  obtain ⟨r_2, h_1, h⟩ := b1_e h
  refine xcall (rS C0 hK hP hl.1 (fun _ _ _ => trivial) Bt_b (c_X11_pinsIn hI hk_d1 h_1) cs_X11_pinsIn tw608 (rest := []) rfl (Nat.le_of_ble_eq_true rfl) ⟨rfl, rfl, Nat.le_of_ble_eq_true rfl, Nat.le_of_ble_eq_true rfl⟩ ⟨Nat.zero_le _, Nat.zero_le _⟩ dX11_costOfSet_1) hS (fun H locs hP hS => ?_)
  refine lv_istore_n (lv' := [(3, .int r_2), (0, .ref (a 0)), (1, .ref (a (7 + 2 * d1))), (2, .int p2)]) hx hb dX11_costOfSet_4 rfl hl (by decide) rfl (fun ls hl => ?_)
  refine lv_iconst (v := 0) hx hb dX11_costOfSet_5 (by decide) ?_
  refine lv_istore (lv' := [(4, .int 0), (3, .int r_2), (0, .ref (a 0)), (1, .ref (a (7 + 2 * d1))), (2, .int p2)]) hx hb dX11_costOfSet_6 hl (by decide) rfl (fun ls hl => ?_)
  refine lv_iconst (v := 0) hx hb dX11_costOfSet_8 (by decide) ?_
  refine lv_istore (lv' := [(5, .int 0), (4, .int 0), (3, .int r_2), (0, .ref (a 0)), (1, .ref (a (7 + 2 * d1))), (2, .int p2)]) hx hb dX11_costOfSet_9 hl (by decide) rfl (fun ls hl => ?_)
  obtain ⟨K1, eK1, h⟩ := lp_e (f := fun K => f_X11_costOfSet_L11 d1 p2 σ r_2 5000 0 0 K) h
  have h : f_X11_costOfSet_L11 d1 p2 σ r_2 5000 0 0 K1 = some r := h
  have hX1 : ∀ (x4_19 : Int32) (u_20 : Int32) (H : Heap) (locs : List Loc) (ls : Array Slot), K1 x4_19 u_20 = some r → va_P D vwCl (wX ca a σ) H → va_S (AW 37 a) s.heap H locs → lv_has ls 6 [(4, .int x4_19)] → W p l e rm_X11_costOfSet s m args below meth c H locs 0 0 Q (F0 m 62 ls []) := by
    intro x4_19 u_20 H locs ls h hP hS hl
    have h := ap2 eK1 h
    refine lv_iload hx hb dX11_costOfSet_62 (lv_at hl 0 rfl) ?_
    rw [hQ]
    exact xzretr C0 hP hS rfl h dX11_costOfSet_64
  have hL1 : ∀ (n : Nat) (x4_3 : Int32) (x5_4 : Int32) (H : Heap) (locs : List Loc) (ls : Array Slot), f_X11_costOfSet_L11 d1 p2 σ r_2 n x4_3 x5_4 K1 = some r → va_P D vwCl (wX ca a σ) H → va_S (AW 37 a) s.heap H locs → lv_has ls 6 [(0, .ref (a 0)), (1, .ref (a (7 + 2 * d1))), (2, .int p2), (3, .int r_2), (4, .int x4_3), (5, .int x5_4)] → W p l e rm_X11_costOfSet s m args below meth c H locs 0 0 Q (F0 m 11 ls []) := by
    intro n
    induction n with
    | zero => intro x4_3 x5_4 H locs ls h; rw [f_X11_costOfSet_L11] at h; cases h
    | succ n ih1 =>
      intro x4_3 x5_4 H locs ls h hP hS hl
      rw [f_X11_costOfSet_L11] at h
      refine lv_iload hx hb dX11_costOfSet_11 (lv_at hl 5 rfl) ?_
      refine lv_iload_n hx hb dX11_costOfSet_13 rfl (lv_at hl 3 rfl) ?_
      refine lv_icmp_ge (tgt := 62) hx hb dX11_costOfSet_14 (by decide) (fun c_5 => ?_) (fun c_5 => ?_)
      · have h := it c_5 h
        exact hX1 x4_3 x5_4 _ _ ls h hP hS (lv_sub hl [4] rfl)
      · have h := ie c_5 h
        refine lv_iload_n hx hb dX11_costOfSet_17 rfl (lv_at hl 2 rfl) ?_
        refine lv_iload hx hb dX11_costOfSet_18 (lv_at hl 5 rfl) ?_
        refine lv_ishr hx hb dX11_costOfSet_20 ?_
        refine lv_iconst (v := 1) hx hb dX11_costOfSet_21 (by decide) ?_
        refine lv_iand hx hb dX11_costOfSet_22 ?_
        refine lv_if_eq (tgt := 56) hx hb dX11_costOfSet_23 (by decide) (fun c_6 => ?_) (fun c_6 => ?_)
        · have h := it c_6 h
          obtain ⟨x5_7, ex5_7, h⟩ := bnd_e h
          refine lv_iinc (v := x5_7) (lv' := [(5, .int x5_7), (0, .ref (a 0)), (1, .ref (a (7 + 2 * d1))), (2, .int p2), (3, .int r_2), (4, .int x4_3)]) hx hb dX11_costOfSet_56 hl (k := 5) rfl (by rw [ex5_7]; rfl) (by decide) rfl (fun ls hl => ?_)
          refine lv_goto (tgt := 11) hx hb dX11_costOfSet_59 (by decide) ?_
          exact ih1 x4_3 x5_7 _ _ ls h hP hS (lv_sub hl [1, 2, 3, 4, 5, 0] rfl)
        · have h := ie c_6 h
          refine lv_iload hx hb dX11_costOfSet_26 (lv_at hl 4 rfl) ?_
          refine lv_aload_n hx hb dX11_costOfSet_28 rfl (lv_at hl 0 rfl) ?_
          refine lv_aload_n hx hb dX11_costOfSet_29 rfl (lv_at hl 1 rfl) ?_
          refine lv_iconst (v := 3) hx hb dX11_costOfSet_30 (by decide) ?_
          refine lv_iload hx hb dX11_costOfSet_31 (lv_at hl 5 rfl) ?_
          refine lv_imul hx hb dX11_costOfSet_33 ?_
          obtain ⟨r_9, h_8, h⟩ := b1_e h
          refine xcall (rV C0 hK hP hl.1 (fun _ _ _ => trivial) Bt_b (c_X5_at hI hk_d1 h_8) cv_X5_at tw607 (rcX5 hK hP hk_d1) (rest := [.ref (a 0), .int x4_3]) rfl (Nat.le_of_ble_eq_true rfl) ⟨rfl, rfl, Nat.le_of_ble_eq_true rfl, Nat.le_of_ble_eq_true rfl⟩ ⟨Nat.zero_le _, Nat.zero_le _⟩ dX11_costOfSet_34) hS (fun H locs hP hS => ?_)
          obtain ⟨r_11, h_10, h⟩ := b1_e h
          refine xcall (rV C0 hK hP hl.1 (fun _ _ _ => trivial) Bt_b (c_X11_kindAt hI h_10) cv_X11_kindAt tw395 (rcX11 hK hP) (rest := [.int x4_3]) rfl (Nat.le_of_ble_eq_true rfl) ⟨rfl, rfl, Nat.le_of_ble_eq_true rfl, Nat.le_of_ble_eq_true rfl⟩ ⟨Nat.zero_le _, Nat.zero_le _⟩ dX11_costOfSet_37) hS (fun H locs hP hS => ?_)
          obtain ⟨hk_12, h⟩ := asr h
          refine lv_aload_n hx hb dX11_costOfSet_40 rfl (lv_at hl 1 rfl) ?_
          refine lv_iconst (v := 3) hx hb dX11_costOfSet_41 (by decide) ?_
          refine lv_iload hx hb dX11_costOfSet_42 (lv_at hl 5 rfl) ?_
          refine lv_imul hx hb dX11_costOfSet_44 ?_
          refine lv_iconst (v := 1) hx hb dX11_costOfSet_45 (by decide) ?_
          refine lv_iadd hx hb dX11_costOfSet_46 ?_
          obtain ⟨r_14, h_13, h⟩ := b1_e h
          refine xcall (rV C0 hK hP hl.1 (fun _ _ _ => trivial) Bt_b (c_X5_at hI hk_d1 h_13) cv_X5_at tw607 (rcX5 hK hP hk_d1) (rest := [.ref (a (27 + r_11)), .int x4_3]) rfl (Nat.le_of_ble_eq_true rfl) ⟨rfl, rfl, Nat.le_of_ble_eq_true rfl, Nat.le_of_ble_eq_true rfl⟩ ⟨Nat.zero_le _, Nat.zero_le _⟩ dX11_costOfSet_47) hS (fun H locs hP hS => ?_)
          obtain ⟨r_16, h_15, h⟩ := b1_e h
          refine xcall (dp_X11_cost hI C0 hK hP hl.1 hk_12 h_15 (rest := [.int x4_3]) rfl (Nat.le_of_ble_eq_true rfl) ⟨Nat.le_of_ble_eq_true rfl, Nat.le_of_ble_eq_true rfl⟩ dX11_costOfSet_50) hS (fun H locs hP hS => ?_)
          refine lv_iadd hx hb dX11_costOfSet_53 ?_
          obtain ⟨x4_17, ex4_17, h⟩ := bnd_e h
          refine nm_i ex4_17 ?_
          refine lv_istore (lv' := [(4, .int x4_17), (0, .ref (a 0)), (1, .ref (a (7 + 2 * d1))), (2, .int p2), (3, .int r_2), (5, .int x5_4)]) hx hb dX11_costOfSet_54 hl (by decide) rfl (fun ls hl => ?_)
          obtain ⟨x5_18, ex5_18, h⟩ := bnd_e h
          refine lv_iinc (v := x5_18) (lv' := [(5, .int x5_18), (4, .int x4_17), (0, .ref (a 0)), (1, .ref (a (7 + 2 * d1))), (2, .int p2), (3, .int r_2)]) hx hb dX11_costOfSet_56 hl (k := 5) rfl (by rw [ex5_18]; rfl) (by decide) rfl (fun ls hl => ?_)
          refine lv_goto (tgt := 11) hx hb dX11_costOfSet_59 (by decide) ?_
          exact ih1 x4_17 x5_18 _ _ ls h hP hS (lv_sub hl [2, 3, 4, 5, 1, 0] rfl)
  exact hL1 5000 0 0 _ _ ls h hP hS (lv_sub hl [3, 4, 5, 2, 1, 0] rfl)
def f_X11_least_L59 (r_7 : Nat) (x5_11 : Int32) : Nat → Int32 → Int32 → Int32 → Int32 → Mem → (Int32 → Int32 → Int32 → Int32 → Mem → Option (Int32 × Mem)) → Option (Int32 × Mem)
  | 0, _, _, _, _, _, _ => none
  | n + 1, x6_14, x7_15, x8_16, x9_17, σ_18, K1 =>
    if x5_11 ≤ x9_17 then
      K1 x6_14 x7_15 x8_16 x9_17 σ_18
    else
      b2 (f_X11_sewSetInMind r_7 x9_17 σ_18) fun r_21 σ_22 =>
      if r_21 = 0 then
        bnd (x9_17 + 1) fun (x9_35 : Int32) =>
        f_X11_least_L59 r_7 x5_11 n x6_14 x7_15 x8_16 x9_35 σ_22 K1
      else
        b1 (f_X0_lacking 2 σ_22) fun r_25 =>
        b1 (f_X11_costOfSet r_7 x9_17 σ_22) fun r_27 =>
        if r_25 < x7_15 then
          bnd (x9_17 + 1) fun (x9_29 : Int32) =>
          f_X11_least_L59 r_7 x5_11 n x9_17 r_25 r_27 x9_29 σ_22 K1
        else
          if r_25 = x7_15 then
            if x8_16 ≤ r_27 then
              bnd (x9_17 + 1) fun (x9_33 : Int32) =>
              f_X11_least_L59 r_7 x5_11 n x6_14 x7_15 x8_16 x9_33 σ_22 K1
            else
              bnd (x9_17 + 1) fun (x9_34 : Int32) =>
              f_X11_least_L59 r_7 x5_11 n x9_17 r_25 r_27 x9_34 σ_22 K1
          else
            bnd (x9_17 + 1) fun (x9_31 : Int32) =>
            f_X11_least_L59 r_7 x5_11 n x6_14 x7_15 x8_16 x9_31 σ_22 K1
def f_X11_least (p1 : Int32) (p2 : Int32) (σ : Mem) : Option (Int32 × Mem) :=
  b1 (f_X11_within p2 0 1) fun r_2 =>
  jn (fun (v_3 : Int32) (σ_4 : Mem) =>
    if v_3 = 0 then
      b1 (f_X11_shelfAt p1) fun r_7 =>
      if r_7 < 9 then
        b1 (f_X11_pinsIn r_7 σ_4) fun r_10 =>
        bnd (1 <<< (r_10 &&& 31)) fun (x5_11 : Int32) =>
        b1 (f_X0_lacking 0 σ_4) fun r_13 =>
        f_X11_least_L59 r_7 x5_11 5000 0 r_13 0 1 σ_4 fun (x6_36 : Int32) (x7_37 : Int32) (u_38 : Int32) (u_39 : Int32) (σ_40 : Mem) =>
          if p2 = 0 then
            some (x6_36, σ_40)
          else
            some (x7_37, σ_40)
      else none
    else
      some (v_3, σ_4)) fun J18 =>
  if r_2 = 0 then
    J18 (-1) σ
  else
    b1 (f_X11_pinsRefusal p1 σ) fun r_44 =>
    J18 r_44 σ
def rm_X11_least : Room := { frames := 7, cells := 0, slots := 0, locals := 163 }
set_option maxHeartbeats 4000000 in
set_option maxRecDepth 100000 in
theorem c_X11_least {l : Launch} {D : va_G} {ca : Nat → ClassId} {a : Nat → Nat} (hI : InjN 37 a) {p1 : Int32} {p2 : Int32} {σ : Mem} {r : Int32} {σ' : Mem}  (h : f_X11_least p1 p2 σ = some (r, σ')) : XMX l D ca a Bt yX11_least cX11_least 12 (some .int) rm_X11_least [.ref (a 0), .int p1, .int p2] σ (some (.int r)) σ' := by
  refine XM.of pn_X11 (Nat.le_of_ble_eq_true rfl) ?_
  intro p e s m args below meth c ls Q hQ C0 hK hB hP hS hl
  have C0 : Cx p s m args meth c RX11 cX11_least 12 (some .int) := C0
  have hx := C0.1
  have hb := C0.2.1
  have hl : lv_has ls 12 [(0, .ref (a 0)), (1, .int p1), (2, .int p2)] := hl
  rw [f_X11_least] at h
  refine lv_iload_n hx hb dX11_least_0 rfl (lv_at hl 2 rfl) ?_
  refine lv_iconst (v := 0) hx hb dX11_least_1 (by decide) ?_
  refine lv_iconst (v := 1) hx hb dX11_least_2 (by decide) ?_
  obtain ⟨r_2, h_1, h⟩ := b1_e h
  refine xcall (rS C0 hK hP hl.1 (fun _ _ _ => trivial) Bt_b (c_X11_within hI h_1) cs_X11_within tw272 (rest := []) rfl (Nat.le_of_ble_eq_true rfl) ⟨rfl, rfl, Nat.le_of_ble_eq_true rfl, Nat.le_of_ble_eq_true rfl⟩ ⟨Nat.zero_le _, Nat.zero_le _⟩ dX11_least_3) hS (fun H locs hP hS => ?_)
  obtain ⟨J18, eJ18, h⟩ := jn_e h
  have hJ18 : ∀ (v_3 : Int32) (σ_4 : Mem) (H : Heap) (locs : List Loc) (ls : Array Slot), J18 v_3 σ_4 = some (r, σ') → va_P D vwCl (wX ca a σ_4) H → va_S (AW 37 a) s.heap H locs → lv_has ls 12 [(0, .ref (a 0)), (1, .int p1), (2, .int p2)] → W p l e rm_X11_least s m args below meth c H locs 0 0 Q (F0 m 18 ls [.int v_3]) := by
    intro v_3 σ_4 H locs ls h hP hS hl
    have h := ap2 eJ18 h
    refine lv_istore_n (lv' := [(3, .int v_3), (0, .ref (a 0)), (1, .int p1), (2, .int p2)]) hx hb dX11_least_18 rfl hl (by decide) rfl (fun ls hl => ?_)
    refine lv_iload_n hx hb dX11_least_19 rfl (lv_at hl 0 rfl) ?_
    refine lv_if_eq (tgt := 25) hx hb dX11_least_20 (by decide) (fun c_5 => ?_) (fun c_5 => ?_)
    · have h := it c_5 h
      refine lv_aload_n hx hb dX11_least_25 rfl (lv_at hl 1 rfl) ?_
      refine lv_iload_n hx hb dX11_least_26 rfl (lv_at hl 2 rfl) ?_
      obtain ⟨r_7, h_6, h⟩ := b1_e h
      refine xcall (rV C0 hK hP hl.1 (fun _ _ _ => trivial) Bt_b (c_X11_shelfAt hI h_6) cv_X11_shelfAt tw275 (rcX11 hK hP) (rest := []) rfl (Nat.le_of_ble_eq_true rfl) ⟨rfl, rfl, Nat.le_of_ble_eq_true rfl, Nat.le_of_ble_eq_true rfl⟩ ⟨Nat.zero_le _, Nat.zero_le _⟩ dX11_least_27) hS (fun H locs hP hS => ?_)
      obtain ⟨hk_8, h⟩ := asr h
      refine lv_astore (lv' := [(4, .ref (a (7 + 2 * r_7))), (3, .int v_3), (0, .ref (a 0)), (1, .int p1), (2, .int p2)]) hx hb dX11_least_30 hl (by decide) rfl (fun ls hl => ?_)
      refine lv_iconst (v := 1) hx hb dX11_least_32 (by decide) ?_
      refine lv_aload hx hb dX11_least_33 (lv_at hl 0 rfl) ?_
      obtain ⟨r_10, h_9, h⟩ := b1_e h
      refine xcall (rS C0 hK hP hl.1 (fun _ _ _ => trivial) Bt_b (c_X11_pinsIn hI hk_8 h_9) cs_X11_pinsIn tw608 (rest := [.int 1]) rfl (Nat.le_of_ble_eq_true rfl) ⟨rfl, rfl, Nat.le_of_ble_eq_true rfl, Nat.le_of_ble_eq_true rfl⟩ ⟨Nat.zero_le _, Nat.zero_le _⟩ dX11_least_35) hS (fun H locs hP hS => ?_)
      refine lv_ishl hx hb dX11_least_38 ?_
      obtain ⟨x5_11, ex5_11, h⟩ := bnd_e h
      refine nm_i ex5_11 ?_
      refine lv_istore (lv' := [(5, .int x5_11), (4, .ref (a (7 + 2 * r_7))), (3, .int v_3), (0, .ref (a 0)), (1, .int p1), (2, .int p2)]) hx hb dX11_least_39 hl (by decide) rfl (fun ls hl => ?_)
      refine lv_iconst (v := 0) hx hb dX11_least_41 (by decide) ?_
      refine lv_istore (lv' := [(6, .int 0), (5, .int x5_11), (4, .ref (a (7 + 2 * r_7))), (3, .int v_3), (0, .ref (a 0)), (1, .int p1), (2, .int p2)]) hx hb dX11_least_42 hl (by decide) rfl (fun ls hl => ?_)
      refine lv_aload_n hx hb dX11_least_44 rfl (lv_at hl 4 rfl) ?_
      refine gX11_0 C0 hK hP tw233 dX11_least_45 ?_
      obtain ⟨r_13, h_12, h⟩ := b1_e h
      refine xcall (rV C0 hK hP hl.1 (fun _ _ _ => trivial) Bt_b (c_X0_lacking hI (by decide) h_12) cv_X0_lacking tw556 (rcX0 hK hP (by decide)) (rest := []) rfl (Nat.le_of_ble_eq_true rfl) ⟨rfl, rfl, Nat.le_of_ble_eq_true rfl, Nat.le_of_ble_eq_true rfl⟩ ⟨Nat.zero_le _, Nat.zero_le _⟩ dX11_least_48) hS (fun H locs hP hS => ?_)
      refine lv_istore (lv' := [(7, .int r_13), (6, .int 0), (5, .int x5_11), (4, .ref (a (7 + 2 * r_7))), (3, .int v_3), (0, .ref (a 0)), (1, .int p1), (2, .int p2)]) hx hb dX11_least_51 hl (by decide) rfl (fun ls hl => ?_)
      refine lv_iconst (v := 0) hx hb dX11_least_53 (by decide) ?_
      refine lv_istore (lv' := [(8, .int 0), (7, .int r_13), (6, .int 0), (5, .int x5_11), (4, .ref (a (7 + 2 * r_7))), (3, .int v_3), (0, .ref (a 0)), (1, .int p1), (2, .int p2)]) hx hb dX11_least_54 hl (by decide) rfl (fun ls hl => ?_)
      refine lv_iconst (v := 1) hx hb dX11_least_56 (by decide) ?_
      refine lv_istore (lv' := [(9, .int 1), (8, .int 0), (7, .int r_13), (6, .int 0), (5, .int x5_11), (4, .ref (a (7 + 2 * r_7))), (3, .int v_3), (0, .ref (a 0)), (1, .int p1), (2, .int p2)]) hx hb dX11_least_57 hl (by decide) rfl (fun ls hl => ?_)
      obtain ⟨K1, eK1, h⟩ := lp_e (f := fun K => f_X11_least_L59 r_7 x5_11 5000 0 r_13 0 1 σ_4 K) h
      have h : f_X11_least_L59 r_7 x5_11 5000 0 r_13 0 1 σ_4 K1 = some (r, σ') := h
      have hX1 : ∀ (x6_36 : Int32) (x7_37 : Int32) (u_38 : Int32) (u_39 : Int32) (σ_40 : Mem) (H : Heap) (locs : List Loc) (ls : Array Slot), K1 x6_36 x7_37 u_38 u_39 σ_40 = some (r, σ') → va_P D vwCl (wX ca a σ_40) H → va_S (AW 37 a) s.heap H locs → lv_has ls 12 [(2, .int p2), (6, .int x6_36), (7, .int x7_37)] → W p l e rm_X11_least s m args below meth c H locs 0 0 Q (F0 m 138 ls []) := by
        intro x6_36 x7_37 u_38 u_39 σ_40 H locs ls h hP hS hl
        have h := ap5 eK1 h
        refine lv_iload_n hx hb dX11_least_138 rfl (lv_at hl 0 rfl) ?_
        refine lv_if_ne (tgt := 147) hx hb dX11_least_139 (by decide) (fun c_41 => ?_) (fun c_41 => ?_)
        · have h := ie c_41 h
          refine lv_iload hx hb dX11_least_147 (lv_at hl 2 rfl) ?_
          rw [hQ]
          exact xzret C0 hP hS rfl h dX11_least_149
        · have h := it c_41 h
          refine lv_iload hx hb dX11_least_142 (lv_at hl 1 rfl) ?_
          refine lv_goto (tgt := 149) hx hb dX11_least_144 (by decide) ?_
          rw [hQ]
          exact xzret C0 hP hS rfl h dX11_least_149
      have hL1 : ∀ (n : Nat) (x6_14 : Int32) (x7_15 : Int32) (x8_16 : Int32) (x9_17 : Int32) (σ_18 : Mem) (H : Heap) (locs : List Loc) (ls : Array Slot), f_X11_least_L59 r_7 x5_11 n x6_14 x7_15 x8_16 x9_17 σ_18 K1 = some (r, σ') → va_P D vwCl (wX ca a σ_18) H → va_S (AW 37 a) s.heap H locs → lv_has ls 12 [(0, .ref (a 0)), (2, .int p2), (4, .ref (a (7 + 2 * r_7))), (5, .int x5_11), (6, .int x6_14), (7, .int x7_15), (8, .int x8_16), (9, .int x9_17)] → W p l e rm_X11_least s m args below meth c H locs 0 0 Q (F0 m 59 ls []) := by
        intro n
        induction n with
        | zero => intro x6_14 x7_15 x8_16 x9_17 σ_18 H locs ls h; rw [f_X11_least_L59] at h; cases h
        | succ n ih1 =>
          intro x6_14 x7_15 x8_16 x9_17 σ_18 H locs ls h hP hS hl
          rw [f_X11_least_L59] at h
          refine lv_iload hx hb dX11_least_59 (lv_at hl 7 rfl) ?_
          refine lv_iload hx hb dX11_least_61 (lv_at hl 3 rfl) ?_
          refine lv_icmp_ge (tgt := 138) hx hb dX11_least_63 (by decide) (fun c_19 => ?_) (fun c_19 => ?_)
          · have h := it c_19 h
            exact hX1 x6_14 x7_15 x8_16 x9_17 σ_18 _ _ ls h hP hS (lv_sub hl [1, 4, 5] rfl)
          · have h := ie c_19 h
            refine lv_aload_n hx hb dX11_least_66 rfl (lv_at hl 0 rfl) ?_
            refine lv_aload hx hb dX11_least_67 (lv_at hl 2 rfl) ?_
            refine lv_iload hx hb dX11_least_69 (lv_at hl 7 rfl) ?_
            obtain ⟨r_21, σ_22, h_20, h⟩ := b2_e h
            refine xcall (rV C0 hK hP hl.1 (fun _ _ _ => trivial) Bt_b (c_X11_sewSetInMind hI hk_8 h_20) cv_X11_sewSetInMind tw611 (rcX11 hK hP) (rest := []) rfl (Nat.le_of_ble_eq_true rfl) ⟨rfl, rfl, Nat.le_of_ble_eq_true rfl, Nat.le_of_ble_eq_true rfl⟩ ⟨Nat.zero_le _, Nat.zero_le _⟩ dX11_least_71) hS (fun H locs hP hS => ?_)
            refine lv_if_ne (tgt := 80) hx hb dX11_least_74 (by decide) (fun c_23 => ?_) (fun c_23 => ?_)
            · have h := ie c_23 h
              refine lv_aload_n hx hb dX11_least_80 rfl (lv_at hl 0 rfl) ?_
              refine gX11_2 C0 hK hP tw235 dX11_least_81 ?_
              obtain ⟨r_25, h_24, h⟩ := b1_e h
              refine xcall (rV C0 hK hP hl.1 (fun _ _ _ => trivial) Bt_b (c_X0_lacking hI (by decide) h_24) cv_X0_lacking tw556 (rcX0 hK hP (by decide)) (rest := []) rfl (Nat.le_of_ble_eq_true rfl) ⟨rfl, rfl, Nat.le_of_ble_eq_true rfl, Nat.le_of_ble_eq_true rfl⟩ ⟨Nat.zero_le _, Nat.zero_le _⟩ dX11_least_84) hS (fun H locs hP hS => ?_)
              refine lv_istore (lv' := [(10, .int r_25), (0, .ref (a 0)), (2, .int p2), (4, .ref (a (7 + 2 * r_7))), (5, .int x5_11), (6, .int x6_14), (7, .int x7_15), (8, .int x8_16), (9, .int x9_17)]) hx hb dX11_least_87 hl (by decide) rfl (fun ls hl => ?_)
              refine lv_aload_n hx hb dX11_least_89 rfl (lv_at hl 1 rfl) ?_
              refine lv_aload hx hb dX11_least_90 (lv_at hl 3 rfl) ?_
              refine lv_iload hx hb dX11_least_92 (lv_at hl 8 rfl) ?_
              obtain ⟨r_27, h_26, h⟩ := b1_e h
              refine xcall (rV C0 hK hP hl.1 (fun _ _ _ => trivial) Bt_b (c_X11_costOfSet hI hk_8 h_26) cv_X11_costOfSet tw619 (rcX11 hK hP) (rest := []) rfl (Nat.le_of_ble_eq_true rfl) ⟨rfl, rfl, Nat.le_of_ble_eq_true rfl, Nat.le_of_ble_eq_true rfl⟩ ⟨Nat.zero_le _, Nat.zero_le _⟩ dX11_least_94) hS (fun H locs hP hS => ?_)
              refine lv_istore (lv' := [(11, .int r_27), (10, .int r_25), (0, .ref (a 0)), (2, .int p2), (4, .ref (a (7 + 2 * r_7))), (5, .int x5_11), (6, .int x6_14), (7, .int x7_15), (8, .int x8_16), (9, .int x9_17)]) hx hb dX11_least_97 hl (by decide) rfl (fun ls hl => ?_)
              refine lv_iload hx hb dX11_least_99 (lv_at hl 1 rfl) ?_
              refine lv_iload hx hb dX11_least_101 (lv_at hl 7 rfl) ?_
              refine lv_icmp_lt (tgt := 120) hx hb dX11_least_103 (by decide) (fun c_28 => ?_) (fun c_28 => ?_)
              · have h := it c_28 h
                refine lv_iload hx hb dX11_least_120 (lv_at hl 9 rfl) ?_
                refine lv_istore (lv' := [(6, .int x9_17), (11, .int r_27), (10, .int r_25), (0, .ref (a 0)), (2, .int p2), (4, .ref (a (7 + 2 * r_7))), (5, .int x5_11), (7, .int x7_15), (8, .int x8_16), (9, .int x9_17)]) hx hb dX11_least_122 hl (by decide) rfl (fun ls hl => ?_)
                refine lv_iload hx hb dX11_least_124 (lv_at hl 2 rfl) ?_
                refine lv_istore (lv' := [(7, .int r_25), (6, .int x9_17), (11, .int r_27), (10, .int r_25), (0, .ref (a 0)), (2, .int p2), (4, .ref (a (7 + 2 * r_7))), (5, .int x5_11), (8, .int x8_16), (9, .int x9_17)]) hx hb dX11_least_126 hl (by decide) rfl (fun ls hl => ?_)
                refine lv_iload hx hb dX11_least_128 (lv_at hl 2 rfl) ?_
                refine lv_istore (lv' := [(8, .int r_27), (7, .int r_25), (6, .int x9_17), (11, .int r_27), (10, .int r_25), (0, .ref (a 0)), (2, .int p2), (4, .ref (a (7 + 2 * r_7))), (5, .int x5_11), (9, .int x9_17)]) hx hb dX11_least_130 hl (by decide) rfl (fun ls hl => ?_)
                obtain ⟨x9_29, ex9_29, h⟩ := bnd_e h
                refine lv_iinc (v := x9_29) (lv' := [(9, .int x9_29), (8, .int r_27), (7, .int r_25), (6, .int x9_17), (11, .int r_27), (10, .int r_25), (0, .ref (a 0)), (2, .int p2), (4, .ref (a (7 + 2 * r_7))), (5, .int x5_11)]) hx hb dX11_least_132 hl (k := 9) rfl (by rw [ex9_29]; rfl) (by decide) rfl (fun ls hl => ?_)
                refine lv_goto (tgt := 59) hx hb dX11_least_135 (by decide) ?_
                exact ih1 x9_17 r_25 r_27 x9_29 σ_22 _ _ ls h hP hS (lv_sub hl [6, 7, 8, 9, 3, 2, 1, 0] rfl)
              · have h := ie c_28 h
                refine lv_iload hx hb dX11_least_106 (lv_at hl 1 rfl) ?_
                refine lv_iload hx hb dX11_least_108 (lv_at hl 7 rfl) ?_
                refine lv_icmp_ne (tgt := 132) hx hb dX11_least_110 (by decide) (fun c_30 => ?_) (fun c_30 => ?_)
                · have h := ie c_30 h
                  obtain ⟨x9_31, ex9_31, h⟩ := bnd_e h
                  refine lv_iinc (v := x9_31) (lv' := [(9, .int x9_31), (11, .int r_27), (10, .int r_25), (0, .ref (a 0)), (2, .int p2), (4, .ref (a (7 + 2 * r_7))), (5, .int x5_11), (6, .int x6_14), (7, .int x7_15), (8, .int x8_16)]) hx hb dX11_least_132 hl (k := 9) rfl (by rw [ex9_31]; rfl) (by decide) rfl (fun ls hl => ?_)
                  refine lv_goto (tgt := 59) hx hb dX11_least_135 (by decide) ?_
                  exact ih1 x6_14 x7_15 x8_16 x9_31 σ_22 _ _ ls h hP hS (lv_sub hl [3, 4, 5, 6, 7, 8, 9, 0] rfl)
                · have h := it c_30 h
                  refine lv_iload hx hb dX11_least_113 (lv_at hl 0 rfl) ?_
                  refine lv_iload hx hb dX11_least_115 (lv_at hl 8 rfl) ?_
                  refine lv_icmp_ge (tgt := 132) hx hb dX11_least_117 (by decide) (fun c_32 => ?_) (fun c_32 => ?_)
                  · have h := it c_32 h
                    obtain ⟨x9_33, ex9_33, h⟩ := bnd_e h
                    refine lv_iinc (v := x9_33) (lv' := [(9, .int x9_33), (11, .int r_27), (10, .int r_25), (0, .ref (a 0)), (2, .int p2), (4, .ref (a (7 + 2 * r_7))), (5, .int x5_11), (6, .int x6_14), (7, .int x7_15), (8, .int x8_16)]) hx hb dX11_least_132 hl (k := 9) rfl (by rw [ex9_33]; rfl) (by decide) rfl (fun ls hl => ?_)
                    refine lv_goto (tgt := 59) hx hb dX11_least_135 (by decide) ?_
                    exact ih1 x6_14 x7_15 x8_16 x9_33 σ_22 _ _ ls h hP hS (lv_sub hl [3, 4, 5, 6, 7, 8, 9, 0] rfl)
                  · have h := ie c_32 h
                    refine lv_iload hx hb dX11_least_120 (lv_at hl 9 rfl) ?_
                    refine lv_istore (lv' := [(6, .int x9_17), (11, .int r_27), (10, .int r_25), (0, .ref (a 0)), (2, .int p2), (4, .ref (a (7 + 2 * r_7))), (5, .int x5_11), (7, .int x7_15), (8, .int x8_16), (9, .int x9_17)]) hx hb dX11_least_122 hl (by decide) rfl (fun ls hl => ?_)
                    refine lv_iload hx hb dX11_least_124 (lv_at hl 2 rfl) ?_
                    refine lv_istore (lv' := [(7, .int r_25), (6, .int x9_17), (11, .int r_27), (10, .int r_25), (0, .ref (a 0)), (2, .int p2), (4, .ref (a (7 + 2 * r_7))), (5, .int x5_11), (8, .int x8_16), (9, .int x9_17)]) hx hb dX11_least_126 hl (by decide) rfl (fun ls hl => ?_)
                    refine lv_iload hx hb dX11_least_128 (lv_at hl 2 rfl) ?_
                    refine lv_istore (lv' := [(8, .int r_27), (7, .int r_25), (6, .int x9_17), (11, .int r_27), (10, .int r_25), (0, .ref (a 0)), (2, .int p2), (4, .ref (a (7 + 2 * r_7))), (5, .int x5_11), (9, .int x9_17)]) hx hb dX11_least_130 hl (by decide) rfl (fun ls hl => ?_)
                    obtain ⟨x9_34, ex9_34, h⟩ := bnd_e h
                    refine lv_iinc (v := x9_34) (lv' := [(9, .int x9_34), (8, .int r_27), (7, .int r_25), (6, .int x9_17), (11, .int r_27), (10, .int r_25), (0, .ref (a 0)), (2, .int p2), (4, .ref (a (7 + 2 * r_7))), (5, .int x5_11)]) hx hb dX11_least_132 hl (k := 9) rfl (by rw [ex9_34]; rfl) (by decide) rfl (fun ls hl => ?_)
                    refine lv_goto (tgt := 59) hx hb dX11_least_135 (by decide) ?_
                    exact ih1 x9_17 r_25 r_27 x9_34 σ_22 _ _ ls h hP hS (lv_sub hl [6, 7, 8, 9, 3, 2, 1, 0] rfl)
            · have h := it c_23 h
              refine lv_goto (tgt := 132) hx hb dX11_least_77 (by decide) ?_
              obtain ⟨x9_35, ex9_35, h⟩ := bnd_e h
              refine lv_iinc (v := x9_35) (lv' := [(9, .int x9_35), (0, .ref (a 0)), (2, .int p2), (4, .ref (a (7 + 2 * r_7))), (5, .int x5_11), (6, .int x6_14), (7, .int x7_15), (8, .int x8_16)]) hx hb dX11_least_132 hl (k := 7) rfl (by rw [ex9_35]; rfl) (by decide) rfl (fun ls hl => ?_)
              refine lv_goto (tgt := 59) hx hb dX11_least_135 (by decide) ?_
              exact ih1 x6_14 x7_15 x8_16 x9_35 σ_22 _ _ ls h hP hS (lv_sub hl [1, 2, 3, 4, 5, 6, 7, 0] rfl)
      exact hL1 5000 0 r_13 0 1 σ_4 _ _ ls h hP hS (lv_sub hl [7, 9, 5, 4, 3, 2, 1, 0] rfl)
    · have h := ie c_5 h
      refine lv_iload_n hx hb dX11_least_23 rfl (lv_at hl 0 rfl) ?_
      rw [hQ]
      exact xzret C0 hP hS rfl h dX11_least_24
  refine lv_if_eq (tgt := 17) hx hb dX11_least_6 (by decide) (fun c_42 => ?_) (fun c_42 => ?_)
  · have h := it c_42 h
    refine lv_iconst (v := (-1)) hx hb dX11_least_17 (by decide) ?_
    exact hJ18 (-1) σ _ _ ls h hP hS (lv_sub hl [0, 1, 2] rfl)
  · have h := ie c_42 h
    refine lv_aload_n hx hb dX11_least_9 rfl (lv_at hl 0 rfl) ?_
    refine lv_iload_n hx hb dX11_least_10 rfl (lv_at hl 1 rfl) ?_
    obtain ⟨r_44, h_43, h⟩ := b1_e h
    refine xcall (rV C0 hK hP hl.1 (fun _ _ _ => trivial) Bt_b (c_X11_pinsRefusal hI h_43) cv_X11_pinsRefusal tw599 (rcX11 hK hP) (rest := []) rfl (Nat.le_of_ble_eq_true rfl) ⟨rfl, rfl, Nat.le_of_ble_eq_true rfl, Nat.le_of_ble_eq_true rfl⟩ ⟨Nat.zero_le _, Nat.zero_le _⟩ dX11_least_11) hS (fun H locs hP hS => ?_)
    refine lv_goto (tgt := 18) hx hb dX11_least_14 (by decide) ?_
    exact hJ18 r_44 σ _ _ ls h hP hS (lv_sub hl [0, 1, 2] rfl)
def f_X11_first_L38 (r_5 : Nat) (r_8 : Int32) : Nat → Int32 → Mem → (Int32 → Mem → Option (Int32 × Mem)) → Option (Int32 × Mem)
  | 0, _, _, _ => none
  | n + 1, x5_11, σ_12, K1 =>
    if r_8 ≤ x5_11 then
      K1 x5_11 σ_12
    else
      b2 (f_X11_sewPinOfRow 2 r_5 x5_11 σ_12) fun r_15 σ_16 =>
      if r_15 = 0 then
        some (x5_11, σ_16)
      else
        bnd (x5_11 + 1) fun (x5_18 : Int32) =>
        f_X11_first_L38 r_5 r_8 n x5_18 σ_16 K1
def f_X11_first (p1 : Int32) (σ : Mem) : Option (Int32 × Mem) :=
  b1 (f_X11_pinsRefusal p1 σ) fun r_2 =>
  if r_2 = 0 then
    b1 (f_X11_shelfAt p1) fun r_5 =>
    if r_5 < 9 then
      b1 (f_X11_pinsIn r_5 σ) fun r_8 =>
      b1 (f_X0_becomeLike 2 0 σ) fun σ_10 =>
      f_X11_first_L38 r_5 r_8 5000 0 σ_10 fun (u_19 : Int32) (σ_20 : Mem) =>
        some ((-4), σ_20)
    else none
  else
    some (r_2, σ)
def rm_X11_first : Room := { frames := 6, cells := 0, slots := 0, locals := 139 }
set_option maxHeartbeats 4000000 in
set_option maxRecDepth 100000 in
theorem c_X11_first {l : Launch} {D : va_G} {ca : Nat → ClassId} {a : Nat → Nat} (hI : InjN 37 a) {p1 : Int32} {σ : Mem} {r : Int32} {σ' : Mem}  (h : f_X11_first p1 σ = some (r, σ')) : XMX l D ca a Bt yX11_first cX11_first 6 (some .int) rm_X11_first [.ref (a 0), .int p1] σ (some (.int r)) σ' := by
  refine XM.of pn_X11 (Nat.le_of_ble_eq_true rfl) ?_
  intro p e s m args below meth c ls Q hQ C0 hK hB hP hS hl
  have C0 : Cx p s m args meth c RX11 cX11_first 6 (some .int) := C0
  have hx := C0.1
  have hb := C0.2.1
  have hl : lv_has ls 6 [(0, .ref (a 0)), (1, .int p1)] := hl
  rw [f_X11_first] at h
  refine lv_aload_n hx hb dX11_first_0 rfl (lv_at hl 0 rfl) ?_
  refine lv_iload_n hx hb dX11_first_1 rfl (lv_at hl 1 rfl) ?_
  obtain ⟨r_2, h_1, h⟩ := b1_e h
  refine xcall (rV C0 hK hP hl.1 (fun _ _ _ => trivial) Bt_b (c_X11_pinsRefusal hI h_1) cv_X11_pinsRefusal tw599 (rcX11 hK hP) (rest := []) rfl (Nat.le_of_ble_eq_true rfl) ⟨rfl, rfl, Nat.le_of_ble_eq_true rfl, Nat.le_of_ble_eq_true rfl⟩ ⟨Nat.zero_le _, Nat.zero_le _⟩ dX11_first_2) hS (fun H locs hP hS => ?_)
  refine lv_istore_n (lv' := [(2, .int r_2), (0, .ref (a 0)), (1, .int p1)]) hx hb dX11_first_5 rfl hl (by decide) rfl (fun ls hl => ?_)
  refine lv_iload_n hx hb dX11_first_6 rfl (lv_at hl 0 rfl) ?_
  refine lv_if_eq (tgt := 12) hx hb dX11_first_7 (by decide) (fun c_3 => ?_) (fun c_3 => ?_)
  · have h := it c_3 h
    refine lv_aload_n hx hb dX11_first_12 rfl (lv_at hl 1 rfl) ?_
    refine lv_iload_n hx hb dX11_first_13 rfl (lv_at hl 2 rfl) ?_
    obtain ⟨r_5, h_4, h⟩ := b1_e h
    refine xcall (rV C0 hK hP hl.1 (fun _ _ _ => trivial) Bt_b (c_X11_shelfAt hI h_4) cv_X11_shelfAt tw275 (rcX11 hK hP) (rest := []) rfl (Nat.le_of_ble_eq_true rfl) ⟨rfl, rfl, Nat.le_of_ble_eq_true rfl, Nat.le_of_ble_eq_true rfl⟩ ⟨Nat.zero_le _, Nat.zero_le _⟩ dX11_first_14) hS (fun H locs hP hS => ?_)
    obtain ⟨hk_6, h⟩ := asr h
    refine lv_astore_n (lv' := [(3, .ref (a (7 + 2 * r_5))), (2, .int r_2), (0, .ref (a 0)), (1, .int p1)]) hx hb dX11_first_17 rfl hl (by decide) rfl (fun ls hl => ?_)
    refine lv_aload_n hx hb dX11_first_18 rfl (lv_at hl 0 rfl) ?_
    obtain ⟨r_8, h_7, h⟩ := b1_e h
    refine xcall (rS C0 hK hP hl.1 (fun _ _ _ => trivial) Bt_b (c_X11_pinsIn hI hk_6 h_7) cs_X11_pinsIn tw608 (rest := []) rfl (Nat.le_of_ble_eq_true rfl) ⟨rfl, rfl, Nat.le_of_ble_eq_true rfl, Nat.le_of_ble_eq_true rfl⟩ ⟨Nat.zero_le _, Nat.zero_le _⟩ dX11_first_19) hS (fun H locs hP hS => ?_)
    refine lv_istore (lv' := [(4, .int r_8), (3, .ref (a (7 + 2 * r_5))), (2, .int r_2), (0, .ref (a 0)), (1, .int p1)]) hx hb dX11_first_22 hl (by decide) rfl (fun ls hl => ?_)
    refine lv_aload_n hx hb dX11_first_24 rfl (lv_at hl 3 rfl) ?_
    refine gX11_2 C0 hK hP tw235 dX11_first_25 ?_
    refine lv_aload_n hx hb dX11_first_28 rfl (lv_at hl 3 rfl) ?_
    refine gX11_0 C0 hK hP tw233 dX11_first_29 ?_
    obtain ⟨σ_10, h_9, h⟩ := b1_e h
    refine xcall (rV C0 hK hP hl.1 (fun _ _ _ => trivial) Bt_b (c_X0_becomeLike hI (by decide) (by decide) h_9) cv_X0_becomeLike tw368 (rcX0 hK hP (by decide)) (rest := []) rfl (Nat.le_of_ble_eq_true rfl) ⟨rfl, rfl, Nat.le_of_ble_eq_true rfl, Nat.le_of_ble_eq_true rfl⟩ ⟨Nat.zero_le _, Nat.zero_le _⟩ dX11_first_32) hS (fun H locs hP hS => ?_)
    refine lv_iconst (v := 0) hx hb dX11_first_35 (by decide) ?_
    refine lv_istore (lv' := [(5, .int 0), (4, .int r_8), (3, .ref (a (7 + 2 * r_5))), (2, .int r_2), (0, .ref (a 0)), (1, .int p1)]) hx hb dX11_first_36 hl (by decide) rfl (fun ls hl => ?_)
    obtain ⟨K1, eK1, h⟩ := lp_e (f := fun K => f_X11_first_L38 r_5 r_8 5000 0 σ_10 K) h
    have h : f_X11_first_L38 r_5 r_8 5000 0 σ_10 K1 = some (r, σ') := h
    have hX1 : ∀ (u_19 : Int32) (σ_20 : Mem) (H : Heap) (locs : List Loc) (ls : Array Slot), K1 u_19 σ_20 = some (r, σ') → va_P D vwCl (wX ca a σ_20) H → va_S (AW 37 a) s.heap H locs → lv_has ls 6 [] → W p l e rm_X11_first s m args below meth c H locs 0 0 Q (F0 m 68 ls []) := by
      intro u_19 σ_20 H locs ls h hP hS hl
      have h := ap2 eK1 h
      refine lv_bipush (v := (-4)) hx hb dX11_first_68 (by decide) ?_
      rw [hQ]
      exact xzret C0 hP hS rfl h dX11_first_70
    have hL1 : ∀ (n : Nat) (x5_11 : Int32) (σ_12 : Mem) (H : Heap) (locs : List Loc) (ls : Array Slot), f_X11_first_L38 r_5 r_8 n x5_11 σ_12 K1 = some (r, σ') → va_P D vwCl (wX ca a σ_12) H → va_S (AW 37 a) s.heap H locs → lv_has ls 6 [(0, .ref (a 0)), (3, .ref (a (7 + 2 * r_5))), (4, .int r_8), (5, .int x5_11)] → W p l e rm_X11_first s m args below meth c H locs 0 0 Q (F0 m 38 ls []) := by
      intro n
      induction n with
      | zero => intro x5_11 σ_12 H locs ls h; rw [f_X11_first_L38] at h; cases h
      | succ n ih1 =>
        intro x5_11 σ_12 H locs ls h hP hS hl
        rw [f_X11_first_L38] at h
        refine lv_iload hx hb dX11_first_38 (lv_at hl 3 rfl) ?_
        refine lv_iload hx hb dX11_first_40 (lv_at hl 2 rfl) ?_
        refine lv_icmp_ge (tgt := 68) hx hb dX11_first_42 (by decide) (fun c_13 => ?_) (fun c_13 => ?_)
        · have h := it c_13 h
          exact hX1 x5_11 σ_12 _ _ ls h hP hS (lv_sub hl [] rfl)
        · have h := ie c_13 h
          refine lv_aload_n hx hb dX11_first_45 rfl (lv_at hl 0 rfl) ?_
          refine lv_aload_n hx hb dX11_first_46 rfl (lv_at hl 0 rfl) ?_
          refine gX11_2 C0 hK hP tw235 dX11_first_47 ?_
          refine lv_aload_n hx hb dX11_first_50 rfl (lv_at hl 1 rfl) ?_
          refine lv_iload hx hb dX11_first_51 (lv_at hl 3 rfl) ?_
          obtain ⟨r_15, σ_16, h_14, h⟩ := b2_e h
          refine xcall (rV C0 hK hP hl.1 (fun _ _ _ => trivial) Bt_b (c_X11_sewPinOfRow hI (by decide) hk_6 h_14) cv_X11_sewPinOfRow tw615 (rcX11 hK hP) (rest := []) rfl (Nat.le_of_ble_eq_true rfl) ⟨rfl, rfl, Nat.le_of_ble_eq_true rfl, Nat.le_of_ble_eq_true rfl⟩ ⟨Nat.zero_le _, Nat.zero_le _⟩ dX11_first_53) hS (fun H locs hP hS => ?_)
          refine lv_if_ne (tgt := 62) hx hb dX11_first_56 (by decide) (fun c_17 => ?_) (fun c_17 => ?_)
          · have h := ie c_17 h
            obtain ⟨x5_18, ex5_18, h⟩ := bnd_e h
            refine lv_iinc (v := x5_18) (lv' := [(5, .int x5_18), (0, .ref (a 0)), (3, .ref (a (7 + 2 * r_5))), (4, .int r_8)]) hx hb dX11_first_62 hl (k := 3) rfl (by rw [ex5_18]; rfl) (by decide) rfl (fun ls hl => ?_)
            refine lv_goto (tgt := 38) hx hb dX11_first_65 (by decide) ?_
            exact ih1 x5_18 σ_16 _ _ ls h hP hS (lv_sub hl [1, 2, 3, 0] rfl)
          · have h := it c_17 h
            refine lv_iload hx hb dX11_first_59 (lv_at hl 3 rfl) ?_
            rw [hQ]
            exact xzret C0 hP hS rfl h dX11_first_61
    exact hL1 5000 0 σ_10 _ _ ls h hP hS (lv_sub hl [4, 2, 1, 0] rfl)
  · have h := ie c_3 h
    refine lv_iload_n hx hb dX11_first_10 rfl (lv_at hl 0 rfl) ?_
    rw [hQ]
    exact xzret C0 hP hS rfl h dX11_first_11
def f_X11_unusedPlace_L4 (p1 : Int32) (p2 : Int32) : Nat → Int32 → Int32 → (Int32 → Int32 → Option (Int32)) → Option (Int32)
  | 0, _, _, _ => none
  | n + 1, x2_1, x3_2, K1 =>
    if 6 ≤ x3_2 then
      K1 x2_1 x3_2
    else
      if ((p1 >>> (x3_2 &&& 31)) &&& 1) = 0 then
        if x2_1 = p2 then
          some x3_2
        else
          bnd (x2_1 + 1) fun (x2_7 : Int32) =>
          bnd (x3_2 + 1) fun (x3_8 : Int32) =>
          f_X11_unusedPlace_L4 p1 p2 n x2_7 x3_8 K1
      else
        bnd (x3_2 + 1) fun (x3_5 : Int32) =>
        f_X11_unusedPlace_L4 p1 p2 n x2_1 x3_5 K1
def f_X11_unusedPlace (p1 : Int32) (p2 : Int32) : Option (Int32) :=
  f_X11_unusedPlace_L4 p1 p2 5000 0 0 fun (u_9 : Int32) (u_10 : Int32) =>
    some 0
def rm_X11_unusedPlace : Room := { frames := 0, cells := 0, slots := 0, locals := 0 }
set_option maxHeartbeats 4000000 in
set_option maxRecDepth 100000 in
theorem c_X11_unusedPlace {l : Launch} {D : va_G} {ca : Nat → ClassId} {a : Nat → Nat} (hI : InjN 37 a) {p1 : Int32} {p2 : Int32} {σ : Mem} {r : Int32}  (h : f_X11_unusedPlace p1 p2 = some r) : XMX l D ca a Bt yX11_unusedPlace cX11_unusedPlace 4 (some .int) rm_X11_unusedPlace [.int p1, .int p2] σ (some (.int r)) σ := by
  refine XM.of pn_X11 (Nat.le_of_ble_eq_true rfl) ?_
  intro p e s m args below meth c ls Q hQ C0 hK hB hP hS hl
  have C0 : Cx p s m args meth c RX11 cX11_unusedPlace 4 (some .int) := C0
  have hx := C0.1
  have hb := C0.2.1
  have hl : lv_has ls 4 [(0, .int p1), (1, .int p2)] := hl
  rw [f_X11_unusedPlace] at h
  refine lv_iconst (v := 0) hx hb dX11_unusedPlace_0 (by decide) ?_
  refine lv_istore_n (lv' := [(2, .int 0), (0, .int p1), (1, .int p2)]) hx hb dX11_unusedPlace_1 rfl hl (by decide) rfl (fun ls hl => ?_)
  refine lv_iconst (v := 0) hx hb dX11_unusedPlace_2 (by decide) ?_
  refine lv_istore_n (lv' := [(3, .int 0), (2, .int 0), (0, .int p1), (1, .int p2)]) hx hb dX11_unusedPlace_3 rfl hl (by decide) rfl (fun ls hl => ?_)
  obtain ⟨K1, eK1, h⟩ := lp_e (f := fun K => f_X11_unusedPlace_L4 p1 p2 5000 0 0 K) h
  have h : f_X11_unusedPlace_L4 p1 p2 5000 0 0 K1 = some r := h
  have hX1 : ∀ (u_9 : Int32) (u_10 : Int32) (H : Heap) (locs : List Loc) (ls : Array Slot), K1 u_9 u_10 = some r → va_P D vwCl (wX ca a σ) H → va_S (AW 37 a) s.heap H locs → lv_has ls 4 [] → W p l e rm_X11_unusedPlace s m args below meth c H locs 0 0 Q (F0 m 34 ls []) := by
    intro u_9 u_10 H locs ls h hP hS hl
    have h := ap2 eK1 h
    refine lv_iconst (v := 0) hx hb dX11_unusedPlace_34 (by decide) ?_
    rw [hQ]
    exact xzretr C0 hP hS rfl h dX11_unusedPlace_35
  have hL1 : ∀ (n : Nat) (x2_1 : Int32) (x3_2 : Int32) (H : Heap) (locs : List Loc) (ls : Array Slot), f_X11_unusedPlace_L4 p1 p2 n x2_1 x3_2 K1 = some r → va_P D vwCl (wX ca a σ) H → va_S (AW 37 a) s.heap H locs → lv_has ls 4 [(0, .int p1), (1, .int p2), (2, .int x2_1), (3, .int x3_2)] → W p l e rm_X11_unusedPlace s m args below meth c H locs 0 0 Q (F0 m 4 ls []) := by
    intro n
    induction n with
    | zero => intro x2_1 x3_2 H locs ls h; rw [f_X11_unusedPlace_L4] at h; cases h
    | succ n ih1 =>
      intro x2_1 x3_2 H locs ls h hP hS hl
      rw [f_X11_unusedPlace_L4] at h
      refine lv_iload_n hx hb dX11_unusedPlace_4 rfl (lv_at hl 3 rfl) ?_
      refine lv_bipush (v := 6) hx hb dX11_unusedPlace_5 (by decide) ?_
      refine lv_icmp_ge (tgt := 34) hx hb dX11_unusedPlace_7 (by decide) (fun c_3 => ?_) (fun c_3 => ?_)
      · have h := it c_3 h
        exact hX1 x2_1 x3_2 _ _ ls h hP hS (lv_sub hl [] rfl)
      · have h := ie c_3 h
        refine lv_iload_n hx hb dX11_unusedPlace_10 rfl (lv_at hl 0 rfl) ?_
        refine lv_iload_n hx hb dX11_unusedPlace_11 rfl (lv_at hl 3 rfl) ?_
        refine lv_ishr hx hb dX11_unusedPlace_12 ?_
        refine lv_iconst (v := 1) hx hb dX11_unusedPlace_13 (by decide) ?_
        refine lv_iand hx hb dX11_unusedPlace_14 ?_
        refine lv_if_ne (tgt := 28) hx hb dX11_unusedPlace_15 (by decide) (fun c_4 => ?_) (fun c_4 => ?_)
        · have h := ie c_4 h
          obtain ⟨x3_5, ex3_5, h⟩ := bnd_e h
          refine lv_iinc (v := x3_5) (lv' := [(3, .int x3_5), (0, .int p1), (1, .int p2), (2, .int x2_1)]) hx hb dX11_unusedPlace_28 hl (k := 3) rfl (by rw [ex3_5]; rfl) (by decide) rfl (fun ls hl => ?_)
          refine lv_goto (tgt := 4) hx hb dX11_unusedPlace_31 (by decide) ?_
          exact ih1 x2_1 x3_5 _ _ ls h hP hS (lv_sub hl [1, 2, 3, 0] rfl)
        · have h := it c_4 h
          refine lv_iload_n hx hb dX11_unusedPlace_18 rfl (lv_at hl 2 rfl) ?_
          refine lv_iload_n hx hb dX11_unusedPlace_19 rfl (lv_at hl 1 rfl) ?_
          refine lv_icmp_ne (tgt := 25) hx hb dX11_unusedPlace_20 (by decide) (fun c_6 => ?_) (fun c_6 => ?_)
          · have h := ie c_6 h
            obtain ⟨x2_7, ex2_7, h⟩ := bnd_e h
            refine lv_iinc (v := x2_7) (lv' := [(2, .int x2_7), (0, .int p1), (1, .int p2), (3, .int x3_2)]) hx hb dX11_unusedPlace_25 hl (k := 2) rfl (by rw [ex2_7]; rfl) (by decide) rfl (fun ls hl => ?_)
            obtain ⟨x3_8, ex3_8, h⟩ := bnd_e h
            refine lv_iinc (v := x3_8) (lv' := [(3, .int x3_8), (2, .int x2_7), (0, .int p1), (1, .int p2)]) hx hb dX11_unusedPlace_28 hl (k := 3) rfl (by rw [ex3_8]; rfl) (by decide) rfl (fun ls hl => ?_)
            refine lv_goto (tgt := 4) hx hb dX11_unusedPlace_31 (by decide) ?_
            exact ih1 x2_7 x3_8 _ _ ls h hP hS (lv_sub hl [2, 3, 1, 0] rfl)
          · have h := it c_6 h
            refine lv_iload_n hx hb dX11_unusedPlace_23 rfl (lv_at hl 3 rfl) ?_
            rw [hQ]
            exact xzretr C0 hP hS rfl h dX11_unusedPlace_24
  exact hL1 5000 0 0 _ _ ls h hP hS (lv_sub hl [2, 3, 1, 0] rfl)
def f_X11_sewOrderInMind_L22 (d1 : Nat) : Nat → Int32 → Int32 → Int32 → Mem → (Int32 → Int32 → Int32 → Mem → Option (Int32 × Mem)) → Option (Int32 × Mem)
  | 0, _, _, _, _, _ => none
  | n + 1, x3_5, x4_6, x5_7, σ_8, K1 =>
    if x5_7 ≤ 0 then
      K1 x3_5 x4_6 x5_7 σ_8
    else
      if x5_7 = 0 then none else
      bnd (x3_5 - x3_5 / x5_7 * x5_7) fun (y_11 : Int32) =>
      b1 (f_X11_unusedPlace x4_6 y_11) fun r_13 =>
      if x5_7 = 0 then none else
      bnd (x3_5 / x5_7) fun (x3_15 : Int32) =>
      bnd (x4_6 ||| (1 <<< (r_13 &&& 31))) fun (x4_16 : Int32) =>
      b2 (f_X11_sewPinOfRow 2 d1 r_13 σ_8) fun r_18 σ_19 =>
      if r_18 = 0 then
        some (0, σ_19)
      else
        bnd (x5_7 + (-1)) fun (x5_21 : Int32) =>
        f_X11_sewOrderInMind_L22 d1 n x3_15 x4_16 x5_21 σ_19 K1
def f_X11_sewOrderInMind (d1 : Nat) (p2 : Int32) (σ : Mem) : Option (Int32 × Mem) :=
  b1 (f_X0_becomeLike 2 0 σ) fun σ_2 =>
  b1 (f_X11_pinsIn d1 σ_2) fun r_4 =>
  f_X11_sewOrderInMind_L22 d1 5000 p2 0 r_4 σ_2 fun (u_22 : Int32) (u_23 : Int32) (u_24 : Int32) (σ_25 : Mem) =>
    some (1, σ_25)
def rm_X11_sewOrderInMind : Room := { frames := 6, cells := 0, slots := 0, locals := 139 }
set_option maxHeartbeats 4000000 in
set_option maxRecDepth 100000 in
theorem c_X11_sewOrderInMind {l : Launch} {D : va_G} {ca : Nat → ClassId} {a : Nat → Nat} (hI : InjN 37 a) {d1 : Nat} {p2 : Int32} {σ : Mem} {r : Int32} {σ' : Mem} (hk_d1 : d1 < 9) (h : f_X11_sewOrderInMind d1 p2 σ = some (r, σ')) : XMX l D ca a Bt yX11_sewOrderInMind cX11_sewOrderInMind 7 (some .boolean) rm_X11_sewOrderInMind [.ref (a 0), .ref (a (7 + 2 * d1)), .int p2] σ (some (.int r)) σ' := by
  refine XM.of pn_X11 (Nat.le_of_ble_eq_true rfl) ?_
  intro p e s m args below meth c ls Q hQ C0 hK hB hP hS hl
  have C0 : Cx p s m args meth c RX11 cX11_sewOrderInMind 7 (some .boolean) := C0
  have hx := C0.1
  have hb := C0.2.1
  have hl : lv_has ls 7 [(0, .ref (a 0)), (1, .ref (a (7 + 2 * d1))), (2, .int p2)] := hl
  rw [f_X11_sewOrderInMind] at h
  refine lv_iload_n hx hb dX11_sewOrderInMind_0 rfl (lv_at hl 2 rfl) ?_
  refine lv_istore_n (lv' := [(3, .int p2), (0, .ref (a 0)), (1, .ref (a (7 + 2 * d1))), (2, .int p2)]) hx hb dX11_sewOrderInMind_1 rfl hl (by decide) rfl (fun ls hl => ?_)
  refine lv_iconst (v := 0) hx hb dX11_sewOrderInMind_2 (by decide) ?_
  refine lv_istore (lv' := [(4, .int 0), (3, .int p2), (0, .ref (a 0)), (1, .ref (a (7 + 2 * d1))), (2, .int p2)]) hx hb dX11_sewOrderInMind_3 hl (by decide) rfl (fun ls hl => ?_)
  refine lv_aload_n hx hb dX11_sewOrderInMind_5 rfl (lv_at hl 2 rfl) ?_
  refine gX11_2 C0 hK hP tw235 dX11_sewOrderInMind_6 ?_
  refine lv_aload_n hx hb dX11_sewOrderInMind_9 rfl (lv_at hl 2 rfl) ?_
  refine gX11_0 C0 hK hP tw233 dX11_sewOrderInMind_10 ?_
  obtain ⟨σ_2, h_1, h⟩ := b1_e h
  refine xcall (rV C0 hK hP hl.1 (fun _ _ _ => trivial) Bt_b (c_X0_becomeLike hI (by decide) (by decide) h_1) cv_X0_becomeLike tw368 (rcX0 hK hP (by decide)) (rest := []) rfl (Nat.le_of_ble_eq_true rfl) ⟨rfl, rfl, Nat.le_of_ble_eq_true rfl, Nat.le_of_ble_eq_true rfl⟩ ⟨Nat.zero_le _, Nat.zero_le _⟩ dX11_sewOrderInMind_13) hS (fun H locs hP hS => ?_)
  refine lv_aload_n hx hb dX11_sewOrderInMind_16 rfl (lv_at hl 3 rfl) ?_
  obtain ⟨r_4, h_3, h⟩ := b1_e h
  refine xcall (rS C0 hK hP hl.1 (fun _ _ _ => trivial) Bt_b (c_X11_pinsIn hI hk_d1 h_3) cs_X11_pinsIn tw608 (rest := []) rfl (Nat.le_of_ble_eq_true rfl) ⟨rfl, rfl, Nat.le_of_ble_eq_true rfl, Nat.le_of_ble_eq_true rfl⟩ ⟨Nat.zero_le _, Nat.zero_le _⟩ dX11_sewOrderInMind_17) hS (fun H locs hP hS => ?_)
  refine lv_istore (lv' := [(5, .int r_4), (4, .int 0), (3, .int p2), (0, .ref (a 0)), (1, .ref (a (7 + 2 * d1))), (2, .int p2)]) hx hb dX11_sewOrderInMind_20 hl (by decide) rfl (fun ls hl => ?_)
  obtain ⟨K1, eK1, h⟩ := lp_e (f := fun K => f_X11_sewOrderInMind_L22 d1 5000 p2 0 r_4 σ_2 K) h
  have h : f_X11_sewOrderInMind_L22 d1 5000 p2 0 r_4 σ_2 K1 = some (r, σ') := h
  have hX1 : ∀ (u_22 : Int32) (u_23 : Int32) (u_24 : Int32) (σ_25 : Mem) (H : Heap) (locs : List Loc) (ls : Array Slot), K1 u_22 u_23 u_24 σ_25 = some (r, σ') → va_P D vwCl (wX ca a σ_25) H → va_S (AW 37 a) s.heap H locs → lv_has ls 7 [] → W p l e rm_X11_sewOrderInMind s m args below meth c H locs 0 0 Q (F0 m 74 ls []) := by
    intro u_22 u_23 u_24 σ_25 H locs ls h hP hS hl
    have h := ap4 eK1 h
    refine lv_iconst (v := 1) hx hb dX11_sewOrderInMind_74 (by decide) ?_
    rw [hQ]
    exact xzret C0 hP hS rfl h dX11_sewOrderInMind_75
  have hL1 : ∀ (n : Nat) (x3_5 : Int32) (x4_6 : Int32) (x5_7 : Int32) (σ_8 : Mem) (H : Heap) (locs : List Loc) (ls : Array Slot), f_X11_sewOrderInMind_L22 d1 n x3_5 x4_6 x5_7 σ_8 K1 = some (r, σ') → va_P D vwCl (wX ca a σ_8) H → va_S (AW 37 a) s.heap H locs → lv_has ls 7 [(0, .ref (a 0)), (1, .ref (a (7 + 2 * d1))), (3, .int x3_5), (4, .int x4_6), (5, .int x5_7)] → W p l e rm_X11_sewOrderInMind s m args below meth c H locs 0 0 Q (F0 m 22 ls []) := by
    intro n
    induction n with
    | zero => intro x3_5 x4_6 x5_7 σ_8 H locs ls h; rw [f_X11_sewOrderInMind_L22] at h; cases h
    | succ n ih1 =>
      intro x3_5 x4_6 x5_7 σ_8 H locs ls h hP hS hl
      rw [f_X11_sewOrderInMind_L22] at h
      refine lv_iload hx hb dX11_sewOrderInMind_22 (lv_at hl 4 rfl) ?_
      refine lv_if_le (tgt := 74) hx hb dX11_sewOrderInMind_24 (by decide) (fun c_9 => ?_) (fun c_9 => ?_)
      · have h := it c_9 h
        exact hX1 x3_5 x4_6 x5_7 σ_8 _ _ ls h hP hS (lv_sub hl [] rfl)
      · have h := ie c_9 h
        refine lv_iload hx hb dX11_sewOrderInMind_27 (lv_at hl 3 rfl) ?_
        refine lv_iload_n hx hb dX11_sewOrderInMind_29 rfl (lv_at hl 2 rfl) ?_
        refine lv_iload hx hb dX11_sewOrderInMind_30 (lv_at hl 4 rfl) ?_
        obtain ⟨b_10, h⟩ := ck h
        refine lv_irem hx hb dX11_sewOrderInMind_32 b_10 ?_
        obtain ⟨y_11, ey_11, h⟩ := bnd_e h
        rw [← ey_11]
        obtain ⟨r_13, h_12, h⟩ := b1_e h
        refine xcall (rS C0 hK hP hl.1 (fun _ _ _ => trivial) Bt_b (c_X11_unusedPlace hI h_12) cs_X11_unusedPlace tw635 (rest := []) rfl (Nat.le_of_ble_eq_true rfl) ⟨rfl, rfl, Nat.le_of_ble_eq_true rfl, Nat.le_of_ble_eq_true rfl⟩ ⟨Nat.zero_le _, Nat.zero_le _⟩ dX11_sewOrderInMind_33) hS (fun H locs hP hS => ?_)
        refine lv_istore (lv' := [(6, .int r_13), (0, .ref (a 0)), (1, .ref (a (7 + 2 * d1))), (3, .int x3_5), (4, .int x4_6), (5, .int x5_7)]) hx hb dX11_sewOrderInMind_36 hl (by decide) rfl (fun ls hl => ?_)
        refine lv_iload_n hx hb dX11_sewOrderInMind_38 rfl (lv_at hl 3 rfl) ?_
        refine lv_iload hx hb dX11_sewOrderInMind_39 (lv_at hl 5 rfl) ?_
        obtain ⟨b_14, h⟩ := ck h
        refine lv_idiv hx hb dX11_sewOrderInMind_41 b_14 ?_
        obtain ⟨x3_15, ex3_15, h⟩ := bnd_e h
        refine nm_i ex3_15 ?_
        refine lv_istore_n (lv' := [(3, .int x3_15), (6, .int r_13), (0, .ref (a 0)), (1, .ref (a (7 + 2 * d1))), (4, .int x4_6), (5, .int x5_7)]) hx hb dX11_sewOrderInMind_42 rfl hl (by decide) rfl (fun ls hl => ?_)
        refine lv_iload hx hb dX11_sewOrderInMind_43 (lv_at hl 4 rfl) ?_
        refine lv_iconst (v := 1) hx hb dX11_sewOrderInMind_45 (by decide) ?_
        refine lv_iload hx hb dX11_sewOrderInMind_46 (lv_at hl 1 rfl) ?_
        refine lv_ishl hx hb dX11_sewOrderInMind_48 ?_
        refine lv_ior hx hb dX11_sewOrderInMind_49 ?_
        obtain ⟨x4_16, ex4_16, h⟩ := bnd_e h
        refine nm_i ex4_16 ?_
        refine lv_istore (lv' := [(4, .int x4_16), (3, .int x3_15), (6, .int r_13), (0, .ref (a 0)), (1, .ref (a (7 + 2 * d1))), (5, .int x5_7)]) hx hb dX11_sewOrderInMind_50 hl (by decide) rfl (fun ls hl => ?_)
        refine lv_aload_n hx hb dX11_sewOrderInMind_52 rfl (lv_at hl 3 rfl) ?_
        refine lv_aload_n hx hb dX11_sewOrderInMind_53 rfl (lv_at hl 3 rfl) ?_
        refine gX11_2 C0 hK hP tw235 dX11_sewOrderInMind_54 ?_
        refine lv_aload_n hx hb dX11_sewOrderInMind_57 rfl (lv_at hl 4 rfl) ?_
        refine lv_iload hx hb dX11_sewOrderInMind_58 (lv_at hl 2 rfl) ?_
        obtain ⟨r_18, σ_19, h_17, h⟩ := b2_e h
        refine xcall (rV C0 hK hP hl.1 (fun _ _ _ => trivial) Bt_b (c_X11_sewPinOfRow hI (by decide) hk_d1 h_17) cv_X11_sewPinOfRow tw615 (rcX11 hK hP) (rest := []) rfl (Nat.le_of_ble_eq_true rfl) ⟨rfl, rfl, Nat.le_of_ble_eq_true rfl, Nat.le_of_ble_eq_true rfl⟩ ⟨Nat.zero_le _, Nat.zero_le _⟩ dX11_sewOrderInMind_60) hS (fun H locs hP hS => ?_)
        refine lv_if_ne (tgt := 68) hx hb dX11_sewOrderInMind_63 (by decide) (fun c_20 => ?_) (fun c_20 => ?_)
        · have h := ie c_20 h
          obtain ⟨x5_21, ex5_21, h⟩ := bnd_e h
          refine lv_iinc (v := x5_21) (lv' := [(5, .int x5_21), (4, .int x4_16), (3, .int x3_15), (6, .int r_13), (0, .ref (a 0)), (1, .ref (a (7 + 2 * d1)))]) hx hb dX11_sewOrderInMind_68 hl (k := 5) rfl (by rw [ex5_21]; rfl) (by decide) rfl (fun ls hl => ?_)
          refine lv_goto (tgt := 22) hx hb dX11_sewOrderInMind_71 (by decide) ?_
          exact ih1 x3_15 x4_16 x5_21 σ_19 _ _ ls h hP hS (lv_sub hl [4, 5, 2, 1, 0] rfl)
        · have h := it c_20 h
          refine lv_iconst (v := 0) hx hb dX11_sewOrderInMind_66 (by decide) ?_
          rw [hQ]
          exact xzret C0 hP hS rfl h dX11_sewOrderInMind_67
  exact hL1 5000 p2 0 r_4 σ_2 _ _ ls h hP hS (lv_sub hl [3, 4, 2, 1, 0] rfl)
def f_X11_orders_L84 (r_7 : Nat) (x6_18 : Int32) : Nat → Int32 → Int32 → Int32 → Mem → (Int32 → Int32 → Int32 → Mem → Option (Int32 × Mem)) → Option (Int32 × Mem)
  | 0, _, _, _, _, _ => none
  | n + 1, x7_21, x8_22, x9_23, σ_24, K2 =>
    if x6_18 ≤ x9_23 then
      K2 x7_21 x8_22 x9_23 σ_24
    else
      b2 (f_X11_sewOrderInMind r_7 x9_23 σ_24) fun r_27 σ_28 =>
      if r_27 = 0 then
        bnd (x9_23 + 1) fun (x9_30 : Int32) =>
        f_X11_orders_L84 r_7 x6_18 n x7_21 x8_22 x9_30 σ_28 K2
      else
        b1 (f_X0_lacking 2 σ_28) fun r_32 =>
        if x7_21 = 0 then
          bnd (x7_21 + 1) fun (x7_37 : Int32) =>
          bnd (x9_23 + 1) fun (x9_38 : Int32) =>
          f_X11_orders_L84 r_7 x6_18 n x7_37 r_32 x9_38 σ_28 K2
        else
          bnd (if r_32 < x8_22 then r_32 else x8_22) fun (y_34 : Int32) =>
          bnd (x7_21 + 1) fun (x7_35 : Int32) =>
          bnd (x9_23 + 1) fun (x9_36 : Int32) =>
          f_X11_orders_L84 r_7 x6_18 n x7_35 y_34 x9_36 σ_28 K2
def f_X11_orders_L54 (r_10 : Int32) : Nat → Int32 → Int32 → Mem → (Int32 → Int32 → Mem → Option (Int32 × Mem)) → Option (Int32 × Mem)
  | 0, _, _, _, _ => none
  | n + 1, x6_12, x7_13, σ_14, K1 =>
    if r_10 < x7_13 then
      K1 x6_12 x7_13 σ_14
    else
      bnd (x6_12 * x7_13) fun (x6_16 : Int32) =>
      bnd (x7_13 + 1) fun (x7_17 : Int32) =>
      f_X11_orders_L54 r_10 n x6_16 x7_17 σ_14 K1
def f_X11_orders (p1 : Int32) (p2 : Int32) (σ : Mem) : Option (Int32 × Mem) :=
  b1 (f_X11_within p2 0 1) fun r_2 =>
  jn (fun (v_3 : Int32) (σ_4 : Mem) =>
    if v_3 = 0 then
      b1 (f_X11_shelfAt p1) fun r_7 =>
      if r_7 < 9 then
        b1 (f_X11_pinsIn r_7 σ_4) fun r_10 =>
        if r_10 ≤ 5 then
          f_X11_orders_L54 r_10 5000 1 2 σ_4 fun (x6_18 : Int32) (u_19 : Int32) (σ_20 : Mem) =>
            f_X11_orders_L84 r_7 x6_18 5000 0 (-4) 0 σ_20 fun (x7_39 : Int32) (x8_40 : Int32) (u_41 : Int32) (σ_42 : Mem) =>
              if p2 = 0 then
                some (x7_39, σ_42)
              else
                some (x8_40, σ_42)
        else
          some ((-2), σ_4)
      else none
    else
      some (v_3, σ_4)) fun J18 =>
  if r_2 = 0 then
    J18 (-1) σ
  else
    b1 (f_X11_pinsRefusal p1 σ) fun r_46 =>
    J18 r_46 σ
def rm_X11_orders : Room := { frames := 7, cells := 0, slots := 0, locals := 165 }
set_option maxHeartbeats 4000000 in
set_option maxRecDepth 100000 in
theorem c_X11_orders {l : Launch} {D : va_G} {ca : Nat → ClassId} {a : Nat → Nat} (hI : InjN 37 a) {p1 : Int32} {p2 : Int32} {σ : Mem} {r : Int32} {σ' : Mem}  (h : f_X11_orders p1 p2 σ = some (r, σ')) : XMX l D ca a Bt yX11_orders cX11_orders 11 (some .int) rm_X11_orders [.ref (a 0), .int p1, .int p2] σ (some (.int r)) σ' := by
  refine XM.of pn_X11 (Nat.le_of_ble_eq_true rfl) ?_
  intro p e s m args below meth c ls Q hQ C0 hK hB hP hS hl
  have C0 : Cx p s m args meth c RX11 cX11_orders 11 (some .int) := C0
  have hx := C0.1
  have hb := C0.2.1
  have hl : lv_has ls 11 [(0, .ref (a 0)), (1, .int p1), (2, .int p2)] := hl
  rw [f_X11_orders] at h
  refine lv_iload_n hx hb dX11_orders_0 rfl (lv_at hl 2 rfl) ?_
  refine lv_iconst (v := 0) hx hb dX11_orders_1 (by decide) ?_
  refine lv_iconst (v := 1) hx hb dX11_orders_2 (by decide) ?_
  obtain ⟨r_2, h_1, h⟩ := b1_e h
  refine xcall (rS C0 hK hP hl.1 (fun _ _ _ => trivial) Bt_b (c_X11_within hI h_1) cs_X11_within tw272 (rest := []) rfl (Nat.le_of_ble_eq_true rfl) ⟨rfl, rfl, Nat.le_of_ble_eq_true rfl, Nat.le_of_ble_eq_true rfl⟩ ⟨Nat.zero_le _, Nat.zero_le _⟩ dX11_orders_3) hS (fun H locs hP hS => ?_)
  obtain ⟨J18, eJ18, h⟩ := jn_e h
  have hJ18 : ∀ (v_3 : Int32) (σ_4 : Mem) (H : Heap) (locs : List Loc) (ls : Array Slot), J18 v_3 σ_4 = some (r, σ') → va_P D vwCl (wX ca a σ_4) H → va_S (AW 37 a) s.heap H locs → lv_has ls 11 [(0, .ref (a 0)), (1, .int p1), (2, .int p2)] → W p l e rm_X11_orders s m args below meth c H locs 0 0 Q (F0 m 18 ls [.int v_3]) := by
    intro v_3 σ_4 H locs ls h hP hS hl
    have h := ap2 eJ18 h
    refine lv_istore_n (lv' := [(3, .int v_3), (0, .ref (a 0)), (1, .int p1), (2, .int p2)]) hx hb dX11_orders_18 rfl hl (by decide) rfl (fun ls hl => ?_)
    refine lv_iload_n hx hb dX11_orders_19 rfl (lv_at hl 0 rfl) ?_
    refine lv_if_eq (tgt := 25) hx hb dX11_orders_20 (by decide) (fun c_5 => ?_) (fun c_5 => ?_)
    · have h := it c_5 h
      refine lv_aload_n hx hb dX11_orders_25 rfl (lv_at hl 1 rfl) ?_
      refine lv_iload_n hx hb dX11_orders_26 rfl (lv_at hl 2 rfl) ?_
      obtain ⟨r_7, h_6, h⟩ := b1_e h
      refine xcall (rV C0 hK hP hl.1 (fun _ _ _ => trivial) Bt_b (c_X11_shelfAt hI h_6) cv_X11_shelfAt tw275 (rcX11 hK hP) (rest := []) rfl (Nat.le_of_ble_eq_true rfl) ⟨rfl, rfl, Nat.le_of_ble_eq_true rfl, Nat.le_of_ble_eq_true rfl⟩ ⟨Nat.zero_le _, Nat.zero_le _⟩ dX11_orders_27) hS (fun H locs hP hS => ?_)
      obtain ⟨hk_8, h⟩ := asr h
      refine lv_astore (lv' := [(4, .ref (a (7 + 2 * r_7))), (3, .int v_3), (0, .ref (a 0)), (1, .int p1), (2, .int p2)]) hx hb dX11_orders_30 hl (by decide) rfl (fun ls hl => ?_)
      refine lv_aload hx hb dX11_orders_32 (lv_at hl 0 rfl) ?_
      obtain ⟨r_10, h_9, h⟩ := b1_e h
      refine xcall (rS C0 hK hP hl.1 (fun _ _ _ => trivial) Bt_b (c_X11_pinsIn hI hk_8 h_9) cs_X11_pinsIn tw608 (rest := []) rfl (Nat.le_of_ble_eq_true rfl) ⟨rfl, rfl, Nat.le_of_ble_eq_true rfl, Nat.le_of_ble_eq_true rfl⟩ ⟨Nat.zero_le _, Nat.zero_le _⟩ dX11_orders_34) hS (fun H locs hP hS => ?_)
      refine lv_istore (lv' := [(5, .int r_10), (4, .ref (a (7 + 2 * r_7))), (3, .int v_3), (0, .ref (a 0)), (1, .int p1), (2, .int p2)]) hx hb dX11_orders_37 hl (by decide) rfl (fun ls hl => ?_)
      refine lv_iload hx hb dX11_orders_39 (lv_at hl 0 rfl) ?_
      refine lv_iconst (v := 5) hx hb dX11_orders_41 (by decide) ?_
      refine lv_icmp_le (tgt := 48) hx hb dX11_orders_42 (by decide) (fun c_11 => ?_) (fun c_11 => ?_)
      · have h := it c_11 h
        refine lv_iconst (v := 1) hx hb dX11_orders_48 (by decide) ?_
        refine lv_istore (lv' := [(6, .int 1), (5, .int r_10), (4, .ref (a (7 + 2 * r_7))), (3, .int v_3), (0, .ref (a 0)), (1, .int p1), (2, .int p2)]) hx hb dX11_orders_49 hl (by decide) rfl (fun ls hl => ?_)
        refine lv_iconst (v := 2) hx hb dX11_orders_51 (by decide) ?_
        refine lv_istore (lv' := [(7, .int 2), (6, .int 1), (5, .int r_10), (4, .ref (a (7 + 2 * r_7))), (3, .int v_3), (0, .ref (a 0)), (1, .int p1), (2, .int p2)]) hx hb dX11_orders_52 hl (by decide) rfl (fun ls hl => ?_)
        obtain ⟨K1, eK1, h⟩ := lp_e (f := fun K => f_X11_orders_L54 r_10 5000 1 2 σ_4 K) h
        have h : f_X11_orders_L54 r_10 5000 1 2 σ_4 K1 = some (r, σ') := h
        have hX1 : ∀ (x6_18 : Int32) (u_19 : Int32) (σ_20 : Mem) (H : Heap) (locs : List Loc) (ls : Array Slot), K1 x6_18 u_19 σ_20 = some (r, σ') → va_P D vwCl (wX ca a σ_20) H → va_S (AW 37 a) s.heap H locs → lv_has ls 11 [(0, .ref (a 0)), (2, .int p2), (4, .ref (a (7 + 2 * r_7))), (6, .int x6_18)] → W p l e rm_X11_orders s m args below meth c H locs 0 0 Q (F0 m 74 ls []) := by
          intro x6_18 u_19 σ_20 H locs ls h hP hS hl
          have h := ap3 eK1 h
          refine lv_iconst (v := 0) hx hb dX11_orders_74 (by decide) ?_
          refine lv_istore (lv' := [(7, .int 0), (0, .ref (a 0)), (2, .int p2), (4, .ref (a (7 + 2 * r_7))), (6, .int x6_18)]) hx hb dX11_orders_75 hl (by decide) rfl (fun ls hl => ?_)
          refine lv_bipush (v := (-4)) hx hb dX11_orders_77 (by decide) ?_
          refine lv_istore (lv' := [(8, .int (-4)), (7, .int 0), (0, .ref (a 0)), (2, .int p2), (4, .ref (a (7 + 2 * r_7))), (6, .int x6_18)]) hx hb dX11_orders_79 hl (by decide) rfl (fun ls hl => ?_)
          refine lv_iconst (v := 0) hx hb dX11_orders_81 (by decide) ?_
          refine lv_istore (lv' := [(9, .int 0), (8, .int (-4)), (7, .int 0), (0, .ref (a 0)), (2, .int p2), (4, .ref (a (7 + 2 * r_7))), (6, .int x6_18)]) hx hb dX11_orders_82 hl (by decide) rfl (fun ls hl => ?_)
          obtain ⟨K2, eK2, h⟩ := lp_e (f := fun K => f_X11_orders_L84 r_7 x6_18 5000 0 (-4) 0 σ_20 K) h
          have h : f_X11_orders_L84 r_7 x6_18 5000 0 (-4) 0 σ_20 K2 = some (r, σ') := h
          have hX2 : ∀ (x7_39 : Int32) (x8_40 : Int32) (u_41 : Int32) (σ_42 : Mem) (H : Heap) (locs : List Loc) (ls : Array Slot), K2 x7_39 x8_40 u_41 σ_42 = some (r, σ') → va_P D vwCl (wX ca a σ_42) H → va_S (AW 37 a) s.heap H locs → lv_has ls 11 [(2, .int p2), (7, .int x7_39), (8, .int x8_40)] → W p l e rm_X11_orders s m args below meth c H locs 0 0 Q (F0 m 139 ls []) := by
            intro x7_39 x8_40 u_41 σ_42 H locs ls h hP hS hl
            have h := ap4 eK2 h
            refine lv_iload_n hx hb dX11_orders_139 rfl (lv_at hl 0 rfl) ?_
            refine lv_if_ne (tgt := 148) hx hb dX11_orders_140 (by decide) (fun c_43 => ?_) (fun c_43 => ?_)
            · have h := ie c_43 h
              refine lv_iload hx hb dX11_orders_148 (lv_at hl 2 rfl) ?_
              rw [hQ]
              exact xzret C0 hP hS rfl h dX11_orders_150
            · have h := it c_43 h
              refine lv_iload hx hb dX11_orders_143 (lv_at hl 1 rfl) ?_
              refine lv_goto (tgt := 150) hx hb dX11_orders_145 (by decide) ?_
              rw [hQ]
              exact xzret C0 hP hS rfl h dX11_orders_150
          have hL2 : ∀ (n : Nat) (x7_21 : Int32) (x8_22 : Int32) (x9_23 : Int32) (σ_24 : Mem) (H : Heap) (locs : List Loc) (ls : Array Slot), f_X11_orders_L84 r_7 x6_18 n x7_21 x8_22 x9_23 σ_24 K2 = some (r, σ') → va_P D vwCl (wX ca a σ_24) H → va_S (AW 37 a) s.heap H locs → lv_has ls 11 [(0, .ref (a 0)), (2, .int p2), (4, .ref (a (7 + 2 * r_7))), (6, .int x6_18), (7, .int x7_21), (8, .int x8_22), (9, .int x9_23)] → W p l e rm_X11_orders s m args below meth c H locs 0 0 Q (F0 m 84 ls []) := by
            intro n
            induction n with
            | zero => intro x7_21 x8_22 x9_23 σ_24 H locs ls h; rw [f_X11_orders_L84] at h; cases h
            | succ n ih2 =>
              intro x7_21 x8_22 x9_23 σ_24 H locs ls h hP hS hl
              rw [f_X11_orders_L84] at h
              refine lv_iload hx hb dX11_orders_84 (lv_at hl 6 rfl) ?_
              refine lv_iload hx hb dX11_orders_86 (lv_at hl 3 rfl) ?_
              refine lv_icmp_ge (tgt := 139) hx hb dX11_orders_88 (by decide) (fun c_25 => ?_) (fun c_25 => ?_)
              · have h := it c_25 h
                exact hX2 x7_21 x8_22 x9_23 σ_24 _ _ ls h hP hS (lv_sub hl [1, 4, 5] rfl)
              · have h := ie c_25 h
                refine lv_aload_n hx hb dX11_orders_91 rfl (lv_at hl 0 rfl) ?_
                refine lv_aload hx hb dX11_orders_92 (lv_at hl 2 rfl) ?_
                refine lv_iload hx hb dX11_orders_94 (lv_at hl 6 rfl) ?_
                obtain ⟨r_27, σ_28, h_26, h⟩ := b2_e h
                refine xcall (rV C0 hK hP hl.1 (fun _ _ _ => trivial) Bt_b (c_X11_sewOrderInMind hI hk_8 h_26) cv_X11_sewOrderInMind tw631 (rcX11 hK hP) (rest := []) rfl (Nat.le_of_ble_eq_true rfl) ⟨rfl, rfl, Nat.le_of_ble_eq_true rfl, Nat.le_of_ble_eq_true rfl⟩ ⟨Nat.zero_le _, Nat.zero_le _⟩ dX11_orders_96) hS (fun H locs hP hS => ?_)
                refine lv_if_eq (tgt := 133) hx hb dX11_orders_99 (by decide) (fun c_29 => ?_) (fun c_29 => ?_)
                · have h := it c_29 h
                  obtain ⟨x9_30, ex9_30, h⟩ := bnd_e h
                  refine lv_iinc (v := x9_30) (lv' := [(9, .int x9_30), (0, .ref (a 0)), (2, .int p2), (4, .ref (a (7 + 2 * r_7))), (6, .int x6_18), (7, .int x7_21), (8, .int x8_22)]) hx hb dX11_orders_133 hl (k := 6) rfl (by rw [ex9_30]; rfl) (by decide) rfl (fun ls hl => ?_)
                  refine lv_goto (tgt := 84) hx hb dX11_orders_136 (by decide) ?_
                  exact ih2 x7_21 x8_22 x9_30 σ_28 _ _ ls h hP hS (lv_sub hl [1, 2, 3, 4, 5, 6, 0] rfl)
                · have h := ie c_29 h
                  refine lv_aload_n hx hb dX11_orders_102 rfl (lv_at hl 0 rfl) ?_
                  refine gX11_2 C0 hK hP tw235 dX11_orders_103 ?_
                  obtain ⟨r_32, h_31, h⟩ := b1_e h
                  refine xcall (rV C0 hK hP hl.1 (fun _ _ _ => trivial) Bt_b (c_X0_lacking hI (by decide) h_31) cv_X0_lacking tw556 (rcX0 hK hP (by decide)) (rest := []) rfl (Nat.le_of_ble_eq_true rfl) ⟨rfl, rfl, Nat.le_of_ble_eq_true rfl, Nat.le_of_ble_eq_true rfl⟩ ⟨Nat.zero_le _, Nat.zero_le _⟩ dX11_orders_106) hS (fun H locs hP hS => ?_)
                  refine lv_istore (lv' := [(10, .int r_32), (0, .ref (a 0)), (2, .int p2), (4, .ref (a (7 + 2 * r_7))), (6, .int x6_18), (7, .int x7_21), (8, .int x8_22), (9, .int x9_23)]) hx hb dX11_orders_109 hl (by decide) rfl (fun ls hl => ?_)
                  refine lv_iload hx hb dX11_orders_111 (lv_at hl 5 rfl) ?_
                  refine lv_if_ne (tgt := 121) hx hb dX11_orders_113 (by decide) (fun c_33 => ?_) (fun c_33 => ?_)
                  · have h := ie c_33 h
                    refine lv_iload hx hb dX11_orders_121 (lv_at hl 6 rfl) ?_
                    refine lv_iload hx hb dX11_orders_123 (lv_at hl 0 rfl) ?_
                    refine va_mmin hx hb (C0.2.2.1.trans hl.1.symm) C0.2.2.2.1 (C0.2.2.2.2.1 _ tw638) (C0.2.2.2.2.1 _ tw373) (C0.2.2.2.2.1 _ tw76) (C0.2.2.2.2.1 _ tw374) (Nat.le_of_ble_eq_true rfl) (Nat.le_of_ble_eq_true rfl) (Nat.zero_le _) (Nat.zero_le _) dX11_orders_125 ?_
                    obtain ⟨y_34, ey_34, h⟩ := bnd_e h
                    refine nm_i ey_34 ?_
                    refine lv_istore (lv' := [(8, .int y_34), (10, .int r_32), (0, .ref (a 0)), (2, .int p2), (4, .ref (a (7 + 2 * r_7))), (6, .int x6_18), (7, .int x7_21), (9, .int x9_23)]) hx hb dX11_orders_128 hl (by decide) rfl (fun ls hl => ?_)
                    obtain ⟨x7_35, ex7_35, h⟩ := bnd_e h
                    refine lv_iinc (v := x7_35) (lv' := [(7, .int x7_35), (8, .int y_34), (10, .int r_32), (0, .ref (a 0)), (2, .int p2), (4, .ref (a (7 + 2 * r_7))), (6, .int x6_18), (9, .int x9_23)]) hx hb dX11_orders_130 hl (k := 6) rfl (by rw [ex7_35]; rfl) (by decide) rfl (fun ls hl => ?_)
                    obtain ⟨x9_36, ex9_36, h⟩ := bnd_e h
                    refine lv_iinc (v := x9_36) (lv' := [(9, .int x9_36), (7, .int x7_35), (8, .int y_34), (10, .int r_32), (0, .ref (a 0)), (2, .int p2), (4, .ref (a (7 + 2 * r_7))), (6, .int x6_18)]) hx hb dX11_orders_133 hl (k := 7) rfl (by rw [ex9_36]; rfl) (by decide) rfl (fun ls hl => ?_)
                    refine lv_goto (tgt := 84) hx hb dX11_orders_136 (by decide) ?_
                    exact ih2 x7_35 y_34 x9_36 σ_28 _ _ ls h hP hS (lv_sub hl [4, 5, 6, 7, 1, 2, 0] rfl)
                  · have h := it c_33 h
                    refine lv_iload hx hb dX11_orders_116 (lv_at hl 0 rfl) ?_
                    refine lv_goto (tgt := 128) hx hb dX11_orders_118 (by decide) ?_
                    refine lv_istore (lv' := [(8, .int r_32), (10, .int r_32), (0, .ref (a 0)), (2, .int p2), (4, .ref (a (7 + 2 * r_7))), (6, .int x6_18), (7, .int x7_21), (9, .int x9_23)]) hx hb dX11_orders_128 hl (by decide) rfl (fun ls hl => ?_)
                    obtain ⟨x7_37, ex7_37, h⟩ := bnd_e h
                    refine lv_iinc (v := x7_37) (lv' := [(7, .int x7_37), (8, .int r_32), (10, .int r_32), (0, .ref (a 0)), (2, .int p2), (4, .ref (a (7 + 2 * r_7))), (6, .int x6_18), (9, .int x9_23)]) hx hb dX11_orders_130 hl (k := 6) rfl (by rw [ex7_37]; rfl) (by decide) rfl (fun ls hl => ?_)
                    obtain ⟨x9_38, ex9_38, h⟩ := bnd_e h
                    refine lv_iinc (v := x9_38) (lv' := [(9, .int x9_38), (7, .int x7_37), (8, .int r_32), (10, .int r_32), (0, .ref (a 0)), (2, .int p2), (4, .ref (a (7 + 2 * r_7))), (6, .int x6_18)]) hx hb dX11_orders_133 hl (k := 7) rfl (by rw [ex9_38]; rfl) (by decide) rfl (fun ls hl => ?_)
                    refine lv_goto (tgt := 84) hx hb dX11_orders_136 (by decide) ?_
                    exact ih2 x7_37 r_32 x9_38 σ_28 _ _ ls h hP hS (lv_sub hl [4, 5, 6, 7, 1, 2, 0] rfl)
          exact hL2 5000 0 (-4) 0 σ_20 _ _ ls h hP hS (lv_sub hl [3, 4, 5, 6, 2, 1, 0] rfl)
        have hL1 : ∀ (n : Nat) (x6_12 : Int32) (x7_13 : Int32) (σ_14 : Mem) (H : Heap) (locs : List Loc) (ls : Array Slot), f_X11_orders_L54 r_10 n x6_12 x7_13 σ_14 K1 = some (r, σ') → va_P D vwCl (wX ca a σ_14) H → va_S (AW 37 a) s.heap H locs → lv_has ls 11 [(0, .ref (a 0)), (2, .int p2), (4, .ref (a (7 + 2 * r_7))), (5, .int r_10), (6, .int x6_12), (7, .int x7_13)] → W p l e rm_X11_orders s m args below meth c H locs 0 0 Q (F0 m 54 ls []) := by
          intro n
          induction n with
          | zero => intro x6_12 x7_13 σ_14 H locs ls h; rw [f_X11_orders_L54] at h; cases h
          | succ n ih1 =>
            intro x6_12 x7_13 σ_14 H locs ls h hP hS hl
            rw [f_X11_orders_L54] at h
            refine lv_iload hx hb dX11_orders_54 (lv_at hl 5 rfl) ?_
            refine lv_iload hx hb dX11_orders_56 (lv_at hl 3 rfl) ?_
            refine lv_icmp_gt (tgt := 74) hx hb dX11_orders_58 (by decide) (fun c_15 => ?_) (fun c_15 => ?_)
            · have h := it c_15 h
              exact hX1 x6_12 x7_13 σ_14 _ _ ls h hP hS (lv_sub hl [0, 1, 2, 4] rfl)
            · have h := ie c_15 h
              refine lv_iload hx hb dX11_orders_61 (lv_at hl 4 rfl) ?_
              refine lv_iload hx hb dX11_orders_63 (lv_at hl 5 rfl) ?_
              refine lv_imul hx hb dX11_orders_65 ?_
              obtain ⟨x6_16, ex6_16, h⟩ := bnd_e h
              refine nm_i ex6_16 ?_
              refine lv_istore (lv' := [(6, .int x6_16), (0, .ref (a 0)), (2, .int p2), (4, .ref (a (7 + 2 * r_7))), (5, .int r_10), (7, .int x7_13)]) hx hb dX11_orders_66 hl (by decide) rfl (fun ls hl => ?_)
              obtain ⟨x7_17, ex7_17, h⟩ := bnd_e h
              refine lv_iinc (v := x7_17) (lv' := [(7, .int x7_17), (6, .int x6_16), (0, .ref (a 0)), (2, .int p2), (4, .ref (a (7 + 2 * r_7))), (5, .int r_10)]) hx hb dX11_orders_68 hl (k := 5) rfl (by rw [ex7_17]; rfl) (by decide) rfl (fun ls hl => ?_)
              refine lv_goto (tgt := 54) hx hb dX11_orders_71 (by decide) ?_
              exact ih1 x6_16 x7_17 σ_14 _ _ ls h hP hS (lv_sub hl [2, 3, 4, 5, 1, 0] rfl)
        exact hL1 5000 1 2 σ_4 _ _ ls h hP hS (lv_sub hl [5, 7, 3, 2, 1, 0] rfl)
      · have h := ie c_11 h
        refine lv_bipush (v := (-2)) hx hb dX11_orders_45 (by decide) ?_
        rw [hQ]
        exact xzret C0 hP hS rfl h dX11_orders_47
    · have h := ie c_5 h
      refine lv_iload_n hx hb dX11_orders_23 rfl (lv_at hl 0 rfl) ?_
      rw [hQ]
      exact xzret C0 hP hS rfl h dX11_orders_24
  refine lv_if_eq (tgt := 17) hx hb dX11_orders_6 (by decide) (fun c_44 => ?_) (fun c_44 => ?_)
  · have h := it c_44 h
    refine lv_iconst (v := (-1)) hx hb dX11_orders_17 (by decide) ?_
    exact hJ18 (-1) σ _ _ ls h hP hS (lv_sub hl [0, 1, 2] rfl)
  · have h := ie c_44 h
    refine lv_aload_n hx hb dX11_orders_9 rfl (lv_at hl 0 rfl) ?_
    refine lv_iload_n hx hb dX11_orders_10 rfl (lv_at hl 1 rfl) ?_
    obtain ⟨r_46, h_45, h⟩ := b1_e h
    refine xcall (rV C0 hK hP hl.1 (fun _ _ _ => trivial) Bt_b (c_X11_pinsRefusal hI h_45) cv_X11_pinsRefusal tw599 (rcX11 hK hP) (rest := []) rfl (Nat.le_of_ble_eq_true rfl) ⟨rfl, rfl, Nat.le_of_ble_eq_true rfl, Nat.le_of_ble_eq_true rfl⟩ ⟨Nat.zero_le _, Nat.zero_le _⟩ dX11_orders_11) hS (fun H locs hP hS => ?_)
    refine lv_goto (tgt := 18) hx hb dX11_orders_14 (by decide) ?_
    exact hJ18 r_46 σ _ _ ls h hP hS (lv_sub hl [0, 1, 2] rfl)
def f_X11_hem_L38 (p2 : Int32) (p3 : Int32) : Nat → Int32 → Int32 → (Int32 → Int32 → Option (Int32)) → Option (Int32)
  | 0, _, _, _ => none
  | n + 1, x4_10, x5_11, K1 =>
    if p3 ≤ x5_11 then
      K1 x4_10 x5_11
    else
      bnd (if x4_10 + ((p2 * x4_10) / 100) < 99 then x4_10 + ((p2 * x4_10) / 100) else 99) fun (y_13 : Int32) =>
      bnd (x5_11 + 1) fun (x5_14 : Int32) =>
      f_X11_hem_L38 p2 p3 n y_13 x5_14 K1
def f_X11_hem (p1 : Int32) (p2 : Int32) (p3 : Int32) : Option (Int32) :=
  b1 (f_X11_within p1 1 99) fun r_2 =>
  if r_2 = 0 then
    some (-1)
  else
    b1 (f_X11_within p2 0 99) fun r_5 =>
    if r_5 = 0 then
      some (-1)
    else
      b1 (f_X11_within p3 0 20) fun r_8 =>
      if r_8 = 0 then
        some (-1)
      else
        f_X11_hem_L38 p2 p3 5000 p1 0 fun (x4_15 : Int32) (u_16 : Int32) =>
          some x4_15
def rm_X11_hem : Room := { frames := 1, cells := 0, slots := 0, locals := 22 }
set_option maxHeartbeats 4000000 in
set_option maxRecDepth 100000 in
theorem c_X11_hem {l : Launch} {D : va_G} {ca : Nat → ClassId} {a : Nat → Nat} (hI : InjN 37 a) {p1 : Int32} {p2 : Int32} {p3 : Int32} {σ : Mem} {r : Int32}  (h : f_X11_hem p1 p2 p3 = some r) : XMX l D ca a Bt yX11_hem cX11_hem 6 (some .int) rm_X11_hem [.ref (a 0), .int p1, .int p2, .int p3] σ (some (.int r)) σ := by
  refine XM.of pn_X11 (Nat.le_of_ble_eq_true rfl) ?_
  intro p e s m args below meth c ls Q hQ C0 hK hB hP hS hl
  have C0 : Cx p s m args meth c RX11 cX11_hem 6 (some .int) := C0
  have hx := C0.1
  have hb := C0.2.1
  have hl : lv_has ls 6 [(0, .ref (a 0)), (1, .int p1), (2, .int p2), (3, .int p3)] := hl
  rw [f_X11_hem] at h
  refine lv_iload_n hx hb dX11_hem_0 rfl (lv_at hl 1 rfl) ?_
  refine lv_iconst (v := 1) hx hb dX11_hem_1 (by decide) ?_
  refine lv_bipush (v := 99) hx hb dX11_hem_2 (by decide) ?_
  obtain ⟨r_2, h_1, h⟩ := b1_e h
  refine xcall (rS C0 hK hP hl.1 (fun _ _ _ => trivial) Bt_b (c_X11_within hI h_1) cs_X11_within tw272 (rest := []) rfl (Nat.le_of_ble_eq_true rfl) ⟨rfl, rfl, Nat.le_of_ble_eq_true rfl, Nat.le_of_ble_eq_true rfl⟩ ⟨Nat.zero_le _, Nat.zero_le _⟩ dX11_hem_4) hS (fun H locs hP hS => ?_)
  refine lv_if_eq (tgt := 30) hx hb dX11_hem_7 (by decide) (fun c_3 => ?_) (fun c_3 => ?_)
  · have h := it c_3 h
    refine lv_iconst (v := (-1)) hx hb dX11_hem_30 (by decide) ?_
    rw [hQ]
    exact xzretr C0 hP hS rfl h dX11_hem_31
  · have h := ie c_3 h
    refine lv_iload_n hx hb dX11_hem_10 rfl (lv_at hl 2 rfl) ?_
    refine lv_iconst (v := 0) hx hb dX11_hem_11 (by decide) ?_
    refine lv_bipush (v := 99) hx hb dX11_hem_12 (by decide) ?_
    obtain ⟨r_5, h_4, h⟩ := b1_e h
    refine xcall (rS C0 hK hP hl.1 (fun _ _ _ => trivial) Bt_b (c_X11_within hI h_4) cs_X11_within tw272 (rest := []) rfl (Nat.le_of_ble_eq_true rfl) ⟨rfl, rfl, Nat.le_of_ble_eq_true rfl, Nat.le_of_ble_eq_true rfl⟩ ⟨Nat.zero_le _, Nat.zero_le _⟩ dX11_hem_14) hS (fun H locs hP hS => ?_)
    refine lv_if_eq (tgt := 30) hx hb dX11_hem_17 (by decide) (fun c_6 => ?_) (fun c_6 => ?_)
    · have h := it c_6 h
      refine lv_iconst (v := (-1)) hx hb dX11_hem_30 (by decide) ?_
      rw [hQ]
      exact xzretr C0 hP hS rfl h dX11_hem_31
    · have h := ie c_6 h
      refine lv_iload_n hx hb dX11_hem_20 rfl (lv_at hl 3 rfl) ?_
      refine lv_iconst (v := 0) hx hb dX11_hem_21 (by decide) ?_
      refine lv_bipush (v := 20) hx hb dX11_hem_22 (by decide) ?_
      obtain ⟨r_8, h_7, h⟩ := b1_e h
      refine xcall (rS C0 hK hP hl.1 (fun _ _ _ => trivial) Bt_b (c_X11_within hI h_7) cs_X11_within tw272 (rest := []) rfl (Nat.le_of_ble_eq_true rfl) ⟨rfl, rfl, Nat.le_of_ble_eq_true rfl, Nat.le_of_ble_eq_true rfl⟩ ⟨Nat.zero_le _, Nat.zero_le _⟩ dX11_hem_24) hS (fun H locs hP hS => ?_)
      refine lv_if_ne (tgt := 32) hx hb dX11_hem_27 (by decide) (fun c_9 => ?_) (fun c_9 => ?_)
      · have h := ie c_9 h
        refine lv_iload_n hx hb dX11_hem_32 rfl (lv_at hl 1 rfl) ?_
        refine lv_istore (lv' := [(4, .int p1), (0, .ref (a 0)), (1, .int p1), (2, .int p2), (3, .int p3)]) hx hb dX11_hem_33 hl (by decide) rfl (fun ls hl => ?_)
        refine lv_iconst (v := 0) hx hb dX11_hem_35 (by decide) ?_
        refine lv_istore (lv' := [(5, .int 0), (4, .int p1), (0, .ref (a 0)), (1, .int p1), (2, .int p2), (3, .int p3)]) hx hb dX11_hem_36 hl (by decide) rfl (fun ls hl => ?_)
        obtain ⟨K1, eK1, h⟩ := lp_e (f := fun K => f_X11_hem_L38 p2 p3 5000 p1 0 K) h
        have h : f_X11_hem_L38 p2 p3 5000 p1 0 K1 = some r := h
        have hX1 : ∀ (x4_15 : Int32) (u_16 : Int32) (H : Heap) (locs : List Loc) (ls : Array Slot), K1 x4_15 u_16 = some r → va_P D vwCl (wX ca a σ) H → va_S (AW 37 a) s.heap H locs → lv_has ls 6 [(4, .int x4_15)] → W p l e rm_X11_hem s m args below meth c H locs 0 0 Q (F0 m 67 ls []) := by
          intro x4_15 u_16 H locs ls h hP hS hl
          have h := ap2 eK1 h
          refine lv_iload hx hb dX11_hem_67 (lv_at hl 0 rfl) ?_
          rw [hQ]
          exact xzretr C0 hP hS rfl h dX11_hem_69
        have hL1 : ∀ (n : Nat) (x4_10 : Int32) (x5_11 : Int32) (H : Heap) (locs : List Loc) (ls : Array Slot), f_X11_hem_L38 p2 p3 n x4_10 x5_11 K1 = some r → va_P D vwCl (wX ca a σ) H → va_S (AW 37 a) s.heap H locs → lv_has ls 6 [(2, .int p2), (3, .int p3), (4, .int x4_10), (5, .int x5_11)] → W p l e rm_X11_hem s m args below meth c H locs 0 0 Q (F0 m 38 ls []) := by
          intro n
          induction n with
          | zero => intro x4_10 x5_11 H locs ls h; rw [f_X11_hem_L38] at h; cases h
          | succ n ih1 =>
            intro x4_10 x5_11 H locs ls h hP hS hl
            rw [f_X11_hem_L38] at h
            refine lv_iload hx hb dX11_hem_38 (lv_at hl 3 rfl) ?_
            refine lv_iload_n hx hb dX11_hem_40 rfl (lv_at hl 1 rfl) ?_
            refine lv_icmp_ge (tgt := 67) hx hb dX11_hem_41 (by decide) (fun c_12 => ?_) (fun c_12 => ?_)
            · have h := it c_12 h
              exact hX1 x4_10 x5_11 _ _ ls h hP hS (lv_sub hl [2] rfl)
            · have h := ie c_12 h
              refine lv_bipush (v := 99) hx hb dX11_hem_44 (by decide) ?_
              refine lv_iload hx hb dX11_hem_46 (lv_at hl 2 rfl) ?_
              refine lv_iload_n hx hb dX11_hem_48 rfl (lv_at hl 0 rfl) ?_
              refine lv_iload hx hb dX11_hem_49 (lv_at hl 2 rfl) ?_
              refine lv_imul hx hb dX11_hem_51 ?_
              refine lv_bipush (v := 100) hx hb dX11_hem_52 (by decide) ?_
              refine lv_idiv hx hb dX11_hem_54 (by decide) ?_
              refine lv_iadd hx hb dX11_hem_55 ?_
              refine va_mmin hx hb (C0.2.2.1.trans hl.1.symm) C0.2.2.2.1 (C0.2.2.2.2.1 _ tw638) (C0.2.2.2.2.1 _ tw373) (C0.2.2.2.2.1 _ tw76) (C0.2.2.2.2.1 _ tw374) (Nat.le_of_ble_eq_true rfl) (Nat.le_of_ble_eq_true rfl) (Nat.zero_le _) (Nat.zero_le _) dX11_hem_56 ?_
              obtain ⟨y_13, ey_13, h⟩ := bnd_e h
              refine nm_i ey_13 ?_
              refine lv_istore (lv' := [(4, .int y_13), (2, .int p2), (3, .int p3), (5, .int x5_11)]) hx hb dX11_hem_59 hl (by decide) rfl (fun ls hl => ?_)
              obtain ⟨x5_14, ex5_14, h⟩ := bnd_e h
              refine lv_iinc (v := x5_14) (lv' := [(5, .int x5_14), (4, .int y_13), (2, .int p2), (3, .int p3)]) hx hb dX11_hem_61 hl (k := 3) rfl (by rw [ex5_14]; rfl) (by decide) rfl (fun ls hl => ?_)
              refine lv_goto (tgt := 38) hx hb dX11_hem_64 (by decide) ?_
              exact ih1 y_13 x5_14 _ _ ls h hP hS (lv_sub hl [2, 3, 1, 0] rfl)
        exact hL1 5000 p1 0 _ _ ls h hP hS (lv_sub hl [4, 5, 1, 0] rfl)
      · have h := it c_9 h
        refine lv_iconst (v := (-1)) hx hb dX11_hem_30 (by decide) ?_
        rw [hQ]
        exact xzretr C0 hP hS rfl h dX11_hem_31
