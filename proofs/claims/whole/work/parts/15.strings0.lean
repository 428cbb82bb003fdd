def f_J3_checkIndex_8e157 (p1 : Int32) (p2 : Int32) : Option (Int32) :=
  if p1 < 0 then
    none
  else
    if p1 < p2 then
      some p1
    else
      none
def rm_J3_checkIndex_8e157 : Room := { frames := 0, cells := 0, slots := 0, locals := 0 }
set_option maxHeartbeats 4000000 in
set_option maxRecDepth 100000 in
theorem c_J3_checkIndex_8e157_N {l : Launch} {D : va_G} {ca : Nat → ClassId} {a : Nat → Nat} (hI : InjN 37 a) {adK adV : Nat → Nat} {p1 : Int32} {p2 : Int32} {σ : Mem} {r : Int32}  (h : f_J3_checkIndex_8e157 p1 p2 = some r) : XMX l D ca a (BS (AW 37 a) adK adV) yJ3_checkIndex_8e157 cJ3_checkIndex_8e157 3 (some .int) rm_J3_checkIndex_8e157 [.int p1, .int p2, .null] σ (some (.int r)) σ := by
  refine XM.of pn_J3 (Nat.le_of_ble_eq_true rfl) ?_
  intro p e s m args below meth c ls Q hQ C0 hK hB hP hS hl
  have C0 : Cx p s m args meth c RJ3 cJ3_checkIndex_8e157 3 (some .int) := C0
  have hx := C0.1
  have hb := C0.2.1
  have hl : lv_has ls 3 [(0, .int p1), (1, .int p2), (2, .null)] := hl
  rw [f_J3_checkIndex_8e157] at h
  refine lv_iload_n hx hb dJ3_checkIndex_8e157_0 rfl (lv_at hl 0 rfl) ?_
  refine lv_if_lt (tgt := 9) hx hb dJ3_checkIndex_8e157_1 (by decide) (fun c_1 => ?_) (fun c_1 => ?_)
  · have h := it c_1 h
    cases h
  · have h := ie c_1 h
    refine lv_iload_n hx hb dJ3_checkIndex_8e157_4 rfl (lv_at hl 0 rfl) ?_
    refine lv_iload_n hx hb dJ3_checkIndex_8e157_5 rfl (lv_at hl 1 rfl) ?_
    refine lv_icmp_lt (tgt := 16) hx hb dJ3_checkIndex_8e157_6 (by decide) (fun c_2 => ?_) (fun c_2 => ?_)
    · have h := it c_2 h
      refine lv_iload_n hx hb dJ3_checkIndex_8e157_16 rfl (lv_at hl 0 rfl) ?_
      rw [hQ]
      exact xzretr C0 hP hS rfl h dJ3_checkIndex_8e157_17
    · have h := ie c_2 h
      cases h
set_option maxHeartbeats 4000000 in
set_option maxRecDepth 100000 in
theorem c_J3_checkIndex_8e157_R {l : Launch} {D : va_G} {ca : Nat → ClassId} {a : Nat → Nat} (hI : InjN 37 a) {adK adV : Nat → Nat} {p1 : Int32} {p2 : Int32} {t3 : Nat} {σ : Mem} {r : Int32}  (h : f_J3_checkIndex_8e157 p1 p2 = some r) : XMX l D ca a (BS (AW 37 a) adK adV) yJ3_checkIndex_8e157 cJ3_checkIndex_8e157 3 (some .int) rm_J3_checkIndex_8e157 [.int p1, .int p2, .ref (t3)] σ (some (.int r)) σ := by
  refine XM.of pn_J3 (Nat.le_of_ble_eq_true rfl) ?_
  intro p e s m args below meth c ls Q hQ C0 hK hB hP hS hl
  have C0 : Cx p s m args meth c RJ3 cJ3_checkIndex_8e157 3 (some .int) := C0
  have hx := C0.1
  have hb := C0.2.1
  have hl : lv_has ls 3 [(0, .int p1), (1, .int p2), (2, .ref (t3))] := hl
  rw [f_J3_checkIndex_8e157] at h
  refine lv_iload_n hx hb dJ3_checkIndex_8e157_0 rfl (lv_at hl 0 rfl) ?_
  refine lv_if_lt (tgt := 9) hx hb dJ3_checkIndex_8e157_1 (by decide) (fun c_1 => ?_) (fun c_1 => ?_)
  · have h := it c_1 h
    cases h
  · have h := ie c_1 h
    refine lv_iload_n hx hb dJ3_checkIndex_8e157_4 rfl (lv_at hl 0 rfl) ?_
    refine lv_iload_n hx hb dJ3_checkIndex_8e157_5 rfl (lv_at hl 1 rfl) ?_
    refine lv_icmp_lt (tgt := 16) hx hb dJ3_checkIndex_8e157_6 (by decide) (fun c_2 => ?_) (fun c_2 => ?_)
    · have h := it c_2 h
      refine lv_iload_n hx hb dJ3_checkIndex_8e157_16 rfl (lv_at hl 0 rfl) ?_
      rw [hQ]
      exact xzretr C0 hP hS rfl h dJ3_checkIndex_8e157_17
    · have h := ie c_2 h
      cases h
def f_J0_checkIndex_df160 (p1 : Int32) (p2 : Int32) : Option (Unit) :=
  b1 (f_J3_checkIndex_8e157 p1 p2) fun r_2 =>
  some ()
def rm_J0_checkIndex_df160 : Room := { frames := 1, cells := 0, slots := 0, locals := 22 }
set_option maxHeartbeats 4000000 in
set_option maxRecDepth 100000 in
theorem c_J0_checkIndex_df160 {l : Launch} {D : va_G} {ca : Nat → ClassId} {a : Nat → Nat} (hI : InjN 37 a) {adK adV : Nat → Nat} {p1 : Int32} {p2 : Int32} {σ : Mem}  (h : f_J0_checkIndex_df160 p1 p2 = some ()) : XMX l D ca a (BS (AW 37 a) adK adV) yJ0_checkIndex_df160 cJ0_checkIndex_df160 2 none rm_J0_checkIndex_df160 [.int p1, .int p2] σ none σ := by
  refine XM.of pn_J0 (Nat.le_of_ble_eq_true rfl) ?_
  intro p e s m args below meth c ls Q hQ C0 hK hB hP hS hl
  have C0 : Cx p s m args meth c RJ0 cJ0_checkIndex_df160 2 none := C0
  have hx := C0.1
  have hb := C0.2.1
  have hl : lv_has ls 2 [(0, .int p1), (1, .int p2)] := hl
  rw [f_J0_checkIndex_df160] at h
  refine lv_iload_n hx hb dJ0_checkIndex_df160_0 rfl (lv_at hl 0 rfl) ?_
  refine lv_iload_n hx hb dJ0_checkIndex_df160_1 rfl (lv_at hl 1 rfl) ?_
  rcases hB.2.2.2 with hz | ⟨t9, hz⟩
  · refine va_gets hx hb hz hS C0.2.2.2.1 (C0.2.2.2.2.1 _ tw331) (fun _ h9 => h9) dJ0_checkIndex_df160_2 ?_
    obtain ⟨r_2, h_1, h⟩ := b1_e h
    refine xcall (rS C0 hK hP hl.1 (BS.at hB hS) BS_b (c_J3_checkIndex_8e157_N hI h_1) cs_J3_checkIndex_8e157 tw333 (rest := []) rfl (Nat.le_of_ble_eq_true rfl) ⟨rfl, rfl, Nat.le_of_ble_eq_true rfl, Nat.le_of_ble_eq_true rfl⟩ ⟨Nat.zero_le _, Nat.zero_le _⟩ dJ0_checkIndex_df160_5) hS (fun H locs hP hS => ?_)
    refine lv_pop hx hb dJ0_checkIndex_df160_8 rfl ?_
    rw [hQ]
    exact xvret (σ' := σ) C0 hP hS rfl dJ0_checkIndex_df160_9
  · refine va_gets hx hb hz hS C0.2.2.2.1 (C0.2.2.2.2.1 _ tw331) (fun _ h9 => h9) dJ0_checkIndex_df160_2 ?_
    obtain ⟨r_4, h_3, h⟩ := b1_e h
    refine xcall (rS C0 hK hP hl.1 (BS.at hB hS) BS_b (c_J3_checkIndex_8e157_R hI h_3) cs_J3_checkIndex_8e157 tw333 (rest := []) rfl (Nat.le_of_ble_eq_true rfl) ⟨rfl, rfl, Nat.le_of_ble_eq_true rfl, Nat.le_of_ble_eq_true rfl⟩ ⟨Nat.zero_le _, Nat.zero_le _⟩ dJ0_checkIndex_df160_5) hS (fun H locs hP hS => ?_)
    refine lv_pop hx hb dJ0_checkIndex_df160_8 rfl ?_
    rw [hQ]
    exact xvret (σ' := σ) C0 hP hS rfl dJ0_checkIndex_df160_9
def f_J1_charAt_3b067 (z1 : Nat) (p2 : Int32) : Option (Int32) :=
  bnd (nI (sLen.getD z1 0)) fun (y_1 : Int32) =>
  b1 (f_J0_checkIndex_df160 p2 y_1) fun _ =>
  if p2 < 0 ∨ sLen.getD z1 0 ≤ p2.toNatClampNeg then none else
  some (((((sByt.getD z1 []).getD p2.toNatClampNeg 0) &&& 255).toUInt32 % 65536).toInt32)
def rm_J1_charAt_3b067 : Room := { frames := 2, cells := 0, slots := 0, locals := 43 }
set_option maxHeartbeats 4000000 in
set_option maxRecDepth 100000 in
theorem c_J1_charAt_3b067 {l : Launch} {D : va_G} {ca : Nat → ClassId} {a : Nat → Nat} (hI : InjN 37 a) {adK adV : Nat → Nat} {z1 : Nat} {p2 : Int32} {σ : Mem} {r : Int32} (hk_z1 : z1 < 5) (h : f_J1_charAt_3b067 z1 p2 = some r) : XMX l D ca a (BS (AW 37 a) adK adV) yJ1_charAt_3b067 cJ1_charAt_3b067 2 (some .char) rm_J1_charAt_3b067 [.ref (adV z1), .int p2] σ (some (.int r)) σ := by
  refine XM.of pn_J1 (Nat.le_of_ble_eq_true rfl) ?_
  intro p e s m args below meth c ls Q hQ C0 hK hB hP hS hl
  have C0 : Cx p s m args meth c RJ1 cJ1_charAt_3b067 2 (some .char) := C0
  have hx := C0.1
  have hb := C0.2.1
  have hl : lv_has ls 2 [(0, .ref (adV z1)), (1, .int p2)] := hl
  rw [f_J1_charAt_3b067] at h
  refine lv_iload_n hx hb dJ1_charAt_3b067_0 rfl (lv_at hl 1 rfl) ?_
  refine lv_aload_n hx hb dJ1_charAt_3b067_1 rfl (lv_at hl 0 rfl) ?_
  refine va_tlen (v := nI (sLen.getD z1 0)) hx hb (hB.1.1 z1 hk_z1).2.2.2 hS rfl dJ1_charAt_3b067_2 ?_
  obtain ⟨y_1, ey_1, h⟩ := bnd_e h
  rw [← ey_1]
  obtain ⟨_, h_2, h⟩ := b1_e h
  refine xcall (rS C0 hK hP hl.1 (BS.at hB hS) BS_b (c_J0_checkIndex_df160 hI h_2) cs_J0_checkIndex_df160 tw328 (rest := []) rfl (Nat.le_of_ble_eq_true rfl) ⟨rfl, rfl, Nat.le_of_ble_eq_true rfl, Nat.le_of_ble_eq_true rfl⟩ ⟨Nat.zero_le _, Nat.zero_le _⟩ dJ1_charAt_3b067_3) hS (fun H locs hP hS => ?_)
  refine lv_aload_n hx hb dJ1_charAt_3b067_6 rfl (lv_at hl 0 rfl) ?_
  refine lv_iload_n hx hb dJ1_charAt_3b067_7 rfl (lv_at hl 1 rfl) ?_
  obtain ⟨b_3, h⟩ := ck h
  refine va_tb hx hb (hB.1.1 z1 hk_z1).2.2.2 hS b_3 rfl dJ1_charAt_3b067_8 ?_
  refine lv_sipush (v := 255) hx hb dJ1_charAt_3b067_9 (by decide) ?_
  refine lv_iand hx hb dJ1_charAt_3b067_12 ?_
  refine lv_i2c (v := ((((sByt.getD z1 []).getD p2.toNatClampNeg 0) &&& 255).toUInt32 % 65536).toInt32) hx hb dJ1_charAt_3b067_13 rfl ?_
  rw [hQ]
  exact xzretr C0 hP hS (pk_nc _) h dJ1_charAt_3b067_14
def f_J0_isLatin1_aae02 (z0 : Nat) : Option (Int32) :=
  if (1 : Int32) = 0 then
    none
  else
    if (0 : Int32) = 0 then
      some 1
    else
      none
def rm_J0_isLatin1_aae02 : Room := { frames := 0, cells := 0, slots := 0, locals := 0 }
set_option maxHeartbeats 4000000 in
set_option maxRecDepth 100000 in
theorem c_J0_isLatin1_aae02 {l : Launch} {D : va_G} {ca : Nat → ClassId} {a : Nat → Nat} (hI : InjN 37 a) {adK adV : Nat → Nat} {z0 : Nat} {σ : Mem} {r : Int32} (hk_z0 : z0 < 5) (h : f_J0_isLatin1_aae02 z0 = some r) : XMX l D ca a (BS (AW 37 a) adK adV) yJ0_isLatin1_aae02 cJ0_isLatin1_aae02 1 (some .boolean) rm_J0_isLatin1_aae02 [.ref (adK z0)] σ (some (.int r)) σ := by
  refine XM.of pn_J0 (Nat.le_of_ble_eq_true rfl) ?_
  intro p e s m args below meth c ls Q hQ C0 hK hB hP hS hl
  have C0 : Cx p s m args meth c RJ0 cJ0_isLatin1_aae02 1 (some .boolean) := C0
  have hx := C0.1
  have hb := C0.2.1
  have hl : lv_has ls 1 [(0, .ref (adK z0))] := hl
  rw [f_J0_isLatin1_aae02] at h
  refine va_gets hx hb hB.2.2.1 hS C0.2.2.2.1 (C0.2.2.2.2.1 _ tw315) (fun _ h9 => h9) dJ0_isLatin1_aae02_0 ?_
  refine lv_if_eq (tgt := 17) hx hb dJ0_isLatin1_aae02_3 (by decide) (fun c_1 => ?_) (fun c_1 => ?_)
  · have h := it c_1 h
    cases h
  · have h := ie c_1 h
    refine lv_aload_n hx hb dJ0_isLatin1_aae02_6 rfl (lv_at hl 0 rfl) ?_
    refine vk_getf hx hb (hB.1.1 z0 hk_z0).2.1 hS C0.2.2.2.1 (C0.2.2.2.2.1 _ tw1346) (fun _ h9 => h9) dJ0_isLatin1_aae02_7 ?_
    refine lv_if_ne (tgt := 17) hx hb dJ0_isLatin1_aae02_10 (by decide) (fun c_2 => ?_) (fun c_2 => ?_)
    · have h := ie c_2 h
      cases h
    · have h := it c_2 h
      refine lv_iconst (v := 1) hx hb dJ0_isLatin1_aae02_13 (by decide) ?_
      refine lv_goto (tgt := 18) hx hb dJ0_isLatin1_aae02_14 (by decide) ?_
      rw [hQ]
      exact xzretr C0 hP hS rfl h dJ0_isLatin1_aae02_18
def f_J0_coder_7d493 (z0 : Nat) : Option (Int32) :=
  if (1 : Int32) = 0 then
    none
  else
    some 0
def rm_J0_coder_7d493 : Room := { frames := 0, cells := 0, slots := 0, locals := 0 }
set_option maxHeartbeats 4000000 in
set_option maxRecDepth 100000 in
theorem c_J0_coder_7d493 {l : Launch} {D : va_G} {ca : Nat → ClassId} {a : Nat → Nat} (hI : InjN 37 a) {adK adV : Nat → Nat} {z0 : Nat} {σ : Mem} {r : Int32} (hk_z0 : z0 < 5) (h : f_J0_coder_7d493 z0 = some r) : XMX l D ca a (BS (AW 37 a) adK adV) yJ0_coder_7d493 cJ0_coder_7d493 1 (some .byte) rm_J0_coder_7d493 [.ref (adK z0)] σ (some (.int r)) σ := by
  refine XM.of pn_J0 (Nat.le_of_ble_eq_true rfl) ?_
  intro p e s m args below meth c ls Q hQ C0 hK hB hP hS hl
  have C0 : Cx p s m args meth c RJ0 cJ0_coder_7d493 1 (some .byte) := C0
  have hx := C0.1
  have hb := C0.2.1
  have hl : lv_has ls 1 [(0, .ref (adK z0))] := hl
  rw [f_J0_coder_7d493] at h
  refine va_gets hx hb hB.2.2.1 hS C0.2.2.2.1 (C0.2.2.2.2.1 _ tw315) (fun _ h9 => h9) dJ0_coder_7d493_0 ?_
  refine lv_if_eq (tgt := 13) hx hb dJ0_coder_7d493_3 (by decide) (fun c_1 => ?_) (fun c_1 => ?_)
  · have h := it c_1 h
    cases h
  · have h := ie c_1 h
    refine lv_aload_n hx hb dJ0_coder_7d493_6 rfl (lv_at hl 0 rfl) ?_
    refine vk_getf hx hb (hB.1.1 z0 hk_z0).2.1 hS C0.2.2.2.1 (C0.2.2.2.2.1 _ tw1346) (fun _ h9 => h9) dJ0_coder_7d493_7 ?_
    refine lv_goto (tgt := 14) hx hb dJ0_coder_7d493_10 (by decide) ?_
    rw [hQ]
    exact xzretr C0 hP hS rfl h dJ0_coder_7d493_14
def f_J0_length_8abf5 (z0 : Nat) : Option (Int32) :=
  b1 (f_J0_coder_7d493 z0) fun r_2 =>
  some ((nI (sLen.getD z0 0)) >>> (r_2 &&& 31))
def rm_J0_length_8abf5 : Room := { frames := 1, cells := 0, slots := 0, locals := 20 }
set_option maxHeartbeats 4000000 in
set_option maxRecDepth 100000 in
theorem c_J0_length_8abf5 {l : Launch} {D : va_G} {ca : Nat → ClassId} {a : Nat → Nat} (hI : InjN 37 a) {adK adV : Nat → Nat} {z0 : Nat} {σ : Mem} {r : Int32} (hk_z0 : z0 < 5) (h : f_J0_length_8abf5 z0 = some r) : XMX l D ca a (BS (AW 37 a) adK adV) yJ0_length_8abf5 cJ0_length_8abf5 1 (some .int) rm_J0_length_8abf5 [.ref (adK z0)] σ (some (.int r)) σ := by
  refine XM.of pn_J0 (Nat.le_of_ble_eq_true rfl) ?_
  intro p e s m args below meth c ls Q hQ C0 hK hB hP hS hl
  have C0 : Cx p s m args meth c RJ0 cJ0_length_8abf5 1 (some .int) := C0
  have hx := C0.1
  have hb := C0.2.1
  have hl : lv_has ls 1 [(0, .ref (adK z0))] := hl
  rw [f_J0_length_8abf5] at h
  refine lv_aload_n hx hb dJ0_length_8abf5_0 rfl (lv_at hl 0 rfl) ?_
  refine vk_getf hx hb (hB.1.1 z0 hk_z0).2.2.1 hS C0.2.2.2.1 (C0.2.2.2.2.1 _ tw1345) (fun _ h9 => h9) dJ0_length_8abf5_1 ?_
  refine va_tlen (v := nI (sLen.getD z0 0)) hx hb (hB.1.1 z0 hk_z0).2.2.2 hS rfl dJ0_length_8abf5_4 ?_
  refine lv_aload_n hx hb dJ0_length_8abf5_5 rfl (lv_at hl 0 rfl) ?_
  obtain ⟨r_2, h_1, h⟩ := b1_e h
  refine xcall (rV C0 hK hP hl.1 (BS.at hB hS) BS_b (c_J0_coder_7d493 hI hk_z0 h_1) cv_J0_coder_7d493 tw311 (vk_recv hB.1 hk_z0 hS) (rest := [.int (nI (sLen.getD z0 0))]) rfl (Nat.le_of_ble_eq_true rfl) ⟨rfl, rfl, Nat.le_of_ble_eq_true rfl, Nat.le_of_ble_eq_true rfl⟩ ⟨Nat.zero_le _, Nat.zero_le _⟩ dJ0_length_8abf5_6) hS (fun H locs hP hS => ?_)
  refine lv_ishr hx hb dJ0_length_8abf5_9 ?_
  rw [hQ]
  exact xzretr C0 hP hS rfl h dJ0_length_8abf5_10
def f_J0_isEmpty_aae02 (z0 : Nat) : Option (Int32) :=
  if (nI (sLen.getD z0 0)) = 0 then
    some 1
  else
    some 0
def rm_J0_isEmpty_aae02 : Room := { frames := 0, cells := 0, slots := 0, locals := 0 }
set_option maxHeartbeats 4000000 in
set_option maxRecDepth 100000 in
theorem c_J0_isEmpty_aae02 {l : Launch} {D : va_G} {ca : Nat → ClassId} {a : Nat → Nat} (hI : InjN 37 a) {adK adV : Nat → Nat} {z0 : Nat} {σ : Mem} {r : Int32} (hk_z0 : z0 < 5) (h : f_J0_isEmpty_aae02 z0 = some r) : XMX l D ca a (BS (AW 37 a) adK adV) yJ0_isEmpty_aae02 cJ0_isEmpty_aae02 1 (some .boolean) rm_J0_isEmpty_aae02 [.ref (adK z0)] σ (some (.int r)) σ := by
  refine XM.of pn_J0 (Nat.le_of_ble_eq_true rfl) ?_
  intro p e s m args below meth c ls Q hQ C0 hK hB hP hS hl
  have C0 : Cx p s m args meth c RJ0 cJ0_isEmpty_aae02 1 (some .boolean) := C0
  have hx := C0.1
  have hb := C0.2.1
  have hl : lv_has ls 1 [(0, .ref (adK z0))] := hl
  rw [f_J0_isEmpty_aae02] at h
  refine lv_aload_n hx hb dJ0_isEmpty_aae02_0 rfl (lv_at hl 0 rfl) ?_
  refine vk_getf hx hb (hB.1.1 z0 hk_z0).2.2.1 hS C0.2.2.2.1 (C0.2.2.2.2.1 _ tw1345) (fun _ h9 => h9) dJ0_isEmpty_aae02_1 ?_
  refine va_tlen (v := nI (sLen.getD z0 0)) hx hb (hB.1.1 z0 hk_z0).2.2.2 hS rfl dJ0_isEmpty_aae02_4 ?_
  refine lv_if_ne (tgt := 12) hx hb dJ0_isEmpty_aae02_5 (by decide) (fun c_1 => ?_) (fun c_1 => ?_)
  · have h := ie c_1 h
    refine lv_iconst (v := 0) hx hb dJ0_isEmpty_aae02_12 (by decide) ?_
    rw [hQ]
    exact xzretr C0 hP hS rfl h dJ0_isEmpty_aae02_13
  · have h := it c_1 h
    refine lv_iconst (v := 1) hx hb dJ0_isEmpty_aae02_8 (by decide) ?_
    refine lv_goto (tgt := 13) hx hb dJ0_isEmpty_aae02_9 (by decide) ?_
    rw [hQ]
    exact xzretr C0 hP hS rfl h dJ0_isEmpty_aae02_13
def f_J0_charAt_5068e (z0 : Nat) (p1 : Int32) : Option (Int32) :=
  b1 (f_J0_isLatin1_aae02 z0) fun r_2 =>
  if r_2 = 0 then
    none
  else
    b1 (f_J1_charAt_3b067 z0 p1) fun r_5 =>
    if (r_5.toUInt32 % 65536).toInt32 = r_5 then some r_5 else none
def rm_J0_charAt_5068e : Room := { frames := 4, cells := 0, slots := 0, locals := 85 }
set_option maxHeartbeats 4000000 in
set_option maxRecDepth 100000 in
theorem c_J0_charAt_5068e {l : Launch} {D : va_G} {ca : Nat → ClassId} {a : Nat → Nat} (hI : InjN 37 a) {adK adV : Nat → Nat} {z0 : Nat} {p1 : Int32} {σ : Mem} {r : Int32} (hk_z0 : z0 < 5) (h : f_J0_charAt_5068e z0 p1 = some r) : XMX l D ca a (BS (AW 37 a) adK adV) yJ0_charAt_5068e cJ0_charAt_5068e 2 (some .char) rm_J0_charAt_5068e [.ref (adK z0), .int p1] σ (some (.int r)) σ := by
  refine XM.of pn_J0 (Nat.le_of_ble_eq_true rfl) ?_
  intro p e s m args below meth c ls Q hQ C0 hK hB hP hS hl
  have C0 : Cx p s m args meth c RJ0 cJ0_charAt_5068e 2 (some .char) := C0
  have hx := C0.1
  have hb := C0.2.1
  have hl : lv_has ls 2 [(0, .ref (adK z0)), (1, .int p1)] := hl
  rw [f_J0_charAt_5068e] at h
  refine lv_aload_n hx hb dJ0_charAt_5068e_0 rfl (lv_at hl 0 rfl) ?_
  obtain ⟨r_2, h_1, h⟩ := b1_e h
  refine xcall (rV C0 hK hP hl.1 (BS.at hB hS) BS_b (c_J0_isLatin1_aae02 hI hk_z0 h_1) cv_J0_isLatin1_aae02 tw321 (vk_recv hB.1 hk_z0 hS) (rest := []) rfl (Nat.le_of_ble_eq_true rfl) ⟨rfl, rfl, Nat.le_of_ble_eq_true rfl, Nat.le_of_ble_eq_true rfl⟩ ⟨Nat.zero_le _, Nat.zero_le _⟩ dJ0_charAt_5068e_1) hS (fun H locs hP hS => ?_)
  refine lv_if_eq (tgt := 16) hx hb dJ0_charAt_5068e_4 (by decide) (fun c_3 => ?_) (fun c_3 => ?_)
  · have h := it c_3 h
    cases h
  · have h := ie c_3 h
    refine lv_aload_n hx hb dJ0_charAt_5068e_7 rfl (lv_at hl 0 rfl) ?_
    refine vk_getf hx hb (hB.1.1 z0 hk_z0).2.2.1 hS C0.2.2.2.1 (C0.2.2.2.2.1 _ tw1345) (fun _ h9 => h9) dJ0_charAt_5068e_8 ?_
    refine lv_iload_n hx hb dJ0_charAt_5068e_11 rfl (lv_at hl 1 rfl) ?_
    obtain ⟨r_5, h_4, h⟩ := b1_e h
    refine xcall (rS C0 hK hP hl.1 (BS.at hB hS) BS_b (c_J1_charAt_3b067 hI hk_z0 h_4) cs_J1_charAt_3b067 tw325 (rest := []) rfl (Nat.le_of_ble_eq_true rfl) ⟨rfl, rfl, Nat.le_of_ble_eq_true rfl, Nat.le_of_ble_eq_true rfl⟩ ⟨Nat.zero_le _, Nat.zero_le _⟩ dJ0_charAt_5068e_12) hS (fun H locs hP hS => ?_)
    obtain ⟨b_6, h⟩ := asr h
    rw [hQ]
    exact xzretr C0 hP hS (by rw [← b_6]; exact pk_nc _) h dJ0_charAt_5068e_15
def f_X8_formBehind (p1 : Int32) : Option (Nat) :=
  if p1 = 108 then
    some 2
  else
    if p1 = 109 then
      some 4
    else
      if p1 = 110 then
        some 4
      else
        if p1 = 111 then
          some 4
        else
          if p1 = 112 then
            some 3
          else
            if p1 = 113 then
              some 4
            else
              if p1 = 114 then
                some 0
              else
                if p1 = 115 then
                  some 4
                else
                  if p1 = 116 then
                    some 1
                  else
                    some 4
def rm_X8_formBehind : Room := { frames := 0, cells := 0, slots := 0, locals := 0 }
set_option maxHeartbeats 4000000 in
set_option maxRecDepth 100000 in
theorem c_X8_formBehind {l : Launch} {D : va_G} {ca : Nat → ClassId} {a : Nat → Nat} (hI : InjN 37 a) {adK adV : Nat → Nat} {p1 : Int32} {σ : Mem} {r : Nat}  (h : f_X8_formBehind p1 = some r) : XMX l D ca a (BS (AW 37 a) adK adV) yX8_formBehind cX8_formBehind 1 (some (.object "java/lang/String")) rm_X8_formBehind [.int p1] σ (some (.ref (adK r))) σ := by
  refine XM.of pn_X8 (Nat.le_of_ble_eq_true rfl) ?_
  intro p e s m args below meth c ls Q hQ C0 hK hB hP hS hl
  have C0 : Cx p s m args meth c RX8 cX8_formBehind 1 (some (.object "java/lang/String")) := C0
  have hx := C0.1
  have hb := C0.2.1
  have hl : lv_has ls 1 [(0, .int p1)] := hl
  rw [f_X8_formBehind] at h
  refine lv_iload_n hx hb dX8_formBehind_0 rfl (lv_at hl 0 rfl) ?_
  by_cases c_1 : p1 = 108
  · have h := it c_1 h
    refine lv_tableIn (off := 57) (tgt := 58) hx hb dX8_formBehind_1 (by rw [c_1]; decide) (by rw [c_1]; decide) (by rw [c_1]; rfl) (by decide) ?_
    refine va_ldcS hx hb C0.2.2.2.1 hB.2.1.2.2.1 dX8_formBehind_58 ?_
    rw [hQ]
    exact xaretr (ad := fun r => adK r) C0 hP hS h dX8_formBehind_60
  · have h := ie c_1 h
    by_cases c_2 : p1 = 109
    · have h := it c_2 h
      refine lv_tableIn (off := 63) (tgt := 64) hx hb dX8_formBehind_1 (by rw [c_2]; decide) (by rw [c_2]; decide) (by rw [c_2]; rfl) (by decide) ?_
      refine va_ldcS hx hb C0.2.2.2.1 hB.2.1.2.2.2.2 dX8_formBehind_64 ?_
      rw [hQ]
      exact xaretr (ad := fun r => adK r) C0 hP hS h dX8_formBehind_66
    · have h := ie c_2 h
      by_cases c_3 : p1 = 110
      · have h := it c_3 h
        refine lv_tableIn (off := 63) (tgt := 64) hx hb dX8_formBehind_1 (by rw [c_3]; decide) (by rw [c_3]; decide) (by rw [c_3]; rfl) (by decide) ?_
        refine va_ldcS hx hb C0.2.2.2.1 hB.2.1.2.2.2.2 dX8_formBehind_64 ?_
        rw [hQ]
        exact xaretr (ad := fun r => adK r) C0 hP hS h dX8_formBehind_66
      · have h := ie c_3 h
        by_cases c_4 : p1 = 111
        · have h := it c_4 h
          refine lv_tableIn (off := 63) (tgt := 64) hx hb dX8_formBehind_1 (by rw [c_4]; decide) (by rw [c_4]; decide) (by rw [c_4]; rfl) (by decide) ?_
          refine va_ldcS hx hb C0.2.2.2.1 hB.2.1.2.2.2.2 dX8_formBehind_64 ?_
          rw [hQ]
          exact xaretr (ad := fun r => adK r) C0 hP hS h dX8_formBehind_66
        · have h := ie c_4 h
          by_cases c_5 : p1 = 112
          · have h := it c_5 h
            refine lv_tableIn (off := 60) (tgt := 61) hx hb dX8_formBehind_1 (by rw [c_5]; decide) (by rw [c_5]; decide) (by rw [c_5]; rfl) (by decide) ?_
            refine va_ldcS hx hb C0.2.2.2.1 hB.2.1.2.2.2.1 dX8_formBehind_61 ?_
            rw [hQ]
            exact xaretr (ad := fun r => adK r) C0 hP hS h dX8_formBehind_63
          · have h := ie c_5 h
            by_cases c_6 : p1 = 113
            · have h := it c_6 h
              refine lv_tableIn (off := 63) (tgt := 64) hx hb dX8_formBehind_1 (by rw [c_6]; decide) (by rw [c_6]; decide) (by rw [c_6]; rfl) (by decide) ?_
              refine va_ldcS hx hb C0.2.2.2.1 hB.2.1.2.2.2.2 dX8_formBehind_64 ?_
              rw [hQ]
              exact xaretr (ad := fun r => adK r) C0 hP hS h dX8_formBehind_66
            · have h := ie c_6 h
              by_cases c_7 : p1 = 114
              · have h := it c_7 h
                refine lv_tableIn (off := 51) (tgt := 52) hx hb dX8_formBehind_1 (by rw [c_7]; decide) (by rw [c_7]; decide) (by rw [c_7]; rfl) (by decide) ?_
                refine va_ldcS hx hb C0.2.2.2.1 hB.2.1.1 dX8_formBehind_52 ?_
                rw [hQ]
                exact xaretr (ad := fun r => adK r) C0 hP hS h dX8_formBehind_54
              · have h := ie c_7 h
                by_cases c_8 : p1 = 115
                · have h := it c_8 h
                  refine lv_tableIn (off := 63) (tgt := 64) hx hb dX8_formBehind_1 (by rw [c_8]; decide) (by rw [c_8]; decide) (by rw [c_8]; rfl) (by decide) ?_
                  refine va_ldcS hx hb C0.2.2.2.1 hB.2.1.2.2.2.2 dX8_formBehind_64 ?_
                  rw [hQ]
                  exact xaretr (ad := fun r => adK r) C0 hP hS h dX8_formBehind_66
                · have h := ie c_8 h
                  by_cases c_9 : p1 = 116
                  · have h := it c_9 h
                    refine lv_tableIn (off := 54) (tgt := 55) hx hb dX8_formBehind_1 (by rw [c_9]; decide) (by rw [c_9]; decide) (by rw [c_9]; rfl) (by decide) ?_
                    refine va_ldcS hx hb C0.2.2.2.1 hB.2.1.2.1 dX8_formBehind_55 ?_
                    rw [hQ]
                    exact xaretr (ad := fun r => adK r) C0 hP hS h dX8_formBehind_57
                  · have h := ie c_9 h
                    refine lv_tableOut (tgt := 64) hx hb dX8_formBehind_1 (by have := sw_ne (k := 108) (by decide) c_1; have := sw_ne (k := 109) (by decide) c_2; have := sw_ne (k := 110) (by decide) c_3; have := sw_ne (k := 111) (by decide) c_4; have := sw_ne (k := 112) (by decide) c_5; have := sw_ne (k := 113) (by decide) c_6; have := sw_ne (k := 114) (by decide) c_7; have := sw_ne (k := 115) (by decide) c_8; have := sw_ne (k := 116) (by decide) c_9; omega) (by decide) ?_
                    refine va_ldcS hx hb C0.2.2.2.1 hB.2.1.2.2.2.2 dX8_formBehind_64 ?_
                    rw [hQ]
                    exact xaretr (ad := fun r => adK r) C0 hP hS h dX8_formBehind_66
def f_X8_readStatement_L46 (d1 : Nat) (r_6 : Nat) : Nat → Int32 → Mem → (Int32 → Mem → Option (Int32 × Mem)) → Option (Int32 × Mem)
  | 0, _, _, _ => none
  | n + 1, x3_13, σ_14, K1 =>
    b1 (f_J0_length_8abf5 r_6) fun r_16 =>
    if r_16 ≤ x3_13 then
      K1 x3_13 σ_14
    else
      b1 (f_J0_charAt_5068e r_6 x3_13) fun r_19 =>
      b2 (f_X8_readPart d1 r_19 σ_14) fun r_21 σ_22 =>
      if r_21 = 0 then
        some (0, σ_22)
      else
        bnd (x3_13 + 1) fun (x3_24 : Int32) =>
        f_X8_readStatement_L46 d1 r_6 n x3_24 σ_22 K1
def f_X8_readStatement (d1 : Nat) (σ : Mem) : Option (Int32 × Mem) :=
  bnd (uX σ 35 1 0) fun (σ_1 : Mem) =>
  b1 (f_X5_at d1 (σ_1 35 2) σ_1) fun r_3 =>
  bnd (uX σ_1 35 3 r_3) fun (σ_4 : Mem) =>
  b1 (f_X8_formBehind (σ_4 35 3)) fun r_6 =>
  if r_6 < 5 then
    b1 (f_J0_isEmpty_aae02 r_6) fun r_9 =>
    if r_9 = 0 then
      bnd ((σ_4 35 2) + 1) fun (y_11 : Int32) =>
      bnd (uX σ_4 35 2 y_11) fun (σ_12 : Mem) =>
      f_X8_readStatement_L46 d1 r_6 5000 0 σ_12 fun (u_25 : Int32) (σ_26 : Mem) =>
        some (1, σ_26)
    else
      some (0, σ_4)
  else none
def rm_X8_readStatement : Room := { frames := 5, cells := 0, slots := 0, locals := 106 }
set_option maxHeartbeats 4000000 in
set_option maxRecDepth 100000 in
theorem c_X8_readStatement {l : Launch} {D : va_G} {ca : Nat → ClassId} {a : Nat → Nat} (hI : InjN 37 a) {adK adV : Nat → Nat} {d1 : Nat} {σ : Mem} {r : Int32} {σ' : Mem} (hk_d1 : d1 < 9) (h : f_X8_readStatement d1 σ = some (r, σ')) : XMX l D ca a (BS (AW 37 a) adK adV) yX8_readStatement cX8_readStatement 4 (some .boolean) rm_X8_readStatement [.ref (a 35), .ref (a (7 + 2 * d1))] σ (some (.int r)) σ' := by
  refine XM.of pn_X8 (Nat.le_of_ble_eq_true rfl) ?_
  intro p e s m args below meth c ls Q hQ C0 hK hB hP hS hl
  have C0 : Cx p s m args meth c RX8 cX8_readStatement 4 (some .boolean) := C0
  have hx := C0.1
  have hb := C0.2.1
  have hl : lv_has ls 4 [(0, .ref (a 35)), (1, .ref (a (7 + 2 * d1)))] := hl
  rw [f_X8_readStatement] at h
  refine lv_aload_n hx hb dX8_readStatement_0 rfl (lv_at hl 0 rfl) ?_
  refine lv_iconst (v := 0) hx hb dX8_readStatement_1 (by decide) ?_
  obtain ⟨σ_1, eσ_1, h⟩ := bnd_e h
  refine pX8_1 C0 hK hP tw170 hI hS dX8_readStatement_2 (fun H locs hP hS => ?_)
  rw [← eσ_1] at hP
  refine lv_aload_n hx hb dX8_readStatement_5 rfl (lv_at hl 0 rfl) ?_
  refine lv_aload_n hx hb dX8_readStatement_6 rfl (lv_at hl 1 rfl) ?_
  refine lv_aload_n hx hb dX8_readStatement_7 rfl (lv_at hl 0 rfl) ?_
  refine gX8_2 C0 hK hP tw172 dX8_readStatement_8 ?_
  obtain ⟨r_3, h_2, h⟩ := b1_e h
  refine xcall (rV C0 hK hP hl.1 (fun _ _ _ => trivial) Bt_b (c_X5_at hI hk_d1 h_2) cv_X5_at tw291 (rcX5 hK hP hk_d1) (rest := [.ref (a 35)]) rfl (Nat.le_of_ble_eq_true rfl) ⟨rfl, rfl, Nat.le_of_ble_eq_true rfl, Nat.le_of_ble_eq_true rfl⟩ ⟨Nat.zero_le _, Nat.zero_le _⟩ dX8_readStatement_11) hS (fun H locs hP hS => ?_)
  obtain ⟨σ_4, eσ_4, h⟩ := bnd_e h
  refine pX8_3 C0 hK hP tw173 hI hS dX8_readStatement_14 (fun H locs hP hS => ?_)
  rw [← eσ_4] at hP
  refine lv_aload_n hx hb dX8_readStatement_17 rfl (lv_at hl 0 rfl) ?_
  refine gX8_3 C0 hK hP tw173 dX8_readStatement_18 ?_
  obtain ⟨r_6, h_5, h⟩ := b1_e h
  refine xcall (rS C0 hK hP hl.1 (BS.at hB hS) BS_b (c_X8_formBehind hI h_5) cs_X8_formBehind tw295 (rest := []) rfl (Nat.le_of_ble_eq_true rfl) ⟨rfl, rfl, Nat.le_of_ble_eq_true rfl, Nat.le_of_ble_eq_true rfl⟩ ⟨Nat.zero_le _, Nat.zero_le _⟩ dX8_readStatement_21) hS (fun H locs hP hS => ?_)
  obtain ⟨hk_7, h⟩ := asr h
  refine lv_astore_n (lv' := [(2, .ref (adK r_6)), (0, .ref (a 35)), (1, .ref (a (7 + 2 * d1)))]) hx hb dX8_readStatement_24 rfl hl (by decide) rfl (fun ls hl => ?_)
  refine lv_aload_n hx hb dX8_readStatement_25 rfl (lv_at hl 0 rfl) ?_
  obtain ⟨r_9, h_8, h⟩ := b1_e h
  refine xcall (rV C0 hK hP hl.1 (BS.at hB hS) BS_b (c_J0_isEmpty_aae02 hI hk_7 h_8) cv_J0_isEmpty_aae02 tw303 (vk_recv hB.1 hk_7 hS) (rest := []) rfl (Nat.le_of_ble_eq_true rfl) ⟨rfl, rfl, Nat.le_of_ble_eq_true rfl, Nat.le_of_ble_eq_true rfl⟩ ⟨Nat.zero_le _, Nat.zero_le _⟩ dX8_readStatement_26) hS (fun H locs hP hS => ?_)
  refine lv_if_eq (tgt := 34) hx hb dX8_readStatement_29 (by decide) (fun c_10 => ?_) (fun c_10 => ?_)
  · have h := it c_10 h
    refine lv_aload_n hx hb dX8_readStatement_34 rfl (lv_at hl 1 rfl) ?_
    refine lv_dup hx hb dX8_readStatement_35 rfl ?_
    refine gX8_2 C0 hK hP tw172 dX8_readStatement_36 ?_
    refine lv_iconst (v := 1) hx hb dX8_readStatement_39 (by decide) ?_
    refine lv_iadd hx hb dX8_readStatement_40 ?_
    obtain ⟨y_11, ey_11, h⟩ := bnd_e h
    refine nm_i ey_11 ?_
    obtain ⟨σ_12, eσ_12, h⟩ := bnd_e h
    refine pX8_2 C0 hK hP tw172 hI hS dX8_readStatement_41 (fun H locs hP hS => ?_)
    rw [← eσ_12] at hP
    refine lv_iconst (v := 0) hx hb dX8_readStatement_44 (by decide) ?_
    refine lv_istore_n (lv' := [(3, .int 0), (2, .ref (adK r_6)), (0, .ref (a 35)), (1, .ref (a (7 + 2 * d1)))]) hx hb dX8_readStatement_45 rfl hl (by decide) rfl (fun ls hl => ?_)
    obtain ⟨K1, eK1, h⟩ := lp_e (f := fun K => f_X8_readStatement_L46 d1 r_6 5000 0 σ_12 K) h
    have h : f_X8_readStatement_L46 d1 r_6 5000 0 σ_12 K1 = some (r, σ') := h
    have hX1 : ∀ (u_25 : Int32) (σ_26 : Mem) (H : Heap) (locs : List Loc) (ls : Array Slot), K1 u_25 σ_26 = some (r, σ') → va_P D vwCl (wX ca a σ_26) H → va_S (AW 37 a) s.heap H locs → lv_has ls 4 [] → W p l e rm_X8_readStatement s m args below meth c H locs 0 0 Q (F0 m 75 ls []) := by
      intro u_25 σ_26 H locs ls h hP hS hl
      have h := ap2 eK1 h
      refine lv_iconst (v := 1) hx hb dX8_readStatement_75 (by decide) ?_
      rw [hQ]
      exact xzret C0 hP hS rfl h dX8_readStatement_76
    have hL1 : ∀ (n : Nat) (x3_13 : Int32) (σ_14 : Mem) (H : Heap) (locs : List Loc) (ls : Array Slot), f_X8_readStatement_L46 d1 r_6 n x3_13 σ_14 K1 = some (r, σ') → va_P D vwCl (wX ca a σ_14) H → va_S (AW 37 a) s.heap H locs → lv_has ls 4 [(0, .ref (a 35)), (1, .ref (a (7 + 2 * d1))), (2, .ref (adK r_6)), (3, .int x3_13)] → W p l e rm_X8_readStatement s m args below meth c H locs 0 0 Q (F0 m 46 ls []) := by
      intro n
      induction n with
      | zero => intro x3_13 σ_14 H locs ls h; rw [f_X8_readStatement_L46] at h; cases h
      | succ n ih1 =>
        intro x3_13 σ_14 H locs ls h hP hS hl
        rw [f_X8_readStatement_L46] at h
        refine lv_iload_n hx hb dX8_readStatement_46 rfl (lv_at hl 3 rfl) ?_
        refine lv_aload_n hx hb dX8_readStatement_47 rfl (lv_at hl 2 rfl) ?_
        obtain ⟨r_16, h_15, h⟩ := b1_e h
        refine xcall (rV C0 hK hP hl.1 (BS.at hB hS) BS_b (c_J0_length_8abf5 hI hk_7 h_15) cv_J0_length_8abf5 tw307 (vk_recv hB.1 hk_7 hS) (rest := [.int x3_13]) rfl (Nat.le_of_ble_eq_true rfl) ⟨rfl, rfl, Nat.le_of_ble_eq_true rfl, Nat.le_of_ble_eq_true rfl⟩ ⟨Nat.zero_le _, Nat.zero_le _⟩ dX8_readStatement_48) hS (fun H locs hP hS => ?_)
        refine lv_icmp_ge (tgt := 75) hx hb dX8_readStatement_51 (by decide) (fun c_17 => ?_) (fun c_17 => ?_)
        · have h := it c_17 h
          exact hX1 x3_13 σ_14 _ _ ls h hP hS (lv_sub hl [] rfl)
        · have h := ie c_17 h
          refine lv_aload_n hx hb dX8_readStatement_54 rfl (lv_at hl 0 rfl) ?_
          refine lv_aload_n hx hb dX8_readStatement_55 rfl (lv_at hl 1 rfl) ?_
          refine lv_aload_n hx hb dX8_readStatement_56 rfl (lv_at hl 2 rfl) ?_
          refine lv_iload_n hx hb dX8_readStatement_57 rfl (lv_at hl 3 rfl) ?_
          obtain ⟨r_19, h_18, h⟩ := b1_e h
          refine xcall (rV C0 hK hP hl.1 (BS.at hB hS) BS_b (c_J0_charAt_5068e hI hk_7 h_18) cv_J0_charAt_5068e tw317 (vk_recv hB.1 hk_7 hS) (rest := [.ref (a (7 + 2 * d1)), .ref (a 35)]) rfl (Nat.le_of_ble_eq_true rfl) ⟨rfl, rfl, Nat.le_of_ble_eq_true rfl, Nat.le_of_ble_eq_true rfl⟩ ⟨Nat.zero_le _, Nat.zero_le _⟩ dX8_readStatement_58) hS (fun H locs hP hS => ?_)
          obtain ⟨r_21, σ_22, h_20, h⟩ := b2_e h
          refine xcall (rV C0 hK hP hl.1 (fun _ _ _ => trivial) Bt_b (c_X8_readPart hI hk_d1 h_20) cv_X8_readPart tw355 (rcX8 hK hP) (rest := []) rfl (Nat.le_of_ble_eq_true rfl) ⟨rfl, rfl, Nat.le_of_ble_eq_true rfl, Nat.le_of_ble_eq_true rfl⟩ ⟨Nat.zero_le _, Nat.zero_le _⟩ dX8_readStatement_61) hS (fun H locs hP hS => ?_)
          refine lv_if_ne (tgt := 69) hx hb dX8_readStatement_64 (by decide) (fun c_23 => ?_) (fun c_23 => ?_)
          · have h := ie c_23 h
            obtain ⟨x3_24, ex3_24, h⟩ := bnd_e h
            refine lv_iinc (v := x3_24) (lv' := [(3, .int x3_24), (0, .ref (a 35)), (1, .ref (a (7 + 2 * d1))), (2, .ref (adK r_6))]) hx hb dX8_readStatement_69 hl (k := 3) rfl (by rw [ex3_24]; rfl) (by decide) rfl (fun ls hl => ?_)
            refine lv_goto (tgt := 46) hx hb dX8_readStatement_72 (by decide) ?_
            exact ih1 x3_24 σ_22 _ _ ls h hP hS (lv_sub hl [1, 2, 3, 0] rfl)
          · have h := it c_23 h
            refine lv_iconst (v := 0) hx hb dX8_readStatement_67 (by decide) ?_
            rw [hQ]
            exact xzret C0 hP hS rfl h dX8_readStatement_68
    exact hL1 5000 0 σ_12 _ _ ls h hP hS (lv_sub hl [2, 3, 1, 0] rfl)
  · have h := ie c_10 h
    refine lv_iconst (v := 0) hx hb dX8_readStatement_32 (by decide) ?_
    rw [hQ]
    exact xzret C0 hP hS rfl h dX8_readStatement_33
def f_X11_statementsOf_L12 (d1 : Nat) : Nat → Int32 → Int32 → Mem → (Int32 → Int32 → Mem → Option (Int32 × Mem)) → Option (Int32 × Mem)
  | 0, _, _, _, _ => none
  | n + 1, x2_2, x3_3, σ_4, K1 =>
    jn (fun (σ_5 : Mem) =>
      b2 (f_X8_readStatement d1 σ_5) fun r_7 σ_8 =>
      if r_7 = 0 then
        some ((-1000) - (σ_8 35 2), σ_8)
      else
        bnd (x2_2 + 1) fun (x2_10 : Int32) =>
        bnd (x3_3 + 1) fun (x3_11 : Int32) =>
        f_X11_statementsOf_L12 d1 n x2_10 x3_11 σ_8 K1) fun J36 =>
    if x3_3 = 0 then
      J36 σ_4
    else
      if 100 ≤ x3_3 then
        K1 x2_2 x3_3 σ_4
      else
        if (σ_4 (7 + 2 * d1) 5) ≤ (σ_4 35 2) then
          K1 x2_2 x3_3 σ_4
        else
          J36 σ_4
def f_X11_statementsOf (d1 : Nat) (σ : Mem) : Option (Int32 × Mem) :=
  bnd (uX σ 35 2 0) fun (σ_1 : Mem) =>
  f_X11_statementsOf_L12 d1 5000 0 0 σ_1 fun (x2_15 : Int32) (u_16 : Int32) (σ_17 : Mem) =>
    some (x2_15, σ_17)
def rm_X11_statementsOf : Room := { frames := 6, cells := 0, slots := 0, locals := 129 }
set_option maxHeartbeats 4000000 in
set_option maxRecDepth 100000 in
theorem c_X11_statementsOf {l : Launch} {D : va_G} {ca : Nat → ClassId} {a : Nat → Nat} (hI : InjN 37 a) {adK adV : Nat → Nat} {d1 : Nat} {σ : Mem} {r : Int32} {σ' : Mem} (hk_d1 : d1 < 9) (h : f_X11_statementsOf d1 σ = some (r, σ')) : XMX l D ca a (BS (AW 37 a) adK adV) yX11_statementsOf cX11_statementsOf 4 (some .int) rm_X11_statementsOf [.ref (a 0), .ref (a (7 + 2 * d1))] σ (some (.int r)) σ' := by
  refine XM.of pn_X11 (Nat.le_of_ble_eq_true rfl) ?_
  intro p e s m args below meth c ls Q hQ C0 hK hB hP hS hl
  have C0 : Cx p s m args meth c RX11 cX11_statementsOf 4 (some .int) := C0
  have hx := C0.1
  have hb := C0.2.1
  have hl : lv_has ls 4 [(0, .ref (a 0)), (1, .ref (a (7 + 2 * d1)))] := hl
  rw [f_X11_statementsOf] at h
  refine lv_aload_n hx hb dX11_statementsOf_0 rfl (lv_at hl 0 rfl) ?_
  refine gX11_7 C0 hK hP tw240 dX11_statementsOf_1 ?_
  refine lv_iconst (v := 0) hx hb dX11_statementsOf_4 (by decide) ?_
  obtain ⟨σ_1, eσ_1, h⟩ := bnd_e h
  refine pX8_2N C0 hK hP tw171 hI hS dX11_statementsOf_5 (fun H locs hP hS => ?_)
  rw [← eσ_1] at hP
  refine lv_iconst (v := 0) hx hb dX11_statementsOf_8 (by decide) ?_
  refine lv_istore_n (lv' := [(2, .int 0), (0, .ref (a 0)), (1, .ref (a (7 + 2 * d1)))]) hx hb dX11_statementsOf_9 rfl hl (by decide) rfl (fun ls hl => ?_)
  refine lv_iconst (v := 0) hx hb dX11_statementsOf_10 (by decide) ?_
  refine lv_istore_n (lv' := [(3, .int 0), (2, .int 0), (0, .ref (a 0)), (1, .ref (a (7 + 2 * d1)))]) hx hb dX11_statementsOf_11 rfl hl (by decide) rfl (fun ls hl => ?_)
  obtain ⟨K1, eK1, h⟩ := lp_e (f := fun K => f_X11_statementsOf_L12 d1 5000 0 0 σ_1 K) h
  have h : f_X11_statementsOf_L12 d1 5000 0 0 σ_1 K1 = some (r, σ') := h
  have hX1 : ∀ (x2_15 : Int32) (u_16 : Int32) (σ_17 : Mem) (H : Heap) (locs : List Loc) (ls : Array Slot), K1 x2_15 u_16 σ_17 = some (r, σ') → va_P D vwCl (wX ca a σ_17) H → va_S (AW 37 a) s.heap H locs → lv_has ls 4 [(2, .int x2_15)] → W p l e rm_X11_statementsOf s m args below meth c H locs 0 0 Q (F0 m 68 ls []) := by
    intro x2_15 u_16 σ_17 H locs ls h hP hS hl
    have h := ap3 eK1 h
    refine lv_iload_n hx hb dX11_statementsOf_68 rfl (lv_at hl 0 rfl) ?_
    rw [hQ]
    exact xzret C0 hP hS rfl h dX11_statementsOf_69
  have hL1 : ∀ (n : Nat) (x2_2 : Int32) (x3_3 : Int32) (σ_4 : Mem) (H : Heap) (locs : List Loc) (ls : Array Slot), f_X11_statementsOf_L12 d1 n x2_2 x3_3 σ_4 K1 = some (r, σ') → va_P D vwCl (wX ca a σ_4) H → va_S (AW 37 a) s.heap H locs → lv_has ls 4 [(0, .ref (a 0)), (1, .ref (a (7 + 2 * d1))), (2, .int x2_2), (3, .int x3_3)] → W p l e rm_X11_statementsOf s m args below meth c H locs 0 0 Q (F0 m 12 ls []) := by
    intro n
    induction n with
    | zero => intro x2_2 x3_3 σ_4 H locs ls h; rw [f_X11_statementsOf_L12] at h; cases h
    | succ n ih1 =>
      intro x2_2 x3_3 σ_4 H locs ls h hP hS hl
      rw [f_X11_statementsOf_L12] at h
      refine lv_iload_n hx hb dX11_statementsOf_12 rfl (lv_at hl 3 rfl) ?_
      obtain ⟨J36, eJ36, h⟩ := jn_e h
      have hJ36 : ∀ (σ_5 : Mem) (H : Heap) (locs : List Loc) (ls : Array Slot), J36 σ_5 = some (r, σ') → va_P D vwCl (wX ca a σ_5) H → va_S (AW 37 a) s.heap H locs → lv_has ls 4 [(0, .ref (a 0)), (1, .ref (a (7 + 2 * d1))), (2, .int x2_2), (3, .int x3_3)] → W p l e rm_X11_statementsOf s m args below meth c H locs 0 0 Q (F0 m 36 ls []) := by
        intro σ_5 H locs ls h hP hS hl
        have h := ap1 eJ36 h
        refine lv_aload_n hx hb dX11_statementsOf_36 rfl (lv_at hl 0 rfl) ?_
        refine gX11_7 C0 hK hP tw240 dX11_statementsOf_37 ?_
        refine lv_aload_n hx hb dX11_statementsOf_40 rfl (lv_at hl 1 rfl) ?_
        obtain ⟨r_7, σ_8, h_6, h⟩ := b2_e h
        refine xcall (rV C0 hK hP hl.1 (BS.at hB hS) BS_b (c_X8_readStatement hI hk_d1 h_6) cv_X8_readStatement tw287 (rcX8 hK hP) (rest := []) rfl (Nat.le_of_ble_eq_true rfl) ⟨rfl, rfl, Nat.le_of_ble_eq_true rfl, Nat.le_of_ble_eq_true rfl⟩ ⟨Nat.zero_le _, Nat.zero_le _⟩ dX11_statementsOf_41) hS (fun H locs hP hS => ?_)
        refine lv_if_ne (tgt := 59) hx hb dX11_statementsOf_44 (by decide) (fun c_9 => ?_) (fun c_9 => ?_)
        · have h := ie c_9 h
          obtain ⟨x2_10, ex2_10, h⟩ := bnd_e h
          refine lv_iinc (v := x2_10) (lv' := [(2, .int x2_10), (0, .ref (a 0)), (1, .ref (a (7 + 2 * d1))), (3, .int x3_3)]) hx hb dX11_statementsOf_59 hl (k := 2) rfl (by rw [ex2_10]; rfl) (by decide) rfl (fun ls hl => ?_)
          obtain ⟨x3_11, ex3_11, h⟩ := bnd_e h
          refine lv_iinc (v := x3_11) (lv' := [(3, .int x3_11), (2, .int x2_10), (0, .ref (a 0)), (1, .ref (a (7 + 2 * d1)))]) hx hb dX11_statementsOf_62 hl (k := 3) rfl (by rw [ex3_11]; rfl) (by decide) rfl (fun ls hl => ?_)
          refine lv_goto (tgt := 12) hx hb dX11_statementsOf_65 (by decide) ?_
          exact ih1 x2_10 x3_11 σ_8 _ _ ls h hP hS (lv_sub hl [2, 3, 1, 0] rfl)
        · have h := it c_9 h
          refine lv_sipush (v := (-1000)) hx hb dX11_statementsOf_47 (by decide) ?_
          refine lv_aload_n hx hb dX11_statementsOf_50 rfl (lv_at hl 0 rfl) ?_
          refine gX11_7 C0 hK hP tw240 dX11_statementsOf_51 ?_
          refine gX8_2N C0 hK hP tw171 dX11_statementsOf_54 ?_
          refine lv_isub hx hb dX11_statementsOf_57 ?_
          rw [hQ]
          exact xzret C0 hP hS rfl h dX11_statementsOf_58
      refine lv_if_eq (tgt := 36) hx hb dX11_statementsOf_13 (by decide) (fun c_12 => ?_) (fun c_12 => ?_)
      · have h := it c_12 h
        exact hJ36 σ_4 _ _ ls h hP hS (lv_sub hl [0, 1, 2, 3] rfl)
      · have h := ie c_12 h
        refine lv_iload_n hx hb dX11_statementsOf_16 rfl (lv_at hl 3 rfl) ?_
        refine lv_bipush (v := 100) hx hb dX11_statementsOf_17 (by decide) ?_
        refine lv_icmp_ge (tgt := 68) hx hb dX11_statementsOf_19 (by decide) (fun c_13 => ?_) (fun c_13 => ?_)
        · have h := it c_13 h
          exact hX1 x2_2 x3_3 σ_4 _ _ ls h hP hS (lv_sub hl [2] rfl)
        · have h := ie c_13 h
          refine lv_aload_n hx hb dX11_statementsOf_22 rfl (lv_at hl 0 rfl) ?_
          refine gX11_7 C0 hK hP tw240 dX11_statementsOf_23 ?_
          refine gX8_2N C0 hK hP tw171 dX11_statementsOf_26 ?_
          refine lv_aload_n hx hb dX11_statementsOf_29 rfl (lv_at hl 1 rfl) ?_
          refine gX5_5N C0 hK hP hk_d1 tw141 dX11_statementsOf_30 ?_
          refine lv_icmp_ge (tgt := 68) hx hb dX11_statementsOf_33 (by decide) (fun c_14 => ?_) (fun c_14 => ?_)
          · have h := it c_14 h
            exact hX1 x2_2 x3_3 σ_4 _ _ ls h hP hS (lv_sub hl [2] rfl)
          · have h := ie c_14 h
            exact hJ36 σ_4 _ _ ls h hP hS (lv_sub hl [0, 1, 2, 3] rfl)
  exact hL1 5000 0 0 σ_1 _ _ ls h hP hS (lv_sub hl [2, 3, 1, 0] rfl)
def f_X11_dress_L56 (r_5 : Nat) (r_8 : Int32) : Nat → Int32 → Mem → (Int32 → Mem → Option (Int32 × Mem)) → Option (Int32 × Mem)
  | 0, _, _, _ => none
  | n + 1, x5_14, σ_15, K1 =>
    if r_8 ≤ x5_14 then
      K1 x5_14 σ_15
    else
      bnd (σ_15 35 2) fun (x6_17 : Int32) =>
      b2 (f_X8_readStatement r_5 σ_15) fun r_19 σ_20 =>
      if r_19 = 0 then
        some ((-2000) - x6_17, σ_20)
      else
        b2 (f_X11_carryOut 2 σ_20) fun r_23 σ_24 =>
        if r_23 = 0 then
          some ((-2000) - x6_17, σ_24)
        else
          bnd (x5_14 + 1) fun (x5_26 : Int32) =>
          f_X11_dress_L56 r_5 r_8 n x5_26 σ_24 K1
def f_X11_dress (p1 : Int32) (σ : Mem) : Option (Int32 × Mem) :=
  b1 (f_X11_rowRefusal p1 0 σ) fun r_2 =>
  if r_2 = 0 then
    b1 (f_X11_shelfAt p1) fun r_5 =>
    if r_5 < 9 then
      b2 (f_X11_statementsOf r_5 σ) fun r_8 σ_9 =>
      if 0 ≤ r_8 then
        b1 (f_X0_becomeLike 2 0 σ_9) fun σ_12 =>
        bnd (uX σ_12 35 2 0) fun (σ_13 : Mem) =>
        f_X11_dress_L56 r_5 r_8 5000 0 σ_13 fun (u_27 : Int32) (σ_28 : Mem) =>
          b1 (f_X0_becomeLike 0 2 σ_28) fun σ_30 =>
          some (r_8, σ_30)
      else
        some (r_8, σ_9)
    else none
  else
    some (r_2, σ)
def rm_X11_dress : Room := { frames := 7, cells := 0, slots := 0, locals := 152 }
set_option maxHeartbeats 4000000 in
set_option maxRecDepth 100000 in
theorem c_X11_dress {l : Launch} {D : va_G} {ca : Nat → ClassId} {a : Nat → Nat} (hI : InjN 37 a) {adK adV : Nat → Nat} {p1 : Int32} {σ : Mem} {r : Int32} {σ' : Mem}  (h : f_X11_dress p1 σ = some (r, σ')) : XMX l D ca a (BS (AW 37 a) adK adV) yX11_dress cX11_dress 7 (some .int) rm_X11_dress [.ref (a 0), .int p1] σ (some (.int r)) σ' := by
  refine XM.of pn_X11 (Nat.le_of_ble_eq_true rfl) ?_
  intro p e s m args below meth c ls Q hQ C0 hK hB hP hS hl
  have C0 : Cx p s m args meth c RX11 cX11_dress 7 (some .int) := C0
  have hx := C0.1
  have hb := C0.2.1
  have hl : lv_has ls 7 [(0, .ref (a 0)), (1, .int p1)] := hl
  rw [f_X11_dress] at h
  refine lv_aload_n hx hb dX11_dress_0 rfl (lv_at hl 0 rfl) ?_
  refine lv_iload_n hx hb dX11_dress_1 rfl (lv_at hl 1 rfl) ?_
  refine lv_iconst (v := 0) hx hb dX11_dress_2 (by decide) ?_
  obtain ⟨r_2, h_1, h⟩ := b1_e h
  refine xcall (rV C0 hK hP hl.1 (fun _ _ _ => trivial) Bt_b (c_X11_rowRefusal hI h_1) cv_X11_rowRefusal tw265 (rcX11 hK hP) (rest := []) rfl (Nat.le_of_ble_eq_true rfl) ⟨rfl, rfl, Nat.le_of_ble_eq_true rfl, Nat.le_of_ble_eq_true rfl⟩ ⟨Nat.zero_le _, Nat.zero_le _⟩ dX11_dress_3) hS (fun H locs hP hS => ?_)
  refine lv_istore_n (lv' := [(2, .int r_2), (0, .ref (a 0)), (1, .int p1)]) hx hb dX11_dress_6 rfl hl (by decide) rfl (fun ls hl => ?_)
  refine lv_iload_n hx hb dX11_dress_7 rfl (lv_at hl 0 rfl) ?_
  refine lv_if_eq (tgt := 13) hx hb dX11_dress_8 (by decide) (fun c_3 => ?_) (fun c_3 => ?_)
  · have h := it c_3 h
    refine lv_aload_n hx hb dX11_dress_13 rfl (lv_at hl 1 rfl) ?_
    refine lv_iload_n hx hb dX11_dress_14 rfl (lv_at hl 2 rfl) ?_
    obtain ⟨r_5, h_4, h⟩ := b1_e h
    refine xcall (rV C0 hK hP hl.1 (fun _ _ _ => trivial) Bt_b (c_X11_shelfAt hI h_4) cv_X11_shelfAt tw275 (rcX11 hK hP) (rest := []) rfl (Nat.le_of_ble_eq_true rfl) ⟨rfl, rfl, Nat.le_of_ble_eq_true rfl, Nat.le_of_ble_eq_true rfl⟩ ⟨Nat.zero_le _, Nat.zero_le _⟩ dX11_dress_15) hS (fun H locs hP hS => ?_)
    obtain ⟨hk_6, h⟩ := asr h
    refine lv_astore_n (lv' := [(3, .ref (a (7 + 2 * r_5))), (2, .int r_2), (0, .ref (a 0)), (1, .int p1)]) hx hb dX11_dress_18 rfl hl (by decide) rfl (fun ls hl => ?_)
    refine lv_aload_n hx hb dX11_dress_19 rfl (lv_at hl 2 rfl) ?_
    refine lv_aload_n hx hb dX11_dress_20 rfl (lv_at hl 0 rfl) ?_
    obtain ⟨r_8, σ_9, h_7, h⟩ := b2_e h
    refine xcall (rV C0 hK hP hl.1 (BS.at hB hS) BS_b (c_X11_statementsOf hI hk_6 h_7) cv_X11_statementsOf tw283 (rcX11 hK hP) (rest := []) rfl (Nat.le_of_ble_eq_true rfl) ⟨rfl, rfl, Nat.le_of_ble_eq_true rfl, Nat.le_of_ble_eq_true rfl⟩ ⟨Nat.zero_le _, Nat.zero_le _⟩ dX11_dress_21) hS (fun H locs hP hS => ?_)
    refine lv_istore (lv' := [(4, .int r_8), (3, .ref (a (7 + 2 * r_5))), (2, .int r_2), (0, .ref (a 0)), (1, .int p1)]) hx hb dX11_dress_24 hl (by decide) rfl (fun ls hl => ?_)
    refine lv_iload hx hb dX11_dress_26 (lv_at hl 0 rfl) ?_
    refine lv_if_ge (tgt := 34) hx hb dX11_dress_28 (by decide) (fun c_10 => ?_) (fun c_10 => ?_)
    · have h := it c_10 h
      refine lv_aload_n hx hb dX11_dress_34 rfl (lv_at hl 3 rfl) ?_
      refine gX11_2 C0 hK hP tw235 dX11_dress_35 ?_
      refine lv_aload_n hx hb dX11_dress_38 rfl (lv_at hl 3 rfl) ?_
      refine gX11_0 C0 hK hP tw233 dX11_dress_39 ?_
      obtain ⟨σ_12, h_11, h⟩ := b1_e h
      refine xcall (rV C0 hK hP hl.1 (fun _ _ _ => trivial) Bt_b (c_X0_becomeLike hI (by decide) (by decide) h_11) cv_X0_becomeLike tw368 (rcX0 hK hP (by decide)) (rest := []) rfl (Nat.le_of_ble_eq_true rfl) ⟨rfl, rfl, Nat.le_of_ble_eq_true rfl, Nat.le_of_ble_eq_true rfl⟩ ⟨Nat.zero_le _, Nat.zero_le _⟩ dX11_dress_42) hS (fun H locs hP hS => ?_)
      refine lv_aload_n hx hb dX11_dress_45 rfl (lv_at hl 3 rfl) ?_
      refine gX11_7 C0 hK hP tw240 dX11_dress_46 ?_
      refine lv_iconst (v := 0) hx hb dX11_dress_49 (by decide) ?_
      obtain ⟨σ_13, eσ_13, h⟩ := bnd_e h
      refine pX8_2N C0 hK hP tw171 hI hS dX11_dress_50 (fun H locs hP hS => ?_)
      rw [← eσ_13] at hP
      refine lv_iconst (v := 0) hx hb dX11_dress_53 (by decide) ?_
      refine lv_istore (lv' := [(5, .int 0), (4, .int r_8), (3, .ref (a (7 + 2 * r_5))), (2, .int r_2), (0, .ref (a 0)), (1, .int p1)]) hx hb dX11_dress_54 hl (by decide) rfl (fun ls hl => ?_)
      obtain ⟨K1, eK1, h⟩ := lp_e (f := fun K => f_X11_dress_L56 r_5 r_8 5000 0 σ_13 K) h
      have h : f_X11_dress_L56 r_5 r_8 5000 0 σ_13 K1 = some (r, σ') := h
      have hX1 : ∀ (u_27 : Int32) (σ_28 : Mem) (H : Heap) (locs : List Loc) (ls : Array Slot), K1 u_27 σ_28 = some (r, σ') → va_P D vwCl (wX ca a σ_28) H → va_S (AW 37 a) s.heap H locs → lv_has ls 7 [(0, .ref (a 0)), (4, .int r_8)] → W p l e rm_X11_dress s m args below meth c H locs 0 0 Q (F0 m 107 ls []) := by
        intro u_27 σ_28 H locs ls h hP hS hl
        have h := ap2 eK1 h
        refine lv_aload_n hx hb dX11_dress_107 rfl (lv_at hl 0 rfl) ?_
        refine gX11_0 C0 hK hP tw233 dX11_dress_108 ?_
        refine lv_aload_n hx hb dX11_dress_111 rfl (lv_at hl 0 rfl) ?_
        refine gX11_2 C0 hK hP tw235 dX11_dress_112 ?_
        obtain ⟨σ_30, h_29, h⟩ := b1_e h
        refine xcall (rV C0 hK hP hl.1 (fun _ _ _ => trivial) Bt_b (c_X0_becomeLike hI (by decide) (by decide) h_29) cv_X0_becomeLike tw368 (rcX0 hK hP (by decide)) (rest := []) rfl (Nat.le_of_ble_eq_true rfl) ⟨rfl, rfl, Nat.le_of_ble_eq_true rfl, Nat.le_of_ble_eq_true rfl⟩ ⟨Nat.zero_le _, Nat.zero_le _⟩ dX11_dress_115) hS (fun H locs hP hS => ?_)
        refine lv_iload hx hb dX11_dress_118 (lv_at hl 1 rfl) ?_
        rw [hQ]
        exact xzret C0 hP hS rfl h dX11_dress_120
      have hL1 : ∀ (n : Nat) (x5_14 : Int32) (σ_15 : Mem) (H : Heap) (locs : List Loc) (ls : Array Slot), f_X11_dress_L56 r_5 r_8 n x5_14 σ_15 K1 = some (r, σ') → va_P D vwCl (wX ca a σ_15) H → va_S (AW 37 a) s.heap H locs → lv_has ls 7 [(0, .ref (a 0)), (3, .ref (a (7 + 2 * r_5))), (4, .int r_8), (5, .int x5_14)] → W p l e rm_X11_dress s m args below meth c H locs 0 0 Q (F0 m 56 ls []) := by
        intro n
        induction n with
        | zero => intro x5_14 σ_15 H locs ls h; rw [f_X11_dress_L56] at h; cases h
        | succ n ih1 =>
          intro x5_14 σ_15 H locs ls h hP hS hl
          rw [f_X11_dress_L56] at h
          refine lv_iload hx hb dX11_dress_56 (lv_at hl 3 rfl) ?_
          refine lv_iload hx hb dX11_dress_58 (lv_at hl 2 rfl) ?_
          refine lv_icmp_ge (tgt := 107) hx hb dX11_dress_60 (by decide) (fun c_16 => ?_) (fun c_16 => ?_)
          · have h := it c_16 h
            exact hX1 x5_14 σ_15 _ _ ls h hP hS (lv_sub hl [0, 2] rfl)
          · have h := ie c_16 h
            refine lv_aload_n hx hb dX11_dress_63 rfl (lv_at hl 0 rfl) ?_
            refine gX11_7 C0 hK hP tw240 dX11_dress_64 ?_
            refine gX8_2N C0 hK hP tw171 dX11_dress_67 ?_
            obtain ⟨x6_17, ex6_17, h⟩ := bnd_e h
            refine nm_i ex6_17 ?_
            refine lv_istore (lv' := [(6, .int x6_17), (0, .ref (a 0)), (3, .ref (a (7 + 2 * r_5))), (4, .int r_8), (5, .int x5_14)]) hx hb dX11_dress_70 hl (by decide) rfl (fun ls hl => ?_)
            refine lv_aload_n hx hb dX11_dress_72 rfl (lv_at hl 1 rfl) ?_
            refine gX11_7 C0 hK hP tw240 dX11_dress_73 ?_
            refine lv_aload_n hx hb dX11_dress_76 rfl (lv_at hl 2 rfl) ?_
            obtain ⟨r_19, σ_20, h_18, h⟩ := b2_e h
            refine xcall (rV C0 hK hP hl.1 (BS.at hB hS) BS_b (c_X8_readStatement hI hk_6 h_18) cv_X8_readStatement tw287 (rcX8 hK hP) (rest := []) rfl (Nat.le_of_ble_eq_true rfl) ⟨rfl, rfl, Nat.le_of_ble_eq_true rfl, Nat.le_of_ble_eq_true rfl⟩ ⟨Nat.zero_le _, Nat.zero_le _⟩ dX11_dress_77) hS (fun H locs hP hS => ?_)
            refine lv_if_eq (tgt := 94) hx hb dX11_dress_80 (by decide) (fun c_21 => ?_) (fun c_21 => ?_)
            · have h := it c_21 h
              refine lv_sipush (v := (-2000)) hx hb dX11_dress_94 (by decide) ?_
              refine lv_iload hx hb dX11_dress_97 (lv_at hl 0 rfl) ?_
              refine lv_isub hx hb dX11_dress_99 ?_
              rw [hQ]
              exact xzret C0 hP hS rfl h dX11_dress_100
            · have h := ie c_21 h
              refine lv_aload_n hx hb dX11_dress_83 rfl (lv_at hl 1 rfl) ?_
              refine lv_aload_n hx hb dX11_dress_84 rfl (lv_at hl 1 rfl) ?_
              refine gX11_2 C0 hK hP tw235 dX11_dress_85 ?_
              obtain ⟨r_23, σ_24, h_22, h⟩ := b2_e h
              refine xcall (rV C0 hK hP hl.1 (fun _ _ _ => trivial) Bt_b (c_X11_carryOut hI (by decide) h_22) cv_X11_carryOut tw378 (rcX11 hK hP) (rest := []) rfl (Nat.le_of_ble_eq_true rfl) ⟨rfl, rfl, Nat.le_of_ble_eq_true rfl, Nat.le_of_ble_eq_true rfl⟩ ⟨Nat.zero_le _, Nat.zero_le _⟩ dX11_dress_88) hS (fun H locs hP hS => ?_)
              refine lv_if_ne (tgt := 101) hx hb dX11_dress_91 (by decide) (fun c_25 => ?_) (fun c_25 => ?_)
              · have h := ie c_25 h
                obtain ⟨x5_26, ex5_26, h⟩ := bnd_e h
                refine lv_iinc (v := x5_26) (lv' := [(5, .int x5_26), (6, .int x6_17), (0, .ref (a 0)), (3, .ref (a (7 + 2 * r_5))), (4, .int r_8)]) hx hb dX11_dress_101 hl (k := 4) rfl (by rw [ex5_26]; rfl) (by decide) rfl (fun ls hl => ?_)
                refine lv_goto (tgt := 56) hx hb dX11_dress_104 (by decide) ?_
                exact ih1 x5_26 σ_24 _ _ ls h hP hS (lv_sub hl [2, 3, 4, 0] rfl)
              · have h := it c_25 h
                refine lv_sipush (v := (-2000)) hx hb dX11_dress_94 (by decide) ?_
                refine lv_iload hx hb dX11_dress_97 (lv_at hl 0 rfl) ?_
                refine lv_isub hx hb dX11_dress_99 ?_
                rw [hQ]
                exact xzret C0 hP hS rfl h dX11_dress_100
      exact hL1 5000 0 σ_13 _ _ ls h hP hS (lv_sub hl [4, 2, 1, 0] rfl)
    · have h := ie c_10 h
      refine lv_iload hx hb dX11_dress_31 (lv_at hl 0 rfl) ?_
      rw [hQ]
      exact xzret C0 hP hS rfl h dX11_dress_33
  · have h := ie c_3 h
    refine lv_iload_n hx hb dX11_dress_11 rfl (lv_at hl 0 rfl) ?_
    rw [hQ]
    exact xzret C0 hP hS rfl h dX11_dress_12
