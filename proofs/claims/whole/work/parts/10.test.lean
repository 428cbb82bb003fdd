def f_X0_becomeLike (k0 : Nat) (k1 : Nat) (σ : Mem) : Option (Mem) :=
  bnd (if (24 : Int32) < 24 then 24 else 24) fun y_1 =>
  if (0 : Int32) < 0 ∨ (0 : Int32) < 0 ∨ y_1 < 0 ∨ 24 < (0 : Int32).toNatClampNeg + y_1.toNatClampNeg ∨ 24 < (0 : Int32).toNatClampNeg + y_1.toNatClampNeg then none else
  bnd (upR σ (2 + 2 * k0) (va_cpy (σ (2 + 2 * k1)) (σ (2 + 2 * k0)) (0 : Int32).toNatClampNeg (0 : Int32).toNatClampNeg y_1.toNatClampNeg)) fun σ_3 =>
  bnd (σ_3 (1 + 2 * k1) 1) fun y_4 =>
  bnd (uX σ_3 (1 + 2 * k0) 1 y_4) fun σ_5 =>
  bnd (σ_5 (1 + 2 * k1) 2) fun y_6 =>
  bnd (uX σ_5 (1 + 2 * k0) 2 y_6) fun σ_7 =>
  bnd (σ_7 (1 + 2 * k1) 3) fun y_8 =>
  bnd (uX σ_7 (1 + 2 * k0) 3 y_8) fun σ_9 =>
  bnd (σ_9 (1 + 2 * k1) 4) fun y_10 =>
  bnd (uX σ_9 (1 + 2 * k0) 4 y_10) fun σ_11 =>
  bnd (σ_11 (1 + 2 * k1) 5) fun y_12 =>
  bnd (uX σ_11 (1 + 2 * k0) 5 y_12) fun σ_13 =>
  some σ_13
def rm_X0_becomeLike : Room := { frames := 1, cells := 0, slots := 0, locals := 68 }
set_option maxHeartbeats 4000000 in
set_option maxRecDepth 100000 in
theorem c_X0_becomeLike {l : Launch} {D : va_G} {ca : Nat → ClassId} {a : Nat → Nat} (hI : InjN 50 a) {k0 : Nat} {k1 : Nat} {σ : Mem} {σ' : Mem} (hk_k0 : k0 < 9) (hk_k1 : k1 < 9) (h : f_X0_becomeLike k0 k1 σ = some σ') : XMX l D ca a Bt yX0_becomeLike cX0_becomeLike 2 none rm_X0_becomeLike [.ref (a (1 + 2 * k0)), .ref (a (1 + 2 * k1))] σ none σ' := by
  refine XM.of pn_X0 (Nat.le_of_ble_eq_true rfl) ?_
  intro p e s m args below meth c ls Q hQ C0 hK _ hP hS hl
  have C0 : Cx p s m args meth c RX0 cX0_becomeLike 2 none := C0
  have hx := C0.1
  have hb := C0.2.1
  have hl : lv_has ls 2 [(0, .ref (a (1 + 2 * k0))), (1, .ref (a (1 + 2 * k1)))] := hl
  rw [f_X0_becomeLike] at h
  refine lv_aload_n hx hb dX0_becomeLike_0 rfl (lv_at hl 1 rfl) ?_
  refine gX0_0 C0 hK hP hk_k1 tw99 dX0_becomeLike_1 ?_
  refine lv_iconst (v := 0) hx hb dX0_becomeLike_4 (by decide) ?_
  refine lv_aload_n hx hb dX0_becomeLike_5 rfl (lv_at hl 0 rfl) ?_
  refine gX0_0 C0 hK hP hk_k0 tw99 dX0_becomeLike_6 ?_
  refine lv_iconst (v := 0) hx hb dX0_becomeLike_9 (by decide) ?_
  refine lv_aload_n hx hb dX0_becomeLike_10 rfl (lv_at hl 1 rfl) ?_
  refine gX0_0 C0 hK hP hk_k1 tw99 dX0_becomeLike_11 ?_
  refine xalenR (N := 24) (v := 24) 0 C0 hK hP (ltDA hk_k1) (fun _ => sh_DA hk_k1) rfl (by decide) dX0_becomeLike_14 ?_
  refine lv_aload_n hx hb dX0_becomeLike_15 rfl (lv_at hl 0 rfl) ?_
  refine gX0_0 C0 hK hP hk_k0 tw99 dX0_becomeLike_16 ?_
  refine xalenR (N := 24) (v := 24) 0 C0 hK hP (ltDA hk_k0) (fun _ => sh_DA hk_k0) rfl (by decide) dX0_becomeLike_19 ?_
  refine va_mmin hx hb (C0.2.2.1.trans hl.1.symm) C0.2.2.2.1 (C0.2.2.2.2.1 _ tw383) (C0.2.2.2.2.1 _ tw384) (C0.2.2.2.2.1 _ tw77) (C0.2.2.2.2.1 _ tw385) (Nat.le_of_ble_eq_true rfl) (Nat.le_of_ble_eq_true rfl) (Nat.zero_le _) (Nat.zero_le _) dX0_becomeLike_20 ?_
  obtain ⟨y_1, ey_1, h⟩ := bnd_e h
  refine nm_i ey_1 ?_
  obtain ⟨b_2, h⟩ := ck h
  obtain ⟨σ_3, eσ_3, h⟩ := bnd_e h
  refine xcpy (i := (2 + 2 * k1)) (j := (2 + 2 * k0)) (N := 24) C0 hK hP hI hS hl.1 (ltDA hk_k1) (ltDA hk_k0) (fun _ => sh_DA hk_k1) (fun _ => sh_DA hk_k0) (C0.2.2.2.2.1 _ tw386) (C0.2.2.2.2.1 _ tw388) (C0.2.2.2.2.1 _ tw387) (C0.2.2.2.2.1 _ tw78) b_2 (Nat.le_of_ble_eq_true rfl) (Nat.le_of_ble_eq_true rfl) dX0_becomeLike_23 (fun H locs hP hS => ?_)
  rw [← eσ_3] at hP
  refine lv_aload_n hx hb dX0_becomeLike_26 rfl (lv_at hl 0 rfl) ?_
  refine lv_aload_n hx hb dX0_becomeLike_27 rfl (lv_at hl 1 rfl) ?_
  refine gX0_1 C0 hK hP hk_k1 tw100 dX0_becomeLike_28 ?_
  obtain ⟨y_4, ey_4, h⟩ := bnd_e h
  refine nm_i ey_4 ?_
  obtain ⟨σ_5, eσ_5, h⟩ := bnd_e h
  refine pX0_1 C0 hK hP hk_k0 tw100 hI hS dX0_becomeLike_31 (fun H locs hP hS => ?_)
  rw [← eσ_5] at hP
  refine lv_aload_n hx hb dX0_becomeLike_34 rfl (lv_at hl 0 rfl) ?_
  refine lv_aload_n hx hb dX0_becomeLike_35 rfl (lv_at hl 1 rfl) ?_
  refine gX0_2 C0 hK hP hk_k1 tw102 dX0_becomeLike_36 ?_
  obtain ⟨y_6, ey_6, h⟩ := bnd_e h
  refine nm_i ey_6 ?_
  obtain ⟨σ_7, eσ_7, h⟩ := bnd_e h
  refine pX0_2 C0 hK hP hk_k0 tw102 hI hS dX0_becomeLike_39 (fun H locs hP hS => ?_)
  rw [← eσ_7] at hP
  refine lv_aload_n hx hb dX0_becomeLike_42 rfl (lv_at hl 0 rfl) ?_
  refine lv_aload_n hx hb dX0_becomeLike_43 rfl (lv_at hl 1 rfl) ?_
  refine gX0_3 C0 hK hP hk_k1 tw104 dX0_becomeLike_44 ?_
  obtain ⟨y_8, ey_8, h⟩ := bnd_e h
  refine nm_i ey_8 ?_
  obtain ⟨σ_9, eσ_9, h⟩ := bnd_e h
  refine pX0_3 C0 hK hP hk_k0 tw104 hI hS dX0_becomeLike_47 (fun H locs hP hS => ?_)
  rw [← eσ_9] at hP
  refine lv_aload_n hx hb dX0_becomeLike_50 rfl (lv_at hl 0 rfl) ?_
  refine lv_aload_n hx hb dX0_becomeLike_51 rfl (lv_at hl 1 rfl) ?_
  refine gX0_4 C0 hK hP hk_k1 tw107 dX0_becomeLike_52 ?_
  obtain ⟨y_10, ey_10, h⟩ := bnd_e h
  refine nm_i ey_10 ?_
  obtain ⟨σ_11, eσ_11, h⟩ := bnd_e h
  refine pX0_4 C0 hK hP hk_k0 tw107 hI hS dX0_becomeLike_55 (fun H locs hP hS => ?_)
  rw [← eσ_11] at hP
  refine lv_aload_n hx hb dX0_becomeLike_58 rfl (lv_at hl 0 rfl) ?_
  refine lv_aload_n hx hb dX0_becomeLike_59 rfl (lv_at hl 1 rfl) ?_
  refine gX0_5 C0 hK hP hk_k1 tw109 dX0_becomeLike_60 ?_
  obtain ⟨y_12, ey_12, h⟩ := bnd_e h
  refine nm_i ey_12 ?_
  obtain ⟨σ_13, eσ_13, h⟩ := bnd_e h
  refine pX0_5 C0 hK hP hk_k0 tw109 hI hS dX0_becomeLike_63 (fun H locs hP hS => ?_)
  rw [← eσ_13] at hP
  rw [hQ]
  exact xvret C0 hP hS h dX0_becomeLike_66
def f_X0_has (k0 : Nat) (p1 : Int32) (σ : Mem) : Option (Int32) :=
  if p1 < 0 then
    some 0
  else
    if (σ (1 + 2 * k0) 1) ≤ p1 then
      some 0
    else
      some 1
def rm_X0_has : Room := { frames := 0, cells := 0, slots := 0, locals := 0 }
set_option maxHeartbeats 4000000 in
set_option maxRecDepth 100000 in
theorem c_X0_has {l : Launch} {D : va_G} {ca : Nat → ClassId} {a : Nat → Nat} (hI : InjN 50 a) {k0 : Nat} {p1 : Int32} {σ : Mem} {r : Int32} (hk_k0 : k0 < 9) (h : f_X0_has k0 p1 σ = some r) : XMX l D ca a Bt yX0_has cX0_has 2 (some .boolean) rm_X0_has [.ref (a (1 + 2 * k0)), .int p1] σ (some (.int r)) σ := by
  refine XM.of pn_X0 (Nat.le_of_ble_eq_true rfl) ?_
  intro p e s m args below meth c ls Q hQ C0 hK _ hP hS hl
  have C0 : Cx p s m args meth c RX0 cX0_has 2 (some .boolean) := C0
  have hx := C0.1
  have hb := C0.2.1
  have hl : lv_has ls 2 [(0, .ref (a (1 + 2 * k0))), (1, .int p1)] := hl
  rw [f_X0_has] at h
  refine lv_iload_n hx hb dX0_has_0 rfl (lv_at hl 1 rfl) ?_
  refine lv_if_lt (tgt := 16) hx hb dX0_has_1 (by decide) (fun c_1 => ?_) (fun c_1 => ?_)
  · have h := it c_1 h
    refine lv_iconst (v := 0) hx hb dX0_has_16 (by decide) ?_
    rw [hQ]
    exact xzretr C0 hP hS rfl h dX0_has_17
  · have h := ie c_1 h
    refine lv_iload_n hx hb dX0_has_4 rfl (lv_at hl 1 rfl) ?_
    refine lv_aload_n hx hb dX0_has_5 rfl (lv_at hl 0 rfl) ?_
    refine gX0_1 C0 hK hP hk_k0 tw100 dX0_has_6 ?_
    refine lv_icmp_ge (tgt := 16) hx hb dX0_has_9 (by decide) (fun c_2 => ?_) (fun c_2 => ?_)
    · have h := it c_2 h
      refine lv_iconst (v := 0) hx hb dX0_has_16 (by decide) ?_
      rw [hQ]
      exact xzretr C0 hP hS rfl h dX0_has_17
    · have h := ie c_2 h
      refine lv_iconst (v := 1) hx hb dX0_has_12 (by decide) ?_
      refine lv_goto (tgt := 17) hx hb dX0_has_13 (by decide) ?_
      rw [hQ]
      exact xzretr C0 hP hS rfl h dX0_has_17
def f_X0_get (k0 : Nat) (p1 : Int32) (p2 : Int32) (σ : Mem) : Option (Int32) :=
  bnd ((4 * p1) + p2) fun x3_1 =>
  if x3_1 < 0 then
    some 0
  else
    if 24 ≤ x3_1 then
      some 0
    else
      if x3_1 < 0 ∨ 24 ≤ x3_1.toNatClampNeg then none else
      some (σ (2 + 2 * k0) x3_1.toNatClampNeg)
def rm_X0_get : Room := { frames := 0, cells := 0, slots := 0, locals := 0 }
set_option maxHeartbeats 4000000 in
set_option maxRecDepth 100000 in
theorem c_X0_get {l : Launch} {D : va_G} {ca : Nat → ClassId} {a : Nat → Nat} (hI : InjN 50 a) {k0 : Nat} {p1 : Int32} {p2 : Int32} {σ : Mem} {r : Int32} (hk_k0 : k0 < 9) (h : f_X0_get k0 p1 p2 σ = some r) : XMX l D ca a Bt yX0_get cX0_get 4 (some .int) rm_X0_get [.ref (a (1 + 2 * k0)), .int p1, .int p2] σ (some (.int r)) σ := by
  refine XM.of pn_X0 (Nat.le_of_ble_eq_true rfl) ?_
  intro p e s m args below meth c ls Q hQ C0 hK _ hP hS hl
  have C0 : Cx p s m args meth c RX0 cX0_get 4 (some .int) := C0
  have hx := C0.1
  have hb := C0.2.1
  have hl : lv_has ls 4 [(0, .ref (a (1 + 2 * k0))), (1, .int p1), (2, .int p2)] := hl
  rw [f_X0_get] at h
  refine lv_iconst (v := 4) hx hb dX0_get_0 (by decide) ?_
  refine lv_iload_n hx hb dX0_get_1 rfl (lv_at hl 1 rfl) ?_
  refine lv_imul hx hb dX0_get_2 ?_
  refine lv_iload_n hx hb dX0_get_3 rfl (lv_at hl 2 rfl) ?_
  refine lv_iadd hx hb dX0_get_4 ?_
  obtain ⟨x3_1, ex3_1, h⟩ := bnd_e h
  refine nm_i ex3_1 ?_
  refine lv_istore_n (lv' := [(3, .int x3_1), (0, .ref (a (1 + 2 * k0))), (1, .int p1), (2, .int p2)]) hx hb dX0_get_5 rfl hl (by decide) rfl (fun ls hl => ?_)
  refine lv_iload_n hx hb dX0_get_6 rfl (lv_at hl 0 rfl) ?_
  refine lv_if_lt (tgt := 28) hx hb dX0_get_7 (by decide) (fun c_2 => ?_) (fun c_2 => ?_)
  · have h := it c_2 h
    refine lv_iconst (v := 0) hx hb dX0_get_28 (by decide) ?_
    rw [hQ]
    exact xzretr C0 hP hS rfl h dX0_get_29
  · have h := ie c_2 h
    refine lv_iload_n hx hb dX0_get_10 rfl (lv_at hl 0 rfl) ?_
    refine lv_aload_n hx hb dX0_get_11 rfl (lv_at hl 1 rfl) ?_
    refine gX0_0 C0 hK hP hk_k0 tw99 dX0_get_12 ?_
    refine xalenR (N := 24) (v := 24) 0 C0 hK hP (ltDA hk_k0) (fun _ => sh_DA hk_k0) rfl (by decide) dX0_get_15 ?_
    refine lv_icmp_ge (tgt := 28) hx hb dX0_get_16 (by decide) (fun c_3 => ?_) (fun c_3 => ?_)
    · have h := it c_3 h
      refine lv_iconst (v := 0) hx hb dX0_get_28 (by decide) ?_
      rw [hQ]
      exact xzretr C0 hP hS rfl h dX0_get_29
    · have h := ie c_3 h
      refine lv_aload_n hx hb dX0_get_19 rfl (lv_at hl 1 rfl) ?_
      refine gX0_0 C0 hK hP hk_k0 tw99 dX0_get_20 ?_
      refine lv_iload_n hx hb dX0_get_23 rfl (lv_at hl 0 rfl) ?_
      obtain ⟨b_4, h⟩ := ck h
      refine xald (i := (2 + 2 * k0)) (N := 24) C0 hK hP (ltDA hk_k0) (fun _ => sh_DA hk_k0) b_4 dX0_get_24 ?_
      refine lv_goto (tgt := 29) hx hb dX0_get_25 (by decide) ?_
      rw [hQ]
      exact xzretr C0 hP hS rfl h dX0_get_29
def f_X0_set (k0 : Nat) (p1 : Int32) (p2 : Int32) (p3 : Int32) (σ : Mem) : Option (Mem) :=
  bnd ((4 * p1) + p2) fun x4_1 =>
  if x4_1 < 0 then
    some σ
  else
    if 24 ≤ x4_1 then
      some σ
    else
      if x4_1 < 0 ∨ 24 ≤ x4_1.toNatClampNeg then none else
      bnd (uX σ (2 + 2 * k0) x4_1.toNatClampNeg p3) fun σ_5 =>
      some σ_5
def rm_X0_set : Room := { frames := 0, cells := 0, slots := 0, locals := 0 }
set_option maxHeartbeats 4000000 in
set_option maxRecDepth 100000 in
theorem c_X0_set {l : Launch} {D : va_G} {ca : Nat → ClassId} {a : Nat → Nat} (hI : InjN 50 a) {k0 : Nat} {p1 : Int32} {p2 : Int32} {p3 : Int32} {σ : Mem} {σ' : Mem} (hk_k0 : k0 < 9) (h : f_X0_set k0 p1 p2 p3 σ = some σ') : XMX l D ca a Bt yX0_set cX0_set 5 none rm_X0_set [.ref (a (1 + 2 * k0)), .int p1, .int p2, .int p3] σ none σ' := by
  refine XM.of pn_X0 (Nat.le_of_ble_eq_true rfl) ?_
  intro p e s m args below meth c ls Q hQ C0 hK _ hP hS hl
  have C0 : Cx p s m args meth c RX0 cX0_set 5 none := C0
  have hx := C0.1
  have hb := C0.2.1
  have hl : lv_has ls 5 [(0, .ref (a (1 + 2 * k0))), (1, .int p1), (2, .int p2), (3, .int p3)] := hl
  rw [f_X0_set] at h
  refine lv_iconst (v := 4) hx hb dX0_set_0 (by decide) ?_
  refine lv_iload_n hx hb dX0_set_1 rfl (lv_at hl 1 rfl) ?_
  refine lv_imul hx hb dX0_set_2 ?_
  refine lv_iload_n hx hb dX0_set_3 rfl (lv_at hl 2 rfl) ?_
  refine lv_iadd hx hb dX0_set_4 ?_
  obtain ⟨x4_1, ex4_1, h⟩ := bnd_e h
  refine nm_i ex4_1 ?_
  refine lv_istore (lv' := [(4, .int x4_1), (0, .ref (a (1 + 2 * k0))), (1, .int p1), (2, .int p2), (3, .int p3)]) hx hb dX0_set_5 hl (by decide) rfl (fun ls hl => ?_)
  refine lv_iload hx hb dX0_set_7 (lv_at hl 0 rfl) ?_
  refine lv_if_lt (tgt := 30) hx hb dX0_set_9 (by decide) (fun c_2 => ?_) (fun c_2 => ?_)
  · have h := it c_2 h
    rw [hQ]
    exact xvret C0 hP hS h dX0_set_30
  · have h := ie c_2 h
    refine lv_iload hx hb dX0_set_12 (lv_at hl 0 rfl) ?_
    refine lv_aload_n hx hb dX0_set_14 rfl (lv_at hl 1 rfl) ?_
    refine gX0_0 C0 hK hP hk_k0 tw99 dX0_set_15 ?_
    refine xalenR (N := 24) (v := 24) 0 C0 hK hP (ltDA hk_k0) (fun _ => sh_DA hk_k0) rfl (by decide) dX0_set_18 ?_
    refine lv_icmp_ge (tgt := 30) hx hb dX0_set_19 (by decide) (fun c_3 => ?_) (fun c_3 => ?_)
    · have h := it c_3 h
      rw [hQ]
      exact xvret C0 hP hS h dX0_set_30
    · have h := ie c_3 h
      refine lv_aload_n hx hb dX0_set_22 rfl (lv_at hl 1 rfl) ?_
      refine gX0_0 C0 hK hP hk_k0 tw99 dX0_set_23 ?_
      refine lv_iload hx hb dX0_set_26 (lv_at hl 0 rfl) ?_
      refine lv_iload_n hx hb dX0_set_28 rfl (lv_at hl 4 rfl) ?_
      obtain ⟨b_4, h⟩ := ck h
      obtain ⟨σ_5, eσ_5, h⟩ := bnd_e h
      refine xast (i := (2 + 2 * k0)) (N := 24) C0 hK hP hI hS (ltDA hk_k0) (fun _ => sh_DA hk_k0) b_4 dX0_set_29 (fun H locs hP hS => ?_)
      rw [← eσ_5] at hP
      rw [hQ]
      exact xvret C0 hP hS h dX0_set_30
def f_X0_widen (k0 : Nat) (p1 : Int32) (p2 : Int32) (σ : Mem) : Option (Mem) :=
  b1 (f_X0_get k0 p1 1 σ) fun r_2 =>
  bnd (if r_2 + p2 < 99 then r_2 + p2 else 99) fun y_3 =>
  bnd (if (1 : Int32) < y_3 then y_3 else 1) fun y_4 =>
  b1 (f_X0_set k0 p1 1 y_4 σ) fun σ_6 =>
  some σ_6
def rm_X0_widen : Room := { frames := 1, cells := 0, slots := 0, locals := 24 }
set_option maxHeartbeats 4000000 in
set_option maxRecDepth 100000 in
theorem c_X0_widen {l : Launch} {D : va_G} {ca : Nat → ClassId} {a : Nat → Nat} (hI : InjN 50 a) {k0 : Nat} {p1 : Int32} {p2 : Int32} {σ : Mem} {σ' : Mem} (hk_k0 : k0 < 9) (h : f_X0_widen k0 p1 p2 σ = some σ') : XMX l D ca a Bt yX0_widen cX0_widen 3 none rm_X0_widen [.ref (a (1 + 2 * k0)), .int p1, .int p2] σ none σ' := by
  refine XM.of pn_X0 (Nat.le_of_ble_eq_true rfl) ?_
  intro p e s m args below meth c ls Q hQ C0 hK _ hP hS hl
  have C0 : Cx p s m args meth c RX0 cX0_widen 3 none := C0
  have hx := C0.1
  have hb := C0.2.1
  have hl : lv_has ls 3 [(0, .ref (a (1 + 2 * k0))), (1, .int p1), (2, .int p2)] := hl
  rw [f_X0_widen] at h
  refine lv_aload_n hx hb dX0_widen_0 rfl (lv_at hl 0 rfl) ?_
  refine lv_iload_n hx hb dX0_widen_1 rfl (lv_at hl 1 rfl) ?_
  refine lv_iconst (v := 1) hx hb dX0_widen_2 (by decide) ?_
  refine lv_iconst (v := 1) hx hb dX0_widen_3 (by decide) ?_
  refine lv_bipush (v := 99) hx hb dX0_widen_4 (by decide) ?_
  refine lv_aload_n hx hb dX0_widen_6 rfl (lv_at hl 0 rfl) ?_
  refine lv_iload_n hx hb dX0_widen_7 rfl (lv_at hl 1 rfl) ?_
  refine lv_iconst (v := 1) hx hb dX0_widen_8 (by decide) ?_
  obtain ⟨r_2, h_1, h⟩ := b1_e h
  refine xcall (rV C0 hK hP hl.1 (fun _ _ _ => trivial) Bt_b (c_X0_get hI hk_k0 h_1) cv_X0_get tw469 (rcX0 hK hP hk_k0) (rest := [.int 99, .int 1, .int 1, .int p1, .ref (a (1 + 2 * k0))]) rfl (Nat.le_of_ble_eq_true rfl) ⟨rfl, rfl, Nat.le_of_ble_eq_true rfl, Nat.le_of_ble_eq_true rfl⟩ ⟨Nat.zero_le _, Nat.zero_le _⟩ dX0_widen_9) hS (fun H locs hP hS => ?_)
  refine lv_iload_n hx hb dX0_widen_12 rfl (lv_at hl 2 rfl) ?_
  refine lv_iadd hx hb dX0_widen_13 ?_
  refine va_mmin hx hb (C0.2.2.1.trans hl.1.symm) C0.2.2.2.1 (C0.2.2.2.2.1 _ tw383) (C0.2.2.2.2.1 _ tw384) (C0.2.2.2.2.1 _ tw77) (C0.2.2.2.2.1 _ tw385) (Nat.le_of_ble_eq_true rfl) (Nat.le_of_ble_eq_true rfl) (Nat.zero_le _) (Nat.zero_le _) dX0_widen_14 ?_
  obtain ⟨y_3, ey_3, h⟩ := bnd_e h
  refine nm_i ey_3 ?_
  refine va_mmax hx hb (C0.2.2.1.trans hl.1.symm) C0.2.2.2.1 (C0.2.2.2.2.1 _ tw470) (C0.2.2.2.2.1 _ tw471) (C0.2.2.2.2.1 _ tw77) (C0.2.2.2.2.1 _ tw472) (Nat.le_of_ble_eq_true rfl) (Nat.le_of_ble_eq_true rfl) (Nat.zero_le _) (Nat.zero_le _) dX0_widen_17 ?_
  obtain ⟨y_4, ey_4, h⟩ := bnd_e h
  refine nm_i ey_4 ?_
  obtain ⟨σ_6, h_5, h⟩ := b1_e h
  refine xcall (rV C0 hK hP hl.1 (fun _ _ _ => trivial) Bt_b (c_X0_set hI hk_k0 h_5) cv_X0_set tw402 (rcX0 hK hP hk_k0) (rest := []) rfl (Nat.le_of_ble_eq_true rfl) ⟨rfl, rfl, Nat.le_of_ble_eq_true rfl, Nat.le_of_ble_eq_true rfl⟩ ⟨Nat.zero_le _, Nat.zero_le _⟩ dX0_widen_20) hS (fun H locs hP hS => ?_)
  rw [hQ]
  exact xvret C0 hP hS h dX0_widen_23
def f_X0_keepMore (k0 : Nat) (p1 : Int32) (p2 : Int32) (σ : Mem) : Option (Mem) :=
  b1 (f_X0_get k0 p1 2 σ) fun r_2 =>
  bnd (if r_2 + p2 < 9 then r_2 + p2 else 9) fun y_3 =>
  bnd (if (0 : Int32) < y_3 then y_3 else 0) fun y_4 =>
  b1 (f_X0_set k0 p1 2 y_4 σ) fun σ_6 =>
  some σ_6
def rm_X0_keepMore : Room := { frames := 1, cells := 0, slots := 0, locals := 24 }
set_option maxHeartbeats 4000000 in
set_option maxRecDepth 100000 in
theorem c_X0_keepMore {l : Launch} {D : va_G} {ca : Nat → ClassId} {a : Nat → Nat} (hI : InjN 50 a) {k0 : Nat} {p1 : Int32} {p2 : Int32} {σ : Mem} {σ' : Mem} (hk_k0 : k0 < 9) (h : f_X0_keepMore k0 p1 p2 σ = some σ') : XMX l D ca a Bt yX0_keepMore cX0_keepMore 3 none rm_X0_keepMore [.ref (a (1 + 2 * k0)), .int p1, .int p2] σ none σ' := by
  refine XM.of pn_X0 (Nat.le_of_ble_eq_true rfl) ?_
  intro p e s m args below meth c ls Q hQ C0 hK _ hP hS hl
  have C0 : Cx p s m args meth c RX0 cX0_keepMore 3 none := C0
  have hx := C0.1
  have hb := C0.2.1
  have hl : lv_has ls 3 [(0, .ref (a (1 + 2 * k0))), (1, .int p1), (2, .int p2)] := hl
  rw [f_X0_keepMore] at h
  refine lv_aload_n hx hb dX0_keepMore_0 rfl (lv_at hl 0 rfl) ?_
  refine lv_iload_n hx hb dX0_keepMore_1 rfl (lv_at hl 1 rfl) ?_
  refine lv_iconst (v := 2) hx hb dX0_keepMore_2 (by decide) ?_
  refine lv_iconst (v := 0) hx hb dX0_keepMore_3 (by decide) ?_
  refine lv_bipush (v := 9) hx hb dX0_keepMore_4 (by decide) ?_
  refine lv_aload_n hx hb dX0_keepMore_6 rfl (lv_at hl 0 rfl) ?_
  refine lv_iload_n hx hb dX0_keepMore_7 rfl (lv_at hl 1 rfl) ?_
  refine lv_iconst (v := 2) hx hb dX0_keepMore_8 (by decide) ?_
  obtain ⟨r_2, h_1, h⟩ := b1_e h
  refine xcall (rV C0 hK hP hl.1 (fun _ _ _ => trivial) Bt_b (c_X0_get hI hk_k0 h_1) cv_X0_get tw469 (rcX0 hK hP hk_k0) (rest := [.int 9, .int 0, .int 2, .int p1, .ref (a (1 + 2 * k0))]) rfl (Nat.le_of_ble_eq_true rfl) ⟨rfl, rfl, Nat.le_of_ble_eq_true rfl, Nat.le_of_ble_eq_true rfl⟩ ⟨Nat.zero_le _, Nat.zero_le _⟩ dX0_keepMore_9) hS (fun H locs hP hS => ?_)
  refine lv_iload_n hx hb dX0_keepMore_12 rfl (lv_at hl 2 rfl) ?_
  refine lv_iadd hx hb dX0_keepMore_13 ?_
  refine va_mmin hx hb (C0.2.2.1.trans hl.1.symm) C0.2.2.2.1 (C0.2.2.2.2.1 _ tw383) (C0.2.2.2.2.1 _ tw384) (C0.2.2.2.2.1 _ tw77) (C0.2.2.2.2.1 _ tw385) (Nat.le_of_ble_eq_true rfl) (Nat.le_of_ble_eq_true rfl) (Nat.zero_le _) (Nat.zero_le _) dX0_keepMore_14 ?_
  obtain ⟨y_3, ey_3, h⟩ := bnd_e h
  refine nm_i ey_3 ?_
  refine va_mmax hx hb (C0.2.2.1.trans hl.1.symm) C0.2.2.2.1 (C0.2.2.2.2.1 _ tw470) (C0.2.2.2.2.1 _ tw471) (C0.2.2.2.2.1 _ tw77) (C0.2.2.2.2.1 _ tw472) (Nat.le_of_ble_eq_true rfl) (Nat.le_of_ble_eq_true rfl) (Nat.zero_le _) (Nat.zero_le _) dX0_keepMore_17 ?_
  obtain ⟨y_4, ey_4, h⟩ := bnd_e h
  refine nm_i ey_4 ?_
  obtain ⟨σ_6, h_5, h⟩ := b1_e h
  refine xcall (rV C0 hK hP hl.1 (fun _ _ _ => trivial) Bt_b (c_X0_set hI hk_k0 h_5) cv_X0_set tw402 (rcX0 hK hP hk_k0) (rest := []) rfl (Nat.le_of_ble_eq_true rfl) ⟨rfl, rfl, Nat.le_of_ble_eq_true rfl, Nat.le_of_ble_eq_true rfl⟩ ⟨Nat.zero_le _, Nat.zero_le _⟩ dX0_keepMore_20) hS (fun H locs hP hS => ?_)
  rw [hQ]
  exact xvret C0 hP hS h dX0_keepMore_23
def f_X0_pierce (k0 : Nat) (p1 : Int32) (σ : Mem) : Option (Mem) :=
  bnd (if (σ (1 + 2 * k0) 4) + p1 < 99 then (σ (1 + 2 * k0) 4) + p1 else 99) fun y_1 =>
  bnd (if (0 : Int32) < y_1 then y_1 else 0) fun y_2 =>
  bnd (uX σ (1 + 2 * k0) 4 y_2) fun σ_3 =>
  some σ_3
def rm_X0_pierce : Room := { frames := 1, cells := 0, slots := 0, locals := 21 }
set_option maxHeartbeats 4000000 in
set_option maxRecDepth 100000 in
theorem c_X0_pierce {l : Launch} {D : va_G} {ca : Nat → ClassId} {a : Nat → Nat} (hI : InjN 50 a) {k0 : Nat} {p1 : Int32} {σ : Mem} {σ' : Mem} (hk_k0 : k0 < 9) (h : f_X0_pierce k0 p1 σ = some σ') : XMX l D ca a Bt yX0_pierce cX0_pierce 2 none rm_X0_pierce [.ref (a (1 + 2 * k0)), .int p1] σ none σ' := by
  refine XM.of pn_X0 (Nat.le_of_ble_eq_true rfl) ?_
  intro p e s m args below meth c ls Q hQ C0 hK _ hP hS hl
  have C0 : Cx p s m args meth c RX0 cX0_pierce 2 none := C0
  have hx := C0.1
  have hb := C0.2.1
  have hl : lv_has ls 2 [(0, .ref (a (1 + 2 * k0))), (1, .int p1)] := hl
  rw [f_X0_pierce] at h
  refine lv_aload_n hx hb dX0_pierce_0 rfl (lv_at hl 0 rfl) ?_
  refine lv_iconst (v := 0) hx hb dX0_pierce_1 (by decide) ?_
  refine lv_bipush (v := 99) hx hb dX0_pierce_2 (by decide) ?_
  refine lv_aload_n hx hb dX0_pierce_4 rfl (lv_at hl 0 rfl) ?_
  refine gX0_4 C0 hK hP hk_k0 tw107 dX0_pierce_5 ?_
  refine lv_iload_n hx hb dX0_pierce_8 rfl (lv_at hl 1 rfl) ?_
  refine lv_iadd hx hb dX0_pierce_9 ?_
  refine va_mmin hx hb (C0.2.2.1.trans hl.1.symm) C0.2.2.2.1 (C0.2.2.2.2.1 _ tw383) (C0.2.2.2.2.1 _ tw384) (C0.2.2.2.2.1 _ tw77) (C0.2.2.2.2.1 _ tw385) (Nat.le_of_ble_eq_true rfl) (Nat.le_of_ble_eq_true rfl) (Nat.zero_le _) (Nat.zero_le _) dX0_pierce_10 ?_
  obtain ⟨y_1, ey_1, h⟩ := bnd_e h
  refine nm_i ey_1 ?_
  refine va_mmax hx hb (C0.2.2.1.trans hl.1.symm) C0.2.2.2.1 (C0.2.2.2.2.1 _ tw470) (C0.2.2.2.2.1 _ tw471) (C0.2.2.2.2.1 _ tw77) (C0.2.2.2.2.1 _ tw472) (Nat.le_of_ble_eq_true rfl) (Nat.le_of_ble_eq_true rfl) (Nat.zero_le _) (Nat.zero_le _) dX0_pierce_13 ?_
  obtain ⟨y_2, ey_2, h⟩ := bnd_e h
  refine nm_i ey_2 ?_
  obtain ⟨σ_3, eσ_3, h⟩ := bnd_e h
  refine pX0_4 C0 hK hP hk_k0 tw107 hI hS dX0_pierce_16 (fun H locs hP hS => ?_)
  rw [← eσ_3] at hP
  rw [hQ]
  exact xvret C0 hP hS h dX0_pierce_19
def f_X11_within (p1 : Int32) (p2 : Int32) (p3 : Int32) : Option (Int32) :=
  if p1 < p2 then
    some 0
  else
    if p3 < p1 then
      some 0
    else
      some 1
def rm_X11_within : Room := { frames := 0, cells := 0, slots := 0, locals := 0 }
set_option maxHeartbeats 4000000 in
set_option maxRecDepth 100000 in
theorem c_X11_within {l : Launch} {D : va_G} {ca : Nat → ClassId} {a : Nat → Nat} (hI : InjN 50 a) {p1 : Int32} {p2 : Int32} {p3 : Int32} {σ : Mem} {r : Int32}  (h : f_X11_within p1 p2 p3 = some r) : XMX l D ca a Bt yX11_within cX11_within 3 (some .boolean) rm_X11_within [.int p1, .int p2, .int p3] σ (some (.int r)) σ := by
  refine XM.of pn_X11 (Nat.le_of_ble_eq_true rfl) ?_
  intro p e s m args below meth c ls Q hQ C0 hK _ hP hS hl
  have C0 : Cx p s m args meth c RX11 cX11_within 3 (some .boolean) := C0
  have hx := C0.1
  have hb := C0.2.1
  have hl : lv_has ls 3 [(0, .int p1), (1, .int p2), (2, .int p3)] := hl
  rw [f_X11_within] at h
  refine lv_iload_n hx hb dX11_within_0 rfl (lv_at hl 0 rfl) ?_
  refine lv_iload_n hx hb dX11_within_1 rfl (lv_at hl 1 rfl) ?_
  refine lv_icmp_lt (tgt := 14) hx hb dX11_within_2 (by decide) (fun c_1 => ?_) (fun c_1 => ?_)
  · have h := it c_1 h
    refine lv_iconst (v := 0) hx hb dX11_within_14 (by decide) ?_
    rw [hQ]
    exact xzretr C0 hP hS rfl h dX11_within_15
  · have h := ie c_1 h
    refine lv_iload_n hx hb dX11_within_5 rfl (lv_at hl 0 rfl) ?_
    refine lv_iload_n hx hb dX11_within_6 rfl (lv_at hl 2 rfl) ?_
    refine lv_icmp_gt (tgt := 14) hx hb dX11_within_7 (by decide) (fun c_2 => ?_) (fun c_2 => ?_)
    · have h := it c_2 h
      refine lv_iconst (v := 0) hx hb dX11_within_14 (by decide) ?_
      rw [hQ]
      exact xzretr C0 hP hS rfl h dX11_within_15
    · have h := ie c_2 h
      refine lv_iconst (v := 1) hx hb dX11_within_10 (by decide) ?_
      refine lv_goto (tgt := 15) hx hb dX11_within_11 (by decide) ?_
      rw [hQ]
      exact xzretr C0 hP hS rfl h dX11_within_15
def f_X0_addRing (k0 : Nat) (p1 : Int32) (p2 : Int32) (p3 : Int32) (p4 : Int32) (σ : Mem) : Option (Int32 × Mem) :=
  b1 (f_X11_within p1 1 99) fun r_2 =>
  if r_2 = 0 then
    some (0, σ)
  else
    b1 (f_X11_within p2 1 99) fun r_5 =>
    if r_5 = 0 then
      some (0, σ)
    else
      if (σ (1 + 2 * k0) 1) < 6 then
        b1 (f_X0_set k0 (σ (1 + 2 * k0) 1) 0 p1 σ) fun σ_9 =>
        b1 (f_X0_set k0 (σ_9 (1 + 2 * k0) 1) 1 p2 σ_9) fun σ_11 =>
        bnd (σ_11 (1 + 2 * k0) 1) fun y_12 =>
        b1 (f_X0_set k0 y_12 2 p3 σ_11) fun σ_14 =>
        bnd (σ_14 (1 + 2 * k0) 1) fun y_15 =>
        b1 (f_X0_set k0 y_15 3 p4 σ_14) fun σ_17 =>
        bnd ((σ_17 (1 + 2 * k0) 1) + 1) fun y_18 =>
        bnd (uX σ_17 (1 + 2 * k0) 1 y_18) fun σ_19 =>
        some (1, σ_19)
      else
        some (0, σ)
def rm_X0_addRing : Room := { frames := 1, cells := 0, slots := 0, locals := 24 }
set_option maxHeartbeats 4000000 in
set_option maxRecDepth 100000 in
theorem c_X0_addRing {l : Launch} {D : va_G} {ca : Nat → ClassId} {a : Nat → Nat} (hI : InjN 50 a) {k0 : Nat} {p1 : Int32} {p2 : Int32} {p3 : Int32} {p4 : Int32} {σ : Mem} {r : Int32} {σ' : Mem} (hk_k0 : k0 < 9) (h : f_X0_addRing k0 p1 p2 p3 p4 σ = some (r, σ')) : XMX l D ca a Bt yX0_addRing cX0_addRing 5 (some .boolean) rm_X0_addRing [.ref (a (1 + 2 * k0)), .int p1, .int p2, .int p3, .int p4] σ (some (.int r)) σ' := by
  refine XM.of pn_X0 (Nat.le_of_ble_eq_true rfl) ?_
  intro p e s m args below meth c ls Q hQ C0 hK _ hP hS hl
  have C0 : Cx p s m args meth c RX0 cX0_addRing 5 (some .boolean) := C0
  have hx := C0.1
  have hb := C0.2.1
  have hl : lv_has ls 5 [(0, .ref (a (1 + 2 * k0))), (1, .int p1), (2, .int p2), (3, .int p3), (4, .int p4)] := hl
  rw [f_X0_addRing] at h
  refine lv_iload_n hx hb dX0_addRing_0 rfl (lv_at hl 1 rfl) ?_
  refine lv_iconst (v := 1) hx hb dX0_addRing_1 (by decide) ?_
  refine lv_bipush (v := 99) hx hb dX0_addRing_2 (by decide) ?_
  obtain ⟨r_2, h_1, h⟩ := b1_e h
  refine xcall (rSN C0 hK hP hl.1 (fun _ _ _ => trivial) Bt_b (c_X11_within hI h_1) cs_X11_within tw401 (rest := []) rfl (Nat.le_of_ble_eq_true rfl) ⟨rfl, rfl, Nat.le_of_ble_eq_true rfl, Nat.le_of_ble_eq_true rfl⟩ ⟨Nat.zero_le _, Nat.zero_le _⟩ dX0_addRing_4) hS (fun H locs hP hS => ?_)
  refine lv_if_eq (tgt := 29) hx hb dX0_addRing_7 (by decide) (fun c_3 => ?_) (fun c_3 => ?_)
  · have h := it c_3 h
    refine lv_iconst (v := 0) hx hb dX0_addRing_29 (by decide) ?_
    rw [hQ]
    exact xzret C0 hP hS rfl h dX0_addRing_30
  · have h := ie c_3 h
    refine lv_iload_n hx hb dX0_addRing_10 rfl (lv_at hl 2 rfl) ?_
    refine lv_iconst (v := 1) hx hb dX0_addRing_11 (by decide) ?_
    refine lv_bipush (v := 99) hx hb dX0_addRing_12 (by decide) ?_
    obtain ⟨r_5, h_4, h⟩ := b1_e h
    refine xcall (rSN C0 hK hP hl.1 (fun _ _ _ => trivial) Bt_b (c_X11_within hI h_4) cs_X11_within tw401 (rest := []) rfl (Nat.le_of_ble_eq_true rfl) ⟨rfl, rfl, Nat.le_of_ble_eq_true rfl, Nat.le_of_ble_eq_true rfl⟩ ⟨Nat.zero_le _, Nat.zero_le _⟩ dX0_addRing_14) hS (fun H locs hP hS => ?_)
    refine lv_if_eq (tgt := 29) hx hb dX0_addRing_17 (by decide) (fun c_6 => ?_) (fun c_6 => ?_)
    · have h := it c_6 h
      refine lv_iconst (v := 0) hx hb dX0_addRing_29 (by decide) ?_
      rw [hQ]
      exact xzret C0 hP hS rfl h dX0_addRing_30
    · have h := ie c_6 h
      refine lv_aload_n hx hb dX0_addRing_20 rfl (lv_at hl 0 rfl) ?_
      refine gX0_1 C0 hK hP hk_k0 tw100 dX0_addRing_21 ?_
      refine lv_bipush (v := 6) hx hb dX0_addRing_24 (by decide) ?_
      refine lv_icmp_lt (tgt := 31) hx hb dX0_addRing_26 (by decide) (fun c_7 => ?_) (fun c_7 => ?_)
      · have h := it c_7 h
        refine lv_aload_n hx hb dX0_addRing_31 rfl (lv_at hl 0 rfl) ?_
        refine lv_aload_n hx hb dX0_addRing_32 rfl (lv_at hl 0 rfl) ?_
        refine gX0_1 C0 hK hP hk_k0 tw100 dX0_addRing_33 ?_
        refine lv_iconst (v := 0) hx hb dX0_addRing_36 (by decide) ?_
        refine lv_iload_n hx hb dX0_addRing_37 rfl (lv_at hl 1 rfl) ?_
        obtain ⟨σ_9, h_8, h⟩ := b1_e h
        refine xcall (rV C0 hK hP hl.1 (fun _ _ _ => trivial) Bt_b (c_X0_set hI hk_k0 h_8) cv_X0_set tw402 (rcX0 hK hP hk_k0) (rest := []) rfl (Nat.le_of_ble_eq_true rfl) ⟨rfl, rfl, Nat.le_of_ble_eq_true rfl, Nat.le_of_ble_eq_true rfl⟩ ⟨Nat.zero_le _, Nat.zero_le _⟩ dX0_addRing_38) hS (fun H locs hP hS => ?_)
        refine lv_aload_n hx hb dX0_addRing_41 rfl (lv_at hl 0 rfl) ?_
        refine lv_aload_n hx hb dX0_addRing_42 rfl (lv_at hl 0 rfl) ?_
        refine gX0_1 C0 hK hP hk_k0 tw100 dX0_addRing_43 ?_
        refine lv_iconst (v := 1) hx hb dX0_addRing_46 (by decide) ?_
        refine lv_iload_n hx hb dX0_addRing_47 rfl (lv_at hl 2 rfl) ?_
        obtain ⟨σ_11, h_10, h⟩ := b1_e h
        refine xcall (rV C0 hK hP hl.1 (fun _ _ _ => trivial) Bt_b (c_X0_set hI hk_k0 h_10) cv_X0_set tw402 (rcX0 hK hP hk_k0) (rest := []) rfl (Nat.le_of_ble_eq_true rfl) ⟨rfl, rfl, Nat.le_of_ble_eq_true rfl, Nat.le_of_ble_eq_true rfl⟩ ⟨Nat.zero_le _, Nat.zero_le _⟩ dX0_addRing_48) hS (fun H locs hP hS => ?_)
        refine lv_aload_n hx hb dX0_addRing_51 rfl (lv_at hl 0 rfl) ?_
        refine lv_aload_n hx hb dX0_addRing_52 rfl (lv_at hl 0 rfl) ?_
        refine gX0_1 C0 hK hP hk_k0 tw100 dX0_addRing_53 ?_
        refine lv_iconst (v := 2) hx hb dX0_addRing_56 (by decide) ?_
        refine lv_iload_n hx hb dX0_addRing_57 rfl (lv_at hl 3 rfl) ?_
        obtain ⟨y_12, ey_12, h⟩ := bnd_e h
        rw [← ey_12]
        obtain ⟨σ_14, h_13, h⟩ := b1_e h
        refine xcall (rV C0 hK hP hl.1 (fun _ _ _ => trivial) Bt_b (c_X0_set hI hk_k0 h_13) cv_X0_set tw402 (rcX0 hK hP hk_k0) (rest := []) rfl (Nat.le_of_ble_eq_true rfl) ⟨rfl, rfl, Nat.le_of_ble_eq_true rfl, Nat.le_of_ble_eq_true rfl⟩ ⟨Nat.zero_le _, Nat.zero_le _⟩ dX0_addRing_58) hS (fun H locs hP hS => ?_)
        refine lv_aload_n hx hb dX0_addRing_61 rfl (lv_at hl 0 rfl) ?_
        refine lv_aload_n hx hb dX0_addRing_62 rfl (lv_at hl 0 rfl) ?_
        refine gX0_1 C0 hK hP hk_k0 tw100 dX0_addRing_63 ?_
        refine lv_iconst (v := 3) hx hb dX0_addRing_66 (by decide) ?_
        refine lv_iload hx hb dX0_addRing_67 (lv_at hl 4 rfl) ?_
        obtain ⟨y_15, ey_15, h⟩ := bnd_e h
        rw [← ey_15]
        obtain ⟨σ_17, h_16, h⟩ := b1_e h
        refine xcall (rV C0 hK hP hl.1 (fun _ _ _ => trivial) Bt_b (c_X0_set hI hk_k0 h_16) cv_X0_set tw402 (rcX0 hK hP hk_k0) (rest := []) rfl (Nat.le_of_ble_eq_true rfl) ⟨rfl, rfl, Nat.le_of_ble_eq_true rfl, Nat.le_of_ble_eq_true rfl⟩ ⟨Nat.zero_le _, Nat.zero_le _⟩ dX0_addRing_69) hS (fun H locs hP hS => ?_)
        refine lv_aload_n hx hb dX0_addRing_72 rfl (lv_at hl 0 rfl) ?_
        refine lv_dup hx hb dX0_addRing_73 rfl ?_
        refine gX0_1 C0 hK hP hk_k0 tw100 dX0_addRing_74 ?_
        refine lv_iconst (v := 1) hx hb dX0_addRing_77 (by decide) ?_
        refine lv_iadd hx hb dX0_addRing_78 ?_
        obtain ⟨y_18, ey_18, h⟩ := bnd_e h
        refine nm_i ey_18 ?_
        obtain ⟨σ_19, eσ_19, h⟩ := bnd_e h
        refine pX0_1 C0 hK hP hk_k0 tw100 hI hS dX0_addRing_79 (fun H locs hP hS => ?_)
        rw [← eσ_19] at hP
        refine lv_iconst (v := 1) hx hb dX0_addRing_82 (by decide) ?_
        rw [hQ]
        exact xzret C0 hP hS rfl h dX0_addRing_83
      · have h := ie c_7 h
        refine lv_iconst (v := 0) hx hb dX0_addRing_29 (by decide) ?_
        rw [hQ]
        exact xzret C0 hP hS rfl h dX0_addRing_30
def f_X0_needOf (k0 : Nat) (p1 : Int32) (p2 : Int32) (σ : Mem) : Option (Int32) :=
  if p2 = 0 then
    some 0
  else
    if p2 = 1 then
      b1 (f_X0_get k0 p1 3 σ) fun r_4 =>
      some r_4
    else
      if p2 = 2 then
        b1 (f_X0_get k0 p1 3 σ) fun r_7 =>
        if p1 = 0 then
          some ((r_7 / 2) + 2)
        else
          some ((r_7 / 2) + 0)
      else
        if (p1 - p1 / 2 * 2) = 0 then
          some 1
        else
          some 0
def rm_X0_needOf : Room := { frames := 1, cells := 0, slots := 0, locals := 23 }
set_option maxHeartbeats 4000000 in
set_option maxRecDepth 100000 in
theorem c_X0_needOf {l : Launch} {D : va_G} {ca : Nat → ClassId} {a : Nat → Nat} (hI : InjN 50 a) {k0 : Nat} {p1 : Int32} {p2 : Int32} {σ : Mem} {r : Int32} (hk_k0 : k0 < 9) (h : f_X0_needOf k0 p1 p2 σ = some r) : XMX l D ca a Bt yX0_needOf cX0_needOf 3 (some .int) rm_X0_needOf [.ref (a (1 + 2 * k0)), .int p1, .int p2] σ (some (.int r)) σ := by
  refine XM.of pn_X0 (Nat.le_of_ble_eq_true rfl) ?_
  intro p e s m args below meth c ls Q hQ C0 hK _ hP hS hl
  have C0 : Cx p s m args meth c RX0 cX0_needOf 3 (some .int) := C0
  have hx := C0.1
  have hb := C0.2.1
  have hl : lv_has ls 3 [(0, .ref (a (1 + 2 * k0))), (1, .int p1), (2, .int p2)] := hl
  rw [f_X0_needOf] at h
  refine lv_iload_n hx hb dX0_needOf_0 rfl (lv_at hl 2 rfl) ?_
  by_cases c_1 : p2 = 0
  · have h := it c_1 h
    refine lv_tableIn (off := 27) (tgt := 28) hx hb dX0_needOf_1 (by rw [c_1]; decide) (by rw [c_1]; decide) (by rw [c_1]; rfl) (by decide) ?_
    refine lv_iconst (v := 0) hx hb dX0_needOf_28 (by decide) ?_
    rw [hQ]
    exact xzretr C0 hP hS rfl h dX0_needOf_29
  · have h := ie c_1 h
    by_cases c_2 : p2 = 1
    · have h := it c_2 h
      refine lv_tableIn (off := 29) (tgt := 30) hx hb dX0_needOf_1 (by rw [c_2]; decide) (by rw [c_2]; decide) (by rw [c_2]; rfl) (by decide) ?_
      refine lv_aload_n hx hb dX0_needOf_30 rfl (lv_at hl 0 rfl) ?_
      refine lv_iload_n hx hb dX0_needOf_31 rfl (lv_at hl 1 rfl) ?_
      refine lv_iconst (v := 3) hx hb dX0_needOf_32 (by decide) ?_
      obtain ⟨r_4, h_3, h⟩ := b1_e h
      refine xcall (rV C0 hK hP hl.1 (fun _ _ _ => trivial) Bt_b (c_X0_get hI hk_k0 h_3) cv_X0_get tw469 (rcX0 hK hP hk_k0) (rest := []) rfl (Nat.le_of_ble_eq_true rfl) ⟨rfl, rfl, Nat.le_of_ble_eq_true rfl, Nat.le_of_ble_eq_true rfl⟩ ⟨Nat.zero_le _, Nat.zero_le _⟩ dX0_needOf_33) hS (fun H locs hP hS => ?_)
      rw [hQ]
      exact xzretr C0 hP hS rfl h dX0_needOf_36
    · have h := ie c_2 h
      by_cases c_5 : p2 = 2
      · have h := it c_5 h
        refine lv_tableIn (off := 36) (tgt := 37) hx hb dX0_needOf_1 (by rw [c_5]; decide) (by rw [c_5]; decide) (by rw [c_5]; rfl) (by decide) ?_
        refine lv_aload_n hx hb dX0_needOf_37 rfl (lv_at hl 0 rfl) ?_
        refine lv_iload_n hx hb dX0_needOf_38 rfl (lv_at hl 1 rfl) ?_
        refine lv_iconst (v := 3) hx hb dX0_needOf_39 (by decide) ?_
        obtain ⟨r_7, h_6, h⟩ := b1_e h
        refine xcall (rV C0 hK hP hl.1 (fun _ _ _ => trivial) Bt_b (c_X0_get hI hk_k0 h_6) cv_X0_get tw469 (rcX0 hK hP hk_k0) (rest := []) rfl (Nat.le_of_ble_eq_true rfl) ⟨rfl, rfl, Nat.le_of_ble_eq_true rfl, Nat.le_of_ble_eq_true rfl⟩ ⟨Nat.zero_le _, Nat.zero_le _⟩ dX0_needOf_40) hS (fun H locs hP hS => ?_)
        refine lv_iconst (v := 2) hx hb dX0_needOf_43 (by decide) ?_
        refine lv_idiv hx hb dX0_needOf_44 (by decide) ?_
        refine lv_iload_n hx hb dX0_needOf_45 rfl (lv_at hl 1 rfl) ?_
        refine lv_if_ne (tgt := 53) hx hb dX0_needOf_46 (by decide) (fun c_8 => ?_) (fun c_8 => ?_)
        · have h := ie c_8 h
          refine lv_iconst (v := 0) hx hb dX0_needOf_53 (by decide) ?_
          refine lv_iadd hx hb dX0_needOf_54 ?_
          rw [hQ]
          exact xzretr C0 hP hS rfl h dX0_needOf_55
        · have h := it c_8 h
          refine lv_iconst (v := 2) hx hb dX0_needOf_49 (by decide) ?_
          refine lv_goto (tgt := 54) hx hb dX0_needOf_50 (by decide) ?_
          refine lv_iadd hx hb dX0_needOf_54 ?_
          rw [hQ]
          exact xzretr C0 hP hS rfl h dX0_needOf_55
      · have h := ie c_5 h
        refine lv_tableOut (tgt := 56) hx hb dX0_needOf_1 (by have := sw_ne (k := 0) (by decide) c_1; have := sw_ne (k := 1) (by decide) c_2; have := sw_ne (k := 2) (by decide) c_5; omega) (by decide) ?_
        refine lv_iload_n hx hb dX0_needOf_56 rfl (lv_at hl 1 rfl) ?_
        refine lv_iconst (v := 2) hx hb dX0_needOf_57 (by decide) ?_
        refine lv_irem hx hb dX0_needOf_58 (by decide) ?_
        refine lv_if_ne (tgt := 66) hx hb dX0_needOf_59 (by decide) (fun c_9 => ?_) (fun c_9 => ?_)
        · have h := ie c_9 h
          refine lv_iconst (v := 0) hx hb dX0_needOf_66 (by decide) ?_
          rw [hQ]
          exact xzretr C0 hP hS rfl h dX0_needOf_67
        · have h := it c_9 h
          refine lv_iconst (v := 1) hx hb dX0_needOf_62 (by decide) ?_
          refine lv_goto (tgt := 67) hx hb dX0_needOf_63 (by decide) ?_
          rw [hQ]
          exact xzretr C0 hP hS rfl h dX0_needOf_67
def f_X0_easeAt (k0 : Nat) (p1 : Int32) (p2 : Int32) (σ : Mem) : Option (Int32) :=
  b1 (f_X0_get k0 p1 1 σ) fun r_2 =>
  b1 (f_X0_get k0 p1 0 σ) fun r_4 =>
  b1 (f_X0_needOf k0 p1 p2 σ) fun r_6 =>
  some ((r_2 - r_4) - r_6)
def rm_X0_easeAt : Room := { frames := 2, cells := 0, slots := 0, locals := 45 }
set_option maxHeartbeats 4000000 in
set_option maxRecDepth 100000 in
theorem c_X0_easeAt {l : Launch} {D : va_G} {ca : Nat → ClassId} {a : Nat → Nat} (hI : InjN 50 a) {k0 : Nat} {p1 : Int32} {p2 : Int32} {σ : Mem} {r : Int32} (hk_k0 : k0 < 9) (h : f_X0_easeAt k0 p1 p2 σ = some r) : XMX l D ca a Bt yX0_easeAt cX0_easeAt 3 (some .int) rm_X0_easeAt [.ref (a (1 + 2 * k0)), .int p1, .int p2] σ (some (.int r)) σ := by
  refine XM.of pn_X0 (Nat.le_of_ble_eq_true rfl) ?_
  intro p e s m args below meth c ls Q hQ C0 hK _ hP hS hl
  have C0 : Cx p s m args meth c RX0 cX0_easeAt 3 (some .int) := C0
  have hx := C0.1
  have hb := C0.2.1
  have hl : lv_has ls 3 [(0, .ref (a (1 + 2 * k0))), (1, .int p1), (2, .int p2)] := hl
  rw [f_X0_easeAt] at h
  refine lv_aload_n hx hb dX0_easeAt_0 rfl (lv_at hl 0 rfl) ?_
  refine lv_iload_n hx hb dX0_easeAt_1 rfl (lv_at hl 1 rfl) ?_
  refine lv_iconst (v := 1) hx hb dX0_easeAt_2 (by decide) ?_
  obtain ⟨r_2, h_1, h⟩ := b1_e h
  refine xcall (rV C0 hK hP hl.1 (fun _ _ _ => trivial) Bt_b (c_X0_get hI hk_k0 h_1) cv_X0_get tw469 (rcX0 hK hP hk_k0) (rest := []) rfl (Nat.le_of_ble_eq_true rfl) ⟨rfl, rfl, Nat.le_of_ble_eq_true rfl, Nat.le_of_ble_eq_true rfl⟩ ⟨Nat.zero_le _, Nat.zero_le _⟩ dX0_easeAt_3) hS (fun H locs hP hS => ?_)
  refine lv_aload_n hx hb dX0_easeAt_6 rfl (lv_at hl 0 rfl) ?_
  refine lv_iload_n hx hb dX0_easeAt_7 rfl (lv_at hl 1 rfl) ?_
  refine lv_iconst (v := 0) hx hb dX0_easeAt_8 (by decide) ?_
  obtain ⟨r_4, h_3, h⟩ := b1_e h
  refine xcall (rV C0 hK hP hl.1 (fun _ _ _ => trivial) Bt_b (c_X0_get hI hk_k0 h_3) cv_X0_get tw469 (rcX0 hK hP hk_k0) (rest := [.int r_2]) rfl (Nat.le_of_ble_eq_true rfl) ⟨rfl, rfl, Nat.le_of_ble_eq_true rfl, Nat.le_of_ble_eq_true rfl⟩ ⟨Nat.zero_le _, Nat.zero_le _⟩ dX0_easeAt_9) hS (fun H locs hP hS => ?_)
  refine lv_isub hx hb dX0_easeAt_12 ?_
  refine lv_aload_n hx hb dX0_easeAt_13 rfl (lv_at hl 0 rfl) ?_
  refine lv_iload_n hx hb dX0_easeAt_14 rfl (lv_at hl 1 rfl) ?_
  refine lv_iload_n hx hb dX0_easeAt_15 rfl (lv_at hl 2 rfl) ?_
  obtain ⟨r_6, h_5, h⟩ := b1_e h
  refine xcall (rV C0 hK hP hl.1 (fun _ _ _ => trivial) Bt_b (c_X0_needOf hI hk_k0 h_5) cv_X0_needOf tw575 (rcX0 hK hP hk_k0) (rest := [.int (r_2 - r_4)]) rfl (Nat.le_of_ble_eq_true rfl) ⟨rfl, rfl, Nat.le_of_ble_eq_true rfl, Nat.le_of_ble_eq_true rfl⟩ ⟨Nat.zero_le _, Nat.zero_le _⟩ dX0_easeAt_16) hS (fun H locs hP hS => ?_)
  refine lv_isub hx hb dX0_easeAt_19 ?_
  rw [hQ]
  exact xzretr C0 hP hS rfl h dX0_easeAt_20
def f_X0_fits (k0 : Nat) (p1 : Int32) (p2 : Int32) (σ : Mem) : Option (Int32) :=
  b1 (f_X0_easeAt k0 p1 p2 σ) fun r_2 =>
  if r_2 < (σ (1 + 2 * k0) 2) then
    some 0
  else
    if p2 = 0 then
      if (σ (1 + 2 * k0) 3) < r_2 then
        some 0
      else
        some 1
    else
      some 1
def rm_X0_fits : Room := { frames := 3, cells := 0, slots := 0, locals := 67 }
set_option maxHeartbeats 4000000 in
set_option maxRecDepth 100000 in
theorem c_X0_fits {l : Launch} {D : va_G} {ca : Nat → ClassId} {a : Nat → Nat} (hI : InjN 50 a) {k0 : Nat} {p1 : Int32} {p2 : Int32} {σ : Mem} {r : Int32} (hk_k0 : k0 < 9) (h : f_X0_fits k0 p1 p2 σ = some r) : XMX l D ca a Bt yX0_fits cX0_fits 4 (some .boolean) rm_X0_fits [.ref (a (1 + 2 * k0)), .int p1, .int p2] σ (some (.int r)) σ := by
  refine XM.of pn_X0 (Nat.le_of_ble_eq_true rfl) ?_
  intro p e s m args below meth c ls Q hQ C0 hK _ hP hS hl
  have C0 : Cx p s m args meth c RX0 cX0_fits 4 (some .boolean) := C0
  have hx := C0.1
  have hb := C0.2.1
  have hl : lv_has ls 4 [(0, .ref (a (1 + 2 * k0))), (1, .int p1), (2, .int p2)] := hl
  rw [f_X0_fits] at h
  refine lv_aload_n hx hb dX0_fits_0 rfl (lv_at hl 0 rfl) ?_
  refine lv_iload_n hx hb dX0_fits_1 rfl (lv_at hl 1 rfl) ?_
  refine lv_iload_n hx hb dX0_fits_2 rfl (lv_at hl 2 rfl) ?_
  obtain ⟨r_2, h_1, h⟩ := b1_e h
  refine xcall (rV C0 hK hP hl.1 (fun _ _ _ => trivial) Bt_b (c_X0_easeAt hI hk_k0 h_1) cv_X0_easeAt tw571 (rcX0 hK hP hk_k0) (rest := []) rfl (Nat.le_of_ble_eq_true rfl) ⟨rfl, rfl, Nat.le_of_ble_eq_true rfl, Nat.le_of_ble_eq_true rfl⟩ ⟨Nat.zero_le _, Nat.zero_le _⟩ dX0_fits_3) hS (fun H locs hP hS => ?_)
  refine lv_istore_n (lv' := [(3, .int r_2), (0, .ref (a (1 + 2 * k0))), (1, .int p1), (2, .int p2)]) hx hb dX0_fits_6 rfl hl (by decide) rfl (fun ls hl => ?_)
  refine lv_iload_n hx hb dX0_fits_7 rfl (lv_at hl 0 rfl) ?_
  refine lv_aload_n hx hb dX0_fits_8 rfl (lv_at hl 1 rfl) ?_
  refine gX0_2 C0 hK hP hk_k0 tw102 dX0_fits_9 ?_
  refine lv_icmp_lt (tgt := 31) hx hb dX0_fits_12 (by decide) (fun c_3 => ?_) (fun c_3 => ?_)
  · have h := it c_3 h
    refine lv_iconst (v := 0) hx hb dX0_fits_31 (by decide) ?_
    rw [hQ]
    exact xzretr C0 hP hS rfl h dX0_fits_32
  · have h := ie c_3 h
    refine lv_iload_n hx hb dX0_fits_15 rfl (lv_at hl 3 rfl) ?_
    refine lv_if_ne (tgt := 27) hx hb dX0_fits_16 (by decide) (fun c_4 => ?_) (fun c_4 => ?_)
    · have h := ie c_4 h
      refine lv_iconst (v := 1) hx hb dX0_fits_27 (by decide) ?_
      refine lv_goto (tgt := 32) hx hb dX0_fits_28 (by decide) ?_
      rw [hQ]
      exact xzretr C0 hP hS rfl h dX0_fits_32
    · have h := it c_4 h
      refine lv_iload_n hx hb dX0_fits_19 rfl (lv_at hl 0 rfl) ?_
      refine lv_aload_n hx hb dX0_fits_20 rfl (lv_at hl 1 rfl) ?_
      refine gX0_3 C0 hK hP hk_k0 tw104 dX0_fits_21 ?_
      refine lv_icmp_gt (tgt := 31) hx hb dX0_fits_24 (by decide) (fun c_5 => ?_) (fun c_5 => ?_)
      · have h := it c_5 h
        refine lv_iconst (v := 0) hx hb dX0_fits_31 (by decide) ?_
        rw [hQ]
        exact xzretr C0 hP hS rfl h dX0_fits_32
      · have h := ie c_5 h
        refine lv_iconst (v := 1) hx hb dX0_fits_27 (by decide) ?_
        refine lv_goto (tgt := 32) hx hb dX0_fits_28 (by decide) ?_
        rw [hQ]
        exact xzretr C0 hP hS rfl h dX0_fits_32
def f_X0_lacking_L14 (k0 : Nat) (σ : Mem) (x2_2 : Int32) : Nat → Int32 → Int32 → (Int32 → Int32 → Option (Int32)) → Option (Int32)
  | 0, _, _, _ => none
  | n + 1, x1_4, x3_5, K2 =>
    if 4 ≤ x3_5 then
      K2 x1_4 x3_5
    else
      b1 (f_X0_easeAt k0 x2_2 x3_5 σ) fun r_8 =>
      bnd (if (0 : Int32) < (σ (1 + 2 * k0) 2) - r_8 then (σ (1 + 2 * k0) 2) - r_8 else 0) fun y_9 =>
      bnd (x1_4 + y_9) fun x1_10 =>
      bnd (x3_5 + 1) fun x3_11 =>
      f_X0_lacking_L14 k0 σ x2_2 n x1_10 x3_11 K2
def f_X0_lacking_L4 (k0 : Nat) (σ : Mem) : Nat → Int32 → Int32 → (Int32 → Int32 → Option (Int32)) → Option (Int32)
  | 0, _, _, _ => none
  | n + 1, x1_1, x2_2, K1 =>
    if (σ (1 + 2 * k0) 1) ≤ x2_2 then
      K1 x1_1 x2_2
    else
      f_X0_lacking_L14 k0 σ x2_2 5000 x1_1 0 fun (x1_12 : Int32) (u_13 : Int32) =>
        b1 (f_X0_easeAt k0 x2_2 0 σ) fun r_15 =>
        bnd (if (0 : Int32) < r_15 - (σ (1 + 2 * k0) 3) then r_15 - (σ (1 + 2 * k0) 3) else 0) fun y_16 =>
        bnd (x1_12 + y_16) fun x1_17 =>
        bnd (x2_2 + 1) fun x2_18 =>
        f_X0_lacking_L4 k0 σ n x1_17 x2_18 K1
def f_X0_lacking (k0 : Nat) (σ : Mem) : Option (Int32) :=
  f_X0_lacking_L4 k0 σ 5000 0 0 fun (x1_19 : Int32) (u_20 : Int32) =>
    some x1_19
def rm_X0_lacking : Room := { frames := 3, cells := 0, slots := 0, locals := 67 }
set_option maxHeartbeats 4000000 in
set_option maxRecDepth 100000 in
theorem c_X0_lacking {l : Launch} {D : va_G} {ca : Nat → ClassId} {a : Nat → Nat} (hI : InjN 50 a) {k0 : Nat} {σ : Mem} {r : Int32} (hk_k0 : k0 < 9) (h : f_X0_lacking k0 σ = some r) : XMX l D ca a Bt yX0_lacking cX0_lacking 4 (some .int) rm_X0_lacking [.ref (a (1 + 2 * k0))] σ (some (.int r)) σ := by
  refine XM.of pn_X0 (Nat.le_of_ble_eq_true rfl) ?_
  intro p e s m args below meth c ls Q hQ C0 hK _ hP hS hl
  have C0 : Cx p s m args meth c RX0 cX0_lacking 4 (some .int) := C0
  have hx := C0.1
  have hb := C0.2.1
  have hl : lv_has ls 4 [(0, .ref (a (1 + 2 * k0)))] := hl
  rw [f_X0_lacking] at h
  refine lv_iconst (v := 0) hx hb dX0_lacking_0 (by decide) ?_
  refine lv_istore_n (lv' := [(1, .int 0), (0, .ref (a (1 + 2 * k0)))]) hx hb dX0_lacking_1 rfl hl (by decide) rfl (fun ls hl => ?_)
  refine lv_iconst (v := 0) hx hb dX0_lacking_2 (by decide) ?_
  refine lv_istore_n (lv' := [(2, .int 0), (1, .int 0), (0, .ref (a (1 + 2 * k0)))]) hx hb dX0_lacking_3 rfl hl (by decide) rfl (fun ls hl => ?_)
  obtain ⟨K1, eK1, h⟩ := lp_e (f := fun K => f_X0_lacking_L4 k0 σ 5000 0 0 K) h
  have h : f_X0_lacking_L4 k0 σ 5000 0 0 K1 = some r := h
  have hX1 : ∀ (x1_19 : Int32) (u_20 : Int32) (H : Heap) (locs : List Loc) (ls : Array Slot), K1 x1_19 u_20 = some r → va_P D vwCl (wX ca a σ) H → va_S (AW 50 a) s.heap H locs → lv_has ls 4 [(1, .int x1_19)] → W p l e rm_X0_lacking s m args below meth c H locs 0 0 Q (F0 m 67 ls []) := by
    intro x1_19 u_20 H locs ls h hP hS hl
    have h := ap2 eK1 h
    refine lv_iload_n hx hb dX0_lacking_67 rfl (lv_at hl 0 rfl) ?_
    rw [hQ]
    exact xzretr C0 hP hS rfl h dX0_lacking_68
  have hL1 : ∀ (n : Nat) (x1_1 : Int32) (x2_2 : Int32) (H : Heap) (locs : List Loc) (ls : Array Slot), f_X0_lacking_L4 k0 σ n x1_1 x2_2 K1 = some r → va_P D vwCl (wX ca a σ) H → va_S (AW 50 a) s.heap H locs → lv_has ls 4 [(0, .ref (a (1 + 2 * k0))), (1, .int x1_1), (2, .int x2_2)] → W p l e rm_X0_lacking s m args below meth c H locs 0 0 Q (F0 m 4 ls []) := by
    intro n
    induction n with
    | zero => intro x1_1 x2_2 H locs ls h; rw [f_X0_lacking_L4] at h; cases h
    | succ n ih1 =>
      intro x1_1 x2_2 H locs ls h hP hS hl
      rw [f_X0_lacking_L4] at h
      refine lv_iload_n hx hb dX0_lacking_4 rfl (lv_at hl 2 rfl) ?_
      refine lv_aload_n hx hb dX0_lacking_5 rfl (lv_at hl 0 rfl) ?_
      refine gX0_1 C0 hK hP hk_k0 tw100 dX0_lacking_6 ?_
      refine lv_icmp_ge (tgt := 67) hx hb dX0_lacking_9 (by decide) (fun c_3 => ?_) (fun c_3 => ?_)
      · have h := it c_3 h
        exact hX1 x1_1 x2_2 H locs ls h hP hS (lv_sub hl [1] rfl)
      · have h := ie c_3 h
        refine lv_iconst (v := 0) hx hb dX0_lacking_12 (by decide) ?_
        refine lv_istore_n (lv' := [(3, .int 0), (0, .ref (a (1 + 2 * k0))), (1, .int x1_1), (2, .int x2_2)]) hx hb dX0_lacking_13 rfl hl (by decide) rfl (fun ls hl => ?_)
        obtain ⟨K2, eK2, h⟩ := lp_e (f := fun K => f_X0_lacking_L14 k0 σ x2_2 5000 x1_1 0 K) h
        have h : f_X0_lacking_L14 k0 σ x2_2 5000 x1_1 0 K2 = some r := h
        have hX2 : ∀ (x1_12 : Int32) (u_13 : Int32) (H : Heap) (locs : List Loc) (ls : Array Slot), K2 x1_12 u_13 = some r → va_P D vwCl (wX ca a σ) H → va_S (AW 50 a) s.heap H locs → lv_has ls 4 [(0, .ref (a (1 + 2 * k0))), (1, .int x1_12), (2, .int x2_2)] → W p l e rm_X0_lacking s m args below meth c H locs 0 0 Q (F0 m 43 ls []) := by
          intro x1_12 u_13 H locs ls h hP hS hl
          have h := ap2 eK2 h
          refine lv_iload_n hx hb dX0_lacking_43 rfl (lv_at hl 1 rfl) ?_
          refine lv_iconst (v := 0) hx hb dX0_lacking_44 (by decide) ?_
          refine lv_aload_n hx hb dX0_lacking_45 rfl (lv_at hl 0 rfl) ?_
          refine lv_iload_n hx hb dX0_lacking_46 rfl (lv_at hl 2 rfl) ?_
          refine lv_iconst (v := 0) hx hb dX0_lacking_47 (by decide) ?_
          obtain ⟨r_15, h_14, h⟩ := b1_e h
          refine xcall (rV C0 hK hP hl.1 (fun _ _ _ => trivial) Bt_b (c_X0_easeAt hI hk_k0 h_14) cv_X0_easeAt tw571 (rcX0 hK hP hk_k0) (rest := [.int 0, .int x1_12]) rfl (Nat.le_of_ble_eq_true rfl) ⟨rfl, rfl, Nat.le_of_ble_eq_true rfl, Nat.le_of_ble_eq_true rfl⟩ ⟨Nat.zero_le _, Nat.zero_le _⟩ dX0_lacking_48) hS (fun H locs hP hS => ?_)
          refine lv_aload_n hx hb dX0_lacking_51 rfl (lv_at hl 0 rfl) ?_
          refine gX0_3 C0 hK hP hk_k0 tw104 dX0_lacking_52 ?_
          refine lv_isub hx hb dX0_lacking_55 ?_
          refine va_mmax hx hb (C0.2.2.1.trans hl.1.symm) C0.2.2.2.1 (C0.2.2.2.2.1 _ tw470) (C0.2.2.2.2.1 _ tw471) (C0.2.2.2.2.1 _ tw77) (C0.2.2.2.2.1 _ tw472) (Nat.le_of_ble_eq_true rfl) (Nat.le_of_ble_eq_true rfl) (Nat.zero_le _) (Nat.zero_le _) dX0_lacking_56 ?_
          obtain ⟨y_16, ey_16, h⟩ := bnd_e h
          refine nm_i ey_16 ?_
          refine lv_iadd hx hb dX0_lacking_59 ?_
          obtain ⟨x1_17, ex1_17, h⟩ := bnd_e h
          refine nm_i ex1_17 ?_
          refine lv_istore_n (lv' := [(1, .int x1_17), (0, .ref (a (1 + 2 * k0))), (2, .int x2_2)]) hx hb dX0_lacking_60 rfl hl (by decide) rfl (fun ls hl => ?_)
          obtain ⟨x2_18, ex2_18, h⟩ := bnd_e h
          refine lv_iinc (v := x2_18) (lv' := [(2, .int x2_18), (1, .int x1_17), (0, .ref (a (1 + 2 * k0)))]) hx hb dX0_lacking_61 hl (k := 2) rfl (by rw [ex2_18]; rfl) (by decide) rfl (fun ls hl => ?_)
          refine lv_goto (tgt := 4) hx hb dX0_lacking_64 (by decide) ?_
          exact ih1 x1_17 x2_18 H locs ls h hP hS (lv_sub hl [2, 1, 0] rfl)
        have hL2 : ∀ (n : Nat) (x1_4 : Int32) (x3_5 : Int32) (H : Heap) (locs : List Loc) (ls : Array Slot), f_X0_lacking_L14 k0 σ x2_2 n x1_4 x3_5 K2 = some r → va_P D vwCl (wX ca a σ) H → va_S (AW 50 a) s.heap H locs → lv_has ls 4 [(0, .ref (a (1 + 2 * k0))), (1, .int x1_4), (2, .int x2_2), (3, .int x3_5)] → W p l e rm_X0_lacking s m args below meth c H locs 0 0 Q (F0 m 14 ls []) := by
          intro n
          induction n with
          | zero => intro x1_4 x3_5 H locs ls h; rw [f_X0_lacking_L14] at h; cases h
          | succ n ih2 =>
            intro x1_4 x3_5 H locs ls h hP hS hl
            rw [f_X0_lacking_L14] at h
            refine lv_iload_n hx hb dX0_lacking_14 rfl (lv_at hl 3 rfl) ?_
            refine lv_iconst (v := 4) hx hb dX0_lacking_15 (by decide) ?_
            refine lv_icmp_ge (tgt := 43) hx hb dX0_lacking_16 (by decide) (fun c_6 => ?_) (fun c_6 => ?_)
            · have h := it c_6 h
              exact hX2 x1_4 x3_5 H locs ls h hP hS (lv_sub hl [0, 1, 2] rfl)
            · have h := ie c_6 h
              refine lv_iload_n hx hb dX0_lacking_19 rfl (lv_at hl 1 rfl) ?_
              refine lv_iconst (v := 0) hx hb dX0_lacking_20 (by decide) ?_
              refine lv_aload_n hx hb dX0_lacking_21 rfl (lv_at hl 0 rfl) ?_
              refine gX0_2 C0 hK hP hk_k0 tw102 dX0_lacking_22 ?_
              refine lv_aload_n hx hb dX0_lacking_25 rfl (lv_at hl 0 rfl) ?_
              refine lv_iload_n hx hb dX0_lacking_26 rfl (lv_at hl 2 rfl) ?_
              refine lv_iload_n hx hb dX0_lacking_27 rfl (lv_at hl 3 rfl) ?_
              obtain ⟨r_8, h_7, h⟩ := b1_e h
              refine xcall (rV C0 hK hP hl.1 (fun _ _ _ => trivial) Bt_b (c_X0_easeAt hI hk_k0 h_7) cv_X0_easeAt tw571 (rcX0 hK hP hk_k0) (rest := [.int (σ (1 + 2 * k0) 2), .int 0, .int x1_4]) rfl (Nat.le_of_ble_eq_true rfl) ⟨rfl, rfl, Nat.le_of_ble_eq_true rfl, Nat.le_of_ble_eq_true rfl⟩ ⟨Nat.zero_le _, Nat.zero_le _⟩ dX0_lacking_28) hS (fun H locs hP hS => ?_)
              refine lv_isub hx hb dX0_lacking_31 ?_
              refine va_mmax hx hb (C0.2.2.1.trans hl.1.symm) C0.2.2.2.1 (C0.2.2.2.2.1 _ tw470) (C0.2.2.2.2.1 _ tw471) (C0.2.2.2.2.1 _ tw77) (C0.2.2.2.2.1 _ tw472) (Nat.le_of_ble_eq_true rfl) (Nat.le_of_ble_eq_true rfl) (Nat.zero_le _) (Nat.zero_le _) dX0_lacking_32 ?_
              obtain ⟨y_9, ey_9, h⟩ := bnd_e h
              refine nm_i ey_9 ?_
              refine lv_iadd hx hb dX0_lacking_35 ?_
              obtain ⟨x1_10, ex1_10, h⟩ := bnd_e h
              refine nm_i ex1_10 ?_
              refine lv_istore_n (lv' := [(1, .int x1_10), (0, .ref (a (1 + 2 * k0))), (2, .int x2_2), (3, .int x3_5)]) hx hb dX0_lacking_36 rfl hl (by decide) rfl (fun ls hl => ?_)
              obtain ⟨x3_11, ex3_11, h⟩ := bnd_e h
              refine lv_iinc (v := x3_11) (lv' := [(3, .int x3_11), (1, .int x1_10), (0, .ref (a (1 + 2 * k0))), (2, .int x2_2)]) hx hb dX0_lacking_37 hl (k := 3) rfl (by rw [ex3_11]; rfl) (by decide) rfl (fun ls hl => ?_)
              refine lv_goto (tgt := 14) hx hb dX0_lacking_40 (by decide) ?_
              exact ih2 x1_10 x3_11 H locs ls h hP hS (lv_sub hl [2, 1, 3, 0] rfl)
        exact hL2 5000 x1_1 0 _ _ ls h hP hS (lv_sub hl [1, 2, 3, 0] rfl)
  exact hL1 5000 0 0 _ _ ls h hP hS (lv_sub hl [2, 1, 0] rfl)
def f_X0_total_L4 (k0 : Nat) (p1 : Int32) (σ : Mem) : Nat → Int32 → Int32 → (Int32 → Int32 → Option (Int32)) → Option (Int32)
  | 0, _, _, _ => none
  | n + 1, x2_1, x3_2, K1 =>
    if (σ (1 + 2 * k0) 1) ≤ x3_2 then
      K1 x2_1 x3_2
    else
      b1 (f_X0_get k0 x3_2 p1 σ) fun r_5 =>
      bnd (x2_1 + r_5) fun x2_6 =>
      bnd (x3_2 + 1) fun x3_7 =>
      f_X0_total_L4 k0 p1 σ n x2_6 x3_7 K1
def f_X0_total (k0 : Nat) (p1 : Int32) (σ : Mem) : Option (Int32) :=
  f_X0_total_L4 k0 p1 σ 5000 0 0 fun (x2_8 : Int32) (u_9 : Int32) =>
    some x2_8
def rm_X0_total : Room := { frames := 1, cells := 0, slots := 0, locals := 23 }
set_option maxHeartbeats 4000000 in
set_option maxRecDepth 100000 in
theorem c_X0_total {l : Launch} {D : va_G} {ca : Nat → ClassId} {a : Nat → Nat} (hI : InjN 50 a) {k0 : Nat} {p1 : Int32} {σ : Mem} {r : Int32} (hk_k0 : k0 < 9) (h : f_X0_total k0 p1 σ = some r) : XMX l D ca a Bt yX0_total cX0_total 4 (some .int) rm_X0_total [.ref (a (1 + 2 * k0)), .int p1] σ (some (.int r)) σ := by
  refine XM.of pn_X0 (Nat.le_of_ble_eq_true rfl) ?_
  intro p e s m args below meth c ls Q hQ C0 hK _ hP hS hl
  have C0 : Cx p s m args meth c RX0 cX0_total 4 (some .int) := C0
  have hx := C0.1
  have hb := C0.2.1
  have hl : lv_has ls 4 [(0, .ref (a (1 + 2 * k0))), (1, .int p1)] := hl
  rw [f_X0_total] at h
  refine lv_iconst (v := 0) hx hb dX0_total_0 (by decide) ?_
  refine lv_istore_n (lv' := [(2, .int 0), (0, .ref (a (1 + 2 * k0))), (1, .int p1)]) hx hb dX0_total_1 rfl hl (by decide) rfl (fun ls hl => ?_)
  refine lv_iconst (v := 0) hx hb dX0_total_2 (by decide) ?_
  refine lv_istore_n (lv' := [(3, .int 0), (2, .int 0), (0, .ref (a (1 + 2 * k0))), (1, .int p1)]) hx hb dX0_total_3 rfl hl (by decide) rfl (fun ls hl => ?_)
  obtain ⟨K1, eK1, h⟩ := lp_e (f := fun K => f_X0_total_L4 k0 p1 σ 5000 0 0 K) h
  have h : f_X0_total_L4 k0 p1 σ 5000 0 0 K1 = some r := h
  have hX1 : ∀ (x2_8 : Int32) (u_9 : Int32) (H : Heap) (locs : List Loc) (ls : Array Slot), K1 x2_8 u_9 = some r → va_P D vwCl (wX ca a σ) H → va_S (AW 50 a) s.heap H locs → lv_has ls 4 [(2, .int x2_8)] → W p l e rm_X0_total s m args below meth c H locs 0 0 Q (F0 m 27 ls []) := by
    intro x2_8 u_9 H locs ls h hP hS hl
    have h := ap2 eK1 h
    refine lv_iload_n hx hb dX0_total_27 rfl (lv_at hl 0 rfl) ?_
    rw [hQ]
    exact xzretr C0 hP hS rfl h dX0_total_28
  have hL1 : ∀ (n : Nat) (x2_1 : Int32) (x3_2 : Int32) (H : Heap) (locs : List Loc) (ls : Array Slot), f_X0_total_L4 k0 p1 σ n x2_1 x3_2 K1 = some r → va_P D vwCl (wX ca a σ) H → va_S (AW 50 a) s.heap H locs → lv_has ls 4 [(0, .ref (a (1 + 2 * k0))), (1, .int p1), (2, .int x2_1), (3, .int x3_2)] → W p l e rm_X0_total s m args below meth c H locs 0 0 Q (F0 m 4 ls []) := by
    intro n
    induction n with
    | zero => intro x2_1 x3_2 H locs ls h; rw [f_X0_total_L4] at h; cases h
    | succ n ih1 =>
      intro x2_1 x3_2 H locs ls h hP hS hl
      rw [f_X0_total_L4] at h
      refine lv_iload_n hx hb dX0_total_4 rfl (lv_at hl 3 rfl) ?_
      refine lv_aload_n hx hb dX0_total_5 rfl (lv_at hl 0 rfl) ?_
      refine gX0_1 C0 hK hP hk_k0 tw100 dX0_total_6 ?_
      refine lv_icmp_ge (tgt := 27) hx hb dX0_total_9 (by decide) (fun c_3 => ?_) (fun c_3 => ?_)
      · have h := it c_3 h
        exact hX1 x2_1 x3_2 H locs ls h hP hS (lv_sub hl [2] rfl)
      · have h := ie c_3 h
        refine lv_iload_n hx hb dX0_total_12 rfl (lv_at hl 2 rfl) ?_
        refine lv_aload_n hx hb dX0_total_13 rfl (lv_at hl 0 rfl) ?_
        refine lv_iload_n hx hb dX0_total_14 rfl (lv_at hl 3 rfl) ?_
        refine lv_iload_n hx hb dX0_total_15 rfl (lv_at hl 1 rfl) ?_
        obtain ⟨r_5, h_4, h⟩ := b1_e h
        refine xcall (rV C0 hK hP hl.1 (fun _ _ _ => trivial) Bt_b (c_X0_get hI hk_k0 h_4) cv_X0_get tw469 (rcX0 hK hP hk_k0) (rest := [.int x2_1]) rfl (Nat.le_of_ble_eq_true rfl) ⟨rfl, rfl, Nat.le_of_ble_eq_true rfl, Nat.le_of_ble_eq_true rfl⟩ ⟨Nat.zero_le _, Nat.zero_le _⟩ dX0_total_16) hS (fun H locs hP hS => ?_)
        refine lv_iadd hx hb dX0_total_19 ?_
        obtain ⟨x2_6, ex2_6, h⟩ := bnd_e h
        refine nm_i ex2_6 ?_
        refine lv_istore_n (lv' := [(2, .int x2_6), (0, .ref (a (1 + 2 * k0))), (1, .int p1), (3, .int x3_2)]) hx hb dX0_total_20 rfl hl (by decide) rfl (fun ls hl => ?_)
        obtain ⟨x3_7, ex3_7, h⟩ := bnd_e h
        refine lv_iinc (v := x3_7) (lv' := [(3, .int x3_7), (2, .int x2_6), (0, .ref (a (1 + 2 * k0))), (1, .int p1)]) hx hb dX0_total_21 hl (k := 3) rfl (by rw [ex3_7]; rfl) (by decide) rfl (fun ls hl => ?_)
        refine lv_goto (tgt := 4) hx hb dX0_total_24 (by decide) ?_
        exact ih1 x2_6 x3_7 H locs ls h hP hS (lv_sub hl [2, 3, 1, 0] rfl)
  exact hL1 5000 0 0 _ _ ls h hP hS (lv_sub hl [2, 3, 1, 0] rfl)
