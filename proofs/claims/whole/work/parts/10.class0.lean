def f_X0_becomeLike (k0 : Nat) (k1 : Nat) (σ : Mem) : Option (Mem) :=
  bnd (if (24 : Int32) < 24 then 24 else 24) fun (y_1 : Int32) =>
  if (0 : Int32) < 0 ∨ (0 : Int32) < 0 ∨ y_1 < 0 ∨ 24 < (0 : Int32).toNatClampNeg + y_1.toNatClampNeg ∨ 24 < (0 : Int32).toNatClampNeg + y_1.toNatClampNeg then none else
  bnd (upR σ (2 + 2 * k0) (va_cpy (σ (2 + 2 * k1)) (σ (2 + 2 * k0)) (0 : Int32).toNatClampNeg (0 : Int32).toNatClampNeg y_1.toNatClampNeg)) fun (σ_3 : Mem) =>
  bnd (σ_3 (1 + 2 * k1) 1) fun (y_4 : Int32) =>
  bnd (uX σ_3 (1 + 2 * k0) 1 y_4) fun (σ_5 : Mem) =>
  bnd (σ_5 (1 + 2 * k1) 2) fun (y_6 : Int32) =>
  bnd (uX σ_5 (1 + 2 * k0) 2 y_6) fun (σ_7 : Mem) =>
  bnd (σ_7 (1 + 2 * k1) 3) fun (y_8 : Int32) =>
  bnd (uX σ_7 (1 + 2 * k0) 3 y_8) fun (σ_9 : Mem) =>
  bnd (σ_9 (1 + 2 * k1) 4) fun (y_10 : Int32) =>
  bnd (uX σ_9 (1 + 2 * k0) 4 y_10) fun (σ_11 : Mem) =>
  bnd (σ_11 (1 + 2 * k1) 5) fun (y_12 : Int32) =>
  bnd (uX σ_11 (1 + 2 * k0) 5 y_12) fun (σ_13 : Mem) =>
  some σ_13
def rm_X0_becomeLike : Room := { frames := 1, cells := 0, slots := 0, locals := 68 }
set_option maxHeartbeats 4000000 in
set_option maxRecDepth 100000 in
theorem c_X0_becomeLike {l : Launch} {D : va_G} {ca : Nat → ClassId} {a : Nat → Nat} (hI : InjN 37 a) {k0 : Nat} {k1 : Nat} {σ : Mem} {σ' : Mem} (hk_k0 : k0 < 3) (hk_k1 : k1 < 3) (h : f_X0_becomeLike k0 k1 σ = some σ') : XMX l D ca a Bt yX0_becomeLike cX0_becomeLike 2 none rm_X0_becomeLike [.ref (a (1 + 2 * k0)), .ref (a (1 + 2 * k1))] σ none σ' := by
  refine XM.of pn_X0 (Nat.le_of_ble_eq_true rfl) ?_
  intro p e s m args below meth c ls Q hQ C0 hK hB hP hS hl
  have C0 : Cx p s m args meth c RX0 cX0_becomeLike 2 none := C0
  have hx := C0.1
  have hb := C0.2.1
  have hl : lv_has ls 2 [(0, .ref (a (1 + 2 * k0))), (1, .ref (a (1 + 2 * k1)))] := hl
  rw [f_X0_becomeLike] at h
  refine lv_aload_n hx hb dX0_becomeLike_0 rfl (lv_at hl 1 rfl) ?_
  refine gX0_0 C0 hK hP hk_k1 tw98 dX0_becomeLike_1 ?_
  refine lv_iconst (v := 0) hx hb dX0_becomeLike_4 (by decide) ?_
  refine lv_aload_n hx hb dX0_becomeLike_5 rfl (lv_at hl 0 rfl) ?_
  refine gX0_0 C0 hK hP hk_k0 tw98 dX0_becomeLike_6 ?_
  refine lv_iconst (v := 0) hx hb dX0_becomeLike_9 (by decide) ?_
  refine lv_aload_n hx hb dX0_becomeLike_10 rfl (lv_at hl 1 rfl) ?_
  refine gX0_0 C0 hK hP hk_k1 tw98 dX0_becomeLike_11 ?_
  refine xalenR (N := 24) (v := 24) 0 C0 hK hP (ltDA hk_k1) (fun _ => sh_DA hk_k1) rfl (by decide) dX0_becomeLike_14 ?_
  refine lv_aload_n hx hb dX0_becomeLike_15 rfl (lv_at hl 0 rfl) ?_
  refine gX0_0 C0 hK hP hk_k0 tw98 dX0_becomeLike_16 ?_
  refine xalenR (N := 24) (v := 24) 0 C0 hK hP (ltDA hk_k0) (fun _ => sh_DA hk_k0) rfl (by decide) dX0_becomeLike_19 ?_
  refine va_mmin hx hb (C0.2.2.1.trans hl.1.symm) C0.2.2.2.1 (C0.2.2.2.2.1 _ tw372) (C0.2.2.2.2.1 _ tw373) (C0.2.2.2.2.1 _ tw76) (C0.2.2.2.2.1 _ tw374) (Nat.le_of_ble_eq_true rfl) (Nat.le_of_ble_eq_true rfl) (Nat.zero_le _) (Nat.zero_le _) dX0_becomeLike_20 ?_
  obtain ⟨y_1, ey_1, h⟩ := bnd_e h
  refine nm_i ey_1 ?_
  obtain ⟨b_2, h⟩ := ck h
  obtain ⟨σ_3, eσ_3, h⟩ := bnd_e h
  refine xcpy (i := (2 + 2 * k1)) (j := (2 + 2 * k0)) (N := 24) C0 hK hP hI hS hl.1 (ltDA hk_k1) (ltDA hk_k0) (fun _ => sh_DA hk_k1) (fun _ => sh_DA hk_k0) (C0.2.2.2.2.1 _ tw375) (C0.2.2.2.2.1 _ tw377) (C0.2.2.2.2.1 _ tw376) (C0.2.2.2.2.1 _ tw77) b_2 (Nat.le_of_ble_eq_true rfl) (Nat.le_of_ble_eq_true rfl) dX0_becomeLike_23 (fun H locs hP hS => ?_)
  rw [← eσ_3] at hP
  refine lv_aload_n hx hb dX0_becomeLike_26 rfl (lv_at hl 0 rfl) ?_
  refine lv_aload_n hx hb dX0_becomeLike_27 rfl (lv_at hl 1 rfl) ?_
  refine gX0_1 C0 hK hP hk_k1 tw99 dX0_becomeLike_28 ?_
  obtain ⟨y_4, ey_4, h⟩ := bnd_e h
  refine nm_i ey_4 ?_
  obtain ⟨σ_5, eσ_5, h⟩ := bnd_e h
  refine pX0_1 C0 hK hP hk_k0 tw99 hI hS dX0_becomeLike_31 (fun H locs hP hS => ?_)
  rw [← eσ_5] at hP
  refine lv_aload_n hx hb dX0_becomeLike_34 rfl (lv_at hl 0 rfl) ?_
  refine lv_aload_n hx hb dX0_becomeLike_35 rfl (lv_at hl 1 rfl) ?_
  refine gX0_2 C0 hK hP hk_k1 tw101 dX0_becomeLike_36 ?_
  obtain ⟨y_6, ey_6, h⟩ := bnd_e h
  refine nm_i ey_6 ?_
  obtain ⟨σ_7, eσ_7, h⟩ := bnd_e h
  refine pX0_2 C0 hK hP hk_k0 tw101 hI hS dX0_becomeLike_39 (fun H locs hP hS => ?_)
  rw [← eσ_7] at hP
  refine lv_aload_n hx hb dX0_becomeLike_42 rfl (lv_at hl 0 rfl) ?_
  refine lv_aload_n hx hb dX0_becomeLike_43 rfl (lv_at hl 1 rfl) ?_
  refine gX0_3 C0 hK hP hk_k1 tw103 dX0_becomeLike_44 ?_
  obtain ⟨y_8, ey_8, h⟩ := bnd_e h
  refine nm_i ey_8 ?_
  obtain ⟨σ_9, eσ_9, h⟩ := bnd_e h
  refine pX0_3 C0 hK hP hk_k0 tw103 hI hS dX0_becomeLike_47 (fun H locs hP hS => ?_)
  rw [← eσ_9] at hP
  refine lv_aload_n hx hb dX0_becomeLike_50 rfl (lv_at hl 0 rfl) ?_
  refine lv_aload_n hx hb dX0_becomeLike_51 rfl (lv_at hl 1 rfl) ?_
  refine gX0_4 C0 hK hP hk_k1 tw106 dX0_becomeLike_52 ?_
  obtain ⟨y_10, ey_10, h⟩ := bnd_e h
  refine nm_i ey_10 ?_
  obtain ⟨σ_11, eσ_11, h⟩ := bnd_e h
  refine pX0_4 C0 hK hP hk_k0 tw106 hI hS dX0_becomeLike_55 (fun H locs hP hS => ?_)
  rw [← eσ_11] at hP
  refine lv_aload_n hx hb dX0_becomeLike_58 rfl (lv_at hl 0 rfl) ?_
  refine lv_aload_n hx hb dX0_becomeLike_59 rfl (lv_at hl 1 rfl) ?_
  refine gX0_5 C0 hK hP hk_k1 tw108 dX0_becomeLike_60 ?_
  obtain ⟨y_12, ey_12, h⟩ := bnd_e h
  refine nm_i ey_12 ?_
  obtain ⟨σ_13, eσ_13, h⟩ := bnd_e h
  refine pX0_5 C0 hK hP hk_k0 tw108 hI hS dX0_becomeLike_63 (fun H locs hP hS => ?_)
  rw [← eσ_13] at hP
  rw [hQ]
  exact xvret C0 hP hS h dX0_becomeLike_66
def f_X0_has (k0 : Nat) (p1 : Int32) (σ : Mem) : Option (Int32) :=
  if p1 < 0 then
    some 0
  else
    if (σ (1 + 2 * k0) 1) ≤ p1 then
      some 0
    else
      some 1
def rm_X0_has : Room := { frames := 0, cells := 0, slots := 0, locals := 0 }
set_option maxHeartbeats 4000000 in
set_option maxRecDepth 100000 in
theorem c_X0_has {l : Launch} {D : va_G} {ca : Nat → ClassId} {a : Nat → Nat} (hI : InjN 37 a) {k0 : Nat} {p1 : Int32} {σ : Mem} {r : Int32} (hk_k0 : k0 < 3) (h : f_X0_has k0 p1 σ = some r) : XMX l D ca a Bt yX0_has cX0_has 2 (some .boolean) rm_X0_has [.ref (a (1 + 2 * k0)), .int p1] σ (some (.int r)) σ := by
  refine XM.of pn_X0 (Nat.le_of_ble_eq_true rfl) ?_
  intro p e s m args below meth c ls Q hQ C0 hK hB hP hS hl
  have C0 : Cx p s m args meth c RX0 cX0_has 2 (some .boolean) := C0
  have hx := C0.1
  have hb := C0.2.1
  have hl : lv_has ls 2 [(0, .ref (a (1 + 2 * k0))), (1, .int p1)] := hl
  rw [f_X0_has] at h
  refine lv_iload_n hx hb dX0_has_0 rfl (lv_at hl 1 rfl) ?_
  refine lv_if_lt (tgt := 16) hx hb dX0_has_1 (by decide) (fun c_1 => ?_) (fun c_1 => ?_)
  · have h := it c_1 h
    refine lv_iconst (v := 0) hx hb dX0_has_16 (by decide) ?_
    rw [hQ]
    exact xzretr C0 hP hS rfl h dX0_has_17
  · have h := ie c_1 h
    refine lv_iload_n hx hb dX0_has_4 rfl (lv_at hl 1 rfl) ?_
    refine lv_aload_n hx hb dX0_has_5 rfl (lv_at hl 0 rfl) ?_
    refine gX0_1 C0 hK hP hk_k0 tw99 dX0_has_6 ?_
    refine lv_icmp_ge (tgt := 16) hx hb dX0_has_9 (by decide) (fun c_2 => ?_) (fun c_2 => ?_)
    · have h := it c_2 h
      refine lv_iconst (v := 0) hx hb dX0_has_16 (by decide) ?_
      rw [hQ]
      exact xzretr C0 hP hS rfl h dX0_has_17
    · have h := ie c_2 h
      refine lv_iconst (v := 1) hx hb dX0_has_12 (by decide) ?_
      refine lv_goto (tgt := 17) hx hb dX0_has_13 (by decide) ?_
      rw [hQ]
      exact xzretr C0 hP hS rfl h dX0_has_17
def f_X0_get (k0 : Nat) (p1 : Int32) (p2 : Int32) (σ : Mem) : Option (Int32) :=
  bnd ((4 * p1) + p2) fun (x3_1 : Int32) =>
  if x3_1 < 0 then
    some 0
  else
    if 24 ≤ x3_1 then
      some 0
    else
      if x3_1 < 0 ∨ 24 ≤ x3_1.toNatClampNeg then none else
      some (σ (2 + 2 * k0) x3_1.toNatClampNeg)
def rm_X0_get : Room := { frames := 0, cells := 0, slots := 0, locals := 0 }
set_option maxHeartbeats 4000000 in
set_option maxRecDepth 100000 in
theorem c_X0_get {l : Launch} {D : va_G} {ca : Nat → ClassId} {a : Nat → Nat} (hI : InjN 37 a) {k0 : Nat} {p1 : Int32} {p2 : Int32} {σ : Mem} {r : Int32} (hk_k0 : k0 < 3) (h : f_X0_get k0 p1 p2 σ = some r) : XMX l D ca a Bt yX0_get cX0_get 4 (some .int) rm_X0_get [.ref (a (1 + 2 * k0)), .int p1, .int p2] σ (some (.int r)) σ := by
  refine XM.of pn_X0 (Nat.le_of_ble_eq_true rfl) ?_
  intro p e s m args below meth c ls Q hQ C0 hK hB hP hS hl
  have C0 : Cx p s m args meth c RX0 cX0_get 4 (some .int) := C0
  have hx := C0.1
  have hb := C0.2.1
  have hl : lv_has ls 4 [(0, .ref (a (1 + 2 * k0))), (1, .int p1), (2, .int p2)] := hl
  rw [f_X0_get] at h
  refine lv_iconst (v := 4) hx hb dX0_get_0 (by decide) ?_
  refine lv_iload_n hx hb dX0_get_1 rfl (lv_at hl 1 rfl) ?_
  refine lv_imul hx hb dX0_get_2 ?_
  refine lv_iload_n hx hb dX0_get_3 rfl (lv_at hl 2 rfl) ?_
  refine lv_iadd hx hb dX0_get_4 ?_
  obtain ⟨x3_1, ex3_1, h⟩ := bnd_e h
  refine nm_i ex3_1 ?_
  refine lv_istore_n (lv' := [(3, .int x3_1), (0, .ref (a (1 + 2 * k0))), (1, .int p1), (2, .int p2)]) hx hb dX0_get_5 rfl hl (by decide) rfl (fun ls hl => ?_)
  refine lv_iload_n hx hb dX0_get_6 rfl (lv_at hl 0 rfl) ?_
  refine lv_if_lt (tgt := 28) hx hb dX0_get_7 (by decide) (fun c_2 => ?_) (fun c_2 => ?_)
  · have h := it c_2 h
    refine lv_iconst (v := 0) hx hb dX0_get_28 (by decide) ?_
    rw [hQ]
    exact xzretr C0 hP hS rfl h dX0_get_29
  · have h := ie c_2 h
    refine lv_iload_n hx hb dX0_get_10 rfl (lv_at hl 0 rfl) ?_
    refine lv_aload_n hx hb dX0_get_11 rfl (lv_at hl 1 rfl) ?_
    refine gX0_0 C0 hK hP hk_k0 tw98 dX0_get_12 ?_
    refine xalenR (N := 24) (v := 24) 0 C0 hK hP (ltDA hk_k0) (fun _ => sh_DA hk_k0) rfl (by decide) dX0_get_15 ?_
    refine lv_icmp_ge (tgt := 28) hx hb dX0_get_16 (by decide) (fun c_3 => ?_) (fun c_3 => ?_)
    · have h := it c_3 h
      refine lv_iconst (v := 0) hx hb dX0_get_28 (by decide) ?_
      rw [hQ]
      exact xzretr C0 hP hS rfl h dX0_get_29
    · have h := ie c_3 h
      refine lv_aload_n hx hb dX0_get_19 rfl (lv_at hl 1 rfl) ?_
      refine gX0_0 C0 hK hP hk_k0 tw98 dX0_get_20 ?_
      refine lv_iload_n hx hb dX0_get_23 rfl (lv_at hl 0 rfl) ?_
      obtain ⟨b_4, h⟩ := ck h
      refine xald (i := (2 + 2 * k0)) (N := 24) C0 hK hP (ltDA hk_k0) (fun _ => sh_DA hk_k0) b_4 dX0_get_24 ?_
      refine lv_goto (tgt := 29) hx hb dX0_get_25 (by decide) ?_
      rw [hQ]
      exact xzretr C0 hP hS rfl h dX0_get_29
def f_X0_set (k0 : Nat) (p1 : Int32) (p2 : Int32) (p3 : Int32) (σ : Mem) : Option (Mem) :=
  bnd ((4 * p1) + p2) fun (x4_1 : Int32) =>
  if x4_1 < 0 then
    some σ
  else
    if 24 ≤ x4_1 then
      some σ
    else
      if x4_1 < 0 ∨ 24 ≤ x4_1.toNatClampNeg then none else
      bnd (uX σ (2 + 2 * k0) x4_1.toNatClampNeg p3) fun (σ_5 : Mem) =>
      some σ_5
def rm_X0_set : Room := { frames := 0, cells := 0, slots := 0, locals := 0 }
set_option maxHeartbeats 4000000 in
set_option maxRecDepth 100000 in
theorem c_X0_set {l : Launch} {D : va_G} {ca : Nat → ClassId} {a : Nat → Nat} (hI : InjN 37 a) {k0 : Nat} {p1 : Int32} {p2 : Int32} {p3 : Int32} {σ : Mem} {σ' : Mem} (hk_k0 : k0 < 3) (h : f_X0_set k0 p1 p2 p3 σ = some σ') : XMX l D ca a Bt yX0_set cX0_set 5 none rm_X0_set [.ref (a (1 + 2 * k0)), .int p1, .int p2, .int p3] σ none σ' := by
  refine XM.of pn_X0 (Nat.le_of_ble_eq_true rfl) ?_
  intro p e s m args below meth c ls Q hQ C0 hK hB hP hS hl
  have C0 : Cx p s m args meth c RX0 cX0_set 5 none := C0
  have hx := C0.1
  have hb := C0.2.1
  have hl : lv_has ls 5 [(0, .ref (a (1 + 2 * k0))), (1, .int p1), (2, .int p2), (3, .int p3)] := hl
  rw [f_X0_set] at h
  refine lv_iconst (v := 4) hx hb dX0_set_0 (by decide) ?_
  refine lv_iload_n hx hb dX0_set_1 rfl (lv_at hl 1 rfl) ?_
  refine lv_imul hx hb dX0_set_2 ?_
  refine lv_iload_n hx hb dX0_set_3 rfl (lv_at hl 2 rfl) ?_
  refine lv_iadd hx hb dX0_set_4 ?_
  obtain ⟨x4_1, ex4_1, h⟩ := bnd_e h
  refine nm_i ex4_1 ?_
  refine lv_istore (lv' := [(4, .int x4_1), (0, .ref (a (1 + 2 * k0))), (1, .int p1), (2, .int p2), (3, .int p3)]) hx hb dX0_set_5 hl (by decide) rfl (fun ls hl => ?_)
  refine lv_iload hx hb dX0_set_7 (lv_at hl 0 rfl) ?_
  refine lv_if_lt (tgt := 30) hx hb dX0_set_9 (by decide) (fun c_2 => ?_) (fun c_2 => ?_)
  · have h := it c_2 h
    rw [hQ]
    exact xvret C0 hP hS h dX0_set_30
  · have h := ie c_2 h
    refine lv_iload hx hb dX0_set_12 (lv_at hl 0 rfl) ?_
    refine lv_aload_n hx hb dX0_set_14 rfl (lv_at hl 1 rfl) ?_
    refine gX0_0 C0 hK hP hk_k0 tw98 dX0_set_15 ?_
    refine xalenR (N := 24) (v := 24) 0 C0 hK hP (ltDA hk_k0) (fun _ => sh_DA hk_k0) rfl (by decide) dX0_set_18 ?_
    refine lv_icmp_ge (tgt := 30) hx hb dX0_set_19 (by decide) (fun c_3 => ?_) (fun c_3 => ?_)
    · have h := it c_3 h
      rw [hQ]
      exact xvret C0 hP hS h dX0_set_30
    · have h := ie c_3 h
      refine lv_aload_n hx hb dX0_set_22 rfl (lv_at hl 1 rfl) ?_
      refine gX0_0 C0 hK hP hk_k0 tw98 dX0_set_23 ?_
      refine lv_iload hx hb dX0_set_26 (lv_at hl 0 rfl) ?_
      refine lv_iload_n hx hb dX0_set_28 rfl (lv_at hl 4 rfl) ?_
      obtain ⟨b_4, h⟩ := ck h
      obtain ⟨σ_5, eσ_5, h⟩ := bnd_e h
      refine xast (i := (2 + 2 * k0)) (N := 24) C0 hK hP hI hS (ltDA hk_k0) (fun _ => sh_DA hk_k0) b_4 dX0_set_29 (fun H locs hP hS => ?_)
      rw [← eσ_5] at hP
      rw [hQ]
      exact xvret C0 hP hS h dX0_set_30
def f_X0_widen (k0 : Nat) (p1 : Int32) (p2 : Int32) (σ : Mem) : Option (Mem) :=
  b1 (f_X0_get k0 p1 1 σ) fun r_2 =>
  bnd (if r_2 + p2 < 99 then r_2 + p2 else 99) fun (y_3 : Int32) =>
  bnd (if (1 : Int32) < y_3 then y_3 else 1) fun (y_4 : Int32) =>
  b1 (f_X0_set k0 p1 1 y_4 σ) fun σ_6 =>
  some σ_6
def rm_X0_widen : Room := { frames := 1, cells := 0, slots := 0, locals := 24 }
set_option maxHeartbeats 4000000 in
set_option maxRecDepth 100000 in
theorem c_X0_widen {l : Launch} {D : va_G} {ca : Nat → ClassId} {a : Nat → Nat} (hI : InjN 37 a) {k0 : Nat} {p1 : Int32} {p2 : Int32} {σ : Mem} {σ' : Mem} (hk_k0 : k0 < 3) (h : f_X0_widen k0 p1 p2 σ = some σ') : XMX l D ca a Bt yX0_widen cX0_widen 3 none rm_X0_widen [.ref (a (1 + 2 * k0)), .int p1, .int p2] σ none σ' := by
  refine XM.of pn_X0 (Nat.le_of_ble_eq_true rfl) ?_
  intro p e s m args below meth c ls Q hQ C0 hK hB hP hS hl
  have C0 : Cx p s m args meth c RX0 cX0_widen 3 none := C0
  have hx := C0.1
  have hb := C0.2.1
  have hl : lv_has ls 3 [(0, .ref (a (1 + 2 * k0))), (1, .int p1), (2, .int p2)] := hl
  rw [f_X0_widen] at h
  refine lv_aload_n hx hb dX0_widen_0 rfl (lv_at hl 0 rfl) ?_
  refine lv_iload_n hx hb dX0_widen_1 rfl (lv_at hl 1 rfl) ?_
  refine lv_iconst (v := 1) hx hb dX0_widen_2 (by decide) ?_
  refine lv_iconst (v := 1) hx hb dX0_widen_3 (by decide) ?_
  refine lv_bipush (v := 99) hx hb dX0_widen_4 (by decide) ?_
  refine lv_aload_n hx hb dX0_widen_6 rfl (lv_at hl 0 rfl) ?_
  refine lv_iload_n hx hb dX0_widen_7 rfl (lv_at hl 1 rfl) ?_
  refine lv_iconst (v := 1) hx hb dX0_widen_8 (by decide) ?_
  obtain ⟨r_2, h_1, h⟩ := b1_e h
  refine xcall (rV C0 hK hP hl.1 (fun _ _ _ => trivial) Bt_b (c_X0_get hI hk_k0 h_1) cv_X0_get tw458 (rcX0 hK hP hk_k0) (rest := [.int 99, .int 1, .int 1, .int p1, .ref (a (1 + 2 * k0))]) rfl (Nat.le_of_ble_eq_true rfl) ⟨rfl, rfl, Nat.le_of_ble_eq_true rfl, Nat.le_of_ble_eq_true rfl⟩ ⟨Nat.zero_le _, Nat.zero_le _⟩ dX0_widen_9) hS (fun H locs hP hS => ?_)
  refine lv_iload_n hx hb dX0_widen_12 rfl (lv_at hl 2 rfl) ?_
  refine lv_iadd hx hb dX0_widen_13 ?_
  refine va_mmin hx hb (C0.2.2.1.trans hl.1.symm) C0.2.2.2.1 (C0.2.2.2.2.1 _ tw372) (C0.2.2.2.2.1 _ tw373) (C0.2.2.2.2.1 _ tw76) (C0.2.2.2.2.1 _ tw374) (Nat.le_of_ble_eq_true rfl) (Nat.le_of_ble_eq_true rfl) (Nat.zero_le _) (Nat.zero_le _) dX0_widen_14 ?_
  obtain ⟨y_3, ey_3, h⟩ := bnd_e h
  refine nm_i ey_3 ?_
  refine va_mmax hx hb (C0.2.2.1.trans hl.1.symm) C0.2.2.2.1 (C0.2.2.2.2.1 _ tw459) (C0.2.2.2.2.1 _ tw460) (C0.2.2.2.2.1 _ tw76) (C0.2.2.2.2.1 _ tw461) (Nat.le_of_ble_eq_true rfl) (Nat.le_of_ble_eq_true rfl) (Nat.zero_le _) (Nat.zero_le _) dX0_widen_17 ?_
  obtain ⟨y_4, ey_4, h⟩ := bnd_e h
  refine nm_i ey_4 ?_
  obtain ⟨σ_6, h_5, h⟩ := b1_e h
  refine xcall (rV C0 hK hP hl.1 (fun _ _ _ => trivial) Bt_b (c_X0_set hI hk_k0 h_5) cv_X0_set tw391 (rcX0 hK hP hk_k0) (rest := []) rfl (Nat.le_of_ble_eq_true rfl) ⟨rfl, rfl, Nat.le_of_ble_eq_true rfl, Nat.le_of_ble_eq_true rfl⟩ ⟨Nat.zero_le _, Nat.zero_le _⟩ dX0_widen_20) hS (fun H locs hP hS => ?_)
  rw [hQ]
  exact xvret C0 hP hS h dX0_widen_23
def f_X0_keepMore (k0 : Nat) (p1 : Int32) (p2 : Int32) (σ : Mem) : Option (Mem) :=
  b1 (f_X0_get k0 p1 2 σ) fun r_2 =>
  bnd (if r_2 + p2 < 9 then r_2 + p2 else 9) fun (y_3 : Int32) =>
  bnd (if (0 : Int32) < y_3 then y_3 else 0) fun (y_4 : Int32) =>
  b1 (f_X0_set k0 p1 2 y_4 σ) fun σ_6 =>
  some σ_6
def rm_X0_keepMore : Room := { frames := 1, cells := 0, slots := 0, locals := 24 }
set_option maxHeartbeats 4000000 in
set_option maxRecDepth 100000 in
theorem c_X0_keepMore {l : Launch} {D : va_G} {ca : Nat → ClassId} {a : Nat → Nat} (hI : InjN 37 a) {k0 : Nat} {p1 : Int32} {p2 : Int32} {σ : Mem} {σ' : Mem} (hk_k0 : k0 < 3) (h : f_X0_keepMore k0 p1 p2 σ = some σ') : XMX l D ca a Bt yX0_keepMore cX0_keepMore 3 none rm_X0_keepMore [.ref (a (1 + 2 * k0)), .int p1, .int p2] σ none σ' := by
  refine XM.of pn_X0 (Nat.le_of_ble_eq_true rfl) ?_
  intro p e s m args below meth c ls Q hQ C0 hK hB hP hS hl
  have C0 : Cx p s m args meth c RX0 cX0_keepMore 3 none := C0
  have hx := C0.1
  have hb := C0.2.1
  have hl : lv_has ls 3 [(0, .ref (a (1 + 2 * k0))), (1, .int p1), (2, .int p2)] := hl
  rw [f_X0_keepMore] at h
  refine lv_aload_n hx hb dX0_keepMore_0 rfl (lv_at hl 0 rfl) ?_
  refine lv_iload_n hx hb dX0_keepMore_1 rfl (lv_at hl 1 rfl) ?_
  refine lv_iconst (v := 2) hx hb dX0_keepMore_2 (by decide) ?_
  refine lv_iconst (v := 0) hx hb dX0_keepMore_3 (by decide) ?_
  refine lv_bipush (v := 9) hx hb dX0_keepMore_4 (by decide) ?_
  refine lv_aload_n hx hb dX0_keepMore_6 rfl (lv_at hl 0 rfl) ?_
  refine lv_iload_n hx hb dX0_keepMore_7 rfl (lv_at hl 1 rfl) ?_
  refine lv_iconst (v := 2) hx hb dX0_keepMore_8 (by decide) ?_
  obtain ⟨r_2, h_1, h⟩ := b1_e h
  refine xcall (rV C0 hK hP hl.1 (fun _ _ _ => trivial) Bt_b (c_X0_get hI hk_k0 h_1) cv_X0_get tw458 (rcX0 hK hP hk_k0) (rest := [.int 9, .int 0, .int 2, .int p1, .ref (a (1 + 2 * k0))]) rfl (Nat.le_of_ble_eq_true rfl) ⟨rfl, rfl, Nat.le_of_ble_eq_true rfl, Nat.le_of_ble_eq_true rfl⟩ ⟨Nat.zero_le _, Nat.zero_le _⟩ dX0_keepMore_9) hS (fun H locs hP hS => ?_)
  refine lv_iload_n hx hb dX0_keepMore_12 rfl (lv_at hl 2 rfl) ?_
  refine lv_iadd hx hb dX0_keepMore_13 ?_
  refine va_mmin hx hb (C0.2.2.1.trans hl.1.symm) C0.2.2.2.1 (C0.2.2.2.2.1 _ tw372) (C0.2.2.2.2.1 _ tw373) (C0.2.2.2.2.1 _ tw76) (C0.2.2.2.2.1 _ tw374) (Nat.le_of_ble_eq_true rfl) (Nat.le_of_ble_eq_true rfl) (Nat.zero_le _) (Nat.zero_le _) dX0_keepMore_14 ?_
  obtain ⟨y_3, ey_3, h⟩ := bnd_e h
  refine nm_i ey_3 ?_
  refine va_mmax hx hb (C0.2.2.1.trans hl.1.symm) C0.2.2.2.1 (C0.2.2.2.2.1 _ tw459) (C0.2.2.2.2.1 _ tw460) (C0.2.2.2.2.1 _ tw76) (C0.2.2.2.2.1 _ tw461) (Nat.le_of_ble_eq_true rfl) (Nat.le_of_ble_eq_true rfl) (Nat.zero_le _) (Nat.zero_le _) dX0_keepMore_17 ?_
  obtain ⟨y_4, ey_4, h⟩ := bnd_e h
  refine nm_i ey_4 ?_
  obtain ⟨σ_6, h_5, h⟩ := b1_e h
  refine xcall (rV C0 hK hP hl.1 (fun _ _ _ => trivial) Bt_b (c_X0_set hI hk_k0 h_5) cv_X0_set tw391 (rcX0 hK hP hk_k0) (rest := []) rfl (Nat.le_of_ble_eq_true rfl) ⟨rfl, rfl, Nat.le_of_ble_eq_true rfl, Nat.le_of_ble_eq_true rfl⟩ ⟨Nat.zero_le _, Nat.zero_le _⟩ dX0_keepMore_20) hS (fun H locs hP hS => ?_)
  rw [hQ]
  exact xvret C0 hP hS h dX0_keepMore_23
def f_X0_pierce (k0 : Nat) (p1 : Int32) (σ : Mem) : Option (Mem) :=
  bnd (if (σ (1 + 2 * k0) 4) + p1 < 99 then (σ (1 + 2 * k0) 4) + p1 else 99) fun (y_1 : Int32) =>
  bnd (if (0 : Int32) < y_1 then y_1 else 0) fun (y_2 : Int32) =>
  bnd (uX σ (1 + 2 * k0) 4 y_2) fun (σ_3 : Mem) =>
  some σ_3
def rm_X0_pierce : Room := { frames := 1, cells := 0, slots := 0, locals := 21 }
set_option maxHeartbeats 4000000 in
set_option maxRecDepth 100000 in
theorem c_X0_pierce {l : Launch} {D : va_G} {ca : Nat → ClassId} {a : Nat → Nat} (hI : InjN 37 a) {k0 : Nat} {p1 : Int32} {σ : Mem} {σ' : Mem} (hk_k0 : k0 < 3) (h : f_X0_pierce k0 p1 σ = some σ') : XMX l D ca a Bt yX0_pierce cX0_pierce 2 none rm_X0_pierce [.ref (a (1 + 2 * k0)), .int p1] σ none σ' := by
  refine XM.of pn_X0 (Nat.le_of_ble_eq_true rfl) ?_
  intro p e s m args below meth c ls Q hQ C0 hK hB hP hS hl
  have C0 : Cx p s m args meth c RX0 cX0_pierce 2 none := C0
  have hx := C0.1
  have hb := C0.2.1
  have hl : lv_has ls 2 [(0, .ref (a (1 + 2 * k0))), (1, .int p1)] := hl
  rw [f_X0_pierce] at h
  refine lv_aload_n hx hb dX0_pierce_0 rfl (lv_at hl 0 rfl) ?_
  refine lv_iconst (v := 0) hx hb dX0_pierce_1 (by decide) ?_
  refine lv_bipush (v := 99) hx hb dX0_pierce_2 (by decide) ?_
  refine lv_aload_n hx hb dX0_pierce_4 rfl (lv_at hl 0 rfl) ?_
  refine gX0_4 C0 hK hP hk_k0 tw106 dX0_pierce_5 ?_
  refine lv_iload_n hx hb dX0_pierce_8 rfl (lv_at hl 1 rfl) ?_
  refine lv_iadd hx hb dX0_pierce_9 ?_
  refine va_mmin hx hb (C0.2.2.1.trans hl.1.symm) C0.2.2.2.1 (C0.2.2.2.2.1 _ tw372) (C0.2.2.2.2.1 _ tw373) (C0.2.2.2.2.1 _ tw76) (C0.2.2.2.2.1 _ tw374) (Nat.le_of_ble_eq_true rfl) (Nat.le_of_ble_eq_true rfl) (Nat.zero_le _) (Nat.zero_le _) dX0_pierce_10 ?_
  obtain ⟨y_1, ey_1, h⟩ := bnd_e h
  refine nm_i ey_1 ?_
  refine va_mmax hx hb (C0.2.2.1.trans hl.1.symm) C0.2.2.2.1 (C0.2.2.2.2.1 _ tw459) (C0.2.2.2.2.1 _ tw460) (C0.2.2.2.2.1 _ tw76) (C0.2.2.2.2.1 _ tw461) (Nat.le_of_ble_eq_true rfl) (Nat.le_of_ble_eq_true rfl) (Nat.zero_le _) (Nat.zero_le _) dX0_pierce_13 ?_
  obtain ⟨y_2, ey_2, h⟩ := bnd_e h
  refine nm_i ey_2 ?_
  obtain ⟨σ_3, eσ_3, h⟩ := bnd_e h
  refine pX0_4 C0 hK hP hk_k0 tw106 hI hS dX0_pierce_16 (fun H locs hP hS => ?_)
  rw [← eσ_3] at hP
  rw [hQ]
  exact xvret C0 hP hS h dX0_pierce_19
def f_X11_within (p1 : Int32) (p2 : Int32) (p3 : Int32) : Option (Int32) :=
  if p1 < p2 then
    some 0
  else
    if p3 < p1 then
      some 0
    else
      some 1
def rm_X11_within : Room := { frames := 0, cells := 0, slots := 0, locals := 0 }
set_option maxHeartbeats 4000000 in
set_option maxRecDepth 100000 in
theorem c_X11_within {l : Launch} {D : va_G} {ca : Nat → ClassId} {a : Nat → Nat} (hI : InjN 37 a) {p1 : Int32} {p2 : Int32} {p3 : Int32} {σ : Mem} {r : Int32}  (h : f_X11_within p1 p2 p3 = some r) : XMX l D ca a Bt yX11_within cX11_within 3 (some .boolean) rm_X11_within [.int p1, .int p2, .int p3] σ (some (.int r)) σ := by
  refine XM.of pn_X11 (Nat.le_of_ble_eq_true rfl) ?_
  intro p e s m args below meth c ls Q hQ C0 hK hB hP hS hl
  have C0 : Cx p s m args meth c RX11 cX11_within 3 (some .boolean) := C0
  have hx := C0.1
  have hb := C0.2.1
  have hl : lv_has ls 3 [(0, .int p1), (1, .int p2), (2, .int p3)] := hl
  rw [f_X11_within] at h
  refine lv_iload_n hx hb dX11_within_0 rfl (lv_at hl 0 rfl) ?_
  refine lv_iload_n hx hb dX11_within_1 rfl (lv_at hl 1 rfl) ?_
  refine lv_icmp_lt (tgt := 14) hx hb dX11_within_2 (by decide) (fun c_1 => ?_) (fun c_1 => ?_)
  · have h := it c_1 h
    refine lv_iconst (v := 0) hx hb dX11_within_14 (by decide) ?_
    rw [hQ]
    exact xzretr C0 hP hS rfl h dX11_within_15
  · have h := ie c_1 h
    refine lv_iload_n hx hb dX11_within_5 rfl (lv_at hl 0 rfl) ?_
    refine lv_iload_n hx hb dX11_within_6 rfl (lv_at hl 2 rfl) ?_
    refine lv_icmp_gt (tgt := 14) hx hb dX11_within_7 (by decide) (fun c_2 => ?_) (fun c_2 => ?_)
    · have h := it c_2 h
      refine lv_iconst (v := 0) hx hb dX11_within_14 (by decide) ?_
      rw [hQ]
      exact xzretr C0 hP hS rfl h dX11_within_15
    · have h := ie c_2 h
      refine lv_iconst (v := 1) hx hb dX11_within_10 (by decide) ?_
      refine lv_goto (tgt := 15) hx hb dX11_within_11 (by decide) ?_
      rw [hQ]
      exact xzretr C0 hP hS rfl h dX11_within_15
def f_X0_addRing (k0 : Nat) (p1 : Int32) (p2 : Int32) (p3 : Int32) (p4 : Int32) (σ : Mem) : Option (Int32 × Mem) :=
  b1 (f_X11_within p1 1 99) fun r_2 =>
  if r_2 = 0 then
    some (0, σ)
  else
    b1 (f_X11_within p2 1 99) fun r_5 =>
    if r_5 = 0 then
      some (0, σ)
    else
      if (σ (1 + 2 * k0) 1) < 6 then
        b1 (f_X0_set k0 (σ (1 + 2 * k0) 1) 0 p1 σ) fun σ_9 =>
        b1 (f_X0_set k0 (σ_9 (1 + 2 * k0) 1) 1 p2 σ_9) fun σ_11 =>
        bnd (σ_11 (1 + 2 * k0) 1) fun (y_12 : Int32) =>
        b1 (f_X0_set k0 y_12 2 p3 σ_11) fun σ_14 =>
        bnd (σ_14 (1 + 2 * k0) 1) fun (y_15 : Int32) =>
        b1 (f_X0_set k0 y_15 3 p4 σ_14) fun σ_17 =>
        bnd ((σ_17 (1 + 2 * k0) 1) + 1) fun (y_18 : Int32) =>
        bnd (uX σ_17 (1 + 2 * k0) 1 y_18) fun (σ_19 : Mem) =>
        some (1, σ_19)
      else
        some (0, σ)
def rm_X0_addRing : Room := { frames := 1, cells := 0, slots := 0, locals := 24 }
set_option maxHeartbeats 4000000 in
set_option maxRecDepth 100000 in
theorem c_X0_addRing {l : Launch} {D : va_G} {ca : Nat → ClassId} {a : Nat → Nat} (hI : InjN 37 a) {k0 : Nat} {p1 : Int32} {p2 : Int32} {p3 : Int32} {p4 : Int32} {σ : Mem} {r : Int32} {σ' : Mem} (hk_k0 : k0 < 3) (h : f_X0_addRing k0 p1 p2 p3 p4 σ = some (r, σ')) : XMX l D ca a Bt yX0_addRing cX0_addRing 5 (some .boolean) rm_X0_addRing [.ref (a (1 + 2 * k0)), .int p1, .int p2, .int p3, .int p4] σ (some (.int r)) σ' := by
  refine XM.of pn_X0 (Nat.le_of_ble_eq_true rfl) ?_
  intro p e s m args below meth c ls Q hQ C0 hK hB hP hS hl
  have C0 : Cx p s m args meth c RX0 cX0_addRing 5 (some .boolean) := C0
  have hx := C0.1
  have hb := C0.2.1
  have hl : lv_has ls 5 [(0, .ref (a (1 + 2 * k0))), (1, .int p1), (2, .int p2), (3, .int p3), (4, .int p4)] := hl
  rw [f_X0_addRing] at h
  refine lv_iload_n hx hb dX0_addRing_0 rfl (lv_at hl 1 rfl) ?_
  refine lv_iconst (v := 1) hx hb dX0_addRing_1 (by decide) ?_
  refine lv_bipush (v := 99) hx hb dX0_addRing_2 (by decide) ?_
  obtain ⟨r_2, h_1, h⟩ := b1_e h
  refine xcall (rSN C0 hK hP hl.1 (fun _ _ _ => trivial) Bt_b (c_X11_within hI h_1) cs_X11_within tw390 (rest := []) rfl (Nat.le_of_ble_eq_true rfl) ⟨rfl, rfl, Nat.le_of_ble_eq_true rfl, Nat.le_of_ble_eq_true rfl⟩ ⟨Nat.zero_le _, Nat.zero_le _⟩ dX0_addRing_4) hS (fun H locs hP hS => ?_)
  refine lv_if_eq (tgt := 29) hx hb dX0_addRing_7 (by decide) (fun c_3 => ?_) (fun c_3 => ?_)
  · have h := it c_3 h
    refine lv_iconst (v := 0) hx hb dX0_addRing_29 (by decide) ?_
    rw [hQ]
    exact xzret C0 hP hS rfl h dX0_addRing_30
  · have h := ie c_3 h
    refine lv_iload_n hx hb dX0_addRing_10 rfl (lv_at hl 2 rfl) ?_
    refine lv_iconst (v := 1) hx hb dX0_addRing_11 (by decide) ?_
    refine lv_bipush (v := 99) hx hb dX0_addRing_12 (by decide) ?_
    obtain ⟨r_5, h_4, h⟩ := b1_e h
    refine xcall (rSN C0 hK hP hl.1 (fun _ _ _ => trivial) Bt_b (c_X11_within hI h_4) cs_X11_within tw390 (rest := []) rfl (Nat.le_of_ble_eq_true rfl) ⟨rfl, rfl, Nat.le_of_ble_eq_true rfl, Nat.le_of_ble_eq_true rfl⟩ ⟨Nat.zero_le _, Nat.zero_le _⟩ dX0_addRing_14) hS (fun H locs hP hS => ?_)
    refine lv_if_eq (tgt := 29) hx hb dX0_addRing_17 (by decide) (fun c_6 => ?_) (fun c_6 => ?_)
    · have h := it c_6 h
      refine lv_iconst (v := 0) hx hb dX0_addRing_29 (by decide) ?_
      rw [hQ]
      exact xzret C0 hP hS rfl h dX0_addRing_30
    · have h := ie c_6 h
      refine lv_aload_n hx hb dX0_addRing_20 rfl (lv_at hl 0 rfl) ?_
      refine gX0_1 C0 hK hP hk_k0 tw99 dX0_addRing_21 ?_
      refine lv_bipush (v := 6) hx hb dX0_addRing_24 (by decide) ?_
      refine lv_icmp_lt (tgt := 31) hx hb dX0_addRing_26 (by decide) (fun c_7 => ?_) (fun c_7 => ?_)
      · have h := it c_7 h
        refine lv_aload_n hx hb dX0_addRing_31 rfl (lv_at hl 0 rfl) ?_
        refine lv_aload_n hx hb dX0_addRing_32 rfl (lv_at hl 0 rfl) ?_
        refine gX0_1 C0 hK hP hk_k0 tw99 dX0_addRing_33 ?_
        refine lv_iconst (v := 0) hx hb dX0_addRing_36 (by decide) ?_
        refine lv_iload_n hx hb dX0_addRing_37 rfl (lv_at hl 1 rfl) ?_
        obtain ⟨σ_9, h_8, h⟩ := b1_e h
        refine xcall (rV C0 hK hP hl.1 (fun _ _ _ => trivial) Bt_b (c_X0_set hI hk_k0 h_8) cv_X0_set tw391 (rcX0 hK hP hk_k0) (rest := []) rfl (Nat.le_of_ble_eq_true rfl) ⟨rfl, rfl, Nat.le_of_ble_eq_true rfl, Nat.le_of_ble_eq_true rfl⟩ ⟨Nat.zero_le _, Nat.zero_le _⟩ dX0_addRing_38) hS (fun H locs hP hS => ?_)
        refine lv_aload_n hx hb dX0_addRing_41 rfl (lv_at hl 0 rfl) ?_
        refine lv_aload_n hx hb dX0_addRing_42 rfl (lv_at hl 0 rfl) ?_
        refine gX0_1 C0 hK hP hk_k0 tw99 dX0_addRing_43 ?_
        refine lv_iconst (v := 1) hx hb dX0_addRing_46 (by decide) ?_
        refine lv_iload_n hx hb dX0_addRing_47 rfl (lv_at hl 2 rfl) ?_
        obtain ⟨σ_11, h_10, h⟩ := b1_e h
        refine xcall (rV C0 hK hP hl.1 (fun _ _ _ => trivial) Bt_b (c_X0_set hI hk_k0 h_10) cv_X0_set tw391 (rcX0 hK hP hk_k0) (rest := []) rfl (Nat.le_of_ble_eq_true rfl) ⟨rfl, rfl, Nat.le_of_ble_eq_true rfl, Nat.le_of_ble_eq_true rfl⟩ ⟨Nat.zero_le _, Nat.zero_le _⟩ dX0_addRing_48) hS (fun H locs hP hS => ?_)
        refine lv_aload_n hx hb dX0_addRing_51 rfl (lv_at hl 0 rfl) ?_
        refine lv_aload_n hx hb dX0_addRing_52 rfl (lv_at hl 0 rfl) ?_
        refine gX0_1 C0 hK hP hk_k0 tw99 dX0_addRing_53 ?_
        refine lv_iconst (v := 2) hx hb dX0_addRing_56 (by decide) ?_
        refine lv_iload_n hx hb dX0_addRing_57 rfl (lv_at hl 3 rfl) ?_
        obtain ⟨y_12, ey_12, h⟩ := bnd_e h
        rw [← ey_12]
        obtain ⟨σ_14, h_13, h⟩ := b1_e h
        refine xcall (rV C0 hK hP hl.1 (fun _ _ _ => trivial) Bt_b (c_X0_set hI hk_k0 h_13) cv_X0_set tw391 (rcX0 hK hP hk_k0) (rest := []) rfl (Nat.le_of_ble_eq_true rfl) ⟨rfl, rfl, Nat.le_of_ble_eq_true rfl, Nat.le_of_ble_eq_true rfl⟩ ⟨Nat.zero_le _, Nat.zero_le _⟩ dX0_addRing_58) hS (fun H locs hP hS => ?_)
        refine lv_aload_n hx hb dX0_addRing_61 rfl (lv_at hl 0 rfl) ?_
        refine lv_aload_n hx hb dX0_addRing_62 rfl (lv_at hl 0 rfl) ?_
        refine gX0_1 C0 hK hP hk_k0 tw99 dX0_addRing_63 ?_
        refine lv_iconst (v := 3) hx hb dX0_addRing_66 (by decide) ?_
        refine lv_iload hx hb dX0_addRing_67 (lv_at hl 4 rfl) ?_
        obtain ⟨y_15, ey_15, h⟩ := bnd_e h
        rw [← ey_15]
        obtain ⟨σ_17, h_16, h⟩ := b1_e h
        refine xcall (rV C0 hK hP hl.1 (fun _ _ _ => trivial) Bt_b (c_X0_set hI hk_k0 h_16) cv_X0_set tw391 (rcX0 hK hP hk_k0) (rest := []) rfl (Nat.le_of_ble_eq_true rfl) ⟨rfl, rfl, Nat.le_of_ble_eq_true rfl, Nat.le_of_ble_eq_true rfl⟩ ⟨Nat.zero_le _, Nat.zero_le _⟩ dX0_addRing_69) hS (fun H locs hP hS => ?_)
        refine lv_aload_n hx hb dX0_addRing_72 rfl (lv_at hl 0 rfl) ?_
        refine lv_dup hx hb dX0_addRing_73 rfl ?_
        refine gX0_1 C0 hK hP hk_k0 tw99 dX0_addRing_74 ?_
        refine lv_iconst (v := 1) hx hb dX0_addRing_77 (by decide) ?_
        refine lv_iadd hx hb dX0_addRing_78 ?_
        obtain ⟨y_18, ey_18, h⟩ := bnd_e h
        refine nm_i ey_18 ?_
        obtain ⟨σ_19, eσ_19, h⟩ := bnd_e h
        refine pX0_1 C0 hK hP hk_k0 tw99 hI hS dX0_addRing_79 (fun H locs hP hS => ?_)
        rw [← eσ_19] at hP
        refine lv_iconst (v := 1) hx hb dX0_addRing_82 (by decide) ?_
        rw [hQ]
        exact xzret C0 hP hS rfl h dX0_addRing_83
      · have h := ie c_7 h
        refine lv_iconst (v := 0) hx hb dX0_addRing_29 (by decide) ?_
        rw [hQ]
        exact xzret C0 hP hS rfl h dX0_addRing_30
def f_X3_canBe (k1 : Nat) (p2 : Int32) (p3 : Int32) : Option (Int32) :=
  some 1
def rm_X3_canBe : Room := { frames := 0, cells := 0, slots := 0, locals := 0 }
set_option maxHeartbeats 4000000 in
set_option maxRecDepth 100000 in
theorem c_X3_canBe {l : Launch} {D : va_G} {ca : Nat → ClassId} {a : Nat → Nat} (hI : InjN 37 a) {j0 : Nat} {k1 : Nat} {p2 : Int32} {p3 : Int32} {σ : Mem} {r : Int32} (hk_j0 : j0 < 8) (hk_k1 : k1 < 3) (h : f_X3_canBe k1 p2 p3 = some r) : XMX l D ca a Bt yX3_canBe cX3_canBe 4 (some .boolean) rm_X3_canBe [.ref (a (27 + j0)), .ref (a (1 + 2 * k1)), .int p2, .int p3] σ (some (.int r)) σ := by
  refine XM.of pn_X3 (Nat.le_of_ble_eq_true rfl) ?_
  intro p e s m args below meth c ls Q hQ C0 hK hB hP hS hl
  have C0 : Cx p s m args meth c RX3 cX3_canBe 4 (some .boolean) := C0
  have hx := C0.1
  have hb := C0.2.1
  have hl : lv_has ls 4 [(0, .ref (a (27 + j0))), (1, .ref (a (1 + 2 * k1))), (2, .int p2), (3, .int p3)] := hl
  rw [f_X3_canBe] at h
  refine lv_iconst (v := 1) hx hb dX3_canBe_0 (by decide) ?_
  rw [hQ]
  exact xzretr C0 hP hS rfl h dX3_canBe_1
def f_X7_canBe (k1 : Nat) (p2 : Int32) (p3 : Int32) (σ : Mem) : Option (Int32) :=
  b1 (f_X0_get k1 p2 1 σ) fun r_2 =>
  if r_2 ≤ p3 then
    some 0
  else
    some 1
def rm_X7_canBe : Room := { frames := 1, cells := 0, slots := 0, locals := 23 }
set_option maxHeartbeats 4000000 in
set_option maxRecDepth 100000 in
theorem c_X7_canBe {l : Launch} {D : va_G} {ca : Nat → ClassId} {a : Nat → Nat} (hI : InjN 37 a) {j0 : Nat} {k1 : Nat} {p2 : Int32} {p3 : Int32} {σ : Mem} {r : Int32} (hk_j0 : j0 < 8) (hk_k1 : k1 < 3) (h : f_X7_canBe k1 p2 p3 σ = some r) : XMX l D ca a Bt yX7_canBe cX7_canBe 4 (some .boolean) rm_X7_canBe [.ref (a (27 + j0)), .ref (a (1 + 2 * k1)), .int p2, .int p3] σ (some (.int r)) σ := by
  refine XM.of pn_X7 (Nat.le_of_ble_eq_true rfl) ?_
  intro p e s m args below meth c ls Q hQ C0 hK hB hP hS hl
  have C0 : Cx p s m args meth c RX7 cX7_canBe 4 (some .boolean) := C0
  have hx := C0.1
  have hb := C0.2.1
  have hl : lv_has ls 4 [(0, .ref (a (27 + j0))), (1, .ref (a (1 + 2 * k1))), (2, .int p2), (3, .int p3)] := hl
  rw [f_X7_canBe] at h
  refine lv_aload_n hx hb dX7_canBe_0 rfl (lv_at hl 1 rfl) ?_
  refine lv_iload_n hx hb dX7_canBe_1 rfl (lv_at hl 2 rfl) ?_
  refine lv_iconst (v := 1) hx hb dX7_canBe_2 (by decide) ?_
  obtain ⟨r_2, h_1, h⟩ := b1_e h
  refine xcall (rV C0 hK hP hl.1 (fun _ _ _ => trivial) Bt_b (c_X0_get hI hk_k1 h_1) cv_X0_get tw421 (rcX0 hK hP hk_k1) (rest := []) rfl (Nat.le_of_ble_eq_true rfl) ⟨rfl, rfl, Nat.le_of_ble_eq_true rfl, Nat.le_of_ble_eq_true rfl⟩ ⟨Nat.zero_le _, Nat.zero_le _⟩ dX7_canBe_3) hS (fun H locs hP hS => ?_)
  refine lv_iload_n hx hb dX7_canBe_6 rfl (lv_at hl 3 rfl) ?_
  refine lv_icmp_le (tgt := 14) hx hb dX7_canBe_7 (by decide) (fun c_3 => ?_) (fun c_3 => ?_)
  · have h := it c_3 h
    refine lv_iconst (v := 0) hx hb dX7_canBe_14 (by decide) ?_
    rw [hQ]
    exact xzretr C0 hP hS rfl h dX7_canBe_15
  · have h := ie c_3 h
    refine lv_iconst (v := 1) hx hb dX7_canBe_10 (by decide) ?_
    refine lv_goto (tgt := 15) hx hb dX7_canBe_11 (by decide) ?_
    rw [hQ]
    exact xzretr C0 hP hS rfl h dX7_canBe_15
def f_X2_canBe (k1 : Nat) (p2 : Int32) (p3 : Int32) (σ : Mem) : Option (Int32) :=
  b1 (f_X0_get k1 p2 2 σ) fun r_2 =>
  if r_2 < p3 then
    some 0
  else
    some 1
def rm_X2_canBe : Room := { frames := 1, cells := 0, slots := 0, locals := 23 }
set_option maxHeartbeats 4000000 in
set_option maxRecDepth 100000 in
theorem c_X2_canBe {l : Launch} {D : va_G} {ca : Nat → ClassId} {a : Nat → Nat} (hI : InjN 37 a) {j0 : Nat} {k1 : Nat} {p2 : Int32} {p3 : Int32} {σ : Mem} {r : Int32} (hk_j0 : j0 < 8) (hk_k1 : k1 < 3) (h : f_X2_canBe k1 p2 p3 σ = some r) : XMX l D ca a Bt yX2_canBe cX2_canBe 4 (some .boolean) rm_X2_canBe [.ref (a (27 + j0)), .ref (a (1 + 2 * k1)), .int p2, .int p3] σ (some (.int r)) σ := by
  refine XM.of pn_X2 (Nat.le_of_ble_eq_true rfl) ?_
  intro p e s m args below meth c ls Q hQ C0 hK hB hP hS hl
  have C0 : Cx p s m args meth c RX2 cX2_canBe 4 (some .boolean) := C0
  have hx := C0.1
  have hb := C0.2.1
  have hl : lv_has ls 4 [(0, .ref (a (27 + j0))), (1, .ref (a (1 + 2 * k1))), (2, .int p2), (3, .int p3)] := hl
  rw [f_X2_canBe] at h
  refine lv_aload_n hx hb dX2_canBe_0 rfl (lv_at hl 1 rfl) ?_
  refine lv_iload_n hx hb dX2_canBe_1 rfl (lv_at hl 2 rfl) ?_
  refine lv_iconst (v := 2) hx hb dX2_canBe_2 (by decide) ?_
  obtain ⟨r_2, h_1, h⟩ := b1_e h
  refine xcall (rV C0 hK hP hl.1 (fun _ _ _ => trivial) Bt_b (c_X0_get hI hk_k1 h_1) cv_X0_get tw429 (rcX0 hK hP hk_k1) (rest := []) rfl (Nat.le_of_ble_eq_true rfl) ⟨rfl, rfl, Nat.le_of_ble_eq_true rfl, Nat.le_of_ble_eq_true rfl⟩ ⟨Nat.zero_le _, Nat.zero_le _⟩ dX2_canBe_3) hS (fun H locs hP hS => ?_)
  refine lv_iload_n hx hb dX2_canBe_6 rfl (lv_at hl 3 rfl) ?_
  refine lv_icmp_lt (tgt := 14) hx hb dX2_canBe_7 (by decide) (fun c_3 => ?_) (fun c_3 => ?_)
  · have h := it c_3 h
    refine lv_iconst (v := 0) hx hb dX2_canBe_14 (by decide) ?_
    rw [hQ]
    exact xzretr C0 hP hS rfl h dX2_canBe_15
  · have h := ie c_3 h
    refine lv_iconst (v := 1) hx hb dX2_canBe_10 (by decide) ?_
    refine lv_goto (tgt := 15) hx hb dX2_canBe_11 (by decide) ?_
    rw [hQ]
    exact xzretr C0 hP hS rfl h dX2_canBe_15
def f_X9_canBe (k1 : Nat) (p2 : Int32) (p3 : Int32) (σ : Mem) : Option (Int32) :=
  b1 (f_X7_canBe k1 p2 p3 σ) fun r_2 =>
  if r_2 = 0 then
    some 0
  else
    b1 (f_X0_has k1 (p2 + 1) σ) fun r_5 =>
    if r_5 = 0 then
      some 0
    else
      some 1
def rm_X9_canBe : Room := { frames := 2, cells := 0, slots := 0, locals := 46 }
set_option maxHeartbeats 4000000 in
set_option maxRecDepth 100000 in
theorem c_X9_canBe {l : Launch} {D : va_G} {ca : Nat → ClassId} {a : Nat → Nat} (hI : InjN 37 a) {j0 : Nat} {k1 : Nat} {p2 : Int32} {p3 : Int32} {σ : Mem} {r : Int32} (hk_j0 : j0 < 8) (hk_k1 : k1 < 3) (h : f_X9_canBe k1 p2 p3 σ = some r) : XMX l D ca a Bt yX9_canBe cX9_canBe 4 (some .boolean) rm_X9_canBe [.ref (a (27 + j0)), .ref (a (1 + 2 * k1)), .int p2, .int p3] σ (some (.int r)) σ := by
  refine XM.of pn_X9 (Nat.le_of_ble_eq_true rfl) ?_
  intro p e s m args below meth c ls Q hQ C0 hK hB hP hS hl
  have C0 : Cx p s m args meth c RX9 cX9_canBe 4 (some .boolean) := C0
  have hx := C0.1
  have hb := C0.2.1
  have hl : lv_has ls 4 [(0, .ref (a (27 + j0))), (1, .ref (a (1 + 2 * k1))), (2, .int p2), (3, .int p3)] := hl
  rw [f_X9_canBe] at h
  refine lv_aload_n hx hb dX9_canBe_0 rfl (lv_at hl 0 rfl) ?_
  refine lv_aload_n hx hb dX9_canBe_1 rfl (lv_at hl 1 rfl) ?_
  refine lv_iload_n hx hb dX9_canBe_2 rfl (lv_at hl 2 rfl) ?_
  refine lv_iload_n hx hb dX9_canBe_3 rfl (lv_at hl 3 rfl) ?_
  obtain ⟨r_2, h_1, h⟩ := b1_e h
  obtain ⟨C9, cC9, hat9, hr9⟩ := rcP hK hP hk_j0
  refine xcall (rSU C0 hK hP hl.1 (fun _ _ _ => trivial) Bt_b (c_X7_canBe hI hk_j0 hk_k1 h_1) cu_X7_canBe ⟨tw438, tw1332, tw204⟩ hat9 hr9 (rest := []) rfl (Nat.le_of_ble_eq_true rfl) ⟨rfl, rfl, Nat.le_of_ble_eq_true rfl, Nat.le_of_ble_eq_true rfl⟩ ⟨Nat.zero_le _, Nat.zero_le _⟩ dX9_canBe_4) hS (fun H locs hP hS => ?_)
  refine lv_if_eq (tgt := 24) hx hb dX9_canBe_7 (by decide) (fun c_3 => ?_) (fun c_3 => ?_)
  · have h := it c_3 h
    refine lv_iconst (v := 0) hx hb dX9_canBe_24 (by decide) ?_
    rw [hQ]
    exact xzretr C0 hP hS rfl h dX9_canBe_25
  · have h := ie c_3 h
    refine lv_aload_n hx hb dX9_canBe_10 rfl (lv_at hl 1 rfl) ?_
    refine lv_iload_n hx hb dX9_canBe_11 rfl (lv_at hl 2 rfl) ?_
    refine lv_iconst (v := 1) hx hb dX9_canBe_12 (by decide) ?_
    refine lv_iadd hx hb dX9_canBe_13 ?_
    obtain ⟨r_5, h_4, h⟩ := b1_e h
    refine xcall (rV C0 hK hP hl.1 (fun _ _ _ => trivial) Bt_b (c_X0_has hI hk_k1 h_4) cv_X0_has tw439 (rcX0 hK hP hk_k1) (rest := []) rfl (Nat.le_of_ble_eq_true rfl) ⟨rfl, rfl, Nat.le_of_ble_eq_true rfl, Nat.le_of_ble_eq_true rfl⟩ ⟨Nat.zero_le _, Nat.zero_le _⟩ dX9_canBe_14) hS (fun H locs hP hS => ?_)
    refine lv_if_eq (tgt := 24) hx hb dX9_canBe_17 (by decide) (fun c_6 => ?_) (fun c_6 => ?_)
    · have h := it c_6 h
      refine lv_iconst (v := 0) hx hb dX9_canBe_24 (by decide) ?_
      rw [hQ]
      exact xzretr C0 hP hS rfl h dX9_canBe_25
    · have h := ie c_6 h
      refine lv_iconst (v := 1) hx hb dX9_canBe_20 (by decide) ?_
      refine lv_goto (tgt := 25) hx hb dX9_canBe_21 (by decide) ?_
      rw [hQ]
      exact xzretr C0 hP hS rfl h dX9_canBe_25
def f_X4_canBe (k1 : Nat) (p2 : Int32) (p3 : Int32) : Option (Int32) :=
  some 1
def rm_X4_canBe : Room := { frames := 0, cells := 0, slots := 0, locals := 0 }
set_option maxHeartbeats 4000000 in
set_option maxRecDepth 100000 in
theorem c_X4_canBe {l : Launch} {D : va_G} {ca : Nat → ClassId} {a : Nat → Nat} (hI : InjN 37 a) {j0 : Nat} {k1 : Nat} {p2 : Int32} {p3 : Int32} {σ : Mem} {r : Int32} (hk_j0 : j0 < 8) (hk_k1 : k1 < 3) (h : f_X4_canBe k1 p2 p3 = some r) : XMX l D ca a Bt yX4_canBe cX4_canBe 4 (some .boolean) rm_X4_canBe [.ref (a (27 + j0)), .ref (a (1 + 2 * k1)), .int p2, .int p3] σ (some (.int r)) σ := by
  refine XM.of pn_X4 (Nat.le_of_ble_eq_true rfl) ?_
  intro p e s m args below meth c ls Q hQ C0 hK hB hP hS hl
  have C0 : Cx p s m args meth c RX4 cX4_canBe 4 (some .boolean) := C0
  have hx := C0.1
  have hb := C0.2.1
  have hl : lv_has ls 4 [(0, .ref (a (27 + j0))), (1, .ref (a (1 + 2 * k1))), (2, .int p2), (3, .int p3)] := hl
  rw [f_X4_canBe] at h
  refine lv_iconst (v := 1) hx hb dX4_canBe_0 (by decide) ?_
  rw [hQ]
  exact xzretr C0 hP hS rfl h dX4_canBe_1
def f_X10_canBe (k1 : Nat) (p2 : Int32) (p3 : Int32) (σ : Mem) : Option (Int32) :=
  if (σ (1 + 2 * k1) 4) ≤ 0 then
    some 0
  else
    some 1
def rm_X10_canBe : Room := { frames := 0, cells := 0, slots := 0, locals := 0 }
set_option maxHeartbeats 4000000 in
set_option maxRecDepth 100000 in
theorem c_X10_canBe {l : Launch} {D : va_G} {ca : Nat → ClassId} {a : Nat → Nat} (hI : InjN 37 a) {j0 : Nat} {k1 : Nat} {p2 : Int32} {p3 : Int32} {σ : Mem} {r : Int32} (hk_j0 : j0 < 8) (hk_k1 : k1 < 3) (h : f_X10_canBe k1 p2 p3 σ = some r) : XMX l D ca a Bt yX10_canBe cX10_canBe 4 (some .boolean) rm_X10_canBe [.ref (a (27 + j0)), .ref (a (1 + 2 * k1)), .int p2, .int p3] σ (some (.int r)) σ := by
  refine XM.of pn_X10 (Nat.le_of_ble_eq_true rfl) ?_
  intro p e s m args below meth c ls Q hQ C0 hK hB hP hS hl
  have C0 : Cx p s m args meth c RX10 cX10_canBe 4 (some .boolean) := C0
  have hx := C0.1
  have hb := C0.2.1
  have hl : lv_has ls 4 [(0, .ref (a (27 + j0))), (1, .ref (a (1 + 2 * k1))), (2, .int p2), (3, .int p3)] := hl
  rw [f_X10_canBe] at h
  refine lv_aload_n hx hb dX10_canBe_0 rfl (lv_at hl 1 rfl) ?_
  refine gX0_4N C0 hK hP hk_k1 tw105 dX10_canBe_1 ?_
  refine lv_if_le (tgt := 11) hx hb dX10_canBe_4 (by decide) (fun c_1 => ?_) (fun c_1 => ?_)
  · have h := it c_1 h
    refine lv_iconst (v := 0) hx hb dX10_canBe_11 (by decide) ?_
    rw [hQ]
    exact xzretr C0 hP hS rfl h dX10_canBe_12
  · have h := ie c_1 h
    refine lv_iconst (v := 1) hx hb dX10_canBe_7 (by decide) ?_
    refine lv_goto (tgt := 12) hx hb dX10_canBe_8 (by decide) ?_
    rw [hQ]
    exact xzretr C0 hP hS rfl h dX10_canBe_12
def f_X1_canBe (k1 : Nat) (p2 : Int32) (p3 : Int32) (σ : Mem) : Option (Int32) :=
  b1 (f_X7_canBe k1 p2 p3 σ) fun r_2 =>
  if r_2 = 0 then
    some 0
  else
    b1 (f_X0_has k1 (p2 + 1) σ) fun r_5 =>
    if r_5 = 0 then
      some 1
    else
      some 0
def rm_X1_canBe : Room := { frames := 2, cells := 0, slots := 0, locals := 46 }
set_option maxHeartbeats 4000000 in
set_option maxRecDepth 100000 in
theorem c_X1_canBe {l : Launch} {D : va_G} {ca : Nat → ClassId} {a : Nat → Nat} (hI : InjN 37 a) {j0 : Nat} {k1 : Nat} {p2 : Int32} {p3 : Int32} {σ : Mem} {r : Int32} (hk_j0 : j0 < 8) (hk_k1 : k1 < 3) (h : f_X1_canBe k1 p2 p3 σ = some r) : XMX l D ca a Bt yX1_canBe cX1_canBe 4 (some .boolean) rm_X1_canBe [.ref (a (27 + j0)), .ref (a (1 + 2 * k1)), .int p2, .int p3] σ (some (.int r)) σ := by
  refine XM.of pn_X1 (Nat.le_of_ble_eq_true rfl) ?_
  intro p e s m args below meth c ls Q hQ C0 hK hB hP hS hl
  have C0 : Cx p s m args meth c RX1 cX1_canBe 4 (some .boolean) := C0
  have hx := C0.1
  have hb := C0.2.1
  have hl : lv_has ls 4 [(0, .ref (a (27 + j0))), (1, .ref (a (1 + 2 * k1))), (2, .int p2), (3, .int p3)] := hl
  rw [f_X1_canBe] at h
  refine lv_aload_n hx hb dX1_canBe_0 rfl (lv_at hl 0 rfl) ?_
  refine lv_aload_n hx hb dX1_canBe_1 rfl (lv_at hl 1 rfl) ?_
  refine lv_iload_n hx hb dX1_canBe_2 rfl (lv_at hl 2 rfl) ?_
  refine lv_iload_n hx hb dX1_canBe_3 rfl (lv_at hl 3 rfl) ?_
  obtain ⟨r_2, h_1, h⟩ := b1_e h
  obtain ⟨C9, cC9, hat9, hr9⟩ := rcP hK hP hk_j0
  refine xcall (rSU C0 hK hP hl.1 (fun _ _ _ => trivial) Bt_b (c_X7_canBe hI hk_j0 hk_k1 h_1) cu_X7_canBe ⟨tw418, tw1332, tw232⟩ hat9 hr9 (rest := []) rfl (Nat.le_of_ble_eq_true rfl) ⟨rfl, rfl, Nat.le_of_ble_eq_true rfl, Nat.le_of_ble_eq_true rfl⟩ ⟨Nat.zero_le _, Nat.zero_le _⟩ dX1_canBe_4) hS (fun H locs hP hS => ?_)
  refine lv_if_eq (tgt := 24) hx hb dX1_canBe_7 (by decide) (fun c_3 => ?_) (fun c_3 => ?_)
  · have h := it c_3 h
    refine lv_iconst (v := 0) hx hb dX1_canBe_24 (by decide) ?_
    rw [hQ]
    exact xzretr C0 hP hS rfl h dX1_canBe_25
  · have h := ie c_3 h
    refine lv_aload_n hx hb dX1_canBe_10 rfl (lv_at hl 1 rfl) ?_
    refine lv_iload_n hx hb dX1_canBe_11 rfl (lv_at hl 2 rfl) ?_
    refine lv_iconst (v := 1) hx hb dX1_canBe_12 (by decide) ?_
    refine lv_iadd hx hb dX1_canBe_13 ?_
    obtain ⟨r_5, h_4, h⟩ := b1_e h
    refine xcall (rV C0 hK hP hl.1 (fun _ _ _ => trivial) Bt_b (c_X0_has hI hk_k1 h_4) cv_X0_has tw425 (rcX0 hK hP hk_k1) (rest := []) rfl (Nat.le_of_ble_eq_true rfl) ⟨rfl, rfl, Nat.le_of_ble_eq_true rfl, Nat.le_of_ble_eq_true rfl⟩ ⟨Nat.zero_le _, Nat.zero_le _⟩ dX1_canBe_14) hS (fun H locs hP hS => ?_)
    refine lv_if_ne (tgt := 24) hx hb dX1_canBe_17 (by decide) (fun c_6 => ?_) (fun c_6 => ?_)
    · have h := ie c_6 h
      refine lv_iconst (v := 0) hx hb dX1_canBe_24 (by decide) ?_
      rw [hQ]
      exact xzretr C0 hP hS rfl h dX1_canBe_25
    · have h := it c_6 h
      refine lv_iconst (v := 1) hx hb dX1_canBe_20 (by decide) ?_
      refine lv_goto (tgt := 25) hx hb dX1_canBe_21 (by decide) ?_
      rw [hQ]
      exact xzretr C0 hP hS rfl h dX1_canBe_25
def f_dp_canBe (j0 : Nat) (k1 : Nat) (p2 : Int32) (p3 : Int32) (σ : Mem) : Option (Int32) :=
  if j0 = 0 then f_X3_canBe k1 p2 p3 else
  if j0 = 1 then f_X7_canBe k1 p2 p3 σ else
  if j0 = 2 then f_X2_canBe k1 p2 p3 σ else
  if j0 = 3 then f_X9_canBe k1 p2 p3 σ else
  if j0 = 4 then f_X4_canBe k1 p2 p3 else
  if j0 = 5 then f_X10_canBe k1 p2 p3 σ else
  if j0 = 6 then f_X2_canBe k1 p2 p3 σ else
  if j0 = 7 then f_X1_canBe k1 p2 p3 σ else
  none
set_option maxRecDepth 100000 in
theorem dp_X0_canBe {p : Program} {l : Launch} {e : Env} {R : Room} {s : State} {m : MethodId} {args : Array Value} {below : List Frame} {meth : Method} {c : Code} {H : Heap} {locs : List Loc} {D : va_G} {ca : Nat → ClassId} {a : Nat → Nat} {cc : ByteArray} {nL pc : Nat} {ret : Option FieldType} {ls : Array Slot} {rest st0 : List Value} {σ : Mem} {j0 : Nat} {k1 : Nat} {p2 : Int32} {p3 : Int32} {r : Int32} (hI : InjN 37 a) (C0 : Cx p s m args meth c RX0 cc nL ret) (hK : KX D vwCl (tysE ca) s) (hP : va_P D vwCl (wX ca a σ) H) (hn : ls.size = nL) (hj : j0 < 8) (hk_k1 : k1 < 3) (h : f_dp_canBe j0 k1 p2 p3 σ = some r) (hst : st0 = [.ref (a (1 + 2 * k1)), .int p2, .int p3].reverse ++ .ref (a (27 + j0)) :: rest) (hcat : (rest.map fun v => v.category).sum ≤ 8) (hR : 3 ≤ R.frames ∧ 69 ≤ R.locals) (hdg : decode cc pc = .ok (.invokevirtual 61, 3)) :
    va_Run p l e R s m args below meth c H locs 0 0 0 0 (F0 m pc ls st0) rest (XQ D vwCl (AW 37 a) (wX ca a σ) (some (.int r)) (Value.ref (a (27 + j0)) :: [.ref (a (1 + 2 * k1)), .int p2, .int p3]).toArray) (AW 37 a) := by
  rw [f_dp_canBe] at h
  by_cases c0 : j0 = 0
  · have h9 := it c0 h
    subst c0
    exact rV C0 hK hP hn (fun _ _ _ => trivial) Bt_b (c_X3_canBe hI hj hk_k1 h9) cv_X3_canBe tw411 (rcP0 hK hP) hst hcat ⟨rfl, rfl, Nat.le_trans (Nat.le_of_ble_eq_true rfl) hR.1, Nat.le_trans (Nat.le_of_ble_eq_true rfl) hR.2⟩ ⟨Nat.zero_le _, Nat.zero_le _⟩ hdg
  have h := ie c0 h
  by_cases c1 : j0 = 1
  · have h9 := it c1 h
    subst c1
    exact rO (x := yX3_canBe) (C := RX7) (owner := RX3) C0 hK hP hn (fun _ _ _ => trivial) Bt_b (c_X7_canBe hI hj hk_k1 h9) ⟨tw414, tw412, tw434, tw419, tw64, tw420, tw443, by decide, by decide, ar_X3_canBe⟩ tw411 (rcP1 hK hP) hst hcat ⟨rfl, rfl, Nat.le_trans (Nat.le_of_ble_eq_true rfl) hR.1, Nat.le_trans (Nat.le_of_ble_eq_true rfl) hR.2⟩ ⟨Nat.zero_le _, Nat.zero_le _⟩ hdg
  have h := ie c1 h
  by_cases c2 : j0 = 2
  · have h9 := it c2 h
    subst c2
    exact rO (x := yX3_canBe) (C := RX2) (owner := RX3) C0 hK hP hn (fun _ _ _ => trivial) Bt_b (c_X2_canBe hI hj hk_k1 h9) ⟨tw414, tw412, tw426, tw427, tw65, tw428, tw443, by decide, by decide, ar_X3_canBe⟩ tw411 (rcP2 hK hP) hst hcat ⟨rfl, rfl, Nat.le_trans (Nat.le_of_ble_eq_true rfl) hR.1, Nat.le_trans (Nat.le_of_ble_eq_true rfl) hR.2⟩ ⟨Nat.zero_le _, Nat.zero_le _⟩ hdg
  have h := ie c2 h
  by_cases c3 : j0 = 3
  · have h9 := it c3 h
    subst c3
    exact rO (x := yX3_canBe) (C := RX9) (owner := RX3) C0 hK hP hn (fun _ _ _ => trivial) Bt_b (c_X9_canBe hI hj hk_k1 h9) ⟨tw414, tw412, tw435, tw436, tw66, tw437, tw443, by decide, by decide, ar_X3_canBe⟩ tw411 (rcP3 hK hP) hst hcat ⟨rfl, rfl, Nat.le_trans (Nat.le_of_ble_eq_true rfl) hR.1, Nat.le_trans (Nat.le_of_ble_eq_true rfl) hR.2⟩ ⟨Nat.zero_le _, Nat.zero_le _⟩ hdg
  have h := ie c3 h
  by_cases c4 : j0 = 4
  · have h9 := it c4 h
    subst c4
    exact rO (x := yX3_canBe) (C := RX4) (owner := RX3) C0 hK hP hn (fun _ _ _ => trivial) Bt_b (c_X4_canBe hI hj hk_k1 h9) ⟨tw414, tw412, tw430, tw431, tw67, tw432, tw443, by decide, by decide, ar_X3_canBe⟩ tw411 (rcP4 hK hP) hst hcat ⟨rfl, rfl, Nat.le_trans (Nat.le_of_ble_eq_true rfl) hR.1, Nat.le_trans (Nat.le_of_ble_eq_true rfl) hR.2⟩ ⟨Nat.zero_le _, Nat.zero_le _⟩ hdg
  have h := ie c4 h
  by_cases c5 : j0 = 5
  · have h9 := it c5 h
    subst c5
    exact rO (x := yX3_canBe) (C := RX10) (owner := RX3) C0 hK hP hn (fun _ _ _ => trivial) Bt_b (c_X10_canBe hI hj hk_k1 h9) ⟨tw414, tw412, tw440, tw441, tw68, tw442, tw443, by decide, by decide, ar_X3_canBe⟩ tw411 (rcP5 hK hP) hst hcat ⟨rfl, rfl, Nat.le_trans (Nat.le_of_ble_eq_true rfl) hR.1, Nat.le_trans (Nat.le_of_ble_eq_true rfl) hR.2⟩ ⟨Nat.zero_le _, Nat.zero_le _⟩ hdg
  have h := ie c5 h
  by_cases c6 : j0 = 6
  · have h9 := it c6 h
    subst c6
    exact rO (x := yX3_canBe) (C := RX6) (owner := RX3) C0 hK hP hn (fun _ _ _ => trivial) Bt_b (c_X2_canBe hI hj hk_k1 h9) ⟨tw414, tw412, tw433, tw427, tw65, tw428, tw443, by decide, by decide, ar_X3_canBe⟩ tw411 (rcP6 hK hP) hst hcat ⟨rfl, rfl, Nat.le_trans (Nat.le_of_ble_eq_true rfl) hR.1, Nat.le_trans (Nat.le_of_ble_eq_true rfl) hR.2⟩ ⟨Nat.zero_le _, Nat.zero_le _⟩ hdg
  have h := ie c6 h
  by_cases c7 : j0 = 7
  · have h9 := it c7 h
    subst c7
    exact rO (x := yX3_canBe) (C := RX1) (owner := RX3) C0 hK hP hn (fun _ _ _ => trivial) Bt_b (c_X1_canBe hI hj hk_k1 h9) ⟨tw414, tw412, tw415, tw416, tw70, tw417, tw443, by decide, by decide, ar_X3_canBe⟩ tw411 (rcP7 hK hP) hst hcat ⟨rfl, rfl, Nat.le_trans (Nat.le_of_ble_eq_true rfl) hR.1, Nat.le_trans (Nat.le_of_ble_eq_true rfl) hR.2⟩ ⟨Nat.zero_le _, Nat.zero_le _⟩ hdg
  have h := ie c7 h
  cases h
def f_X0_allows (k0 : Nat) (j1 : Nat) (p2 : Int32) (p3 : Int32) (σ : Mem) : Option (Int32) :=
  b1 (f_X0_has k0 p3 σ) fun r_2 =>
  if r_2 = 0 then
    some 0
  else
    b1 (f_dp_canBe j1 k0 p3 p2 σ) fun r_5 =>
    if r_5 = 0 then
      some 0
    else
      some 1
def rm_X0_allows : Room := { frames := 3, cells := 0, slots := 0, locals := 69 }
set_option maxHeartbeats 4000000 in
set_option maxRecDepth 100000 in
theorem c_X0_allows {l : Launch} {D : va_G} {ca : Nat → ClassId} {a : Nat → Nat} (hI : InjN 37 a) {k0 : Nat} {j1 : Nat} {p2 : Int32} {p3 : Int32} {σ : Mem} {r : Int32} (hk_k0 : k0 < 3) (hk_j1 : j1 < 8) (h : f_X0_allows k0 j1 p2 p3 σ = some r) : XMX l D ca a Bt yX0_allows cX0_allows 4 (some .boolean) rm_X0_allows [.ref (a (1 + 2 * k0)), .ref (a (27 + j1)), .int p2, .int p3] σ (some (.int r)) σ := by
  refine XM.of pn_X0 (Nat.le_of_ble_eq_true rfl) ?_
  intro p e s m args below meth c ls Q hQ C0 hK hB hP hS hl
  have C0 : Cx p s m args meth c RX0 cX0_allows 4 (some .boolean) := C0
  have hx := C0.1
  have hb := C0.2.1
  have hl : lv_has ls 4 [(0, .ref (a (1 + 2 * k0))), (1, .ref (a (27 + j1))), (2, .int p2), (3, .int p3)] := hl
  rw [f_X0_allows] at h
  refine lv_aload_n hx hb dX0_allows_0 rfl (lv_at hl 0 rfl) ?_
  refine lv_iload_n hx hb dX0_allows_1 rfl (lv_at hl 3 rfl) ?_
  obtain ⟨r_2, h_1, h⟩ := b1_e h
  refine xcall (rV C0 hK hP hl.1 (fun _ _ _ => trivial) Bt_b (c_X0_has hI hk_k0 h_1) cv_X0_has tw407 (rcX0 hK hP hk_k0) (rest := []) rfl (Nat.le_of_ble_eq_true rfl) ⟨rfl, rfl, Nat.le_of_ble_eq_true rfl, Nat.le_of_ble_eq_true rfl⟩ ⟨Nat.zero_le _, Nat.zero_le _⟩ dX0_allows_2) hS (fun H locs hP hS => ?_)
  refine lv_if_eq (tgt := 22) hx hb dX0_allows_5 (by decide) (fun c_3 => ?_) (fun c_3 => ?_)
  · have h := it c_3 h
    refine lv_iconst (v := 0) hx hb dX0_allows_22 (by decide) ?_
    rw [hQ]
    exact xzretr C0 hP hS rfl h dX0_allows_23
  · have h := ie c_3 h
    refine lv_aload_n hx hb dX0_allows_8 rfl (lv_at hl 1 rfl) ?_
    refine lv_aload_n hx hb dX0_allows_9 rfl (lv_at hl 0 rfl) ?_
    refine lv_iload_n hx hb dX0_allows_10 rfl (lv_at hl 3 rfl) ?_
    refine lv_iload_n hx hb dX0_allows_11 rfl (lv_at hl 2 rfl) ?_
    obtain ⟨r_5, h_4, h⟩ := b1_e h
    refine xcall (dp_X0_canBe hI C0 hK hP hl.1 hk_j1 hk_k0 h_4 (rest := []) rfl (Nat.le_of_ble_eq_true rfl) ⟨Nat.le_of_ble_eq_true rfl, Nat.le_of_ble_eq_true rfl⟩ dX0_allows_12) hS (fun H locs hP hS => ?_)
    refine lv_if_eq (tgt := 22) hx hb dX0_allows_15 (by decide) (fun c_6 => ?_) (fun c_6 => ?_)
    · have h := it c_6 h
      refine lv_iconst (v := 0) hx hb dX0_allows_22 (by decide) ?_
      rw [hQ]
      exact xzretr C0 hP hS rfl h dX0_allows_23
    · have h := ie c_6 h
      refine lv_iconst (v := 1) hx hb dX0_allows_18 (by decide) ?_
      refine lv_goto (tgt := 23) hx hb dX0_allows_19 (by decide) ?_
      rw [hQ]
      exact xzretr C0 hP hS rfl h dX0_allows_23
def f_X3_work (k1 : Nat) (p2 : Int32) (p3 : Int32) : Option (Unit) :=
  some ()
def rm_X3_work : Room := { frames := 0, cells := 0, slots := 0, locals := 0 }
set_option maxHeartbeats 4000000 in
set_option maxRecDepth 100000 in
theorem c_X3_work {l : Launch} {D : va_G} {ca : Nat → ClassId} {a : Nat → Nat} (hI : InjN 37 a) {j0 : Nat} {k1 : Nat} {p2 : Int32} {p3 : Int32} {σ : Mem} (hk_j0 : j0 < 8) (hk_k1 : k1 < 3) (h : f_X3_work k1 p2 p3 = some ()) : XMX l D ca a Bt yX3_work cX3_work 4 none rm_X3_work [.ref (a (27 + j0)), .ref (a (1 + 2 * k1)), .int p2, .int p3] σ none σ := by
  refine XM.of pn_X3 (Nat.le_of_ble_eq_true rfl) ?_
  intro p e s m args below meth c ls Q hQ C0 hK hB hP hS hl
  have C0 : Cx p s m args meth c RX3 cX3_work 4 none := C0
  have hx := C0.1
  have hb := C0.2.1
  have hl : lv_has ls 4 [(0, .ref (a (27 + j0))), (1, .ref (a (1 + 2 * k1))), (2, .int p2), (3, .int p3)] := hl
  rw [f_X3_work] at h
  rw [hQ]
  exact xvret (σ' := σ) C0 hP hS rfl dX3_work_0
def f_X7_work (k1 : Nat) (p2 : Int32) (p3 : Int32) (σ : Mem) : Option (Mem) :=
  b1 (f_X0_widen k1 p2 (-p3) σ) fun σ_2 =>
  b1 (f_X0_keepMore k1 p2 (p3 / 2) σ_2) fun σ_4 =>
  some σ_4
def rm_X7_work : Room := { frames := 2, cells := 0, slots := 0, locals := 46 }
set_option maxHeartbeats 4000000 in
set_option maxRecDepth 100000 in
theorem c_X7_work {l : Launch} {D : va_G} {ca : Nat → ClassId} {a : Nat → Nat} (hI : InjN 37 a) {j0 : Nat} {k1 : Nat} {p2 : Int32} {p3 : Int32} {σ : Mem} {σ' : Mem} (hk_j0 : j0 < 8) (hk_k1 : k1 < 3) (h : f_X7_work k1 p2 p3 σ = some σ') : XMX l D ca a Bt yX7_work cX7_work 4 none rm_X7_work [.ref (a (27 + j0)), .ref (a (1 + 2 * k1)), .int p2, .int p3] σ none σ' := by
  refine XM.of pn_X7 (Nat.le_of_ble_eq_true rfl) ?_
  intro p e s m args below meth c ls Q hQ C0 hK hB hP hS hl
  have C0 : Cx p s m args meth c RX7 cX7_work 4 none := C0
  have hx := C0.1
  have hb := C0.2.1
  have hl : lv_has ls 4 [(0, .ref (a (27 + j0))), (1, .ref (a (1 + 2 * k1))), (2, .int p2), (3, .int p3)] := hl
  rw [f_X7_work] at h
  refine lv_aload_n hx hb dX7_work_0 rfl (lv_at hl 1 rfl) ?_
  refine lv_iload_n hx hb dX7_work_1 rfl (lv_at hl 2 rfl) ?_
  refine lv_iload_n hx hb dX7_work_2 rfl (lv_at hl 3 rfl) ?_
  refine lv_ineg hx hb dX7_work_3 ?_
  obtain ⟨σ_2, h_1, h⟩ := b1_e h
  refine xcall (rV C0 hK hP hl.1 (fun _ _ _ => trivial) Bt_b (c_X0_widen hI hk_k1 h_1) cv_X0_widen tw454 (rcX0 hK hP hk_k1) (rest := []) rfl (Nat.le_of_ble_eq_true rfl) ⟨rfl, rfl, Nat.le_of_ble_eq_true rfl, Nat.le_of_ble_eq_true rfl⟩ ⟨Nat.zero_le _, Nat.zero_le _⟩ dX7_work_4) hS (fun H locs hP hS => ?_)
  refine lv_aload_n hx hb dX7_work_7 rfl (lv_at hl 1 rfl) ?_
  refine lv_iload_n hx hb dX7_work_8 rfl (lv_at hl 2 rfl) ?_
  refine lv_iload_n hx hb dX7_work_9 rfl (lv_at hl 3 rfl) ?_
  refine lv_iconst (v := 2) hx hb dX7_work_10 (by decide) ?_
  refine lv_idiv hx hb dX7_work_11 (by decide) ?_
  obtain ⟨σ_4, h_3, h⟩ := b1_e h
  refine xcall (rV C0 hK hP hl.1 (fun _ _ _ => trivial) Bt_b (c_X0_keepMore hI hk_k1 h_3) cv_X0_keepMore tw462 (rcX0 hK hP hk_k1) (rest := []) rfl (Nat.le_of_ble_eq_true rfl) ⟨rfl, rfl, Nat.le_of_ble_eq_true rfl, Nat.le_of_ble_eq_true rfl⟩ ⟨Nat.zero_le _, Nat.zero_le _⟩ dX7_work_12) hS (fun H locs hP hS => ?_)
  rw [hQ]
  exact xvret C0 hP hS h dX7_work_15
def f_X2_work (k1 : Nat) (p2 : Int32) (p3 : Int32) (σ : Mem) : Option (Mem) :=
  b1 (f_X0_widen k1 p2 p3 σ) fun σ_2 =>
  b1 (f_X0_keepMore k1 p2 (-p3) σ_2) fun σ_4 =>
  some σ_4
def rm_X2_work : Room := { frames := 2, cells := 0, slots := 0, locals := 46 }
set_option maxHeartbeats 4000000 in
set_option maxRecDepth 100000 in
theorem c_X2_work {l : Launch} {D : va_G} {ca : Nat → ClassId} {a : Nat → Nat} (hI : InjN 37 a) {j0 : Nat} {k1 : Nat} {p2 : Int32} {p3 : Int32} {σ : Mem} {σ' : Mem} (hk_j0 : j0 < 8) (hk_k1 : k1 < 3) (h : f_X2_work k1 p2 p3 σ = some σ') : XMX l D ca a Bt yX2_work cX2_work 4 none rm_X2_work [.ref (a (27 + j0)), .ref (a (1 + 2 * k1)), .int p2, .int p3] σ none σ' := by
  refine XM.of pn_X2 (Nat.le_of_ble_eq_true rfl) ?_
  intro p e s m args below meth c ls Q hQ C0 hK hB hP hS hl
  have C0 : Cx p s m args meth c RX2 cX2_work 4 none := C0
  have hx := C0.1
  have hb := C0.2.1
  have hl : lv_has ls 4 [(0, .ref (a (27 + j0))), (1, .ref (a (1 + 2 * k1))), (2, .int p2), (3, .int p3)] := hl
  rw [f_X2_work] at h
  refine lv_aload_n hx hb dX2_work_0 rfl (lv_at hl 1 rfl) ?_
  refine lv_iload_n hx hb dX2_work_1 rfl (lv_at hl 2 rfl) ?_
  refine lv_iload_n hx hb dX2_work_2 rfl (lv_at hl 3 rfl) ?_
  obtain ⟨σ_2, h_1, h⟩ := b1_e h
  refine xcall (rV C0 hK hP hl.1 (fun _ _ _ => trivial) Bt_b (c_X0_widen hI hk_k1 h_1) cv_X0_widen tw470 (rcX0 hK hP hk_k1) (rest := []) rfl (Nat.le_of_ble_eq_true rfl) ⟨rfl, rfl, Nat.le_of_ble_eq_true rfl, Nat.le_of_ble_eq_true rfl⟩ ⟨Nat.zero_le _, Nat.zero_le _⟩ dX2_work_3) hS (fun H locs hP hS => ?_)
  refine lv_aload_n hx hb dX2_work_6 rfl (lv_at hl 1 rfl) ?_
  refine lv_iload_n hx hb dX2_work_7 rfl (lv_at hl 2 rfl) ?_
  refine lv_iload_n hx hb dX2_work_8 rfl (lv_at hl 3 rfl) ?_
  refine lv_ineg hx hb dX2_work_9 ?_
  obtain ⟨σ_4, h_3, h⟩ := b1_e h
  refine xcall (rV C0 hK hP hl.1 (fun _ _ _ => trivial) Bt_b (c_X0_keepMore hI hk_k1 h_3) cv_X0_keepMore tw471 (rcX0 hK hP hk_k1) (rest := []) rfl (Nat.le_of_ble_eq_true rfl) ⟨rfl, rfl, Nat.le_of_ble_eq_true rfl, Nat.le_of_ble_eq_true rfl⟩ ⟨Nat.zero_le _, Nat.zero_le _⟩ dX2_work_10) hS (fun H locs hP hS => ?_)
  rw [hQ]
  exact xvret C0 hP hS h dX2_work_13
def f_X9_work (k1 : Nat) (p2 : Int32) (p3 : Int32) (σ : Mem) : Option (Mem) :=
  b1 (f_X7_work k1 p2 p3 σ) fun σ_2 =>
  b1 (f_X0_widen k1 (p2 + 1) p3 σ_2) fun σ_4 =>
  some σ_4
def rm_X9_work : Room := { frames := 3, cells := 0, slots := 0, locals := 69 }
set_option maxHeartbeats 4000000 in
set_option maxRecDepth 100000 in
theorem c_X9_work {l : Launch} {D : va_G} {ca : Nat → ClassId} {a : Nat → Nat} (hI : InjN 37 a) {j0 : Nat} {k1 : Nat} {p2 : Int32} {p3 : Int32} {σ : Mem} {σ' : Mem} (hk_j0 : j0 < 8) (hk_k1 : k1 < 3) (h : f_X9_work k1 p2 p3 σ = some σ') : XMX l D ca a Bt yX9_work cX9_work 4 none rm_X9_work [.ref (a (27 + j0)), .ref (a (1 + 2 * k1)), .int p2, .int p3] σ none σ' := by
  refine XM.of pn_X9 (Nat.le_of_ble_eq_true rfl) ?_
  intro p e s m args below meth c ls Q hQ C0 hK hB hP hS hl
  have C0 : Cx p s m args meth c RX9 cX9_work 4 none := C0
  have hx := C0.1
  have hb := C0.2.1
  have hl : lv_has ls 4 [(0, .ref (a (27 + j0))), (1, .ref (a (1 + 2 * k1))), (2, .int p2), (3, .int p3)] := hl
  rw [f_X9_work] at h
  refine lv_aload_n hx hb dX9_work_0 rfl (lv_at hl 0 rfl) ?_
  refine lv_aload_n hx hb dX9_work_1 rfl (lv_at hl 1 rfl) ?_
  refine lv_iload_n hx hb dX9_work_2 rfl (lv_at hl 2 rfl) ?_
  refine lv_iload_n hx hb dX9_work_3 rfl (lv_at hl 3 rfl) ?_
  obtain ⟨σ_2, h_1, h⟩ := b1_e h
  obtain ⟨C9, cC9, hat9, hr9⟩ := rcP hK hP hk_j0
  refine xcall (rSU C0 hK hP hl.1 (fun _ _ _ => trivial) Bt_b (c_X7_work hI hk_j0 hk_k1 h_1) cu_X7_work ⟨tw488, tw1333, tw204⟩ hat9 hr9 (rest := []) rfl (Nat.le_of_ble_eq_true rfl) ⟨rfl, rfl, Nat.le_of_ble_eq_true rfl, Nat.le_of_ble_eq_true rfl⟩ ⟨Nat.zero_le _, Nat.zero_le _⟩ dX9_work_4) hS (fun H locs hP hS => ?_)
  refine lv_aload_n hx hb dX9_work_7 rfl (lv_at hl 1 rfl) ?_
  refine lv_iload_n hx hb dX9_work_8 rfl (lv_at hl 2 rfl) ?_
  refine lv_iconst (v := 1) hx hb dX9_work_9 (by decide) ?_
  refine lv_iadd hx hb dX9_work_10 ?_
  refine lv_iload_n hx hb dX9_work_11 rfl (lv_at hl 3 rfl) ?_
  obtain ⟨σ_4, h_3, h⟩ := b1_e h
  refine xcall (rV C0 hK hP hl.1 (fun _ _ _ => trivial) Bt_b (c_X0_widen hI hk_k1 h_3) cv_X0_widen tw489 (rcX0 hK hP hk_k1) (rest := []) rfl (Nat.le_of_ble_eq_true rfl) ⟨rfl, rfl, Nat.le_of_ble_eq_true rfl, Nat.le_of_ble_eq_true rfl⟩ ⟨Nat.zero_le _, Nat.zero_le _⟩ dX9_work_12) hS (fun H locs hP hS => ?_)
  rw [hQ]
  exact xvret C0 hP hS h dX9_work_15
def f_X4_work (k1 : Nat) (p2 : Int32) (p3 : Int32) (σ : Mem) : Option (Mem) :=
  b1 (f_X0_widen k1 p2 (2 * p3) σ) fun σ_2 =>
  some σ_2
def rm_X4_work : Room := { frames := 2, cells := 0, slots := 0, locals := 46 }
set_option maxHeartbeats 4000000 in
set_option maxRecDepth 100000 in
theorem c_X4_work {l : Launch} {D : va_G} {ca : Nat → ClassId} {a : Nat → Nat} (hI : InjN 37 a) {j0 : Nat} {k1 : Nat} {p2 : Int32} {p3 : Int32} {σ : Mem} {σ' : Mem} (hk_j0 : j0 < 8) (hk_k1 : k1 < 3) (h : f_X4_work k1 p2 p3 σ = some σ') : XMX l D ca a Bt yX4_work cX4_work 4 none rm_X4_work [.ref (a (27 + j0)), .ref (a (1 + 2 * k1)), .int p2, .int p3] σ none σ' := by
  refine XM.of pn_X4 (Nat.le_of_ble_eq_true rfl) ?_
  intro p e s m args below meth c ls Q hQ C0 hK hB hP hS hl
  have C0 : Cx p s m args meth c RX4 cX4_work 4 none := C0
  have hx := C0.1
  have hb := C0.2.1
  have hl : lv_has ls 4 [(0, .ref (a (27 + j0))), (1, .ref (a (1 + 2 * k1))), (2, .int p2), (3, .int p3)] := hl
  rw [f_X4_work] at h
  refine lv_aload_n hx hb dX4_work_0 rfl (lv_at hl 1 rfl) ?_
  refine lv_iload_n hx hb dX4_work_1 rfl (lv_at hl 2 rfl) ?_
  refine lv_iconst (v := 2) hx hb dX4_work_2 (by decide) ?_
  refine lv_iload_n hx hb dX4_work_3 rfl (lv_at hl 3 rfl) ?_
  refine lv_imul hx hb dX4_work_4 ?_
  obtain ⟨σ_2, h_1, h⟩ := b1_e h
  refine xcall (rV C0 hK hP hl.1 (fun _ _ _ => trivial) Bt_b (c_X0_widen hI hk_k1 h_1) cv_X0_widen tw475 (rcX0 hK hP hk_k1) (rest := []) rfl (Nat.le_of_ble_eq_true rfl) ⟨rfl, rfl, Nat.le_of_ble_eq_true rfl, Nat.le_of_ble_eq_true rfl⟩ ⟨Nat.zero_le _, Nat.zero_le _⟩ dX4_work_5) hS (fun H locs hP hS => ?_)
  rw [hQ]
  exact xvret C0 hP hS h dX4_work_8
def f_X10_work (k1 : Nat) (p2 : Int32) (p3 : Int32) (σ : Mem) : Option (Mem) :=
  b1 (f_X0_pierce k1 (-1) σ) fun σ_2 =>
  some σ_2
def rm_X10_work : Room := { frames := 2, cells := 0, slots := 0, locals := 42 }
set_option maxHeartbeats 4000000 in
set_option maxRecDepth 100000 in
theorem c_X10_work {l : Launch} {D : va_G} {ca : Nat → ClassId} {a : Nat → Nat} (hI : InjN 37 a) {j0 : Nat} {k1 : Nat} {p2 : Int32} {p3 : Int32} {σ : Mem} {σ' : Mem} (hk_j0 : j0 < 8) (hk_k1 : k1 < 3) (h : f_X10_work k1 p2 p3 σ = some σ') : XMX l D ca a Bt yX10_work cX10_work 4 none rm_X10_work [.ref (a (27 + j0)), .ref (a (1 + 2 * k1)), .int p2, .int p3] σ none σ' := by
  refine XM.of pn_X10 (Nat.le_of_ble_eq_true rfl) ?_
  intro p e s m args below meth c ls Q hQ C0 hK hB hP hS hl
  have C0 : Cx p s m args meth c RX10 cX10_work 4 none := C0
  have hx := C0.1
  have hb := C0.2.1
  have hl : lv_has ls 4 [(0, .ref (a (27 + j0))), (1, .ref (a (1 + 2 * k1))), (2, .int p2), (3, .int p3)] := hl
  rw [f_X10_work] at h
  refine lv_aload_n hx hb dX10_work_0 rfl (lv_at hl 1 rfl) ?_
  refine lv_iconst (v := (-1)) hx hb dX10_work_1 (by decide) ?_
  obtain ⟨σ_2, h_1, h⟩ := b1_e h
  refine xcall (rV C0 hK hP hl.1 (fun _ _ _ => trivial) Bt_b (c_X0_pierce hI hk_k1 h_1) cv_X0_pierce tw493 (rcX0 hK hP hk_k1) (rest := []) rfl (Nat.le_of_ble_eq_true rfl) ⟨rfl, rfl, Nat.le_of_ble_eq_true rfl, Nat.le_of_ble_eq_true rfl⟩ ⟨Nat.zero_le _, Nat.zero_le _⟩ dX10_work_2) hS (fun H locs hP hS => ?_)
  rw [hQ]
  exact xvret C0 hP hS h dX10_work_5
def f_X6_work (k1 : Nat) (p2 : Int32) (p3 : Int32) (σ : Mem) : Option (Mem) :=
  b1 (f_X2_work k1 p2 p3 σ) fun σ_2 =>
  b1 (f_X0_pierce k1 p3 σ_2) fun σ_4 =>
  some σ_4
def rm_X6_work : Room := { frames := 3, cells := 0, slots := 0, locals := 69 }
set_option maxHeartbeats 4000000 in
set_option maxRecDepth 100000 in
theorem c_X6_work {l : Launch} {D : va_G} {ca : Nat → ClassId} {a : Nat → Nat} (hI : InjN 37 a) {j0 : Nat} {k1 : Nat} {p2 : Int32} {p3 : Int32} {σ : Mem} {σ' : Mem} (hk_j0 : j0 < 8) (hk_k1 : k1 < 3) (h : f_X6_work k1 p2 p3 σ = some σ') : XMX l D ca a Bt yX6_work cX6_work 4 none rm_X6_work [.ref (a (27 + j0)), .ref (a (1 + 2 * k1)), .int p2, .int p3] σ none σ' := by
  refine XM.of pn_X6 (Nat.le_of_ble_eq_true rfl) ?_
  intro p e s m args below meth c ls Q hQ C0 hK hB hP hS hl
  have C0 : Cx p s m args meth c RX6 cX6_work 4 none := C0
  have hx := C0.1
  have hb := C0.2.1
  have hl : lv_has ls 4 [(0, .ref (a (27 + j0))), (1, .ref (a (1 + 2 * k1))), (2, .int p2), (3, .int p3)] := hl
  rw [f_X6_work] at h
  refine lv_aload_n hx hb dX6_work_0 rfl (lv_at hl 0 rfl) ?_
  refine lv_aload_n hx hb dX6_work_1 rfl (lv_at hl 1 rfl) ?_
  refine lv_iload_n hx hb dX6_work_2 rfl (lv_at hl 2 rfl) ?_
  refine lv_iload_n hx hb dX6_work_3 rfl (lv_at hl 3 rfl) ?_
  obtain ⟨σ_2, h_1, h⟩ := b1_e h
  obtain ⟨C9, cC9, hat9, hr9⟩ := rcP hK hP hk_j0
  refine xcall (rSU C0 hK hP hl.1 (fun _ _ _ => trivial) Bt_b (c_X2_work hI hk_j0 hk_k1 h_1) cu_X2_work ⟨tw479, tw1334, tw225⟩ hat9 hr9 (rest := []) rfl (Nat.le_of_ble_eq_true rfl) ⟨rfl, rfl, Nat.le_of_ble_eq_true rfl, Nat.le_of_ble_eq_true rfl⟩ ⟨Nat.zero_le _, Nat.zero_le _⟩ dX6_work_4) hS (fun H locs hP hS => ?_)
  refine lv_aload_n hx hb dX6_work_7 rfl (lv_at hl 1 rfl) ?_
  refine lv_iload_n hx hb dX6_work_8 rfl (lv_at hl 3 rfl) ?_
  obtain ⟨σ_4, h_3, h⟩ := b1_e h
  refine xcall (rV C0 hK hP hl.1 (fun _ _ _ => trivial) Bt_b (c_X0_pierce hI hk_k1 h_3) cv_X0_pierce tw480 (rcX0 hK hP hk_k1) (rest := []) rfl (Nat.le_of_ble_eq_true rfl) ⟨rfl, rfl, Nat.le_of_ble_eq_true rfl, Nat.le_of_ble_eq_true rfl⟩ ⟨Nat.zero_le _, Nat.zero_le _⟩ dX6_work_9) hS (fun H locs hP hS => ?_)
  rw [hQ]
  exact xvret C0 hP hS h dX6_work_12
def f_X1_work_L10 (k1 : Nat) (p2 : Int32) : Nat → Int32 → Mem → (Int32 → Mem → Option (Mem)) → Option (Mem)
  | 0, _, _, _ => none
  | n + 1, x4_3, σ_4, K1 =>
    if p2 ≤ x4_3 then
      K1 x4_3 σ_4
    else
      b1 (f_X0_widen k1 x4_3 (-1) σ_4) fun σ_7 =>
      bnd (x4_3 + 1) fun (x4_8 : Int32) =>
      f_X1_work_L10 k1 p2 n x4_8 σ_7 K1
def f_X1_work (k1 : Nat) (p2 : Int32) (p3 : Int32) (σ : Mem) : Option (Mem) :=
  b1 (f_X7_work k1 p2 p3 σ) fun σ_2 =>
  f_X1_work_L10 k1 p2 5000 0 σ_2 fun (u_9 : Int32) (σ_10 : Mem) =>
    some σ_10
def rm_X1_work : Room := { frames := 3, cells := 0, slots := 0, locals := 69 }
set_option maxHeartbeats 4000000 in
set_option maxRecDepth 100000 in
theorem c_X1_work {l : Launch} {D : va_G} {ca : Nat → ClassId} {a : Nat → Nat} (hI : InjN 37 a) {j0 : Nat} {k1 : Nat} {p2 : Int32} {p3 : Int32} {σ : Mem} {σ' : Mem} (hk_j0 : j0 < 8) (hk_k1 : k1 < 3) (h : f_X1_work k1 p2 p3 σ = some σ') : XMX l D ca a Bt yX1_work cX1_work 5 none rm_X1_work [.ref (a (27 + j0)), .ref (a (1 + 2 * k1)), .int p2, .int p3] σ none σ' := by
  refine XM.of pn_X1 (Nat.le_of_ble_eq_true rfl) ?_
  intro p e s m args below meth c ls Q hQ C0 hK hB hP hS hl
  have C0 : Cx p s m args meth c RX1 cX1_work 5 none := C0
  have hx := C0.1
  have hb := C0.2.1
  have hl : lv_has ls 5 [(0, .ref (a (27 + j0))), (1, .ref (a (1 + 2 * k1))), (2, .int p2), (3, .int p3)] := hl
  rw [f_X1_work] at h
  refine lv_aload_n hx hb dX1_work_0 rfl (lv_at hl 0 rfl) ?_
  refine lv_aload_n hx hb dX1_work_1 rfl (lv_at hl 1 rfl) ?_
  refine lv_iload_n hx hb dX1_work_2 rfl (lv_at hl 2 rfl) ?_
  refine lv_iload_n hx hb dX1_work_3 rfl (lv_at hl 3 rfl) ?_
  obtain ⟨σ_2, h_1, h⟩ := b1_e h
  obtain ⟨C9, cC9, hat9, hr9⟩ := rcP hK hP hk_j0
  refine xcall (rSU C0 hK hP hl.1 (fun _ _ _ => trivial) Bt_b (c_X7_work hI hk_j0 hk_k1 h_1) cu_X7_work ⟨tw451, tw1333, tw232⟩ hat9 hr9 (rest := []) rfl (Nat.le_of_ble_eq_true rfl) ⟨rfl, rfl, Nat.le_of_ble_eq_true rfl, Nat.le_of_ble_eq_true rfl⟩ ⟨Nat.zero_le _, Nat.zero_le _⟩ dX1_work_4) hS (fun H locs hP hS => ?_)
  refine lv_iconst (v := 0) hx hb dX1_work_7 (by decide) ?_
  refine lv_istore (lv' := [(4, .int 0), (0, .ref (a (27 + j0))), (1, .ref (a (1 + 2 * k1))), (2, .int p2), (3, .int p3)]) hx hb dX1_work_8 hl (by decide) rfl (fun ls hl => ?_)
  obtain ⟨K1, eK1, h⟩ := lp_e (f := fun K => f_X1_work_L10 k1 p2 5000 0 σ_2 K) h
  have h : f_X1_work_L10 k1 p2 5000 0 σ_2 K1 = some σ' := h
  have hX1 : ∀ (u_9 : Int32) (σ_10 : Mem) (H : Heap) (locs : List Loc) (ls : Array Slot), K1 u_9 σ_10 = some σ' → va_P D vwCl (wX ca a σ_10) H → va_S (AW 37 a) s.heap H locs → lv_has ls 5 [] → W p l e rm_X1_work s m args below meth c H locs 0 0 Q (F0 m 29 ls []) := by
    intro u_9 σ_10 H locs ls h hP hS hl
    have h := ap2 eK1 h
    rw [hQ]
    exact xvret C0 hP hS h dX1_work_29
  have hL1 : ∀ (n : Nat) (x4_3 : Int32) (σ_4 : Mem) (H : Heap) (locs : List Loc) (ls : Array Slot), f_X1_work_L10 k1 p2 n x4_3 σ_4 K1 = some σ' → va_P D vwCl (wX ca a σ_4) H → va_S (AW 37 a) s.heap H locs → lv_has ls 5 [(1, .ref (a (1 + 2 * k1))), (2, .int p2), (4, .int x4_3)] → W p l e rm_X1_work s m args below meth c H locs 0 0 Q (F0 m 10 ls []) := by
    intro n
    induction n with
    | zero => intro x4_3 σ_4 H locs ls h; rw [f_X1_work_L10] at h; cases h
    | succ n ih1 =>
      intro x4_3 σ_4 H locs ls h hP hS hl
      rw [f_X1_work_L10] at h
      refine lv_iload hx hb dX1_work_10 (lv_at hl 2 rfl) ?_
      refine lv_iload_n hx hb dX1_work_12 rfl (lv_at hl 1 rfl) ?_
      refine lv_icmp_ge (tgt := 29) hx hb dX1_work_13 (by decide) (fun c_5 => ?_) (fun c_5 => ?_)
      · have h := it c_5 h
        exact hX1 x4_3 σ_4 _ _ ls h hP hS (lv_sub hl [] rfl)
      · have h := ie c_5 h
        refine lv_aload_n hx hb dX1_work_16 rfl (lv_at hl 0 rfl) ?_
        refine lv_iload hx hb dX1_work_17 (lv_at hl 2 rfl) ?_
        refine lv_iconst (v := (-1)) hx hb dX1_work_19 (by decide) ?_
        obtain ⟨σ_7, h_6, h⟩ := b1_e h
        refine xcall (rV C0 hK hP hl.1 (fun _ _ _ => trivial) Bt_b (c_X0_widen hI hk_k1 h_6) cv_X0_widen tw466 (rcX0 hK hP hk_k1) (rest := []) rfl (Nat.le_of_ble_eq_true rfl) ⟨rfl, rfl, Nat.le_of_ble_eq_true rfl, Nat.le_of_ble_eq_true rfl⟩ ⟨Nat.zero_le _, Nat.zero_le _⟩ dX1_work_20) hS (fun H locs hP hS => ?_)
        obtain ⟨x4_8, ex4_8, h⟩ := bnd_e h
        refine lv_iinc (v := x4_8) (lv' := [(4, .int x4_8), (1, .ref (a (1 + 2 * k1))), (2, .int p2)]) hx hb dX1_work_23 hl (k := 2) rfl (by rw [ex4_8]; rfl) (by decide) rfl (fun ls hl => ?_)
        refine lv_goto (tgt := 10) hx hb dX1_work_26 (by decide) ?_
        exact ih1 x4_8 σ_7 _ _ ls h hP hS (lv_sub hl [1, 2, 0] rfl)
  exact hL1 5000 0 σ_2 _ _ ls h hP hS (lv_sub hl [2, 3, 0] rfl)
def f_X3_cost (p1 : Int32) : Option (Int32) :=
  some 1
def rm_X3_cost : Room := { frames := 0, cells := 0, slots := 0, locals := 0 }
set_option maxHeartbeats 4000000 in
set_option maxRecDepth 100000 in
theorem c_X3_cost {l : Launch} {D : va_G} {ca : Nat → ClassId} {a : Nat → Nat} (hI : InjN 37 a) {j0 : Nat} {p1 : Int32} {σ : Mem} {r : Int32} (hk_j0 : j0 < 8) (h : f_X3_cost p1 = some r) : XMX l D ca a Bt yX3_cost cX3_cost 2 (some .int) rm_X3_cost [.ref (a (27 + j0)), .int p1] σ (some (.int r)) σ := by
  refine XM.of pn_X3 (Nat.le_of_ble_eq_true rfl) ?_
  intro p e s m args below meth c ls Q hQ C0 hK hB hP hS hl
  have C0 : Cx p s m args meth c RX3 cX3_cost 2 (some .int) := C0
  have hx := C0.1
  have hb := C0.2.1
  have hl : lv_has ls 2 [(0, .ref (a (27 + j0))), (1, .int p1)] := hl
  rw [f_X3_cost] at h
  refine lv_iconst (v := 1) hx hb dX3_cost_0 (by decide) ?_
  rw [hQ]
  exact xzretr C0 hP hS rfl h dX3_cost_1
def f_X7_cost (p1 : Int32) : Option (Int32) :=
  b1 (f_X3_cost p1) fun r_2 =>
  some (r_2 + p1)
def rm_X7_cost : Room := { frames := 1, cells := 0, slots := 0, locals := 21 }
set_option maxHeartbeats 4000000 in
set_option maxRecDepth 100000 in
theorem c_X7_cost {l : Launch} {D : va_G} {ca : Nat → ClassId} {a : Nat → Nat} (hI : InjN 37 a) {j0 : Nat} {p1 : Int32} {σ : Mem} {r : Int32} (hk_j0 : j0 < 8) (h : f_X7_cost p1 = some r) : XMX l D ca a Bt yX7_cost cX7_cost 2 (some .int) rm_X7_cost [.ref (a (27 + j0)), .int p1] σ (some (.int r)) σ := by
  refine XM.of pn_X7 (Nat.le_of_ble_eq_true rfl) ?_
  intro p e s m args below meth c ls Q hQ C0 hK hB hP hS hl
  have C0 : Cx p s m args meth c RX7 cX7_cost 2 (some .int) := C0
  have hx := C0.1
  have hb := C0.2.1
  have hl : lv_has ls 2 [(0, .ref (a (27 + j0))), (1, .int p1)] := hl
  rw [f_X7_cost] at h
  refine lv_aload_n hx hb dX7_cost_0 rfl (lv_at hl 0 rfl) ?_
  refine lv_iload_n hx hb dX7_cost_1 rfl (lv_at hl 1 rfl) ?_
  obtain ⟨r_2, h_1, h⟩ := b1_e h
  obtain ⟨C9, cC9, hat9, hr9⟩ := rcP hK hP hk_j0
  refine xcall (rSU C0 hK hP hl.1 (fun _ _ _ => trivial) Bt_b (c_X3_cost hI hk_j0 h_1) cu_X3_cost ⟨tw505, tw498, tw190⟩ hat9 hr9 (rest := []) rfl (Nat.le_of_ble_eq_true rfl) ⟨rfl, rfl, Nat.le_of_ble_eq_true rfl, Nat.le_of_ble_eq_true rfl⟩ ⟨Nat.zero_le _, Nat.zero_le _⟩ dX7_cost_2) hS (fun H locs hP hS => ?_)
  refine lv_iload_n hx hb dX7_cost_5 rfl (lv_at hl 1 rfl) ?_
  refine lv_iadd hx hb dX7_cost_6 ?_
  rw [hQ]
  exact xzretr C0 hP hS rfl h dX7_cost_7
def f_X2_cost (p1 : Int32) : Option (Int32) :=
  b1 (f_X3_cost p1) fun r_2 =>
  some (r_2 + (2 * p1))
def rm_X2_cost : Room := { frames := 1, cells := 0, slots := 0, locals := 21 }
set_option maxHeartbeats 4000000 in
set_option maxRecDepth 100000 in
theorem c_X2_cost {l : Launch} {D : va_G} {ca : Nat → ClassId} {a : Nat → Nat} (hI : InjN 37 a) {j0 : Nat} {p1 : Int32} {σ : Mem} {r : Int32} (hk_j0 : j0 < 8) (h : f_X2_cost p1 = some r) : XMX l D ca a Bt yX2_cost cX2_cost 2 (some .int) rm_X2_cost [.ref (a (27 + j0)), .int p1] σ (some (.int r)) σ := by
  refine XM.of pn_X2 (Nat.le_of_ble_eq_true rfl) ?_
  intro p e s m args below meth c ls Q hQ C0 hK hB hP hS hl
  have C0 : Cx p s m args meth c RX2 cX2_cost 2 (some .int) := C0
  have hx := C0.1
  have hb := C0.2.1
  have hl : lv_has ls 2 [(0, .ref (a (27 + j0))), (1, .int p1)] := hl
  rw [f_X2_cost] at h
  refine lv_aload_n hx hb dX2_cost_0 rfl (lv_at hl 0 rfl) ?_
  refine lv_iload_n hx hb dX2_cost_1 rfl (lv_at hl 1 rfl) ?_
  obtain ⟨r_2, h_1, h⟩ := b1_e h
  obtain ⟨C9, cC9, hat9, hr9⟩ := rcP hK hP hk_j0
  refine xcall (rSU C0 hK hP hl.1 (fun _ _ _ => trivial) Bt_b (c_X3_cost hI hk_j0 h_1) cu_X3_cost ⟨tw509, tw498, tw197⟩ hat9 hr9 (rest := []) rfl (Nat.le_of_ble_eq_true rfl) ⟨rfl, rfl, Nat.le_of_ble_eq_true rfl, Nat.le_of_ble_eq_true rfl⟩ ⟨Nat.zero_le _, Nat.zero_le _⟩ dX2_cost_2) hS (fun H locs hP hS => ?_)
  refine lv_iconst (v := 2) hx hb dX2_cost_5 (by decide) ?_
  refine lv_iload_n hx hb dX2_cost_6 rfl (lv_at hl 1 rfl) ?_
  refine lv_imul hx hb dX2_cost_7 ?_
  refine lv_iadd hx hb dX2_cost_8 ?_
  rw [hQ]
  exact xzretr C0 hP hS rfl h dX2_cost_9
def f_X9_cost (p1 : Int32) : Option (Int32) :=
  b1 (f_X7_cost p1) fun r_2 =>
  some (3 * r_2)
def rm_X9_cost : Room := { frames := 2, cells := 0, slots := 0, locals := 42 }
set_option maxHeartbeats 4000000 in
set_option maxRecDepth 100000 in
theorem c_X9_cost {l : Launch} {D : va_G} {ca : Nat → ClassId} {a : Nat → Nat} (hI : InjN 37 a) {j0 : Nat} {p1 : Int32} {σ : Mem} {r : Int32} (hk_j0 : j0 < 8) (h : f_X9_cost p1 = some r) : XMX l D ca a Bt yX9_cost cX9_cost 2 (some .int) rm_X9_cost [.ref (a (27 + j0)), .int p1] σ (some (.int r)) σ := by
  refine XM.of pn_X9 (Nat.le_of_ble_eq_true rfl) ?_
  intro p e s m args below meth c ls Q hQ C0 hK hB hP hS hl
  have C0 : Cx p s m args meth c RX9 cX9_cost 2 (some .int) := C0
  have hx := C0.1
  have hb := C0.2.1
  have hl : lv_has ls 2 [(0, .ref (a (27 + j0))), (1, .int p1)] := hl
  rw [f_X9_cost] at h
  refine lv_iconst (v := 3) hx hb dX9_cost_0 (by decide) ?_
  refine lv_aload_n hx hb dX9_cost_1 rfl (lv_at hl 0 rfl) ?_
  refine lv_iload_n hx hb dX9_cost_2 rfl (lv_at hl 1 rfl) ?_
  obtain ⟨r_2, h_1, h⟩ := b1_e h
  obtain ⟨C9, cC9, hat9, hr9⟩ := rcP hK hP hk_j0
  refine xcall (rSU C0 hK hP hl.1 (fun _ _ _ => trivial) Bt_b (c_X7_cost hI hk_j0 h_1) cu_X7_cost ⟨tw522, tw1335, tw204⟩ hat9 hr9 (rest := [.int 3]) rfl (Nat.le_of_ble_eq_true rfl) ⟨rfl, rfl, Nat.le_of_ble_eq_true rfl, Nat.le_of_ble_eq_true rfl⟩ ⟨Nat.zero_le _, Nat.zero_le _⟩ dX9_cost_3) hS (fun H locs hP hS => ?_)
  refine lv_imul hx hb dX9_cost_6 ?_
  rw [hQ]
  exact xzretr C0 hP hS rfl h dX9_cost_7
def f_X4_cost (p1 : Int32) : Option (Int32) :=
  b1 (f_X2_cost p1) fun r_2 =>
  some (r_2 + 9)
def rm_X4_cost : Room := { frames := 2, cells := 0, slots := 0, locals := 42 }
set_option maxHeartbeats 4000000 in
set_option maxRecDepth 100000 in
theorem c_X4_cost {l : Launch} {D : va_G} {ca : Nat → ClassId} {a : Nat → Nat} (hI : InjN 37 a) {j0 : Nat} {p1 : Int32} {σ : Mem} {r : Int32} (hk_j0 : j0 < 8) (h : f_X4_cost p1 = some r) : XMX l D ca a Bt yX4_cost cX4_cost 2 (some .int) rm_X4_cost [.ref (a (27 + j0)), .int p1] σ (some (.int r)) σ := by
  refine XM.of pn_X4 (Nat.le_of_ble_eq_true rfl) ?_
  intro p e s m args below meth c ls Q hQ C0 hK hB hP hS hl
  have C0 : Cx p s m args meth c RX4 cX4_cost 2 (some .int) := C0
  have hx := C0.1
  have hb := C0.2.1
  have hl : lv_has ls 2 [(0, .ref (a (27 + j0))), (1, .int p1)] := hl
  rw [f_X4_cost] at h
  refine lv_aload_n hx hb dX4_cost_0 rfl (lv_at hl 0 rfl) ?_
  refine lv_iload_n hx hb dX4_cost_1 rfl (lv_at hl 1 rfl) ?_
  obtain ⟨r_2, h_1, h⟩ := b1_e h
  obtain ⟨C9, cC9, hat9, hr9⟩ := rcP hK hP hk_j0
  refine xcall (rSU C0 hK hP hl.1 (fun _ _ _ => trivial) Bt_b (c_X2_cost hI hk_j0 h_1) cu_X2_cost ⟨tw513, tw1336, tw211⟩ hat9 hr9 (rest := []) rfl (Nat.le_of_ble_eq_true rfl) ⟨rfl, rfl, Nat.le_of_ble_eq_true rfl, Nat.le_of_ble_eq_true rfl⟩ ⟨Nat.zero_le _, Nat.zero_le _⟩ dX4_cost_2) hS (fun H locs hP hS => ?_)
  refine lv_bipush (v := 9) hx hb dX4_cost_5 (by decide) ?_
  refine lv_iadd hx hb dX4_cost_7 ?_
  rw [hQ]
  exact xzretr C0 hP hS rfl h dX4_cost_8
def f_X10_cost (p1 : Int32) : Option (Int32) :=
  b1 (f_X3_cost p1) fun r_2 =>
  some (r_2 - 1)
def rm_X10_cost : Room := { frames := 1, cells := 0, slots := 0, locals := 21 }
set_option maxHeartbeats 4000000 in
set_option maxRecDepth 100000 in
theorem c_X10_cost {l : Launch} {D : va_G} {ca : Nat → ClassId} {a : Nat → Nat} (hI : InjN 37 a) {j0 : Nat} {p1 : Int32} {σ : Mem} {r : Int32} (hk_j0 : j0 < 8) (h : f_X10_cost p1 = some r) : XMX l D ca a Bt yX10_cost cX10_cost 2 (some .int) rm_X10_cost [.ref (a (27 + j0)), .int p1] σ (some (.int r)) σ := by
  refine XM.of pn_X10 (Nat.le_of_ble_eq_true rfl) ?_
  intro p e s m args below meth c ls Q hQ C0 hK hB hP hS hl
  have C0 : Cx p s m args meth c RX10 cX10_cost 2 (some .int) := C0
  have hx := C0.1
  have hb := C0.2.1
  have hl : lv_has ls 2 [(0, .ref (a (27 + j0))), (1, .int p1)] := hl
  rw [f_X10_cost] at h
  refine lv_aload_n hx hb dX10_cost_0 rfl (lv_at hl 0 rfl) ?_
  refine lv_iload_n hx hb dX10_cost_1 rfl (lv_at hl 1 rfl) ?_
  obtain ⟨r_2, h_1, h⟩ := b1_e h
  obtain ⟨C9, cC9, hat9, hr9⟩ := rcP hK hP hk_j0
  refine xcall (rSU C0 hK hP hl.1 (fun _ _ _ => trivial) Bt_b (c_X3_cost hI hk_j0 h_1) cu_X3_cost ⟨tw526, tw498, tw218⟩ hat9 hr9 (rest := []) rfl (Nat.le_of_ble_eq_true rfl) ⟨rfl, rfl, Nat.le_of_ble_eq_true rfl, Nat.le_of_ble_eq_true rfl⟩ ⟨Nat.zero_le _, Nat.zero_le _⟩ dX10_cost_2) hS (fun H locs hP hS => ?_)
  refine lv_iconst (v := 1) hx hb dX10_cost_5 (by decide) ?_
  refine lv_isub hx hb dX10_cost_6 ?_
  rw [hQ]
  exact xzretr C0 hP hS rfl h dX10_cost_7
def f_X6_cost (p1 : Int32) : Option (Int32) :=
  b1 (f_X2_cost p1) fun r_2 =>
  some (r_2 - p1)
def rm_X6_cost : Room := { frames := 2, cells := 0, slots := 0, locals := 42 }
set_option maxHeartbeats 4000000 in
set_option maxRecDepth 100000 in
theorem c_X6_cost {l : Launch} {D : va_G} {ca : Nat → ClassId} {a : Nat → Nat} (hI : InjN 37 a) {j0 : Nat} {p1 : Int32} {σ : Mem} {r : Int32} (hk_j0 : j0 < 8) (h : f_X6_cost p1 = some r) : XMX l D ca a Bt yX6_cost cX6_cost 2 (some .int) rm_X6_cost [.ref (a (27 + j0)), .int p1] σ (some (.int r)) σ := by
  refine XM.of pn_X6 (Nat.le_of_ble_eq_true rfl) ?_
  intro p e s m args below meth c ls Q hQ C0 hK hB hP hS hl
  have C0 : Cx p s m args meth c RX6 cX6_cost 2 (some .int) := C0
  have hx := C0.1
  have hb := C0.2.1
  have hl : lv_has ls 2 [(0, .ref (a (27 + j0))), (1, .int p1)] := hl
  rw [f_X6_cost] at h
  refine lv_aload_n hx hb dX6_cost_0 rfl (lv_at hl 0 rfl) ?_
  refine lv_iload_n hx hb dX6_cost_1 rfl (lv_at hl 1 rfl) ?_
  obtain ⟨r_2, h_1, h⟩ := b1_e h
  obtain ⟨C9, cC9, hat9, hr9⟩ := rcP hK hP hk_j0
  refine xcall (rSU C0 hK hP hl.1 (fun _ _ _ => trivial) Bt_b (c_X2_cost hI hk_j0 h_1) cu_X2_cost ⟨tw517, tw1336, tw225⟩ hat9 hr9 (rest := []) rfl (Nat.le_of_ble_eq_true rfl) ⟨rfl, rfl, Nat.le_of_ble_eq_true rfl, Nat.le_of_ble_eq_true rfl⟩ ⟨Nat.zero_le _, Nat.zero_le _⟩ dX6_cost_2) hS (fun H locs hP hS => ?_)
  refine lv_iload_n hx hb dX6_cost_5 rfl (lv_at hl 1 rfl) ?_
  refine lv_isub hx hb dX6_cost_6 ?_
  rw [hQ]
  exact xzretr C0 hP hS rfl h dX6_cost_7
def f_X1_cost (p1 : Int32) : Option (Int32) :=
  b1 (f_X7_cost p1) fun r_2 =>
  some (r_2 + 4)
def rm_X1_cost : Room := { frames := 2, cells := 0, slots := 0, locals := 42 }
set_option maxHeartbeats 4000000 in
set_option maxRecDepth 100000 in
theorem c_X1_cost {l : Launch} {D : va_G} {ca : Nat → ClassId} {a : Nat → Nat} (hI : InjN 37 a) {j0 : Nat} {p1 : Int32} {σ : Mem} {r : Int32} (hk_j0 : j0 < 8) (h : f_X1_cost p1 = some r) : XMX l D ca a Bt yX1_cost cX1_cost 2 (some .int) rm_X1_cost [.ref (a (27 + j0)), .int p1] σ (some (.int r)) σ := by
  refine XM.of pn_X1 (Nat.le_of_ble_eq_true rfl) ?_
  intro p e s m args below meth c ls Q hQ C0 hK hB hP hS hl
  have C0 : Cx p s m args meth c RX1 cX1_cost 2 (some .int) := C0
  have hx := C0.1
  have hb := C0.2.1
  have hl : lv_has ls 2 [(0, .ref (a (27 + j0))), (1, .int p1)] := hl
  rw [f_X1_cost] at h
  refine lv_aload_n hx hb dX1_cost_0 rfl (lv_at hl 0 rfl) ?_
  refine lv_iload_n hx hb dX1_cost_1 rfl (lv_at hl 1 rfl) ?_
  obtain ⟨r_2, h_1, h⟩ := b1_e h
  obtain ⟨C9, cC9, hat9, hr9⟩ := rcP hK hP hk_j0
  refine xcall (rSU C0 hK hP hl.1 (fun _ _ _ => trivial) Bt_b (c_X7_cost hI hk_j0 h_1) cu_X7_cost ⟨tw502, tw1335, tw232⟩ hat9 hr9 (rest := []) rfl (Nat.le_of_ble_eq_true rfl) ⟨rfl, rfl, Nat.le_of_ble_eq_true rfl, Nat.le_of_ble_eq_true rfl⟩ ⟨Nat.zero_le _, Nat.zero_le _⟩ dX1_cost_2) hS (fun H locs hP hS => ?_)
  refine lv_iconst (v := 4) hx hb dX1_cost_5 (by decide) ?_
  refine lv_iadd hx hb dX1_cost_6 ?_
  rw [hQ]
  exact xzretr C0 hP hS rfl h dX1_cost_7
def f_dp_cost (j0 : Nat) (p1 : Int32) : Option (Int32) :=
  if j0 = 0 then f_X3_cost p1 else
  if j0 = 1 then f_X7_cost p1 else
  if j0 = 2 then f_X2_cost p1 else
  if j0 = 3 then f_X9_cost p1 else
  if j0 = 4 then f_X4_cost p1 else
  if j0 = 5 then f_X10_cost p1 else
  if j0 = 6 then f_X6_cost p1 else
  if j0 = 7 then f_X1_cost p1 else
  none
set_option maxRecDepth 100000 in
theorem dp_X0_cost {p : Program} {l : Launch} {e : Env} {R : Room} {s : State} {m : MethodId} {args : Array Value} {below : List Frame} {meth : Method} {c : Code} {H : Heap} {locs : List Loc} {D : va_G} {ca : Nat → ClassId} {a : Nat → Nat} {cc : ByteArray} {nL pc : Nat} {ret : Option FieldType} {ls : Array Slot} {rest st0 : List Value} {σ : Mem} {j0 : Nat} {p1 : Int32} {r : Int32} (hI : InjN 37 a) (C0 : Cx p s m args meth c RX0 cc nL ret) (hK : KX D vwCl (tysE ca) s) (hP : va_P D vwCl (wX ca a σ) H) (hn : ls.size = nL) (hj : j0 < 8)  (h : f_dp_cost j0 p1 = some r) (hst : st0 = [.int p1].reverse ++ .ref (a (27 + j0)) :: rest) (hcat : (rest.map fun v => v.category).sum ≤ 8) (hR : 3 ≤ R.frames ∧ 63 ≤ R.locals) (hdg : decode cc pc = .ok (.invokevirtual 75, 3)) :
    va_Run p l e R s m args below meth c H locs 0 0 0 0 (F0 m pc ls st0) rest (XQ D vwCl (AW 37 a) (wX ca a σ) (some (.int r)) (Value.ref (a (27 + j0)) :: [.int p1]).toArray) (AW 37 a) := by
  rw [f_dp_cost] at h
  by_cases c0 : j0 = 0
  · have h9 := it c0 h
    subst c0
    exact rV C0 hK hP hn (fun _ _ _ => trivial) Bt_b (c_X3_cost hI hj  h9) cv_X3_cost tw495 (rcP0 hK hP) hst hcat ⟨rfl, rfl, Nat.le_trans (Nat.le_of_ble_eq_true rfl) hR.1, Nat.le_trans (Nat.le_of_ble_eq_true rfl) hR.2⟩ ⟨Nat.zero_le _, Nat.zero_le _⟩ hdg
  have h := ie c0 h
  by_cases c1 : j0 = 1
  · have h9 := it c1 h
    subst c1
    exact rO (x := yX3_cost) (C := RX7) (owner := RX3) C0 hK hP hn (fun _ _ _ => trivial) Bt_b (c_X7_cost hI hj  h9) ⟨tw498, tw496, tw518, tw503, tw64, tw504, tw527, by decide, by decide, ar_X3_cost⟩ tw495 (rcP1 hK hP) hst hcat ⟨rfl, rfl, Nat.le_trans (Nat.le_of_ble_eq_true rfl) hR.1, Nat.le_trans (Nat.le_of_ble_eq_true rfl) hR.2⟩ ⟨Nat.zero_le _, Nat.zero_le _⟩ hdg
  have h := ie c1 h
  by_cases c2 : j0 = 2
  · have h9 := it c2 h
    subst c2
    exact rO (x := yX3_cost) (C := RX2) (owner := RX3) C0 hK hP hn (fun _ _ _ => trivial) Bt_b (c_X2_cost hI hj  h9) ⟨tw498, tw496, tw506, tw507, tw65, tw508, tw527, by decide, by decide, ar_X3_cost⟩ tw495 (rcP2 hK hP) hst hcat ⟨rfl, rfl, Nat.le_trans (Nat.le_of_ble_eq_true rfl) hR.1, Nat.le_trans (Nat.le_of_ble_eq_true rfl) hR.2⟩ ⟨Nat.zero_le _, Nat.zero_le _⟩ hdg
  have h := ie c2 h
  by_cases c3 : j0 = 3
  · have h9 := it c3 h
    subst c3
    exact rO (x := yX3_cost) (C := RX9) (owner := RX3) C0 hK hP hn (fun _ _ _ => trivial) Bt_b (c_X9_cost hI hj  h9) ⟨tw498, tw496, tw519, tw520, tw66, tw521, tw527, by decide, by decide, ar_X3_cost⟩ tw495 (rcP3 hK hP) hst hcat ⟨rfl, rfl, Nat.le_trans (Nat.le_of_ble_eq_true rfl) hR.1, Nat.le_trans (Nat.le_of_ble_eq_true rfl) hR.2⟩ ⟨Nat.zero_le _, Nat.zero_le _⟩ hdg
  have h := ie c3 h
  by_cases c4 : j0 = 4
  · have h9 := it c4 h
    subst c4
    exact rO (x := yX3_cost) (C := RX4) (owner := RX3) C0 hK hP hn (fun _ _ _ => trivial) Bt_b (c_X4_cost hI hj  h9) ⟨tw498, tw496, tw510, tw511, tw67, tw512, tw527, by decide, by decide, ar_X3_cost⟩ tw495 (rcP4 hK hP) hst hcat ⟨rfl, rfl, Nat.le_trans (Nat.le_of_ble_eq_true rfl) hR.1, Nat.le_trans (Nat.le_of_ble_eq_true rfl) hR.2⟩ ⟨Nat.zero_le _, Nat.zero_le _⟩ hdg
  have h := ie c4 h
  by_cases c5 : j0 = 5
  · have h9 := it c5 h
    subst c5
    exact rO (x := yX3_cost) (C := RX10) (owner := RX3) C0 hK hP hn (fun _ _ _ => trivial) Bt_b (c_X10_cost hI hj  h9) ⟨tw498, tw496, tw523, tw524, tw68, tw525, tw527, by decide, by decide, ar_X3_cost⟩ tw495 (rcP5 hK hP) hst hcat ⟨rfl, rfl, Nat.le_trans (Nat.le_of_ble_eq_true rfl) hR.1, Nat.le_trans (Nat.le_of_ble_eq_true rfl) hR.2⟩ ⟨Nat.zero_le _, Nat.zero_le _⟩ hdg
  have h := ie c5 h
  by_cases c6 : j0 = 6
  · have h9 := it c6 h
    subst c6
    exact rO (x := yX3_cost) (C := RX6) (owner := RX3) C0 hK hP hn (fun _ _ _ => trivial) Bt_b (c_X6_cost hI hj  h9) ⟨tw498, tw496, tw514, tw515, tw69, tw516, tw527, by decide, by decide, ar_X3_cost⟩ tw495 (rcP6 hK hP) hst hcat ⟨rfl, rfl, Nat.le_trans (Nat.le_of_ble_eq_true rfl) hR.1, Nat.le_trans (Nat.le_of_ble_eq_true rfl) hR.2⟩ ⟨Nat.zero_le _, Nat.zero_le _⟩ hdg
  have h := ie c6 h
  by_cases c7 : j0 = 7
  · have h9 := it c7 h
    subst c7
    exact rO (x := yX3_cost) (C := RX1) (owner := RX3) C0 hK hP hn (fun _ _ _ => trivial) Bt_b (c_X1_cost hI hj  h9) ⟨tw498, tw496, tw499, tw500, tw70, tw501, tw527, by decide, by decide, ar_X3_cost⟩ tw495 (rcP7 hK hP) hst hcat ⟨rfl, rfl, Nat.le_trans (Nat.le_of_ble_eq_true rfl) hR.1, Nat.le_trans (Nat.le_of_ble_eq_true rfl) hR.2⟩ ⟨Nat.zero_le _, Nat.zero_le _⟩ hdg
  have h := ie c7 h
  cases h
def f_dp_work (j0 : Nat) (k1 : Nat) (p2 : Int32) (p3 : Int32) (σ : Mem) : Option Mem :=
  if j0 = 0 then b1 (f_X3_work k1 p2 p3) fun _ => some σ else
  if j0 = 1 then f_X7_work k1 p2 p3 σ else
  if j0 = 2 then f_X2_work k1 p2 p3 σ else
  if j0 = 3 then f_X9_work k1 p2 p3 σ else
  if j0 = 4 then f_X4_work k1 p2 p3 σ else
  if j0 = 5 then f_X10_work k1 p2 p3 σ else
  if j0 = 6 then f_X6_work k1 p2 p3 σ else
  if j0 = 7 then f_X1_work k1 p2 p3 σ else
  none
set_option maxRecDepth 100000 in
theorem dp_X0_work {p : Program} {l : Launch} {e : Env} {R : Room} {s : State} {m : MethodId} {args : Array Value} {below : List Frame} {meth : Method} {c : Code} {H : Heap} {locs : List Loc} {D : va_G} {ca : Nat → ClassId} {a : Nat → Nat} {cc : ByteArray} {nL pc : Nat} {ret : Option FieldType} {ls : Array Slot} {rest st0 : List Value} {σ : Mem} {j0 : Nat} {k1 : Nat} {p2 : Int32} {p3 : Int32} {σ' : Mem} (hI : InjN 37 a) (C0 : Cx p s m args meth c RX0 cc nL ret) (hK : KX D vwCl (tysE ca) s) (hP : va_P D vwCl (wX ca a σ) H) (hn : ls.size = nL) (hj : j0 < 8) (hk_k1 : k1 < 3) (h : f_dp_work j0 k1 p2 p3 σ = some σ') (hst : st0 = [.ref (a (1 + 2 * k1)), .int p2, .int p3].reverse ++ .ref (a (27 + j0)) :: rest) (hcat : (rest.map fun v => v.category).sum ≤ 8) (hR : 4 ≤ R.frames ∧ 93 ≤ R.locals) (hdg : decode cc pc = .ok (.invokevirtual 71, 3)) :
    va_Run p l e R s m args below meth c H locs 0 0 0 0 (F0 m pc ls st0) rest (XQ D vwCl (AW 37 a) (wX ca a σ') none (Value.ref (a (27 + j0)) :: [.ref (a (1 + 2 * k1)), .int p2, .int p3]).toArray) (AW 37 a) := by
  rw [f_dp_work] at h
  by_cases c0 : j0 = 0
  · have h9 := it c0 h
    subst c0
    obtain ⟨u, h1, h2⟩ := b1_e h9
    cases h2
    exact rV C0 hK hP hn (fun _ _ _ => trivial) Bt_b (c_X3_work hI hj hk_k1 h1) cv_X3_work tw444 (rcP0 hK hP) hst hcat ⟨rfl, rfl, Nat.le_trans (Nat.le_of_ble_eq_true rfl) hR.1, Nat.le_trans (Nat.le_of_ble_eq_true rfl) hR.2⟩ ⟨Nat.zero_le _, Nat.zero_le _⟩ hdg
  have h := ie c0 h
  by_cases c1 : j0 = 1
  · have h9 := it c1 h
    subst c1
    exact rO (x := yX3_work) (C := RX7) (owner := RX3) C0 hK hP hn (fun _ _ _ => trivial) Bt_b (c_X7_work hI hj hk_k1 h9) ⟨tw447, tw445, tw484, tw452, tw64, tw453, tw494, by decide, by decide, ar_X3_work⟩ tw444 (rcP1 hK hP) hst hcat ⟨rfl, rfl, Nat.le_trans (Nat.le_of_ble_eq_true rfl) hR.1, Nat.le_trans (Nat.le_of_ble_eq_true rfl) hR.2⟩ ⟨Nat.zero_le _, Nat.zero_le _⟩ hdg
  have h := ie c1 h
  by_cases c2 : j0 = 2
  · have h9 := it c2 h
    subst c2
    exact rO (x := yX3_work) (C := RX2) (owner := RX3) C0 hK hP hn (fun _ _ _ => trivial) Bt_b (c_X2_work hI hj hk_k1 h9) ⟨tw447, tw445, tw467, tw468, tw65, tw469, tw494, by decide, by decide, ar_X3_work⟩ tw444 (rcP2 hK hP) hst hcat ⟨rfl, rfl, Nat.le_trans (Nat.le_of_ble_eq_true rfl) hR.1, Nat.le_trans (Nat.le_of_ble_eq_true rfl) hR.2⟩ ⟨Nat.zero_le _, Nat.zero_le _⟩ hdg
  have h := ie c2 h
  by_cases c3 : j0 = 3
  · have h9 := it c3 h
    subst c3
    exact rO (x := yX3_work) (C := RX9) (owner := RX3) C0 hK hP hn (fun _ _ _ => trivial) Bt_b (c_X9_work hI hj hk_k1 h9) ⟨tw447, tw445, tw485, tw486, tw66, tw487, tw494, by decide, by decide, ar_X3_work⟩ tw444 (rcP3 hK hP) hst hcat ⟨rfl, rfl, Nat.le_trans (Nat.le_of_ble_eq_true rfl) hR.1, Nat.le_trans (Nat.le_of_ble_eq_true rfl) hR.2⟩ ⟨Nat.zero_le _, Nat.zero_le _⟩ hdg
  have h := ie c3 h
  by_cases c4 : j0 = 4
  · have h9 := it c4 h
    subst c4
    exact rO (x := yX3_work) (C := RX4) (owner := RX3) C0 hK hP hn (fun _ _ _ => trivial) Bt_b (c_X4_work hI hj hk_k1 h9) ⟨tw447, tw445, tw472, tw473, tw67, tw474, tw494, by decide, by decide, ar_X3_work⟩ tw444 (rcP4 hK hP) hst hcat ⟨rfl, rfl, Nat.le_trans (Nat.le_of_ble_eq_true rfl) hR.1, Nat.le_trans (Nat.le_of_ble_eq_true rfl) hR.2⟩ ⟨Nat.zero_le _, Nat.zero_le _⟩ hdg
  have h := ie c4 h
  by_cases c5 : j0 = 5
  · have h9 := it c5 h
    subst c5
    exact rO (x := yX3_work) (C := RX10) (owner := RX3) C0 hK hP hn (fun _ _ _ => trivial) Bt_b (c_X10_work hI hj hk_k1 h9) ⟨tw447, tw445, tw490, tw491, tw68, tw492, tw494, by decide, by decide, ar_X3_work⟩ tw444 (rcP5 hK hP) hst hcat ⟨rfl, rfl, Nat.le_trans (Nat.le_of_ble_eq_true rfl) hR.1, Nat.le_trans (Nat.le_of_ble_eq_true rfl) hR.2⟩ ⟨Nat.zero_le _, Nat.zero_le _⟩ hdg
  have h := ie c5 h
  by_cases c6 : j0 = 6
  · have h9 := it c6 h
    subst c6
    exact rO (x := yX3_work) (C := RX6) (owner := RX3) C0 hK hP hn (fun _ _ _ => trivial) Bt_b (c_X6_work hI hj hk_k1 h9) ⟨tw447, tw445, tw476, tw477, tw69, tw478, tw494, by decide, by decide, ar_X3_work⟩ tw444 (rcP6 hK hP) hst hcat ⟨rfl, rfl, Nat.le_trans (Nat.le_of_ble_eq_true rfl) hR.1, Nat.le_trans (Nat.le_of_ble_eq_true rfl) hR.2⟩ ⟨Nat.zero_le _, Nat.zero_le _⟩ hdg
  have h := ie c6 h
  by_cases c7 : j0 = 7
  · have h9 := it c7 h
    subst c7
    exact rO (x := yX3_work) (C := RX1) (owner := RX3) C0 hK hP hn (fun _ _ _ => trivial) Bt_b (c_X1_work hI hj hk_k1 h9) ⟨tw447, tw445, tw448, tw449, tw70, tw450, tw494, by decide, by decide, ar_X3_work⟩ tw444 (rcP7 hK hP) hst hcat ⟨rfl, rfl, Nat.le_trans (Nat.le_of_ble_eq_true rfl) hR.1, Nat.le_trans (Nat.le_of_ble_eq_true rfl) hR.2⟩ ⟨Nat.zero_le _, Nat.zero_le _⟩ hdg
  have h := ie c7 h
  cases h
def f_X0_tryPin (k0 : Nat) (j1 : Nat) (p2 : Int32) (p3 : Int32) (σ : Mem) : Option (Int32 × Mem) :=
  b1 (f_X0_allows k0 j1 p2 p3 σ) fun r_2 =>
  if r_2 = 0 then
    some (0, σ)
  else
    b1 (f_dp_work j1 k0 p3 p2 σ) fun σ_5 =>
    b1 (f_dp_cost j1 p2) fun r_7 =>
    bnd (if (σ_5 (1 + 2 * k0) 5) + r_7 < 9999 then (σ_5 (1 + 2 * k0) 5) + r_7 else 9999) fun (y_8 : Int32) =>
    bnd (uX σ_5 (1 + 2 * k0) 5 y_8) fun (σ_9 : Mem) =>
    some (1, σ_9)
def rm_X0_tryPin : Room := { frames := 4, cells := 0, slots := 0, locals := 93 }
set_option maxHeartbeats 4000000 in
set_option maxRecDepth 100000 in
theorem c_X0_tryPin {l : Launch} {D : va_G} {ca : Nat → ClassId} {a : Nat → Nat} (hI : InjN 37 a) {k0 : Nat} {j1 : Nat} {p2 : Int32} {p3 : Int32} {σ : Mem} {r : Int32} {σ' : Mem} (hk_k0 : k0 < 3) (hk_j1 : j1 < 8) (h : f_X0_tryPin k0 j1 p2 p3 σ = some (r, σ')) : XMX l D ca a Bt yX0_tryPin cX0_tryPin 4 (some .boolean) rm_X0_tryPin [.ref (a (1 + 2 * k0)), .ref (a (27 + j1)), .int p2, .int p3] σ (some (.int r)) σ' := by
  refine XM.of pn_X0 (Nat.le_of_ble_eq_true rfl) ?_
  intro p e s m args below meth c ls Q hQ C0 hK hB hP hS hl
  have C0 : Cx p s m args meth c RX0 cX0_tryPin 4 (some .boolean) := C0
  have hx := C0.1
  have hb := C0.2.1
  have hl : lv_has ls 4 [(0, .ref (a (1 + 2 * k0))), (1, .ref (a (27 + j1))), (2, .int p2), (3, .int p3)] := hl
  rw [f_X0_tryPin] at h
  refine lv_aload_n hx hb dX0_tryPin_0 rfl (lv_at hl 0 rfl) ?_
  refine lv_aload_n hx hb dX0_tryPin_1 rfl (lv_at hl 1 rfl) ?_
  refine lv_iload_n hx hb dX0_tryPin_2 rfl (lv_at hl 2 rfl) ?_
  refine lv_iload_n hx hb dX0_tryPin_3 rfl (lv_at hl 3 rfl) ?_
  obtain ⟨r_2, h_1, h⟩ := b1_e h
  refine xcall (rV C0 hK hP hl.1 (fun _ _ _ => trivial) Bt_b (c_X0_allows hI hk_k0 hk_j1 h_1) cv_X0_allows tw403 (rcX0 hK hP hk_k0) (rest := []) rfl (Nat.le_of_ble_eq_true rfl) ⟨rfl, rfl, Nat.le_of_ble_eq_true rfl, Nat.le_of_ble_eq_true rfl⟩ ⟨Nat.zero_le _, Nat.zero_le _⟩ dX0_tryPin_4) hS (fun H locs hP hS => ?_)
  refine lv_if_ne (tgt := 12) hx hb dX0_tryPin_7 (by decide) (fun c_3 => ?_) (fun c_3 => ?_)
  · have h := ie c_3 h
    refine lv_aload_n hx hb dX0_tryPin_12 rfl (lv_at hl 1 rfl) ?_
    refine lv_aload_n hx hb dX0_tryPin_13 rfl (lv_at hl 0 rfl) ?_
    refine lv_iload_n hx hb dX0_tryPin_14 rfl (lv_at hl 3 rfl) ?_
    refine lv_iload_n hx hb dX0_tryPin_15 rfl (lv_at hl 2 rfl) ?_
    obtain ⟨σ_5, h_4, h⟩ := b1_e h
    refine xcall (dp_X0_work hI C0 hK hP hl.1 hk_j1 hk_k0 h_4 (rest := []) rfl (Nat.le_of_ble_eq_true rfl) ⟨Nat.le_of_ble_eq_true rfl, Nat.le_of_ble_eq_true rfl⟩ dX0_tryPin_16) hS (fun H locs hP hS => ?_)
    refine lv_aload_n hx hb dX0_tryPin_19 rfl (lv_at hl 0 rfl) ?_
    refine lv_sipush (v := 9999) hx hb dX0_tryPin_20 (by decide) ?_
    refine lv_aload_n hx hb dX0_tryPin_23 rfl (lv_at hl 0 rfl) ?_
    refine gX0_5 C0 hK hP hk_k0 tw108 dX0_tryPin_24 ?_
    refine lv_aload_n hx hb dX0_tryPin_27 rfl (lv_at hl 1 rfl) ?_
    refine lv_iload_n hx hb dX0_tryPin_28 rfl (lv_at hl 2 rfl) ?_
    obtain ⟨r_7, h_6, h⟩ := b1_e h
    refine xcall (dp_X0_cost hI C0 hK hP hl.1 hk_j1 h_6 (rest := [.int (σ_5 (1 + 2 * k0) 5), .int 9999, .ref (a (1 + 2 * k0))]) rfl (Nat.le_of_ble_eq_true rfl) ⟨Nat.le_of_ble_eq_true rfl, Nat.le_of_ble_eq_true rfl⟩ dX0_tryPin_29) hS (fun H locs hP hS => ?_)
    refine lv_iadd hx hb dX0_tryPin_32 ?_
    refine va_mmin hx hb (C0.2.2.1.trans hl.1.symm) C0.2.2.2.1 (C0.2.2.2.2.1 _ tw372) (C0.2.2.2.2.1 _ tw373) (C0.2.2.2.2.1 _ tw76) (C0.2.2.2.2.1 _ tw374) (Nat.le_of_ble_eq_true rfl) (Nat.le_of_ble_eq_true rfl) (Nat.zero_le _) (Nat.zero_le _) dX0_tryPin_33 ?_
    obtain ⟨y_8, ey_8, h⟩ := bnd_e h
    refine nm_i ey_8 ?_
    obtain ⟨σ_9, eσ_9, h⟩ := bnd_e h
    refine pX0_5 C0 hK hP hk_k0 tw108 hI hS dX0_tryPin_36 (fun H locs hP hS => ?_)
    rw [← eσ_9] at hP
    refine lv_iconst (v := 1) hx hb dX0_tryPin_39 (by decide) ?_
    rw [hQ]
    exact xzret C0 hP hS rfl h dX0_tryPin_40
  · have h := it c_3 h
    refine lv_iconst (v := 0) hx hb dX0_tryPin_10 (by decide) ?_
    rw [hQ]
    exact xzret C0 hP hS rfl h dX0_tryPin_11
def f_X0_needOf (k0 : Nat) (p1 : Int32) (p2 : Int32) (σ : Mem) : Option (Int32) :=
  if p2 = 0 then
    some 0
  else
    if p2 = 1 then
      b1 (f_X0_get k0 p1 3 σ) fun r_4 =>
      some r_4
    else
      if p2 = 2 then
        b1 (f_X0_get k0 p1 3 σ) fun r_7 =>
        if p1 = 0 then
          some ((r_7 / 2) + 2)
        else
          some ((r_7 / 2) + 0)
      else
        if (p1 - p1 / 2 * 2) = 0 then
          some 1
        else
          some 0
def rm_X0_needOf : Room := { frames := 1, cells := 0, slots := 0, locals := 23 }
set_option maxHeartbeats 4000000 in
set_option maxRecDepth 100000 in
theorem c_X0_needOf {l : Launch} {D : va_G} {ca : Nat → ClassId} {a : Nat → Nat} (hI : InjN 37 a) {k0 : Nat} {p1 : Int32} {p2 : Int32} {σ : Mem} {r : Int32} (hk_k0 : k0 < 3) (h : f_X0_needOf k0 p1 p2 σ = some r) : XMX l D ca a Bt yX0_needOf cX0_needOf 3 (some .int) rm_X0_needOf [.ref (a (1 + 2 * k0)), .int p1, .int p2] σ (some (.int r)) σ := by
  refine XM.of pn_X0 (Nat.le_of_ble_eq_true rfl) ?_
  intro p e s m args below meth c ls Q hQ C0 hK hB hP hS hl
  have C0 : Cx p s m args meth c RX0 cX0_needOf 3 (some .int) := C0
  have hx := C0.1
  have hb := C0.2.1
  have hl : lv_has ls 3 [(0, .ref (a (1 + 2 * k0))), (1, .int p1), (2, .int p2)] := hl
  rw [f_X0_needOf] at h
  refine lv_iload_n hx hb dX0_needOf_0 rfl (lv_at hl 2 rfl) ?_
  by_cases c_1 : p2 = 0
  · have h := it c_1 h
    refine lv_tableIn (off := 27) (tgt := 28) hx hb dX0_needOf_1 (by rw [c_1]; decide) (by rw [c_1]; decide) (by rw [c_1]; rfl) (by decide) ?_
    refine lv_iconst (v := 0) hx hb dX0_needOf_28 (by decide) ?_
    rw [hQ]
    exact xzretr C0 hP hS rfl h dX0_needOf_29
  · have h := ie c_1 h
    by_cases c_2 : p2 = 1
    · have h := it c_2 h
      refine lv_tableIn (off := 29) (tgt := 30) hx hb dX0_needOf_1 (by rw [c_2]; decide) (by rw [c_2]; decide) (by rw [c_2]; rfl) (by decide) ?_
      refine lv_aload_n hx hb dX0_needOf_30 rfl (lv_at hl 0 rfl) ?_
      refine lv_iload_n hx hb dX0_needOf_31 rfl (lv_at hl 1 rfl) ?_
      refine lv_iconst (v := 3) hx hb dX0_needOf_32 (by decide) ?_
      obtain ⟨r_4, h_3, h⟩ := b1_e h
      refine xcall (rV C0 hK hP hl.1 (fun _ _ _ => trivial) Bt_b (c_X0_get hI hk_k0 h_3) cv_X0_get tw458 (rcX0 hK hP hk_k0) (rest := []) rfl (Nat.le_of_ble_eq_true rfl) ⟨rfl, rfl, Nat.le_of_ble_eq_true rfl, Nat.le_of_ble_eq_true rfl⟩ ⟨Nat.zero_le _, Nat.zero_le _⟩ dX0_needOf_33) hS (fun H locs hP hS => ?_)
      rw [hQ]
      exact xzretr C0 hP hS rfl h dX0_needOf_36
    · have h := ie c_2 h
      by_cases c_5 : p2 = 2
      · have h := it c_5 h
        refine lv_tableIn (off := 36) (tgt := 37) hx hb dX0_needOf_1 (by rw [c_5]; decide) (by rw [c_5]; decide) (by rw [c_5]; rfl) (by decide) ?_
        refine lv_aload_n hx hb dX0_needOf_37 rfl (lv_at hl 0 rfl) ?_
        refine lv_iload_n hx hb dX0_needOf_38 rfl (lv_at hl 1 rfl) ?_
        refine lv_iconst (v := 3) hx hb dX0_needOf_39 (by decide) ?_
        obtain ⟨r_7, h_6, h⟩ := b1_e h
        refine xcall (rV C0 hK hP hl.1 (fun _ _ _ => trivial) Bt_b (c_X0_get hI hk_k0 h_6) cv_X0_get tw458 (rcX0 hK hP hk_k0) (rest := []) rfl (Nat.le_of_ble_eq_true rfl) ⟨rfl, rfl, Nat.le_of_ble_eq_true rfl, Nat.le_of_ble_eq_true rfl⟩ ⟨Nat.zero_le _, Nat.zero_le _⟩ dX0_needOf_40) hS (fun H locs hP hS => ?_)
        refine lv_iconst (v := 2) hx hb dX0_needOf_43 (by decide) ?_
        refine lv_idiv hx hb dX0_needOf_44 (by decide) ?_
        refine lv_iload_n hx hb dX0_needOf_45 rfl (lv_at hl 1 rfl) ?_
        refine lv_if_ne (tgt := 53) hx hb dX0_needOf_46 (by decide) (fun c_8 => ?_) (fun c_8 => ?_)
        · have h := ie c_8 h
          refine lv_iconst (v := 0) hx hb dX0_needOf_53 (by decide) ?_
          refine lv_iadd hx hb dX0_needOf_54 ?_
          rw [hQ]
          exact xzretr C0 hP hS rfl h dX0_needOf_55
        · have h := it c_8 h
          refine lv_iconst (v := 2) hx hb dX0_needOf_49 (by decide) ?_
          refine lv_goto (tgt := 54) hx hb dX0_needOf_50 (by decide) ?_
          refine lv_iadd hx hb dX0_needOf_54 ?_
          rw [hQ]
          exact xzretr C0 hP hS rfl h dX0_needOf_55
      · have h := ie c_5 h
        refine lv_tableOut (tgt := 56) hx hb dX0_needOf_1 (by have := sw_ne (k := 0) (by decide) c_1; have := sw_ne (k := 1) (by decide) c_2; have := sw_ne (k := 2) (by decide) c_5; omega) (by decide) ?_
        refine lv_iload_n hx hb dX0_needOf_56 rfl (lv_at hl 1 rfl) ?_
        refine lv_iconst (v := 2) hx hb dX0_needOf_57 (by decide) ?_
        refine lv_irem hx hb dX0_needOf_58 (by decide) ?_
        refine lv_if_ne (tgt := 66) hx hb dX0_needOf_59 (by decide) (fun c_9 => ?_) (fun c_9 => ?_)
        · have h := ie c_9 h
          refine lv_iconst (v := 0) hx hb dX0_needOf_66 (by decide) ?_
          rw [hQ]
          exact xzretr C0 hP hS rfl h dX0_needOf_67
        · have h := it c_9 h
          refine lv_iconst (v := 1) hx hb dX0_needOf_62 (by decide) ?_
          refine lv_goto (tgt := 67) hx hb dX0_needOf_63 (by decide) ?_
          rw [hQ]
          exact xzretr C0 hP hS rfl h dX0_needOf_67
def f_X0_easeAt (k0 : Nat) (p1 : Int32) (p2 : Int32) (σ : Mem) : Option (Int32) :=
  b1 (f_X0_get k0 p1 1 σ) fun r_2 =>
  b1 (f_X0_get k0 p1 0 σ) fun r_4 =>
  b1 (f_X0_needOf k0 p1 p2 σ) fun r_6 =>
  some ((r_2 - r_4) - r_6)
def rm_X0_easeAt : Room := { frames := 2, cells := 0, slots := 0, locals := 45 }
set_option maxHeartbeats 4000000 in
set_option maxRecDepth 100000 in
theorem c_X0_easeAt {l : Launch} {D : va_G} {ca : Nat → ClassId} {a : Nat → Nat} (hI : InjN 37 a) {k0 : Nat} {p1 : Int32} {p2 : Int32} {σ : Mem} {r : Int32} (hk_k0 : k0 < 3) (h : f_X0_easeAt k0 p1 p2 σ = some r) : XMX l D ca a Bt yX0_easeAt cX0_easeAt 3 (some .int) rm_X0_easeAt [.ref (a (1 + 2 * k0)), .int p1, .int p2] σ (some (.int r)) σ := by
  refine XM.of pn_X0 (Nat.le_of_ble_eq_true rfl) ?_
  intro p e s m args below meth c ls Q hQ C0 hK hB hP hS hl
  have C0 : Cx p s m args meth c RX0 cX0_easeAt 3 (some .int) := C0
  have hx := C0.1
  have hb := C0.2.1
  have hl : lv_has ls 3 [(0, .ref (a (1 + 2 * k0))), (1, .int p1), (2, .int p2)] := hl
  rw [f_X0_easeAt] at h
  refine lv_aload_n hx hb dX0_easeAt_0 rfl (lv_at hl 0 rfl) ?_
  refine lv_iload_n hx hb dX0_easeAt_1 rfl (lv_at hl 1 rfl) ?_
  refine lv_iconst (v := 1) hx hb dX0_easeAt_2 (by decide) ?_
  obtain ⟨r_2, h_1, h⟩ := b1_e h
  refine xcall (rV C0 hK hP hl.1 (fun _ _ _ => trivial) Bt_b (c_X0_get hI hk_k0 h_1) cv_X0_get tw458 (rcX0 hK hP hk_k0) (rest := []) rfl (Nat.le_of_ble_eq_true rfl) ⟨rfl, rfl, Nat.le_of_ble_eq_true rfl, Nat.le_of_ble_eq_true rfl⟩ ⟨Nat.zero_le _, Nat.zero_le _⟩ dX0_easeAt_3) hS (fun H locs hP hS => ?_)
  refine lv_aload_n hx hb dX0_easeAt_6 rfl (lv_at hl 0 rfl) ?_
  refine lv_iload_n hx hb dX0_easeAt_7 rfl (lv_at hl 1 rfl) ?_
  refine lv_iconst (v := 0) hx hb dX0_easeAt_8 (by decide) ?_
  obtain ⟨r_4, h_3, h⟩ := b1_e h
  refine xcall (rV C0 hK hP hl.1 (fun _ _ _ => trivial) Bt_b (c_X0_get hI hk_k0 h_3) cv_X0_get tw458 (rcX0 hK hP hk_k0) (rest := [.int r_2]) rfl (Nat.le_of_ble_eq_true rfl) ⟨rfl, rfl, Nat.le_of_ble_eq_true rfl, Nat.le_of_ble_eq_true rfl⟩ ⟨Nat.zero_le _, Nat.zero_le _⟩ dX0_easeAt_9) hS (fun H locs hP hS => ?_)
  refine lv_isub hx hb dX0_easeAt_12 ?_
  refine lv_aload_n hx hb dX0_easeAt_13 rfl (lv_at hl 0 rfl) ?_
  refine lv_iload_n hx hb dX0_easeAt_14 rfl (lv_at hl 1 rfl) ?_
  refine lv_iload_n hx hb dX0_easeAt_15 rfl (lv_at hl 2 rfl) ?_
  obtain ⟨r_6, h_5, h⟩ := b1_e h
  refine xcall (rV C0 hK hP hl.1 (fun _ _ _ => trivial) Bt_b (c_X0_needOf hI hk_k0 h_5) cv_X0_needOf tw564 (rcX0 hK hP hk_k0) (rest := [.int (r_2 - r_4)]) rfl (Nat.le_of_ble_eq_true rfl) ⟨rfl, rfl, Nat.le_of_ble_eq_true rfl, Nat.le_of_ble_eq_true rfl⟩ ⟨Nat.zero_le _, Nat.zero_le _⟩ dX0_easeAt_16) hS (fun H locs hP hS => ?_)
  refine lv_isub hx hb dX0_easeAt_19 ?_
  rw [hQ]
  exact xzretr C0 hP hS rfl h dX0_easeAt_20
def f_X0_fits (k0 : Nat) (p1 : Int32) (p2 : Int32) (σ : Mem) : Option (Int32) :=
  b1 (f_X0_easeAt k0 p1 p2 σ) fun r_2 =>
  if r_2 < (σ (1 + 2 * k0) 2) then
    some 0
  else
    if p2 = 0 then
      if (σ (1 + 2 * k0) 3) < r_2 then
        some 0
      else
        some 1
    else
      some 1
def rm_X0_fits : Room := { frames := 3, cells := 0, slots := 0, locals := 67 }
set_option maxHeartbeats 4000000 in
set_option maxRecDepth 100000 in
theorem c_X0_fits {l : Launch} {D : va_G} {ca : Nat → ClassId} {a : Nat → Nat} (hI : InjN 37 a) {k0 : Nat} {p1 : Int32} {p2 : Int32} {σ : Mem} {r : Int32} (hk_k0 : k0 < 3) (h : f_X0_fits k0 p1 p2 σ = some r) : XMX l D ca a Bt yX0_fits cX0_fits 4 (some .boolean) rm_X0_fits [.ref (a (1 + 2 * k0)), .int p1, .int p2] σ (some (.int r)) σ := by
  refine XM.of pn_X0 (Nat.le_of_ble_eq_true rfl) ?_
  intro p e s m args below meth c ls Q hQ C0 hK hB hP hS hl
  have C0 : Cx p s m args meth c RX0 cX0_fits 4 (some .boolean) := C0
  have hx := C0.1
  have hb := C0.2.1
  have hl : lv_has ls 4 [(0, .ref (a (1 + 2 * k0))), (1, .int p1), (2, .int p2)] := hl
  rw [f_X0_fits] at h
  refine lv_aload_n hx hb dX0_fits_0 rfl (lv_at hl 0 rfl) ?_
  refine lv_iload_n hx hb dX0_fits_1 rfl (lv_at hl 1 rfl) ?_
  refine lv_iload_n hx hb dX0_fits_2 rfl (lv_at hl 2 rfl) ?_
  obtain ⟨r_2, h_1, h⟩ := b1_e h
  refine xcall (rV C0 hK hP hl.1 (fun _ _ _ => trivial) Bt_b (c_X0_easeAt hI hk_k0 h_1) cv_X0_easeAt tw560 (rcX0 hK hP hk_k0) (rest := []) rfl (Nat.le_of_ble_eq_true rfl) ⟨rfl, rfl, Nat.le_of_ble_eq_true rfl, Nat.le_of_ble_eq_true rfl⟩ ⟨Nat.zero_le _, Nat.zero_le _⟩ dX0_fits_3) hS (fun H locs hP hS => ?_)
  refine lv_istore_n (lv' := [(3, .int r_2), (0, .ref (a (1 + 2 * k0))), (1, .int p1), (2, .int p2)]) hx hb dX0_fits_6 rfl hl (by decide) rfl (fun ls hl => ?_)
  refine lv_iload_n hx hb dX0_fits_7 rfl (lv_at hl 0 rfl) ?_
  refine lv_aload_n hx hb dX0_fits_8 rfl (lv_at hl 1 rfl) ?_
  refine gX0_2 C0 hK hP hk_k0 tw101 dX0_fits_9 ?_
  refine lv_icmp_lt (tgt := 31) hx hb dX0_fits_12 (by decide) (fun c_3 => ?_) (fun c_3 => ?_)
  · have h := it c_3 h
    refine lv_iconst (v := 0) hx hb dX0_fits_31 (by decide) ?_
    rw [hQ]
    exact xzretr C0 hP hS rfl h dX0_fits_32
  · have h := ie c_3 h
    refine lv_iload_n hx hb dX0_fits_15 rfl (lv_at hl 3 rfl) ?_
    refine lv_if_ne (tgt := 27) hx hb dX0_fits_16 (by decide) (fun c_4 => ?_) (fun c_4 => ?_)
    · have h := ie c_4 h
      refine lv_iconst (v := 1) hx hb dX0_fits_27 (by decide) ?_
      refine lv_goto (tgt := 32) hx hb dX0_fits_28 (by decide) ?_
      rw [hQ]
      exact xzretr C0 hP hS rfl h dX0_fits_32
    · have h := it c_4 h
      refine lv_iload_n hx hb dX0_fits_19 rfl (lv_at hl 0 rfl) ?_
      refine lv_aload_n hx hb dX0_fits_20 rfl (lv_at hl 1 rfl) ?_
      refine gX0_3 C0 hK hP hk_k0 tw103 dX0_fits_21 ?_
      refine lv_icmp_gt (tgt := 31) hx hb dX0_fits_24 (by decide) (fun c_5 => ?_) (fun c_5 => ?_)
      · have h := it c_5 h
        refine lv_iconst (v := 0) hx hb dX0_fits_31 (by decide) ?_
        rw [hQ]
        exact xzretr C0 hP hS rfl h dX0_fits_32
      · have h := ie c_5 h
        refine lv_iconst (v := 1) hx hb dX0_fits_27 (by decide) ?_
        refine lv_goto (tgt := 32) hx hb dX0_fits_28 (by decide) ?_
        rw [hQ]
        exact xzretr C0 hP hS rfl h dX0_fits_32
def f_X0_lacking_L14 (k0 : Nat) (σ : Mem) (x2_2 : Int32) : Nat → Int32 → Int32 → (Int32 → Int32 → Option (Int32)) → Option (Int32)
  | 0, _, _, _ => none
  | n + 1, x1_4, x3_5, K2 =>
    if 4 ≤ x3_5 then
      K2 x1_4 x3_5
    else
      b1 (f_X0_easeAt k0 x2_2 x3_5 σ) fun r_8 =>
      bnd (if (0 : Int32) < (σ (1 + 2 * k0) 2) - r_8 then (σ (1 + 2 * k0) 2) - r_8 else 0) fun (y_9 : Int32) =>
      bnd (x1_4 + y_9) fun (x1_10 : Int32) =>
      bnd (x3_5 + 1) fun (x3_11 : Int32) =>
      f_X0_lacking_L14 k0 σ x2_2 n x1_10 x3_11 K2
def f_X0_lacking_L4 (k0 : Nat) (σ : Mem) : Nat → Int32 → Int32 → (Int32 → Int32 → Option (Int32)) → Option (Int32)
  | 0, _, _, _ => none
  | n + 1, x1_1, x2_2, K1 =>
    if (σ (1 + 2 * k0) 1) ≤ x2_2 then
      K1 x1_1 x2_2
    else
      f_X0_lacking_L14 k0 σ x2_2 5000 x1_1 0 fun (x1_12 : Int32) (u_13 : Int32) =>
        b1 (f_X0_easeAt k0 x2_2 0 σ) fun r_15 =>
        bnd (if (0 : Int32) < r_15 - (σ (1 + 2 * k0) 3) then r_15 - (σ (1 + 2 * k0) 3) else 0) fun (y_16 : Int32) =>
        bnd (x1_12 + y_16) fun (x1_17 : Int32) =>
        bnd (x2_2 + 1) fun (x2_18 : Int32) =>
        f_X0_lacking_L4 k0 σ n x1_17 x2_18 K1
def f_X0_lacking (k0 : Nat) (σ : Mem) : Option (Int32) :=
  f_X0_lacking_L4 k0 σ 5000 0 0 fun (x1_19 : Int32) (u_20 : Int32) =>
    some x1_19
def rm_X0_lacking : Room := { frames := 3, cells := 0, slots := 0, locals := 67 }
set_option maxHeartbeats 4000000 in
set_option maxRecDepth 100000 in
theorem c_X0_lacking {l : Launch} {D : va_G} {ca : Nat → ClassId} {a : Nat → Nat} (hI : InjN 37 a) {k0 : Nat} {σ : Mem} {r : Int32} (hk_k0 : k0 < 3) (h : f_X0_lacking k0 σ = some r) : XMX l D ca a Bt yX0_lacking cX0_lacking 4 (some .int) rm_X0_lacking [.ref (a (1 + 2 * k0))] σ (some (.int r)) σ := by
  refine XM.of pn_X0 (Nat.le_of_ble_eq_true rfl) ?_
  intro p e s m args below meth c ls Q hQ C0 hK hB hP hS hl
  have C0 : Cx p s m args meth c RX0 cX0_lacking 4 (some .int) := C0
  have hx := C0.1
  have hb := C0.2.1
  have hl : lv_has ls 4 [(0, .ref (a (1 + 2 * k0)))] := hl
  rw [f_X0_lacking] at h
  refine lv_iconst (v := 0) hx hb dX0_lacking_0 (by decide) ?_
  refine lv_istore_n (lv' := [(1, .int 0), (0, .ref (a (1 + 2 * k0)))]) hx hb dX0_lacking_1 rfl hl (by decide) rfl (fun ls hl => ?_)
  refine lv_iconst (v := 0) hx hb dX0_lacking_2 (by decide) ?_
  refine lv_istore_n (lv' := [(2, .int 0), (1, .int 0), (0, .ref (a (1 + 2 * k0)))]) hx hb dX0_lacking_3 rfl hl (by decide) rfl (fun ls hl => ?_)
  obtain ⟨K1, eK1, h⟩ := lp_e (f := fun K => f_X0_lacking_L4 k0 σ 5000 0 0 K) h
  have h : f_X0_lacking_L4 k0 σ 5000 0 0 K1 = some r := h
  have hX1 : ∀ (x1_19 : Int32) (u_20 : Int32) (H : Heap) (locs : List Loc) (ls : Array Slot), K1 x1_19 u_20 = some r → va_P D vwCl (wX ca a σ) H → va_S (AW 37 a) s.heap H locs → lv_has ls 4 [(1, .int x1_19)] → W p l e rm_X0_lacking s m args below meth c H locs 0 0 Q (F0 m 67 ls []) := by
    intro x1_19 u_20 H locs ls h hP hS hl
    have h := ap2 eK1 h
    refine lv_iload_n hx hb dX0_lacking_67 rfl (lv_at hl 0 rfl) ?_
    rw [hQ]
    exact xzretr C0 hP hS rfl h dX0_lacking_68
  have hL1 : ∀ (n : Nat) (x1_1 : Int32) (x2_2 : Int32) (H : Heap) (locs : List Loc) (ls : Array Slot), f_X0_lacking_L4 k0 σ n x1_1 x2_2 K1 = some r → va_P D vwCl (wX ca a σ) H → va_S (AW 37 a) s.heap H locs → lv_has ls 4 [(0, .ref (a (1 + 2 * k0))), (1, .int x1_1), (2, .int x2_2)] → W p l e rm_X0_lacking s m args below meth c H locs 0 0 Q (F0 m 4 ls []) := by
    intro n
    induction n with
    | zero => intro x1_1 x2_2 H locs ls h; rw [f_X0_lacking_L4] at h; cases h
    | succ n ih1 =>
      intro x1_1 x2_2 H locs ls h hP hS hl
      rw [f_X0_lacking_L4] at h
      refine lv_iload_n hx hb dX0_lacking_4 rfl (lv_at hl 2 rfl) ?_
      refine lv_aload_n hx hb dX0_lacking_5 rfl (lv_at hl 0 rfl) ?_
      refine gX0_1 C0 hK hP hk_k0 tw99 dX0_lacking_6 ?_
      refine lv_icmp_ge (tgt := 67) hx hb dX0_lacking_9 (by decide) (fun c_3 => ?_) (fun c_3 => ?_)
      · have h := it c_3 h
        exact hX1 x1_1 x2_2 _ _ ls h hP hS (lv_sub hl [1] rfl)
      · have h := ie c_3 h
        refine lv_iconst (v := 0) hx hb dX0_lacking_12 (by decide) ?_
        refine lv_istore_n (lv' := [(3, .int 0), (0, .ref (a (1 + 2 * k0))), (1, .int x1_1), (2, .int x2_2)]) hx hb dX0_lacking_13 rfl hl (by decide) rfl (fun ls hl => ?_)
        obtain ⟨K2, eK2, h⟩ := lp_e (f := fun K => f_X0_lacking_L14 k0 σ x2_2 5000 x1_1 0 K) h
        have h : f_X0_lacking_L14 k0 σ x2_2 5000 x1_1 0 K2 = some r := h
        have hX2 : ∀ (x1_12 : Int32) (u_13 : Int32) (H : Heap) (locs : List Loc) (ls : Array Slot), K2 x1_12 u_13 = some r → va_P D vwCl (wX ca a σ) H → va_S (AW 37 a) s.heap H locs → lv_has ls 4 [(0, .ref (a (1 + 2 * k0))), (1, .int x1_12), (2, .int x2_2)] → W p l e rm_X0_lacking s m args below meth c H locs 0 0 Q (F0 m 43 ls []) := by
          intro x1_12 u_13 H locs ls h hP hS hl
          have h := ap2 eK2 h
          refine lv_iload_n hx hb dX0_lacking_43 rfl (lv_at hl 1 rfl) ?_
          refine lv_iconst (v := 0) hx hb dX0_lacking_44 (by decide) ?_
          refine lv_aload_n hx hb dX0_lacking_45 rfl (lv_at hl 0 rfl) ?_
          refine lv_iload_n hx hb dX0_lacking_46 rfl (lv_at hl 2 rfl) ?_
          refine lv_iconst (v := 0) hx hb dX0_lacking_47 (by decide) ?_
          obtain ⟨r_15, h_14, h⟩ := b1_e h
          refine xcall (rV C0 hK hP hl.1 (fun _ _ _ => trivial) Bt_b (c_X0_easeAt hI hk_k0 h_14) cv_X0_easeAt tw560 (rcX0 hK hP hk_k0) (rest := [.int 0, .int x1_12]) rfl (Nat.le_of_ble_eq_true rfl) ⟨rfl, rfl, Nat.le_of_ble_eq_true rfl, Nat.le_of_ble_eq_true rfl⟩ ⟨Nat.zero_le _, Nat.zero_le _⟩ dX0_lacking_48) hS (fun H locs hP hS => ?_)
          refine lv_aload_n hx hb dX0_lacking_51 rfl (lv_at hl 0 rfl) ?_
          refine gX0_3 C0 hK hP hk_k0 tw103 dX0_lacking_52 ?_
          refine lv_isub hx hb dX0_lacking_55 ?_
          refine va_mmax hx hb (C0.2.2.1.trans hl.1.symm) C0.2.2.2.1 (C0.2.2.2.2.1 _ tw459) (C0.2.2.2.2.1 _ tw460) (C0.2.2.2.2.1 _ tw76) (C0.2.2.2.2.1 _ tw461) (Nat.le_of_ble_eq_true rfl) (Nat.le_of_ble_eq_true rfl) (Nat.zero_le _) (Nat.zero_le _) dX0_lacking_56 ?_
          obtain ⟨y_16, ey_16, h⟩ := bnd_e h
          refine nm_i ey_16 ?_
          refine lv_iadd hx hb dX0_lacking_59 ?_
          obtain ⟨x1_17, ex1_17, h⟩ := bnd_e h
          refine nm_i ex1_17 ?_
          refine lv_istore_n (lv' := [(1, .int x1_17), (0, .ref (a (1 + 2 * k0))), (2, .int x2_2)]) hx hb dX0_lacking_60 rfl hl (by decide) rfl (fun ls hl => ?_)
          obtain ⟨x2_18, ex2_18, h⟩ := bnd_e h
          refine lv_iinc (v := x2_18) (lv' := [(2, .int x2_18), (1, .int x1_17), (0, .ref (a (1 + 2 * k0)))]) hx hb dX0_lacking_61 hl (k := 2) rfl (by rw [ex2_18]; rfl) (by decide) rfl (fun ls hl => ?_)
          refine lv_goto (tgt := 4) hx hb dX0_lacking_64 (by decide) ?_
          exact ih1 x1_17 x2_18 _ _ ls h hP hS (lv_sub hl [2, 1, 0] rfl)
        have hL2 : ∀ (n : Nat) (x1_4 : Int32) (x3_5 : Int32) (H : Heap) (locs : List Loc) (ls : Array Slot), f_X0_lacking_L14 k0 σ x2_2 n x1_4 x3_5 K2 = some r → va_P D vwCl (wX ca a σ) H → va_S (AW 37 a) s.heap H locs → lv_has ls 4 [(0, .ref (a (1 + 2 * k0))), (1, .int x1_4), (2, .int x2_2), (3, .int x3_5)] → W p l e rm_X0_lacking s m args below meth c H locs 0 0 Q (F0 m 14 ls []) := by
          intro n
          induction n with
          | zero => intro x1_4 x3_5 H locs ls h; rw [f_X0_lacking_L14] at h; cases h
          | succ n ih2 =>
            intro x1_4 x3_5 H locs ls h hP hS hl
            rw [f_X0_lacking_L14] at h
            refine lv_iload_n hx hb dX0_lacking_14 rfl (lv_at hl 3 rfl) ?_
            refine lv_iconst (v := 4) hx hb dX0_lacking_15 (by decide) ?_
            refine lv_icmp_ge (tgt := 43) hx hb dX0_lacking_16 (by decide) (fun c_6 => ?_) (fun c_6 => ?_)
            · have h := it c_6 h
              exact hX2 x1_4 x3_5 _ _ ls h hP hS (lv_sub hl [0, 1, 2] rfl)
            · have h := ie c_6 h
              refine lv_iload_n hx hb dX0_lacking_19 rfl (lv_at hl 1 rfl) ?_
              refine lv_iconst (v := 0) hx hb dX0_lacking_20 (by decide) ?_
              refine lv_aload_n hx hb dX0_lacking_21 rfl (lv_at hl 0 rfl) ?_
              refine gX0_2 C0 hK hP hk_k0 tw101 dX0_lacking_22 ?_
              refine lv_aload_n hx hb dX0_lacking_25 rfl (lv_at hl 0 rfl) ?_
              refine lv_iload_n hx hb dX0_lacking_26 rfl (lv_at hl 2 rfl) ?_
              refine lv_iload_n hx hb dX0_lacking_27 rfl (lv_at hl 3 rfl) ?_
              obtain ⟨r_8, h_7, h⟩ := b1_e h
              refine xcall (rV C0 hK hP hl.1 (fun _ _ _ => trivial) Bt_b (c_X0_easeAt hI hk_k0 h_7) cv_X0_easeAt tw560 (rcX0 hK hP hk_k0) (rest := [.int (σ (1 + 2 * k0) 2), .int 0, .int x1_4]) rfl (Nat.le_of_ble_eq_true rfl) ⟨rfl, rfl, Nat.le_of_ble_eq_true rfl, Nat.le_of_ble_eq_true rfl⟩ ⟨Nat.zero_le _, Nat.zero_le _⟩ dX0_lacking_28) hS (fun H locs hP hS => ?_)
              refine lv_isub hx hb dX0_lacking_31 ?_
              refine va_mmax hx hb (C0.2.2.1.trans hl.1.symm) C0.2.2.2.1 (C0.2.2.2.2.1 _ tw459) (C0.2.2.2.2.1 _ tw460) (C0.2.2.2.2.1 _ tw76) (C0.2.2.2.2.1 _ tw461) (Nat.le_of_ble_eq_true rfl) (Nat.le_of_ble_eq_true rfl) (Nat.zero_le _) (Nat.zero_le _) dX0_lacking_32 ?_
              obtain ⟨y_9, ey_9, h⟩ := bnd_e h
              refine nm_i ey_9 ?_
              refine lv_iadd hx hb dX0_lacking_35 ?_
              obtain ⟨x1_10, ex1_10, h⟩ := bnd_e h
              refine nm_i ex1_10 ?_
              refine lv_istore_n (lv' := [(1, .int x1_10), (0, .ref (a (1 + 2 * k0))), (2, .int x2_2), (3, .int x3_5)]) hx hb dX0_lacking_36 rfl hl (by decide) rfl (fun ls hl => ?_)
              obtain ⟨x3_11, ex3_11, h⟩ := bnd_e h
              refine lv_iinc (v := x3_11) (lv' := [(3, .int x3_11), (1, .int x1_10), (0, .ref (a (1 + 2 * k0))), (2, .int x2_2)]) hx hb dX0_lacking_37 hl (k := 3) rfl (by rw [ex3_11]; rfl) (by decide) rfl (fun ls hl => ?_)
              refine lv_goto (tgt := 14) hx hb dX0_lacking_40 (by decide) ?_
              exact ih2 x1_10 x3_11 _ _ ls h hP hS (lv_sub hl [2, 1, 3, 0] rfl)
        exact hL2 5000 x1_1 0 _ _ ls h hP hS (lv_sub hl [1, 2, 3, 0] rfl)
  exact hL1 5000 0 0 _ _ ls h hP hS (lv_sub hl [2, 1, 0] rfl)
def f_X0_total_L4 (k0 : Nat) (p1 : Int32) (σ : Mem) : Nat → Int32 → Int32 → (Int32 → Int32 → Option (Int32)) → Option (Int32)
  | 0, _, _, _ => none
  | n + 1, x2_1, x3_2, K1 =>
    if (σ (1 + 2 * k0) 1) ≤ x3_2 then
      K1 x2_1 x3_2
    else
      b1 (f_X0_get k0 x3_2 p1 σ) fun r_5 =>
      bnd (x2_1 + r_5) fun (x2_6 : Int32) =>
      bnd (x3_2 + 1) fun (x3_7 : Int32) =>
      f_X0_total_L4 k0 p1 σ n x2_6 x3_7 K1
def f_X0_total (k0 : Nat) (p1 : Int32) (σ : Mem) : Option (Int32) :=
  f_X0_total_L4 k0 p1 σ 5000 0 0 fun (x2_8 : Int32) (u_9 : Int32) =>
    some x2_8
def rm_X0_total : Room := { frames := 1, cells := 0, slots := 0, locals := 23 }
set_option maxHeartbeats 4000000 in
set_option maxRecDepth 100000 in
theorem c_X0_total {l : Launch} {D : va_G} {ca : Nat → ClassId} {a : Nat → Nat} (hI : InjN 37 a) {k0 : Nat} {p1 : Int32} {σ : Mem} {r : Int32} (hk_k0 : k0 < 3) (h : f_X0_total k0 p1 σ = some r) : XMX l D ca a Bt yX0_total cX0_total 4 (some .int) rm_X0_total [.ref (a (1 + 2 * k0)), .int p1] σ (some (.int r)) σ := by
  refine XM.of pn_X0 (Nat.le_of_ble_eq_true rfl) ?_
  intro p e s m args below meth c ls Q hQ C0 hK hB hP hS hl
  have C0 : Cx p s m args meth c RX0 cX0_total 4 (some .int) := C0
  have hx := C0.1
  have hb := C0.2.1
  have hl : lv_has ls 4 [(0, .ref (a (1 + 2 * k0))), (1, .int p1)] := hl
  rw [f_X0_total] at h
  refine lv_iconst (v := 0) hx hb dX0_total_0 (by decide) ?_
  refine lv_istore_n (lv' := [(2, .int 0), (0, .ref (a (1 + 2 * k0))), (1, .int p1)]) hx hb dX0_total_1 rfl hl (by decide) rfl (fun ls hl => ?_)
  refine lv_iconst (v := 0) hx hb dX0_total_2 (by decide) ?_
  refine lv_istore_n (lv' := [(3, .int 0), (2, .int 0), (0, .ref (a (1 + 2 * k0))), (1, .int p1)]) hx hb dX0_total_3 rfl hl (by decide) rfl (fun ls hl => ?_)
  obtain ⟨K1, eK1, h⟩ := lp_e (f := fun K => f_X0_total_L4 k0 p1 σ 5000 0 0 K) h
  have h : f_X0_total_L4 k0 p1 σ 5000 0 0 K1 = some r := h
  have hX1 : ∀ (x2_8 : Int32) (u_9 : Int32) (H : Heap) (locs : List Loc) (ls : Array Slot), K1 x2_8 u_9 = some r → va_P D vwCl (wX ca a σ) H → va_S (AW 37 a) s.heap H locs → lv_has ls 4 [(2, .int x2_8)] → W p l e rm_X0_total s m args below meth c H locs 0 0 Q (F0 m 27 ls []) := by
    intro x2_8 u_9 H locs ls h hP hS hl
    have h := ap2 eK1 h
    refine lv_iload_n hx hb dX0_total_27 rfl (lv_at hl 0 rfl) ?_
    rw [hQ]
    exact xzretr C0 hP hS rfl h dX0_total_28
  have hL1 : ∀ (n : Nat) (x2_1 : Int32) (x3_2 : Int32) (H : Heap) (locs : List Loc) (ls : Array Slot), f_X0_total_L4 k0 p1 σ n x2_1 x3_2 K1 = some r → va_P D vwCl (wX ca a σ) H → va_S (AW 37 a) s.heap H locs → lv_has ls 4 [(0, .ref (a (1 + 2 * k0))), (1, .int p1), (2, .int x2_1), (3, .int x3_2)] → W p l e rm_X0_total s m args below meth c H locs 0 0 Q (F0 m 4 ls []) := by
    intro n
    induction n with
    | zero => intro x2_1 x3_2 H locs ls h; rw [f_X0_total_L4] at h; cases h
    | succ n ih1 =>
      intro x2_1 x3_2 H locs ls h hP hS hl
      rw [f_X0_total_L4] at h
      refine lv_iload_n hx hb dX0_total_4 rfl (lv_at hl 3 rfl) ?_
      refine lv_aload_n hx hb dX0_total_5 rfl (lv_at hl 0 rfl) ?_
      refine gX0_1 C0 hK hP hk_k0 tw99 dX0_total_6 ?_
      refine lv_icmp_ge (tgt := 27) hx hb dX0_total_9 (by decide) (fun c_3 => ?_) (fun c_3 => ?_)
      · have h := it c_3 h
        exact hX1 x2_1 x3_2 _ _ ls h hP hS (lv_sub hl [2] rfl)
      · have h := ie c_3 h
        refine lv_iload_n hx hb dX0_total_12 rfl (lv_at hl 2 rfl) ?_
        refine lv_aload_n hx hb dX0_total_13 rfl (lv_at hl 0 rfl) ?_
        refine lv_iload_n hx hb dX0_total_14 rfl (lv_at hl 3 rfl) ?_
        refine lv_iload_n hx hb dX0_total_15 rfl (lv_at hl 1 rfl) ?_
        obtain ⟨r_5, h_4, h⟩ := b1_e h
        refine xcall (rV C0 hK hP hl.1 (fun _ _ _ => trivial) Bt_b (c_X0_get hI hk_k0 h_4) cv_X0_get tw458 (rcX0 hK hP hk_k0) (rest := [.int x2_1]) rfl (Nat.le_of_ble_eq_true rfl) ⟨rfl, rfl, Nat.le_of_ble_eq_true rfl, Nat.le_of_ble_eq_true rfl⟩ ⟨Nat.zero_le _, Nat.zero_le _⟩ dX0_total_16) hS (fun H locs hP hS => ?_)
        refine lv_iadd hx hb dX0_total_19 ?_
        obtain ⟨x2_6, ex2_6, h⟩ := bnd_e h
        refine nm_i ex2_6 ?_
        refine lv_istore_n (lv' := [(2, .int x2_6), (0, .ref (a (1 + 2 * k0))), (1, .int p1), (3, .int x3_2)]) hx hb dX0_total_20 rfl hl (by decide) rfl (fun ls hl => ?_)
        obtain ⟨x3_7, ex3_7, h⟩ := bnd_e h
        refine lv_iinc (v := x3_7) (lv' := [(3, .int x3_7), (2, .int x2_6), (0, .ref (a (1 + 2 * k0))), (1, .int p1)]) hx hb dX0_total_21 hl (k := 3) rfl (by rw [ex3_7]; rfl) (by decide) rfl (fun ls hl => ?_)
        refine lv_goto (tgt := 4) hx hb dX0_total_24 (by decide) ?_
        exact ih1 x2_6 x3_7 _ _ ls h hP hS (lv_sub hl [2, 3, 1, 0] rfl)
  exact hL1 5000 0 0 _ _ ls h hP hS (lv_sub hl [2, 3, 1, 0] rfl)
def f_X5_holdNothing (d0 : Nat) (σ : Mem) : Option (Mem) :=
  bnd (uX σ (7 + 2 * d0) 1 0) fun (σ_1 : Mem) =>
  some σ_1
def rm_X5_holdNothing : Room := { frames := 0, cells := 0, slots := 0, locals := 0 }
set_option maxHeartbeats 4000000 in
set_option maxRecDepth 100000 in
theorem c_X5_holdNothing {l : Launch} {D : va_G} {ca : Nat → ClassId} {a : Nat → Nat} (hI : InjN 37 a) {d0 : Nat} {σ : Mem} {σ' : Mem} (hk_d0 : d0 < 9) (h : f_X5_holdNothing d0 σ = some σ') : XMX l D ca a Bt yX5_holdNothing cX5_holdNothing 1 none rm_X5_holdNothing [.ref (a (7 + 2 * d0))] σ none σ' := by
  refine XM.of pn_X5 (Nat.le_of_ble_eq_true rfl) ?_
  intro p e s m args below meth c ls Q hQ C0 hK hB hP hS hl
  have C0 : Cx p s m args meth c RX5 cX5_holdNothing 1 none := C0
  have hx := C0.1
  have hb := C0.2.1
  have hl : lv_has ls 1 [(0, .ref (a (7 + 2 * d0)))] := hl
  rw [f_X5_holdNothing] at h
  refine lv_aload_n hx hb dX5_holdNothing_0 rfl (lv_at hl 0 rfl) ?_
  refine lv_iconst (v := 0) hx hb dX5_holdNothing_1 (by decide) ?_
  obtain ⟨σ_1, eσ_1, h⟩ := bnd_e h
  refine pX5_1 C0 hK hP hk_d0 tw132 hI hS dX5_holdNothing_2 (fun H locs hP hS => ?_)
  rw [← eσ_1] at hP
  rw [hQ]
  exact xvret C0 hP hS h dX5_holdNothing_5
def f_X5_holdPin (d0 : Nat) (p1 : Int32) (p2 : Int32) (σ : Mem) : Option (Mem) :=
  bnd (uX σ (7 + 2 * d0) 1 1) fun (σ_1 : Mem) =>
  bnd (uX σ_1 (7 + 2 * d0) 2 p1) fun (σ_2 : Mem) =>
  bnd (uX σ_2 (7 + 2 * d0) 3 p2) fun (σ_3 : Mem) =>
  some σ_3
def rm_X5_holdPin : Room := { frames := 0, cells := 0, slots := 0, locals := 0 }
set_option maxHeartbeats 4000000 in
set_option maxRecDepth 100000 in
theorem c_X5_holdPin {l : Launch} {D : va_G} {ca : Nat → ClassId} {a : Nat → Nat} (hI : InjN 37 a) {d0 : Nat} {p1 : Int32} {p2 : Int32} {σ : Mem} {σ' : Mem} (hk_d0 : d0 < 9) (h : f_X5_holdPin d0 p1 p2 σ = some σ') : XMX l D ca a Bt yX5_holdPin cX5_holdPin 3 none rm_X5_holdPin [.ref (a (7 + 2 * d0)), .int p1, .int p2] σ none σ' := by
  refine XM.of pn_X5 (Nat.le_of_ble_eq_true rfl) ?_
  intro p e s m args below meth c ls Q hQ C0 hK hB hP hS hl
  have C0 : Cx p s m args meth c RX5 cX5_holdPin 3 none := C0
  have hx := C0.1
  have hb := C0.2.1
  have hl : lv_has ls 3 [(0, .ref (a (7 + 2 * d0))), (1, .int p1), (2, .int p2)] := hl
  rw [f_X5_holdPin] at h
  refine lv_aload_n hx hb dX5_holdPin_0 rfl (lv_at hl 0 rfl) ?_
  refine lv_iconst (v := 1) hx hb dX5_holdPin_1 (by decide) ?_
  obtain ⟨σ_1, eσ_1, h⟩ := bnd_e h
  refine pX5_1 C0 hK hP hk_d0 tw132 hI hS dX5_holdPin_2 (fun H locs hP hS => ?_)
  rw [← eσ_1] at hP
  refine lv_aload_n hx hb dX5_holdPin_5 rfl (lv_at hl 0 rfl) ?_
  refine lv_iload_n hx hb dX5_holdPin_6 rfl (lv_at hl 1 rfl) ?_
  obtain ⟨σ_2, eσ_2, h⟩ := bnd_e h
  refine pX5_2 C0 hK hP hk_d0 tw134 hI hS dX5_holdPin_7 (fun H locs hP hS => ?_)
  rw [← eσ_2] at hP
  refine lv_aload_n hx hb dX5_holdPin_10 rfl (lv_at hl 0 rfl) ?_
  refine lv_iload_n hx hb dX5_holdPin_11 rfl (lv_at hl 2 rfl) ?_
  obtain ⟨σ_3, eσ_3, h⟩ := bnd_e h
  refine pX5_3 C0 hK hP hk_d0 tw136 hI hS dX5_holdPin_12 (fun H locs hP hS => ?_)
  rw [← eσ_3] at hP
  rw [hQ]
  exact xvret C0 hP hS h dX5_holdPin_15
def f_X5_holdRow_L29 (d0 : Nat) : Nat → Int32 → Mem → (Int32 → Mem → Option (Mem)) → Option (Mem)
  | 0, _, _, _ => none
  | n + 1, x3_6, σ_7, K1 =>
    if 100 ≤ x3_6 then
      K1 x3_6 σ_7
    else
      if x3_6 < 0 ∨ 100 ≤ x3_6.toNatClampNeg then none else
      bnd (uX σ_7 (8 + 2 * d0) x3_6.toNatClampNeg 0) fun (σ_10 : Mem) =>
      bnd (x3_6 + 1) fun (x3_11 : Int32) =>
      f_X5_holdRow_L29 d0 n x3_11 σ_10 K1
def f_X5_holdRow (d0 : Nat) (p1 : Int32) (p2 : Int32) (σ : Mem) : Option (Mem) :=
  bnd (uX σ (7 + 2 * d0) 1 2) fun (σ_1 : Mem) =>
  bnd (uX σ_1 (7 + 2 * d0) 4 p1) fun (σ_2 : Mem) =>
  bnd (if 100 < p2 then 100 else p2) fun (y_3 : Int32) =>
  bnd (if (0 : Int32) < y_3 then y_3 else 0) fun (y_4 : Int32) =>
  bnd (uX σ_2 (7 + 2 * d0) 5 y_4) fun (σ_5 : Mem) =>
  f_X5_holdRow_L29 d0 5000 0 σ_5 fun (u_12 : Int32) (σ_13 : Mem) =>
    some σ_13
def rm_X5_holdRow : Room := { frames := 1, cells := 0, slots := 0, locals := 21 }
set_option maxHeartbeats 4000000 in
set_option maxRecDepth 100000 in
theorem c_X5_holdRow {l : Launch} {D : va_G} {ca : Nat → ClassId} {a : Nat → Nat} (hI : InjN 37 a) {d0 : Nat} {p1 : Int32} {p2 : Int32} {σ : Mem} {σ' : Mem} (hk_d0 : d0 < 9) (h : f_X5_holdRow d0 p1 p2 σ = some σ') : XMX l D ca a Bt yX5_holdRow cX5_holdRow 4 none rm_X5_holdRow [.ref (a (7 + 2 * d0)), .int p1, .int p2] σ none σ' := by
  refine XM.of pn_X5 (Nat.le_of_ble_eq_true rfl) ?_
  intro p e s m args below meth c ls Q hQ C0 hK hB hP hS hl
  have C0 : Cx p s m args meth c RX5 cX5_holdRow 4 none := C0
  have hx := C0.1
  have hb := C0.2.1
  have hl : lv_has ls 4 [(0, .ref (a (7 + 2 * d0))), (1, .int p1), (2, .int p2)] := hl
  rw [f_X5_holdRow] at h
  refine lv_aload_n hx hb dX5_holdRow_0 rfl (lv_at hl 0 rfl) ?_
  refine lv_iconst (v := 2) hx hb dX5_holdRow_1 (by decide) ?_
  obtain ⟨σ_1, eσ_1, h⟩ := bnd_e h
  refine pX5_1 C0 hK hP hk_d0 tw132 hI hS dX5_holdRow_2 (fun H locs hP hS => ?_)
  rw [← eσ_1] at hP
  refine lv_aload_n hx hb dX5_holdRow_5 rfl (lv_at hl 0 rfl) ?_
  refine lv_iload_n hx hb dX5_holdRow_6 rfl (lv_at hl 1 rfl) ?_
  obtain ⟨σ_2, eσ_2, h⟩ := bnd_e h
  refine pX5_4 C0 hK hP hk_d0 tw138 hI hS dX5_holdRow_7 (fun H locs hP hS => ?_)
  rw [← eσ_2] at hP
  refine lv_aload_n hx hb dX5_holdRow_10 rfl (lv_at hl 0 rfl) ?_
  refine lv_iconst (v := 0) hx hb dX5_holdRow_11 (by decide) ?_
  refine lv_iload_n hx hb dX5_holdRow_12 rfl (lv_at hl 2 rfl) ?_
  refine lv_aload_n hx hb dX5_holdRow_13 rfl (lv_at hl 0 rfl) ?_
  refine gX5_0 C0 hK hP hk_d0 tw131 dX5_holdRow_14 ?_
  refine xalenR (N := 100) (v := 100) 0 C0 hK hP (ltSA hk_d0) (fun _ => sh_SA hk_d0) rfl (by decide) dX5_holdRow_17 ?_
  refine va_mmin hx hb (C0.2.2.1.trans hl.1.symm) C0.2.2.2.1 (C0.2.2.2.2.1 _ tw770) (C0.2.2.2.2.1 _ tw373) (C0.2.2.2.2.1 _ tw76) (C0.2.2.2.2.1 _ tw374) (Nat.le_of_ble_eq_true rfl) (Nat.le_of_ble_eq_true rfl) (Nat.zero_le _) (Nat.zero_le _) dX5_holdRow_18 ?_
  obtain ⟨y_3, ey_3, h⟩ := bnd_e h
  refine nm_i ey_3 ?_
  refine va_mmax hx hb (C0.2.2.1.trans hl.1.symm) C0.2.2.2.1 (C0.2.2.2.2.1 _ tw771) (C0.2.2.2.2.1 _ tw460) (C0.2.2.2.2.1 _ tw76) (C0.2.2.2.2.1 _ tw461) (Nat.le_of_ble_eq_true rfl) (Nat.le_of_ble_eq_true rfl) (Nat.zero_le _) (Nat.zero_le _) dX5_holdRow_21 ?_
  obtain ⟨y_4, ey_4, h⟩ := bnd_e h
  refine nm_i ey_4 ?_
  obtain ⟨σ_5, eσ_5, h⟩ := bnd_e h
  refine pX5_5 C0 hK hP hk_d0 tw140 hI hS dX5_holdRow_24 (fun H locs hP hS => ?_)
  rw [← eσ_5] at hP
  refine lv_iconst (v := 0) hx hb dX5_holdRow_27 (by decide) ?_
  refine lv_istore_n (lv' := [(3, .int 0), (0, .ref (a (7 + 2 * d0))), (1, .int p1), (2, .int p2)]) hx hb dX5_holdRow_28 rfl hl (by decide) rfl (fun ls hl => ?_)
  obtain ⟨K1, eK1, h⟩ := lp_e (f := fun K => f_X5_holdRow_L29 d0 5000 0 σ_5 K) h
  have h : f_X5_holdRow_L29 d0 5000 0 σ_5 K1 = some σ' := h
  have hX1 : ∀ (u_12 : Int32) (σ_13 : Mem) (H : Heap) (locs : List Loc) (ls : Array Slot), K1 u_12 σ_13 = some σ' → va_P D vwCl (wX ca a σ_13) H → va_S (AW 37 a) s.heap H locs → lv_has ls 4 [] → W p l e rm_X5_holdRow s m args below meth c H locs 0 0 Q (F0 m 51 ls []) := by
    intro u_12 σ_13 H locs ls h hP hS hl
    have h := ap2 eK1 h
    rw [hQ]
    exact xvret C0 hP hS h dX5_holdRow_51
  have hL1 : ∀ (n : Nat) (x3_6 : Int32) (σ_7 : Mem) (H : Heap) (locs : List Loc) (ls : Array Slot), f_X5_holdRow_L29 d0 n x3_6 σ_7 K1 = some σ' → va_P D vwCl (wX ca a σ_7) H → va_S (AW 37 a) s.heap H locs → lv_has ls 4 [(0, .ref (a (7 + 2 * d0))), (3, .int x3_6)] → W p l e rm_X5_holdRow s m args below meth c H locs 0 0 Q (F0 m 29 ls []) := by
    intro n
    induction n with
    | zero => intro x3_6 σ_7 H locs ls h; rw [f_X5_holdRow_L29] at h; cases h
    | succ n ih1 =>
      intro x3_6 σ_7 H locs ls h hP hS hl
      rw [f_X5_holdRow_L29] at h
      refine lv_iload_n hx hb dX5_holdRow_29 rfl (lv_at hl 1 rfl) ?_
      refine lv_aload_n hx hb dX5_holdRow_30 rfl (lv_at hl 0 rfl) ?_
      refine gX5_0 C0 hK hP hk_d0 tw131 dX5_holdRow_31 ?_
      refine xalenR (N := 100) (v := 100) 0 C0 hK hP (ltSA hk_d0) (fun _ => sh_SA hk_d0) rfl (by decide) dX5_holdRow_34 ?_
      refine lv_icmp_ge (tgt := 51) hx hb dX5_holdRow_35 (by decide) (fun c_8 => ?_) (fun c_8 => ?_)
      · have h := it c_8 h
        exact hX1 x3_6 σ_7 _ _ ls h hP hS (lv_sub hl [] rfl)
      · have h := ie c_8 h
        refine lv_aload_n hx hb dX5_holdRow_38 rfl (lv_at hl 0 rfl) ?_
        refine gX5_0 C0 hK hP hk_d0 tw131 dX5_holdRow_39 ?_
        refine lv_iload_n hx hb dX5_holdRow_42 rfl (lv_at hl 1 rfl) ?_
        refine lv_iconst (v := 0) hx hb dX5_holdRow_43 (by decide) ?_
        obtain ⟨b_9, h⟩ := ck h
        obtain ⟨σ_10, eσ_10, h⟩ := bnd_e h
        refine xast (i := (8 + 2 * d0)) (N := 100) C0 hK hP hI hS (ltSA hk_d0) (fun _ => sh_SA hk_d0) b_9 dX5_holdRow_44 (fun H locs hP hS => ?_)
        rw [← eσ_10] at hP
        obtain ⟨x3_11, ex3_11, h⟩ := bnd_e h
        refine lv_iinc (v := x3_11) (lv' := [(3, .int x3_11), (0, .ref (a (7 + 2 * d0)))]) hx hb dX5_holdRow_45 hl (k := 1) rfl (by rw [ex3_11]; rfl) (by decide) rfl (fun ls hl => ?_)
        refine lv_goto (tgt := 29) hx hb dX5_holdRow_48 (by decide) ?_
        exact ih1 x3_11 σ_10 _ _ ls h hP hS (lv_sub hl [1, 0] rfl)
  exact hL1 5000 0 σ_5 _ _ ls h hP hS (lv_sub hl [1, 0] rfl)
def f_X5_pinRefusal (d0 : Nat) (σ : Mem) : Option (Int32) :=
  if (σ (7 + 2 * d0) 1) = 0 then
    some (-11)
  else
    if (σ (7 + 2 * d0) 1) = 1 then
      some 0
    else
      some (-12)
def rm_X5_pinRefusal : Room := { frames := 0, cells := 0, slots := 0, locals := 0 }
set_option maxHeartbeats 4000000 in
set_option maxRecDepth 100000 in
theorem c_X5_pinRefusal {l : Launch} {D : va_G} {ca : Nat → ClassId} {a : Nat → Nat} (hI : InjN 37 a) {d0 : Nat} {σ : Mem} {r : Int32} (hk_d0 : d0 < 9) (h : f_X5_pinRefusal d0 σ = some r) : XMX l D ca a Bt yX5_pinRefusal cX5_pinRefusal 1 (some .int) rm_X5_pinRefusal [.ref (a (7 + 2 * d0))] σ (some (.int r)) σ := by
  refine XM.of pn_X5 (Nat.le_of_ble_eq_true rfl) ?_
  intro p e s m args below meth c ls Q hQ C0 hK hB hP hS hl
  have C0 : Cx p s m args meth c RX5 cX5_pinRefusal 1 (some .int) := C0
  have hx := C0.1
  have hb := C0.2.1
  have hl : lv_has ls 1 [(0, .ref (a (7 + 2 * d0)))] := hl
  rw [f_X5_pinRefusal] at h
  refine lv_aload_n hx hb dX5_pinRefusal_0 rfl (lv_at hl 0 rfl) ?_
  refine gX5_1 C0 hK hP hk_d0 tw132 dX5_pinRefusal_1 ?_
  refine lv_if_ne (tgt := 12) hx hb dX5_pinRefusal_4 (by decide) (fun c_1 => ?_) (fun c_1 => ?_)
  · have h := ie c_1 h
    refine lv_aload_n hx hb dX5_pinRefusal_12 rfl (lv_at hl 0 rfl) ?_
    refine gX5_1 C0 hK hP hk_d0 tw132 dX5_pinRefusal_13 ?_
    refine lv_iconst (v := 1) hx hb dX5_pinRefusal_16 (by decide) ?_
    refine lv_icmp_ne (tgt := 24) hx hb dX5_pinRefusal_17 (by decide) (fun c_2 => ?_) (fun c_2 => ?_)
    · have h := ie c_2 h
      refine lv_bipush (v := (-12)) hx hb dX5_pinRefusal_24 (by decide) ?_
      rw [hQ]
      exact xzretr C0 hP hS rfl h dX5_pinRefusal_26
    · have h := it c_2 h
      refine lv_iconst (v := 0) hx hb dX5_pinRefusal_20 (by decide) ?_
      refine lv_goto (tgt := 26) hx hb dX5_pinRefusal_21 (by decide) ?_
      rw [hQ]
      exact xzretr C0 hP hS rfl h dX5_pinRefusal_26
  · have h := it c_1 h
    refine lv_bipush (v := (-11)) hx hb dX5_pinRefusal_7 (by decide) ?_
    refine lv_goto (tgt := 26) hx hb dX5_pinRefusal_9 (by decide) ?_
    rw [hQ]
    exact xzretr C0 hP hS rfl h dX5_pinRefusal_26
def f_X5_rowRefusal (d0 : Nat) (σ : Mem) : Option (Int32) :=
  if (σ (7 + 2 * d0) 1) = 0 then
    some (-11)
  else
    if (σ (7 + 2 * d0) 1) = 2 then
      some 0
    else
      some (-12)
def rm_X5_rowRefusal : Room := { frames := 0, cells := 0, slots := 0, locals := 0 }
set_option maxHeartbeats 4000000 in
set_option maxRecDepth 100000 in
theorem c_X5_rowRefusal {l : Launch} {D : va_G} {ca : Nat → ClassId} {a : Nat → Nat} (hI : InjN 37 a) {d0 : Nat} {σ : Mem} {r : Int32} (hk_d0 : d0 < 9) (h : f_X5_rowRefusal d0 σ = some r) : XMX l D ca a Bt yX5_rowRefusal cX5_rowRefusal 1 (some .int) rm_X5_rowRefusal [.ref (a (7 + 2 * d0))] σ (some (.int r)) σ := by
  refine XM.of pn_X5 (Nat.le_of_ble_eq_true rfl) ?_
  intro p e s m args below meth c ls Q hQ C0 hK hB hP hS hl
  have C0 : Cx p s m args meth c RX5 cX5_rowRefusal 1 (some .int) := C0
  have hx := C0.1
  have hb := C0.2.1
  have hl : lv_has ls 1 [(0, .ref (a (7 + 2 * d0)))] := hl
  rw [f_X5_rowRefusal] at h
  refine lv_aload_n hx hb dX5_rowRefusal_0 rfl (lv_at hl 0 rfl) ?_
  refine gX5_1 C0 hK hP hk_d0 tw132 dX5_rowRefusal_1 ?_
  refine lv_if_ne (tgt := 12) hx hb dX5_rowRefusal_4 (by decide) (fun c_1 => ?_) (fun c_1 => ?_)
  · have h := ie c_1 h
    refine lv_aload_n hx hb dX5_rowRefusal_12 rfl (lv_at hl 0 rfl) ?_
    refine gX5_1 C0 hK hP hk_d0 tw132 dX5_rowRefusal_13 ?_
    refine lv_iconst (v := 2) hx hb dX5_rowRefusal_16 (by decide) ?_
    refine lv_icmp_ne (tgt := 24) hx hb dX5_rowRefusal_17 (by decide) (fun c_2 => ?_) (fun c_2 => ?_)
    · have h := ie c_2 h
      refine lv_bipush (v := (-12)) hx hb dX5_rowRefusal_24 (by decide) ?_
      rw [hQ]
      exact xzretr C0 hP hS rfl h dX5_rowRefusal_26
    · have h := it c_2 h
      refine lv_iconst (v := 0) hx hb dX5_rowRefusal_20 (by decide) ?_
      refine lv_goto (tgt := 26) hx hb dX5_rowRefusal_21 (by decide) ?_
      rw [hQ]
      exact xzretr C0 hP hS rfl h dX5_rowRefusal_26
  · have h := it c_1 h
    refine lv_bipush (v := (-11)) hx hb dX5_rowRefusal_7 (by decide) ?_
    refine lv_goto (tgt := 26) hx hb dX5_rowRefusal_9 (by decide) ?_
    rw [hQ]
    exact xzretr C0 hP hS rfl h dX5_rowRefusal_26
def f_X5_hasPlaces (d0 : Nat) (p1 : Int32) (p2 : Int32) (σ : Mem) : Option (Int32) :=
  if p1 < 0 then
    some 0
  else
    if p2 < 0 then
      some 0
    else
      if (σ (7 + 2 * d0) 5) < p2 then
        some 0
      else
        if ((σ (7 + 2 * d0) 5) - p2) < p1 then
          some 0
        else
          some 1
def rm_X5_hasPlaces : Room := { frames := 0, cells := 0, slots := 0, locals := 0 }
set_option maxHeartbeats 4000000 in
set_option maxRecDepth 100000 in
theorem c_X5_hasPlaces {l : Launch} {D : va_G} {ca : Nat → ClassId} {a : Nat → Nat} (hI : InjN 37 a) {d0 : Nat} {p1 : Int32} {p2 : Int32} {σ : Mem} {r : Int32} (hk_d0 : d0 < 9) (h : f_X5_hasPlaces d0 p1 p2 σ = some r) : XMX l D ca a Bt yX5_hasPlaces cX5_hasPlaces 3 (some .boolean) rm_X5_hasPlaces [.ref (a (7 + 2 * d0)), .int p1, .int p2] σ (some (.int r)) σ := by
  refine XM.of pn_X5 (Nat.le_of_ble_eq_true rfl) ?_
  intro p e s m args below meth c ls Q hQ C0 hK hB hP hS hl
  have C0 : Cx p s m args meth c RX5 cX5_hasPlaces 3 (some .boolean) := C0
  have hx := C0.1
  have hb := C0.2.1
  have hl : lv_has ls 3 [(0, .ref (a (7 + 2 * d0))), (1, .int p1), (2, .int p2)] := hl
  rw [f_X5_hasPlaces] at h
  refine lv_iload_n hx hb dX5_hasPlaces_0 rfl (lv_at hl 1 rfl) ?_
  refine lv_if_lt (tgt := 30) hx hb dX5_hasPlaces_1 (by decide) (fun c_1 => ?_) (fun c_1 => ?_)
  · have h := it c_1 h
    refine lv_iconst (v := 0) hx hb dX5_hasPlaces_30 (by decide) ?_
    rw [hQ]
    exact xzretr C0 hP hS rfl h dX5_hasPlaces_31
  · have h := ie c_1 h
    refine lv_iload_n hx hb dX5_hasPlaces_4 rfl (lv_at hl 2 rfl) ?_
    refine lv_if_lt (tgt := 30) hx hb dX5_hasPlaces_5 (by decide) (fun c_2 => ?_) (fun c_2 => ?_)
    · have h := it c_2 h
      refine lv_iconst (v := 0) hx hb dX5_hasPlaces_30 (by decide) ?_
      rw [hQ]
      exact xzretr C0 hP hS rfl h dX5_hasPlaces_31
    · have h := ie c_2 h
      refine lv_iload_n hx hb dX5_hasPlaces_8 rfl (lv_at hl 2 rfl) ?_
      refine lv_aload_n hx hb dX5_hasPlaces_9 rfl (lv_at hl 0 rfl) ?_
      refine gX5_5 C0 hK hP hk_d0 tw140 dX5_hasPlaces_10 ?_
      refine lv_icmp_gt (tgt := 30) hx hb dX5_hasPlaces_13 (by decide) (fun c_3 => ?_) (fun c_3 => ?_)
      · have h := it c_3 h
        refine lv_iconst (v := 0) hx hb dX5_hasPlaces_30 (by decide) ?_
        rw [hQ]
        exact xzretr C0 hP hS rfl h dX5_hasPlaces_31
      · have h := ie c_3 h
        refine lv_iload_n hx hb dX5_hasPlaces_16 rfl (lv_at hl 1 rfl) ?_
        refine lv_aload_n hx hb dX5_hasPlaces_17 rfl (lv_at hl 0 rfl) ?_
        refine gX5_5 C0 hK hP hk_d0 tw140 dX5_hasPlaces_18 ?_
        refine lv_iload_n hx hb dX5_hasPlaces_21 rfl (lv_at hl 2 rfl) ?_
        refine lv_isub hx hb dX5_hasPlaces_22 ?_
        refine lv_icmp_gt (tgt := 30) hx hb dX5_hasPlaces_23 (by decide) (fun c_4 => ?_) (fun c_4 => ?_)
        · have h := it c_4 h
          refine lv_iconst (v := 0) hx hb dX5_hasPlaces_30 (by decide) ?_
          rw [hQ]
          exact xzretr C0 hP hS rfl h dX5_hasPlaces_31
        · have h := ie c_4 h
          refine lv_iconst (v := 1) hx hb dX5_hasPlaces_26 (by decide) ?_
          refine lv_goto (tgt := 31) hx hb dX5_hasPlaces_27 (by decide) ?_
          rw [hQ]
          exact xzretr C0 hP hS rfl h dX5_hasPlaces_31
def f_X5_at (d0 : Nat) (p1 : Int32) (σ : Mem) : Option (Int32) :=
  if p1 < 0 then
    some 0
  else
    if (σ (7 + 2 * d0) 5) ≤ p1 then
      some 0
    else
      if 100 ≤ p1 then
        some 0
      else
        if p1 < 0 ∨ 100 ≤ p1.toNatClampNeg then none else
        some (σ (8 + 2 * d0) p1.toNatClampNeg)
def rm_X5_at : Room := { frames := 0, cells := 0, slots := 0, locals := 0 }
set_option maxHeartbeats 4000000 in
set_option maxRecDepth 100000 in
theorem c_X5_at {l : Launch} {D : va_G} {ca : Nat → ClassId} {a : Nat → Nat} (hI : InjN 37 a) {d0 : Nat} {p1 : Int32} {σ : Mem} {r : Int32} (hk_d0 : d0 < 9) (h : f_X5_at d0 p1 σ = some r) : XMX l D ca a Bt yX5_at cX5_at 2 (some .int) rm_X5_at [.ref (a (7 + 2 * d0)), .int p1] σ (some (.int r)) σ := by
  refine XM.of pn_X5 (Nat.le_of_ble_eq_true rfl) ?_
  intro p e s m args below meth c ls Q hQ C0 hK hB hP hS hl
  have C0 : Cx p s m args meth c RX5 cX5_at 2 (some .int) := C0
  have hx := C0.1
  have hb := C0.2.1
  have hl : lv_has ls 2 [(0, .ref (a (7 + 2 * d0))), (1, .int p1)] := hl
  rw [f_X5_at] at h
  refine lv_iload_n hx hb dX5_at_0 rfl (lv_at hl 1 rfl) ?_
  refine lv_if_lt (tgt := 30) hx hb dX5_at_1 (by decide) (fun c_1 => ?_) (fun c_1 => ?_)
  · have h := it c_1 h
    refine lv_iconst (v := 0) hx hb dX5_at_30 (by decide) ?_
    rw [hQ]
    exact xzretr C0 hP hS rfl h dX5_at_31
  · have h := ie c_1 h
    refine lv_iload_n hx hb dX5_at_4 rfl (lv_at hl 1 rfl) ?_
    refine lv_aload_n hx hb dX5_at_5 rfl (lv_at hl 0 rfl) ?_
    refine gX5_5 C0 hK hP hk_d0 tw140 dX5_at_6 ?_
    refine lv_icmp_ge (tgt := 30) hx hb dX5_at_9 (by decide) (fun c_2 => ?_) (fun c_2 => ?_)
    · have h := it c_2 h
      refine lv_iconst (v := 0) hx hb dX5_at_30 (by decide) ?_
      rw [hQ]
      exact xzretr C0 hP hS rfl h dX5_at_31
    · have h := ie c_2 h
      refine lv_iload_n hx hb dX5_at_12 rfl (lv_at hl 1 rfl) ?_
      refine lv_aload_n hx hb dX5_at_13 rfl (lv_at hl 0 rfl) ?_
      refine gX5_0 C0 hK hP hk_d0 tw131 dX5_at_14 ?_
      refine xalenR (N := 100) (v := 100) 0 C0 hK hP (ltSA hk_d0) (fun _ => sh_SA hk_d0) rfl (by decide) dX5_at_17 ?_
      refine lv_icmp_ge (tgt := 30) hx hb dX5_at_18 (by decide) (fun c_3 => ?_) (fun c_3 => ?_)
      · have h := it c_3 h
        refine lv_iconst (v := 0) hx hb dX5_at_30 (by decide) ?_
        rw [hQ]
        exact xzretr C0 hP hS rfl h dX5_at_31
      · have h := ie c_3 h
        refine lv_aload_n hx hb dX5_at_21 rfl (lv_at hl 0 rfl) ?_
        refine gX5_0 C0 hK hP hk_d0 tw131 dX5_at_22 ?_
        refine lv_iload_n hx hb dX5_at_25 rfl (lv_at hl 1 rfl) ?_
        obtain ⟨b_4, h⟩ := ck h
        refine xald (i := (8 + 2 * d0)) (N := 100) C0 hK hP (ltSA hk_d0) (fun _ => sh_SA hk_d0) b_4 dX5_at_26 ?_
        refine lv_goto (tgt := 31) hx hb dX5_at_27 (by decide) ?_
        rw [hQ]
        exact xzretr C0 hP hS rfl h dX5_at_31
def f_X5_putAt (d0 : Nat) (p1 : Int32) (p2 : Int32) (σ : Mem) : Option (Mem) :=
  if p1 < 0 then
    some σ
  else
    if (σ (7 + 2 * d0) 5) ≤ p1 then
      some σ
    else
      if 100 ≤ p1 then
        some σ
      else
        if (σ (7 + 2 * d0) 4) = 0 then
          bnd (p2.toInt8.toInt32) fun (y_11 : Int32) =>
          if p1 < 0 ∨ 100 ≤ p1.toNatClampNeg then none else
          bnd (uX σ (8 + 2 * d0) p1.toNatClampNeg y_11) fun (σ_13 : Mem) =>
          some σ_13
        else
          if (σ (7 + 2 * d0) 4) = 1 then
            bnd (p2.toInt16.toInt32) fun (y_8 : Int32) =>
            if p1 < 0 ∨ 100 ≤ p1.toNatClampNeg then none else
            bnd (uX σ (8 + 2 * d0) p1.toNatClampNeg y_8) fun (σ_10 : Mem) =>
            some σ_10
          else
            if p1 < 0 ∨ 100 ≤ p1.toNatClampNeg then none else
            bnd (uX σ (8 + 2 * d0) p1.toNatClampNeg p2) fun (σ_7 : Mem) =>
            some σ_7
def rm_X5_putAt : Room := { frames := 0, cells := 0, slots := 0, locals := 0 }
set_option maxHeartbeats 4000000 in
set_option maxRecDepth 100000 in
theorem c_X5_putAt {l : Launch} {D : va_G} {ca : Nat → ClassId} {a : Nat → Nat} (hI : InjN 37 a) {d0 : Nat} {p1 : Int32} {p2 : Int32} {σ : Mem} {σ' : Mem} (hk_d0 : d0 < 9) (h : f_X5_putAt d0 p1 p2 σ = some σ') : XMX l D ca a Bt yX5_putAt cX5_putAt 3 none rm_X5_putAt [.ref (a (7 + 2 * d0)), .int p1, .int p2] σ none σ' := by
  refine XM.of pn_X5 (Nat.le_of_ble_eq_true rfl) ?_
  intro p e s m args below meth c ls Q hQ C0 hK hB hP hS hl
  have C0 : Cx p s m args meth c RX5 cX5_putAt 3 none := C0
  have hx := C0.1
  have hb := C0.2.1
  have hl : lv_has ls 3 [(0, .ref (a (7 + 2 * d0))), (1, .int p1), (2, .int p2)] := hl
  rw [f_X5_putAt] at h
  refine lv_iload_n hx hb dX5_putAt_0 rfl (lv_at hl 1 rfl) ?_
  refine lv_if_lt (tgt := 53) hx hb dX5_putAt_1 (by decide) (fun c_1 => ?_) (fun c_1 => ?_)
  · have h := it c_1 h
    rw [hQ]
    exact xvret C0 hP hS h dX5_putAt_53
  · have h := ie c_1 h
    refine lv_iload_n hx hb dX5_putAt_4 rfl (lv_at hl 1 rfl) ?_
    refine lv_aload_n hx hb dX5_putAt_5 rfl (lv_at hl 0 rfl) ?_
    refine gX5_5 C0 hK hP hk_d0 tw140 dX5_putAt_6 ?_
    refine lv_icmp_ge (tgt := 53) hx hb dX5_putAt_9 (by decide) (fun c_2 => ?_) (fun c_2 => ?_)
    · have h := it c_2 h
      rw [hQ]
      exact xvret C0 hP hS h dX5_putAt_53
    · have h := ie c_2 h
      refine lv_iload_n hx hb dX5_putAt_12 rfl (lv_at hl 1 rfl) ?_
      refine lv_aload_n hx hb dX5_putAt_13 rfl (lv_at hl 0 rfl) ?_
      refine gX5_0 C0 hK hP hk_d0 tw131 dX5_putAt_14 ?_
      refine xalenR (N := 100) (v := 100) 0 C0 hK hP (ltSA hk_d0) (fun _ => sh_SA hk_d0) rfl (by decide) dX5_putAt_17 ?_
      refine lv_icmp_ge (tgt := 53) hx hb dX5_putAt_18 (by decide) (fun c_3 => ?_) (fun c_3 => ?_)
      · have h := it c_3 h
        rw [hQ]
        exact xvret C0 hP hS h dX5_putAt_53
      · have h := ie c_3 h
        refine lv_aload_n hx hb dX5_putAt_21 rfl (lv_at hl 0 rfl) ?_
        refine gX5_0 C0 hK hP hk_d0 tw131 dX5_putAt_22 ?_
        refine lv_iload_n hx hb dX5_putAt_25 rfl (lv_at hl 1 rfl) ?_
        refine lv_aload_n hx hb dX5_putAt_26 rfl (lv_at hl 0 rfl) ?_
        refine gX5_4 C0 hK hP hk_d0 tw138 dX5_putAt_27 ?_
        refine lv_if_ne (tgt := 38) hx hb dX5_putAt_30 (by decide) (fun c_4 => ?_) (fun c_4 => ?_)
        · have h := ie c_4 h
          refine lv_aload_n hx hb dX5_putAt_38 rfl (lv_at hl 0 rfl) ?_
          refine gX5_4 C0 hK hP hk_d0 tw138 dX5_putAt_39 ?_
          refine lv_iconst (v := 1) hx hb dX5_putAt_42 (by decide) ?_
          refine lv_icmp_ne (tgt := 51) hx hb dX5_putAt_43 (by decide) (fun c_5 => ?_) (fun c_5 => ?_)
          · have h := ie c_5 h
            refine lv_iload_n hx hb dX5_putAt_51 rfl (lv_at hl 2 rfl) ?_
            obtain ⟨b_6, h⟩ := ck h
            obtain ⟨σ_7, eσ_7, h⟩ := bnd_e h
            refine xast (i := (8 + 2 * d0)) (N := 100) C0 hK hP hI hS (ltSA hk_d0) (fun _ => sh_SA hk_d0) b_6 dX5_putAt_52 (fun H locs hP hS => ?_)
            rw [← eσ_7] at hP
            rw [hQ]
            exact xvret C0 hP hS h dX5_putAt_53
          · have h := it c_5 h
            refine lv_iload_n hx hb dX5_putAt_46 rfl (lv_at hl 2 rfl) ?_
            refine lv_i2s (v := p2.toInt16.toInt32) hx hb dX5_putAt_47 rfl ?_
            refine lv_goto (tgt := 52) hx hb dX5_putAt_48 (by decide) ?_
            obtain ⟨y_8, ey_8, h⟩ := bnd_e h
            refine nm_i ey_8 ?_
            obtain ⟨b_9, h⟩ := ck h
            obtain ⟨σ_10, eσ_10, h⟩ := bnd_e h
            refine xast (i := (8 + 2 * d0)) (N := 100) C0 hK hP hI hS (ltSA hk_d0) (fun _ => sh_SA hk_d0) b_9 dX5_putAt_52 (fun H locs hP hS => ?_)
            rw [← eσ_10] at hP
            rw [hQ]
            exact xvret C0 hP hS h dX5_putAt_53
        · have h := it c_4 h
          refine lv_iload_n hx hb dX5_putAt_33 rfl (lv_at hl 2 rfl) ?_
          refine lv_i2b (v := p2.toInt8.toInt32) hx hb dX5_putAt_34 rfl ?_
          refine lv_goto (tgt := 52) hx hb dX5_putAt_35 (by decide) ?_
          obtain ⟨y_11, ey_11, h⟩ := bnd_e h
          refine nm_i ey_11 ?_
          obtain ⟨b_12, h⟩ := ck h
          obtain ⟨σ_13, eσ_13, h⟩ := bnd_e h
          refine xast (i := (8 + 2 * d0)) (N := 100) C0 hK hP hI hS (ltSA hk_d0) (fun _ => sh_SA hk_d0) b_12 dX5_putAt_52 (fun H locs hP hS => ?_)
          rw [← eσ_13] at hP
          rw [hQ]
          exact xvret C0 hP hS h dX5_putAt_53
def f_X5_leastNumber (d0 : Nat) (σ : Mem) : Option (Int32) :=
  if (σ (7 + 2 * d0) 4) = 0 then
    some (-128)
  else
    if (σ (7 + 2 * d0) 4) = 1 then
      some (-32768)
    else
      some (-2147483648)
def rm_X5_leastNumber : Room := { frames := 0, cells := 0, slots := 0, locals := 0 }
set_option maxHeartbeats 4000000 in
set_option maxRecDepth 100000 in
theorem c_X5_leastNumber {l : Launch} {D : va_G} {ca : Nat → ClassId} {a : Nat → Nat} (hI : InjN 37 a) {d0 : Nat} {σ : Mem} {r : Int32} (hk_d0 : d0 < 9) (h : f_X5_leastNumber d0 σ = some r) : XMX l D ca a Bt yX5_leastNumber cX5_leastNumber 1 (some .int) rm_X5_leastNumber [.ref (a (7 + 2 * d0))] σ (some (.int r)) σ := by
  refine XM.of pn_X5 (Nat.le_of_ble_eq_true rfl) ?_
  intro p e s m args below meth c ls Q hQ C0 hK hB hP hS hl
  have C0 : Cx p s m args meth c RX5 cX5_leastNumber 1 (some .int) := C0
  have hx := C0.1
  have hb := C0.2.1
  have hl : lv_has ls 1 [(0, .ref (a (7 + 2 * d0)))] := hl
  rw [f_X5_leastNumber] at h
  refine lv_aload_n hx hb dX5_leastNumber_0 rfl (lv_at hl 0 rfl) ?_
  refine gX5_4 C0 hK hP hk_d0 tw138 dX5_leastNumber_1 ?_
  refine lv_if_ne (tgt := 12) hx hb dX5_leastNumber_4 (by decide) (fun c_1 => ?_) (fun c_1 => ?_)
  · have h := ie c_1 h
    refine lv_aload_n hx hb dX5_leastNumber_12 rfl (lv_at hl 0 rfl) ?_
    refine gX5_4 C0 hK hP hk_d0 tw138 dX5_leastNumber_13 ?_
    refine lv_iconst (v := 1) hx hb dX5_leastNumber_16 (by decide) ?_
    refine lv_icmp_ne (tgt := 26) hx hb dX5_leastNumber_17 (by decide) (fun c_2 => ?_) (fun c_2 => ?_)
    · have h := ie c_2 h
      refine lv_ldc (v := (-2147483648)) hx hb C0.2.2.2.1 (C0.2.2.2.2.1 _ tw733) dX5_leastNumber_26 ?_
      rw [hQ]
      exact xzretr C0 hP hS rfl h dX5_leastNumber_28
    · have h := it c_2 h
      refine lv_sipush (v := (-32768)) hx hb dX5_leastNumber_20 (by decide) ?_
      refine lv_goto (tgt := 28) hx hb dX5_leastNumber_23 (by decide) ?_
      rw [hQ]
      exact xzretr C0 hP hS rfl h dX5_leastNumber_28
  · have h := it c_1 h
    refine lv_bipush (v := (-128)) hx hb dX5_leastNumber_7 (by decide) ?_
    refine lv_goto (tgt := 28) hx hb dX5_leastNumber_9 (by decide) ?_
    rw [hQ]
    exact xzretr C0 hP hS rfl h dX5_leastNumber_28
def f_X5_takeFrom (d0 : Nat) (d1 : Nat) (p2 : Int32) (p3 : Int32) (p4 : Int32) (σ : Mem) : Option (Mem) :=
  b1 (f_X5_hasPlaces d1 p2 p4 σ) fun r_2 =>
  if r_2 = 0 then
    some σ
  else
    b1 (f_X5_hasPlaces d0 p3 p4 σ) fun r_5 =>
    if r_5 = 0 then
      some σ
    else
      if p2 < 0 ∨ p3 < 0 ∨ p4 < 0 ∨ 100 < p2.toNatClampNeg + p4.toNatClampNeg ∨ 100 < p3.toNatClampNeg + p4.toNatClampNeg then none else
      bnd (upR σ (8 + 2 * d0) (va_cpy (σ (8 + 2 * d1)) (σ (8 + 2 * d0)) p2.toNatClampNeg p3.toNatClampNeg p4.toNatClampNeg)) fun (σ_8 : Mem) =>
      some σ_8
def rm_X5_takeFrom : Room := { frames := 1, cells := 0, slots := 0, locals := 68 }
set_option maxHeartbeats 4000000 in
set_option maxRecDepth 100000 in
theorem c_X5_takeFrom {l : Launch} {D : va_G} {ca : Nat → ClassId} {a : Nat → Nat} (hI : InjN 37 a) {d0 : Nat} {d1 : Nat} {p2 : Int32} {p3 : Int32} {p4 : Int32} {σ : Mem} {σ' : Mem} (hk_d0 : d0 < 9) (hk_d1 : d1 < 9) (h : f_X5_takeFrom d0 d1 p2 p3 p4 σ = some σ') : XMX l D ca a Bt yX5_takeFrom cX5_takeFrom 5 none rm_X5_takeFrom [.ref (a (7 + 2 * d0)), .ref (a (7 + 2 * d1)), .int p2, .int p3, .int p4] σ none σ' := by
  refine XM.of pn_X5 (Nat.le_of_ble_eq_true rfl) ?_
  intro p e s m args below meth c ls Q hQ C0 hK hB hP hS hl
  have C0 : Cx p s m args meth c RX5 cX5_takeFrom 5 none := C0
  have hx := C0.1
  have hb := C0.2.1
  have hl : lv_has ls 5 [(0, .ref (a (7 + 2 * d0))), (1, .ref (a (7 + 2 * d1))), (2, .int p2), (3, .int p3), (4, .int p4)] := hl
  rw [f_X5_takeFrom] at h
  refine lv_aload_n hx hb dX5_takeFrom_0 rfl (lv_at hl 1 rfl) ?_
  refine lv_iload_n hx hb dX5_takeFrom_1 rfl (lv_at hl 2 rfl) ?_
  refine lv_iload hx hb dX5_takeFrom_2 (lv_at hl 4 rfl) ?_
  obtain ⟨r_2, h_1, h⟩ := b1_e h
  refine xcall (rV C0 hK hP hl.1 (fun _ _ _ => trivial) Bt_b (c_X5_hasPlaces hI hk_d1 h_1) cv_X5_hasPlaces tw792 (rcX5 hK hP hk_d1) (rest := []) rfl (Nat.le_of_ble_eq_true rfl) ⟨rfl, rfl, Nat.le_of_ble_eq_true rfl, Nat.le_of_ble_eq_true rfl⟩ ⟨Nat.zero_le _, Nat.zero_le _⟩ dX5_takeFrom_4) hS (fun H locs hP hS => ?_)
  refine lv_if_eq (tgt := 35) hx hb dX5_takeFrom_7 (by decide) (fun c_3 => ?_) (fun c_3 => ?_)
  · have h := it c_3 h
    rw [hQ]
    exact xvret C0 hP hS h dX5_takeFrom_35
  · have h := ie c_3 h
    refine lv_aload_n hx hb dX5_takeFrom_10 rfl (lv_at hl 0 rfl) ?_
    refine lv_iload_n hx hb dX5_takeFrom_11 rfl (lv_at hl 3 rfl) ?_
    refine lv_iload hx hb dX5_takeFrom_12 (lv_at hl 4 rfl) ?_
    obtain ⟨r_5, h_4, h⟩ := b1_e h
    refine xcall (rV C0 hK hP hl.1 (fun _ _ _ => trivial) Bt_b (c_X5_hasPlaces hI hk_d0 h_4) cv_X5_hasPlaces tw792 (rcX5 hK hP hk_d0) (rest := []) rfl (Nat.le_of_ble_eq_true rfl) ⟨rfl, rfl, Nat.le_of_ble_eq_true rfl, Nat.le_of_ble_eq_true rfl⟩ ⟨Nat.zero_le _, Nat.zero_le _⟩ dX5_takeFrom_14) hS (fun H locs hP hS => ?_)
    refine lv_if_eq (tgt := 35) hx hb dX5_takeFrom_17 (by decide) (fun c_6 => ?_) (fun c_6 => ?_)
    · have h := it c_6 h
      rw [hQ]
      exact xvret C0 hP hS h dX5_takeFrom_35
    · have h := ie c_6 h
      refine lv_aload_n hx hb dX5_takeFrom_20 rfl (lv_at hl 1 rfl) ?_
      refine gX5_0 C0 hK hP hk_d1 tw131 dX5_takeFrom_21 ?_
      refine lv_iload_n hx hb dX5_takeFrom_24 rfl (lv_at hl 2 rfl) ?_
      refine lv_aload_n hx hb dX5_takeFrom_25 rfl (lv_at hl 0 rfl) ?_
      refine gX5_0 C0 hK hP hk_d0 tw131 dX5_takeFrom_26 ?_
      refine lv_iload_n hx hb dX5_takeFrom_29 rfl (lv_at hl 3 rfl) ?_
      refine lv_iload hx hb dX5_takeFrom_30 (lv_at hl 4 rfl) ?_
      obtain ⟨b_7, h⟩ := ck h
      obtain ⟨σ_8, eσ_8, h⟩ := bnd_e h
      refine xcpy (i := (8 + 2 * d1)) (j := (8 + 2 * d0)) (N := 100) C0 hK hP hI hS hl.1 (ltSA hk_d1) (ltSA hk_d0) (fun _ => sh_SA hk_d1) (fun _ => sh_SA hk_d0) (C0.2.2.2.2.1 _ tw793) (C0.2.2.2.2.1 _ tw377) (C0.2.2.2.2.1 _ tw376) (C0.2.2.2.2.1 _ tw77) b_7 (Nat.le_of_ble_eq_true rfl) (Nat.le_of_ble_eq_true rfl) dX5_takeFrom_32 (fun H locs hP hS => ?_)
      rw [← eσ_8] at hP
      rw [hQ]
      exact xvret C0 hP hS h dX5_takeFrom_35
def f_X8_digitHere (d1 : Nat) (σ : Mem) : Option (Int32) :=
  b1 (f_X5_at d1 (σ 35 2) σ) fun r_2 =>
  b1 (f_X11_within r_2 48 57) fun r_4 =>
  if r_4 = 0 then
    some (-1)
  else
    some (r_2 - 48)
def rm_X8_digitHere : Room := { frames := 1, cells := 0, slots := 0, locals := 22 }
set_option maxHeartbeats 4000000 in
set_option maxRecDepth 100000 in
theorem c_X8_digitHere {l : Launch} {D : va_G} {ca : Nat → ClassId} {a : Nat → Nat} (hI : InjN 37 a) {d1 : Nat} {σ : Mem} {r : Int32} (hk_d1 : d1 < 9) (h : f_X8_digitHere d1 σ = some r) : XMX l D ca a Bt yX8_digitHere cX8_digitHere 3 (some .int) rm_X8_digitHere [.ref (a 35), .ref (a (7 + 2 * d1))] σ (some (.int r)) σ := by
  refine XM.of pn_X8 (Nat.le_of_ble_eq_true rfl) ?_
  intro p e s m args below meth c ls Q hQ C0 hK hB hP hS hl
  have C0 : Cx p s m args meth c RX8 cX8_digitHere 3 (some .int) := C0
  have hx := C0.1
  have hb := C0.2.1
  have hl : lv_has ls 3 [(0, .ref (a 35)), (1, .ref (a (7 + 2 * d1)))] := hl
  rw [f_X8_digitHere] at h
  refine lv_aload_n hx hb dX8_digitHere_0 rfl (lv_at hl 1 rfl) ?_
  refine lv_aload_n hx hb dX8_digitHere_1 rfl (lv_at hl 0 rfl) ?_
  refine gX8_2 C0 hK hP tw172 dX8_digitHere_2 ?_
  obtain ⟨r_2, h_1, h⟩ := b1_e h
  refine xcall (rV C0 hK hP hl.1 (fun _ _ _ => trivial) Bt_b (c_X5_at hI hk_d1 h_1) cv_X5_at tw291 (rcX5 hK hP hk_d1) (rest := []) rfl (Nat.le_of_ble_eq_true rfl) ⟨rfl, rfl, Nat.le_of_ble_eq_true rfl, Nat.le_of_ble_eq_true rfl⟩ ⟨Nat.zero_le _, Nat.zero_le _⟩ dX8_digitHere_5) hS (fun H locs hP hS => ?_)
  refine lv_istore_n (lv' := [(2, .int r_2), (0, .ref (a 35)), (1, .ref (a (7 + 2 * d1)))]) hx hb dX8_digitHere_8 rfl hl (by decide) rfl (fun ls hl => ?_)
  refine lv_iload_n hx hb dX8_digitHere_9 rfl (lv_at hl 0 rfl) ?_
  refine lv_bipush (v := 48) hx hb dX8_digitHere_10 (by decide) ?_
  refine lv_bipush (v := 57) hx hb dX8_digitHere_12 (by decide) ?_
  obtain ⟨r_4, h_3, h⟩ := b1_e h
  refine xcall (rSN C0 hK hP hl.1 (fun _ _ _ => trivial) Bt_b (c_X11_within hI h_3) cs_X11_within tw367 (rest := []) rfl (Nat.le_of_ble_eq_true rfl) ⟨rfl, rfl, Nat.le_of_ble_eq_true rfl, Nat.le_of_ble_eq_true rfl⟩ ⟨Nat.zero_le _, Nat.zero_le _⟩ dX8_digitHere_14) hS (fun H locs hP hS => ?_)
  refine lv_if_eq (tgt := 27) hx hb dX8_digitHere_17 (by decide) (fun c_5 => ?_) (fun c_5 => ?_)
  · have h := it c_5 h
    refine lv_iconst (v := (-1)) hx hb dX8_digitHere_27 (by decide) ?_
    rw [hQ]
    exact xzretr C0 hP hS rfl h dX8_digitHere_28
  · have h := ie c_5 h
    refine lv_iload_n hx hb dX8_digitHere_20 rfl (lv_at hl 0 rfl) ?_
    refine lv_bipush (v := 48) hx hb dX8_digitHere_21 (by decide) ?_
    refine lv_isub hx hb dX8_digitHere_23 ?_
    refine lv_goto (tgt := 28) hx hb dX8_digitHere_24 (by decide) ?_
    rw [hQ]
    exact xzretr C0 hP hS rfl h dX8_digitHere_28
def f_X8_readNumber (d1 : Nat) (p2 : Int32) (σ : Mem) : Option (Int32 × Mem) :=
  b1 (f_X8_digitHere d1 σ) fun r_2 =>
  if 0 ≤ r_2 then
    bnd ((σ 35 2) + 1) fun (y_4 : Int32) =>
    bnd (uX σ 35 2 y_4) fun (σ_5 : Mem) =>
    b1 (f_X8_digitHere d1 σ_5) fun r_7 =>
    jn (fun (x3_8 : Int32) (σ_9 : Mem) =>
      if (σ_9 35 1) < 0 then
        some (1, σ_9)
      else
        if 4 ≤ (σ_9 35 1) then
          some (1, σ_9)
        else
          bnd (σ_9 35 1) fun (i_12 : Int32) =>
          if i_12 < 0 ∨ 4 ≤ i_12.toNatClampNeg then none else
          bnd (uX σ_9 36 i_12.toNatClampNeg x3_8) fun (σ_14 : Mem) =>
          bnd ((σ_14 35 1) + 1) fun (y_15 : Int32) =>
          bnd (uX σ_14 35 1 y_15) fun (σ_16 : Mem) =>
          some (1, σ_16)) fun J60 =>
    if p2 = 0 then
      J60 r_2 σ_5
    else
      if r_2 ≤ 0 then
        J60 r_2 σ_5
      else
        if r_7 < 0 then
          J60 r_2 σ_5
        else
          bnd ((10 * r_2) + r_7) fun (x3_20 : Int32) =>
          bnd ((σ_5 35 2) + 1) fun (y_21 : Int32) =>
          bnd (uX σ_5 35 2 y_21) fun (σ_22 : Mem) =>
          J60 x3_20 σ_22
  else
    some (0, σ)
def rm_X8_readNumber : Room := { frames := 2, cells := 0, slots := 0, locals := 44 }
set_option maxHeartbeats 4000000 in
set_option maxRecDepth 100000 in
theorem c_X8_readNumber {l : Launch} {D : va_G} {ca : Nat → ClassId} {a : Nat → Nat} (hI : InjN 37 a) {d1 : Nat} {p2 : Int32} {σ : Mem} {r : Int32} {σ' : Mem} (hk_d1 : d1 < 9) (h : f_X8_readNumber d1 p2 σ = some (r, σ')) : XMX l D ca a Bt yX8_readNumber cX8_readNumber 5 (some .boolean) rm_X8_readNumber [.ref (a 35), .ref (a (7 + 2 * d1)), .int p2] σ (some (.int r)) σ' := by
  refine XM.of pn_X8 (Nat.le_of_ble_eq_true rfl) ?_
  intro p e s m args below meth c ls Q hQ C0 hK hB hP hS hl
  have C0 : Cx p s m args meth c RX8 cX8_readNumber 5 (some .boolean) := C0
  have hx := C0.1
  have hb := C0.2.1
  have hl : lv_has ls 5 [(0, .ref (a 35)), (1, .ref (a (7 + 2 * d1))), (2, .int p2)] := hl
  rw [f_X8_readNumber] at h
  refine lv_aload_n hx hb dX8_readNumber_0 rfl (lv_at hl 0 rfl) ?_
  refine lv_aload_n hx hb dX8_readNumber_1 rfl (lv_at hl 1 rfl) ?_
  obtain ⟨r_2, h_1, h⟩ := b1_e h
  refine xcall (rV C0 hK hP hl.1 (fun _ _ _ => trivial) Bt_b (c_X8_digitHere hI hk_d1 h_1) cv_X8_digitHere tw363 (rcX8 hK hP) (rest := []) rfl (Nat.le_of_ble_eq_true rfl) ⟨rfl, rfl, Nat.le_of_ble_eq_true rfl, Nat.le_of_ble_eq_true rfl⟩ ⟨Nat.zero_le _, Nat.zero_le _⟩ dX8_readNumber_2) hS (fun H locs hP hS => ?_)
  refine lv_istore_n (lv' := [(3, .int r_2), (0, .ref (a 35)), (1, .ref (a (7 + 2 * d1))), (2, .int p2)]) hx hb dX8_readNumber_5 rfl hl (by decide) rfl (fun ls hl => ?_)
  refine lv_iload_n hx hb dX8_readNumber_6 rfl (lv_at hl 0 rfl) ?_
  refine lv_if_ge (tgt := 12) hx hb dX8_readNumber_7 (by decide) (fun c_3 => ?_) (fun c_3 => ?_)
  · have h := it c_3 h
    refine lv_aload_n hx hb dX8_readNumber_12 rfl (lv_at hl 1 rfl) ?_
    refine lv_dup hx hb dX8_readNumber_13 rfl ?_
    refine gX8_2 C0 hK hP tw172 dX8_readNumber_14 ?_
    refine lv_iconst (v := 1) hx hb dX8_readNumber_17 (by decide) ?_
    refine lv_iadd hx hb dX8_readNumber_18 ?_
    obtain ⟨y_4, ey_4, h⟩ := bnd_e h
    refine nm_i ey_4 ?_
    obtain ⟨σ_5, eσ_5, h⟩ := bnd_e h
    refine pX8_2 C0 hK hP tw172 hI hS dX8_readNumber_19 (fun H locs hP hS => ?_)
    rw [← eσ_5] at hP
    refine lv_aload_n hx hb dX8_readNumber_22 rfl (lv_at hl 1 rfl) ?_
    refine lv_aload_n hx hb dX8_readNumber_23 rfl (lv_at hl 2 rfl) ?_
    obtain ⟨r_7, h_6, h⟩ := b1_e h
    refine xcall (rV C0 hK hP hl.1 (fun _ _ _ => trivial) Bt_b (c_X8_digitHere hI hk_d1 h_6) cv_X8_digitHere tw363 (rcX8 hK hP) (rest := []) rfl (Nat.le_of_ble_eq_true rfl) ⟨rfl, rfl, Nat.le_of_ble_eq_true rfl, Nat.le_of_ble_eq_true rfl⟩ ⟨Nat.zero_le _, Nat.zero_le _⟩ dX8_readNumber_24) hS (fun H locs hP hS => ?_)
    refine lv_istore (lv' := [(4, .int r_7), (3, .int r_2), (0, .ref (a 35)), (1, .ref (a (7 + 2 * d1))), (2, .int p2)]) hx hb dX8_readNumber_27 hl (by decide) rfl (fun ls hl => ?_)
    refine lv_iload_n hx hb dX8_readNumber_29 rfl (lv_at hl 4 rfl) ?_
    obtain ⟨J60, eJ60, h⟩ := jn_e h
    have hJ60 : ∀ (x3_8 : Int32) (σ_9 : Mem) (H : Heap) (locs : List Loc) (ls : Array Slot), J60 x3_8 σ_9 = some (r, σ') → va_P D vwCl (wX ca a σ_9) H → va_S (AW 37 a) s.heap H locs → lv_has ls 5 [(0, .ref (a 35)), (3, .int x3_8)] → W p l e rm_X8_readNumber s m args below meth c H locs 0 0 Q (F0 m 60 ls []) := by
      intro x3_8 σ_9 H locs ls h hP hS hl
      have h := ap2 eJ60 h
      refine lv_aload_n hx hb dX8_readNumber_60 rfl (lv_at hl 0 rfl) ?_
      refine gX8_1 C0 hK hP tw170 dX8_readNumber_61 ?_
      refine lv_if_lt (tgt := 99) hx hb dX8_readNumber_64 (by decide) (fun c_10 => ?_) (fun c_10 => ?_)
      · have h := it c_10 h
        refine lv_iconst (v := 1) hx hb dX8_readNumber_99 (by decide) ?_
        rw [hQ]
        exact xzret C0 hP hS rfl h dX8_readNumber_100
      · have h := ie c_10 h
        refine lv_aload_n hx hb dX8_readNumber_67 rfl (lv_at hl 0 rfl) ?_
        refine gX8_1 C0 hK hP tw170 dX8_readNumber_68 ?_
        refine lv_aload_n hx hb dX8_readNumber_71 rfl (lv_at hl 0 rfl) ?_
        refine gX8_0 C0 hK hP tw169 dX8_readNumber_72 ?_
        refine xalenR (N := 4) (v := 4) 0 C0 hK hP (by decide) (fun _ => sh_TA) rfl (by decide) dX8_readNumber_75 ?_
        refine lv_icmp_ge (tgt := 99) hx hb dX8_readNumber_76 (by decide) (fun c_11 => ?_) (fun c_11 => ?_)
        · have h := it c_11 h
          refine lv_iconst (v := 1) hx hb dX8_readNumber_99 (by decide) ?_
          rw [hQ]
          exact xzret C0 hP hS rfl h dX8_readNumber_100
        · have h := ie c_11 h
          refine lv_aload_n hx hb dX8_readNumber_79 rfl (lv_at hl 0 rfl) ?_
          refine gX8_0 C0 hK hP tw169 dX8_readNumber_80 ?_
          refine lv_aload_n hx hb dX8_readNumber_83 rfl (lv_at hl 0 rfl) ?_
          refine gX8_1 C0 hK hP tw170 dX8_readNumber_84 ?_
          refine lv_iload_n hx hb dX8_readNumber_87 rfl (lv_at hl 1 rfl) ?_
          obtain ⟨i_12, ei_12, h⟩ := bnd_e h
          rw [← ei_12]
          obtain ⟨b_13, h⟩ := ck h
          obtain ⟨σ_14, eσ_14, h⟩ := bnd_e h
          refine xast (i := 36) (N := 4) C0 hK hP hI hS (by decide) (fun _ => sh_TA) b_13 dX8_readNumber_88 (fun H locs hP hS => ?_)
          rw [← eσ_14] at hP
          refine lv_aload_n hx hb dX8_readNumber_89 rfl (lv_at hl 0 rfl) ?_
          refine lv_dup hx hb dX8_readNumber_90 rfl ?_
          refine gX8_1 C0 hK hP tw170 dX8_readNumber_91 ?_
          refine lv_iconst (v := 1) hx hb dX8_readNumber_94 (by decide) ?_
          refine lv_iadd hx hb dX8_readNumber_95 ?_
          obtain ⟨y_15, ey_15, h⟩ := bnd_e h
          refine nm_i ey_15 ?_
          obtain ⟨σ_16, eσ_16, h⟩ := bnd_e h
          refine pX8_1 C0 hK hP tw170 hI hS dX8_readNumber_96 (fun H locs hP hS => ?_)
          rw [← eσ_16] at hP
          refine lv_iconst (v := 1) hx hb dX8_readNumber_99 (by decide) ?_
          rw [hQ]
          exact xzret C0 hP hS rfl h dX8_readNumber_100
    refine lv_if_eq (tgt := 60) hx hb dX8_readNumber_30 (by decide) (fun c_17 => ?_) (fun c_17 => ?_)
    · have h := it c_17 h
      exact hJ60 r_2 σ_5 _ _ ls h hP hS (lv_sub hl [2, 1] rfl)
    · have h := ie c_17 h
      refine lv_iload_n hx hb dX8_readNumber_33 rfl (lv_at hl 1 rfl) ?_
      refine lv_if_le (tgt := 60) hx hb dX8_readNumber_34 (by decide) (fun c_18 => ?_) (fun c_18 => ?_)
      · have h := it c_18 h
        exact hJ60 r_2 σ_5 _ _ ls h hP hS (lv_sub hl [2, 1] rfl)
      · have h := ie c_18 h
        refine lv_iload hx hb dX8_readNumber_37 (lv_at hl 0 rfl) ?_
        refine lv_if_lt (tgt := 60) hx hb dX8_readNumber_39 (by decide) (fun c_19 => ?_) (fun c_19 => ?_)
        · have h := it c_19 h
          exact hJ60 r_2 σ_5 _ _ ls h hP hS (lv_sub hl [2, 1] rfl)
        · have h := ie c_19 h
          refine lv_bipush (v := 10) hx hb dX8_readNumber_42 (by decide) ?_
          refine lv_iload_n hx hb dX8_readNumber_44 rfl (lv_at hl 1 rfl) ?_
          refine lv_imul hx hb dX8_readNumber_45 ?_
          refine lv_iload hx hb dX8_readNumber_46 (lv_at hl 0 rfl) ?_
          refine lv_iadd hx hb dX8_readNumber_48 ?_
          obtain ⟨x3_20, ex3_20, h⟩ := bnd_e h
          refine nm_i ex3_20 ?_
          refine lv_istore_n (lv' := [(3, .int x3_20), (4, .int r_7), (0, .ref (a 35)), (1, .ref (a (7 + 2 * d1))), (2, .int p2)]) hx hb dX8_readNumber_49 rfl hl (by decide) rfl (fun ls hl => ?_)
          refine lv_aload_n hx hb dX8_readNumber_50 rfl (lv_at hl 2 rfl) ?_
          refine lv_dup hx hb dX8_readNumber_51 rfl ?_
          refine gX8_2 C0 hK hP tw172 dX8_readNumber_52 ?_
          refine lv_iconst (v := 1) hx hb dX8_readNumber_55 (by decide) ?_
          refine lv_iadd hx hb dX8_readNumber_56 ?_
          obtain ⟨y_21, ey_21, h⟩ := bnd_e h
          refine nm_i ey_21 ?_
          obtain ⟨σ_22, eσ_22, h⟩ := bnd_e h
          refine pX8_2 C0 hK hP tw172 hI hS dX8_readNumber_57 (fun H locs hP hS => ?_)
          rw [← eσ_22] at hP
          exact hJ60 x3_20 σ_22 _ _ ls h hP hS (lv_sub hl [2, 0] rfl)
  · have h := ie c_3 h
    refine lv_iconst (v := 0) hx hb dX8_readNumber_10 (by decide) ?_
    rw [hQ]
    exact xzret C0 hP hS rfl h dX8_readNumber_11
def f_X8_readPart (d1 : Nat) (p2 : Int32) (σ : Mem) : Option (Int32 × Mem) :=
  if p2 = 110 then
    if p2 = 110 then
      b2 (f_X8_readNumber d1 1 σ) fun r_8 σ_9 =>
      if r_8 = 0 ∨ r_8 = 1 then some (r_8, σ_9) else none
    else
      b2 (f_X8_readNumber d1 0 σ) fun r_4 σ_5 =>
      if r_4 = 0 ∨ r_4 = 1 then some (r_4, σ_5) else none
  else
    if p2 = 100 then
      if p2 = 110 then
        b2 (f_X8_readNumber d1 1 σ) fun r_23 σ_24 =>
        if r_23 = 0 ∨ r_23 = 1 then some (r_23, σ_24) else none
      else
        b2 (f_X8_readNumber d1 0 σ) fun r_19 σ_20 =>
        if r_19 = 0 ∨ r_19 = 1 then some (r_19, σ_20) else none
    else
      b1 (f_X5_at d1 (σ 35 2) σ) fun r_13 =>
      if r_13 = p2 then
        bnd ((σ 35 2) + 1) fun (y_15 : Int32) =>
        bnd (uX σ 35 2 y_15) fun (σ_16 : Mem) =>
        some (1, σ_16)
      else
        some (0, σ)
def rm_X8_readPart : Room := { frames := 3, cells := 0, slots := 0, locals := 68 }
set_option maxHeartbeats 4000000 in
set_option maxRecDepth 100000 in
theorem c_X8_readPart {l : Launch} {D : va_G} {ca : Nat → ClassId} {a : Nat → Nat} (hI : InjN 37 a) {d1 : Nat} {p2 : Int32} {σ : Mem} {r : Int32} {σ' : Mem} (hk_d1 : d1 < 9) (h : f_X8_readPart d1 p2 σ = some (r, σ')) : XMX l D ca a Bt yX8_readPart cX8_readPart 3 (some .boolean) rm_X8_readPart [.ref (a 35), .ref (a (7 + 2 * d1)), .int p2] σ (some (.int r)) σ' := by
  refine XM.of pn_X8 (Nat.le_of_ble_eq_true rfl) ?_
  intro p e s m args below meth c ls Q hQ C0 hK hB hP hS hl
  have C0 : Cx p s m args meth c RX8 cX8_readPart 3 (some .boolean) := C0
  have hx := C0.1
  have hb := C0.2.1
  have hl : lv_has ls 3 [(0, .ref (a 35)), (1, .ref (a (7 + 2 * d1))), (2, .int p2)] := hl
  rw [f_X8_readPart] at h
  refine lv_iload_n hx hb dX8_readPart_0 rfl (lv_at hl 2 rfl) ?_
  refine lv_bipush (v := 110) hx hb dX8_readPart_1 (by decide) ?_
  refine lv_icmp_eq (tgt := 12) hx hb dX8_readPart_3 (by decide) (fun c_1 => ?_) (fun c_1 => ?_)
  · have h := it c_1 h
    refine lv_aload_n hx hb dX8_readPart_12 rfl (lv_at hl 0 rfl) ?_
    refine lv_aload_n hx hb dX8_readPart_13 rfl (lv_at hl 1 rfl) ?_
    refine lv_iload_n hx hb dX8_readPart_14 rfl (lv_at hl 2 rfl) ?_
    refine lv_bipush (v := 110) hx hb dX8_readPart_15 (by decide) ?_
    refine lv_icmp_ne (tgt := 24) hx hb dX8_readPart_17 (by decide) (fun c_2 => ?_) (fun c_2 => ?_)
    · have h := ie c_2 h
      refine lv_iconst (v := 0) hx hb dX8_readPart_24 (by decide) ?_
      obtain ⟨r_4, σ_5, h_3, h⟩ := b2_e h
      refine xcall (rV C0 hK hP hl.1 (fun _ _ _ => trivial) Bt_b (c_X8_readNumber hI hk_d1 h_3) cv_X8_readNumber tw359 (rcX8 hK hP) (rest := []) rfl (Nat.le_of_ble_eq_true rfl) ⟨rfl, rfl, Nat.le_of_ble_eq_true rfl, Nat.le_of_ble_eq_true rfl⟩ ⟨Nat.zero_le _, Nat.zero_le _⟩ dX8_readPart_25) hS (fun H locs hP hS => ?_)
      obtain ⟨b_6, h⟩ := asr h
      rw [hQ]
      exact xzret C0 hP hS (by rcases b_6 with hz | hz <;> rw [hz] <;> rfl) h dX8_readPart_28
    · have h := it c_2 h
      refine lv_iconst (v := 1) hx hb dX8_readPart_20 (by decide) ?_
      refine lv_goto (tgt := 25) hx hb dX8_readPart_21 (by decide) ?_
      obtain ⟨r_8, σ_9, h_7, h⟩ := b2_e h
      refine xcall (rV C0 hK hP hl.1 (fun _ _ _ => trivial) Bt_b (c_X8_readNumber hI hk_d1 h_7) cv_X8_readNumber tw359 (rcX8 hK hP) (rest := []) rfl (Nat.le_of_ble_eq_true rfl) ⟨rfl, rfl, Nat.le_of_ble_eq_true rfl, Nat.le_of_ble_eq_true rfl⟩ ⟨Nat.zero_le _, Nat.zero_le _⟩ dX8_readPart_25) hS (fun H locs hP hS => ?_)
      obtain ⟨b_10, h⟩ := asr h
      rw [hQ]
      exact xzret C0 hP hS (by rcases b_10 with hz | hz <;> rw [hz] <;> rfl) h dX8_readPart_28
  · have h := ie c_1 h
    refine lv_iload_n hx hb dX8_readPart_6 rfl (lv_at hl 2 rfl) ?_
    refine lv_bipush (v := 100) hx hb dX8_readPart_7 (by decide) ?_
    refine lv_icmp_ne (tgt := 29) hx hb dX8_readPart_9 (by decide) (fun c_11 => ?_) (fun c_11 => ?_)
    · have h := ie c_11 h
      refine lv_aload_n hx hb dX8_readPart_29 rfl (lv_at hl 1 rfl) ?_
      refine lv_aload_n hx hb dX8_readPart_30 rfl (lv_at hl 0 rfl) ?_
      refine gX8_2 C0 hK hP tw172 dX8_readPart_31 ?_
      obtain ⟨r_13, h_12, h⟩ := b1_e h
      refine xcall (rV C0 hK hP hl.1 (fun _ _ _ => trivial) Bt_b (c_X5_at hI hk_d1 h_12) cv_X5_at tw291 (rcX5 hK hP hk_d1) (rest := []) rfl (Nat.le_of_ble_eq_true rfl) ⟨rfl, rfl, Nat.le_of_ble_eq_true rfl, Nat.le_of_ble_eq_true rfl⟩ ⟨Nat.zero_le _, Nat.zero_le _⟩ dX8_readPart_34) hS (fun H locs hP hS => ?_)
      refine lv_iload_n hx hb dX8_readPart_37 rfl (lv_at hl 2 rfl) ?_
      refine lv_icmp_eq (tgt := 43) hx hb dX8_readPart_38 (by decide) (fun c_14 => ?_) (fun c_14 => ?_)
      · have h := it c_14 h
        refine lv_aload_n hx hb dX8_readPart_43 rfl (lv_at hl 0 rfl) ?_
        refine lv_dup hx hb dX8_readPart_44 rfl ?_
        refine gX8_2 C0 hK hP tw172 dX8_readPart_45 ?_
        refine lv_iconst (v := 1) hx hb dX8_readPart_48 (by decide) ?_
        refine lv_iadd hx hb dX8_readPart_49 ?_
        obtain ⟨y_15, ey_15, h⟩ := bnd_e h
        refine nm_i ey_15 ?_
        obtain ⟨σ_16, eσ_16, h⟩ := bnd_e h
        refine pX8_2 C0 hK hP tw172 hI hS dX8_readPart_50 (fun H locs hP hS => ?_)
        rw [← eσ_16] at hP
        refine lv_iconst (v := 1) hx hb dX8_readPart_53 (by decide) ?_
        rw [hQ]
        exact xzret C0 hP hS rfl h dX8_readPart_54
      · have h := ie c_14 h
        refine lv_iconst (v := 0) hx hb dX8_readPart_41 (by decide) ?_
        rw [hQ]
        exact xzret C0 hP hS rfl h dX8_readPart_42
    · have h := it c_11 h
      refine lv_aload_n hx hb dX8_readPart_12 rfl (lv_at hl 0 rfl) ?_
      refine lv_aload_n hx hb dX8_readPart_13 rfl (lv_at hl 1 rfl) ?_
      refine lv_iload_n hx hb dX8_readPart_14 rfl (lv_at hl 2 rfl) ?_
      refine lv_bipush (v := 110) hx hb dX8_readPart_15 (by decide) ?_
      refine lv_icmp_ne (tgt := 24) hx hb dX8_readPart_17 (by decide) (fun c_17 => ?_) (fun c_17 => ?_)
      · have h := ie c_17 h
        refine lv_iconst (v := 0) hx hb dX8_readPart_24 (by decide) ?_
        obtain ⟨r_19, σ_20, h_18, h⟩ := b2_e h
        refine xcall (rV C0 hK hP hl.1 (fun _ _ _ => trivial) Bt_b (c_X8_readNumber hI hk_d1 h_18) cv_X8_readNumber tw359 (rcX8 hK hP) (rest := []) rfl (Nat.le_of_ble_eq_true rfl) ⟨rfl, rfl, Nat.le_of_ble_eq_true rfl, Nat.le_of_ble_eq_true rfl⟩ ⟨Nat.zero_le _, Nat.zero_le _⟩ dX8_readPart_25) hS (fun H locs hP hS => ?_)
        obtain ⟨b_21, h⟩ := asr h
        rw [hQ]
        exact xzret C0 hP hS (by rcases b_21 with hz | hz <;> rw [hz] <;> rfl) h dX8_readPart_28
      · have h := it c_17 h
        refine lv_iconst (v := 1) hx hb dX8_readPart_20 (by decide) ?_
        refine lv_goto (tgt := 25) hx hb dX8_readPart_21 (by decide) ?_
        obtain ⟨r_23, σ_24, h_22, h⟩ := b2_e h
        refine xcall (rV C0 hK hP hl.1 (fun _ _ _ => trivial) Bt_b (c_X8_readNumber hI hk_d1 h_22) cv_X8_readNumber tw359 (rcX8 hK hP) (rest := []) rfl (Nat.le_of_ble_eq_true rfl) ⟨rfl, rfl, Nat.le_of_ble_eq_true rfl, Nat.le_of_ble_eq_true rfl⟩ ⟨Nat.zero_le _, Nat.zero_le _⟩ dX8_readPart_25) hS (fun H locs hP hS => ?_)
        obtain ⟨b_25, h⟩ := asr h
        rw [hQ]
        exact xzret C0 hP hS (by rcases b_25 with hz | hz <;> rw [hz] <;> rfl) h dX8_readPart_28
