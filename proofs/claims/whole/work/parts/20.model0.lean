def f_X12_thrown (σ : MMem) : Option (Int32) :=
  some ((σ 0).1 9)
def rm_X12_thrown : Room := { frames := 0, cells := 0, slots := 0, locals := 0 }
set_option maxHeartbeats 4000000 in
set_option maxRecDepth 100000 in
theorem c_X12_thrown {l : Launch} {D : va_G} {ca : Nat → ClassId} {a : Nat → Nat} (hI : InjN 21 a)  {σ : MMem} {r : Int32}  (h : f_X12_thrown σ = some r) : XMM l D ca a Bt yX12_thrown cX12_thrown 1 (some .int) rm_X12_thrown [.ref (a 0)] σ (some (.int r)) σ := by
  refine XM.of pn_X12 (Nat.le_of_ble_eq_true rfl) ?_
  intro p e s m args below meth c ls Q hQ C0 hK hB hP hS hl
  have C0 : Cx p s m args meth c RX12 cX12_thrown 1 (some .int) := C0
  have hx := C0.1
  have hb := C0.2.1
  have hl : lv_has ls 1 [(0, .ref (a 0))] := hl
  rw [f_X12_thrown] at h
  refine lv_aload_n hx hb dX12_thrown_0 rfl (lv_at hl 0 rfl) ?_
  refine gX12_9 C0 hK hP tw951 dX12_thrown_1 ?_
  rw [hQ]
  exact xzretr C0 hP hS rfl h dX12_thrown_4
def f_X12_in (p1 : Int64) (p2 : Int64) (p3 : Int64) : Option (Int32) :=
  if (lg_cmp p1 p2) < 0 then
    some 0
  else
    if 0 < (lg_cmp p1 p3) then
      some 0
    else
      some 1
def rm_X12_in : Room := { frames := 0, cells := 0, slots := 0, locals := 0 }
set_option maxHeartbeats 4000000 in
set_option maxRecDepth 100000 in
theorem c_X12_in {l : Launch} {D : va_G} {ca : Nat → ClassId} {a : Nat → Nat} (hI : InjN 21 a) {p1 : Int64} {p2 : Int64} {p3 : Int64} {σ : MMem} {r : Int32}  (h : f_X12_in p1 p2 p3 = some r) : XMM l D ca a Bt yX12_in cX12_in 6 (some .boolean) rm_X12_in [.long p1, .long p2, .long p3] σ (some (.int r)) σ := by
  refine XM.of pn_X12 (Nat.le_of_ble_eq_true rfl) ?_
  intro p e s m args below meth c ls Q hQ C0 hK hB hP hS hl
  have C0 : Cx p s m args meth c RX12 cX12_in 6 (some .boolean) := C0
  have hx := C0.1
  have hb := C0.2.1
  have hl : lv_has ls 6 [(0, .long p1), (2, .long p2), (4, .long p3)] := hl
  rw [f_X12_in] at h
  refine lv_lload_n hx hb dX12_in_0 rfl (lv_at hl 0 rfl) ?_
  refine lv_lload_n hx hb dX12_in_1 rfl (lv_at hl 1 rfl) ?_
  refine W.lcmp hx hb dX12_in_2 ?_
  refine lv_if_lt (tgt := 17) hx hb dX12_in_3 (by decide) (fun c_1 => ?_) (fun c_1 => ?_)
  · have h := it c_1 h
    refine lv_iconst (v := 0) hx hb dX12_in_17 (by decide) ?_
    rw [hQ]
    exact xzretr C0 hP hS rfl h dX12_in_18
  · have h := ie c_1 h
    refine lv_lload_n hx hb dX12_in_6 rfl (lv_at hl 0 rfl) ?_
    refine lv_lload hx hb dX12_in_7 (lv_at hl 2 rfl) ?_
    refine W.lcmp hx hb dX12_in_9 ?_
    refine lv_if_gt (tgt := 17) hx hb dX12_in_10 (by decide) (fun c_2 => ?_) (fun c_2 => ?_)
    · have h := it c_2 h
      refine lv_iconst (v := 0) hx hb dX12_in_17 (by decide) ?_
      rw [hQ]
      exact xzretr C0 hP hS rfl h dX12_in_18
    · have h := ie c_2 h
      refine lv_iconst (v := 1) hx hb dX12_in_13 (by decide) ?_
      refine lv_goto (tgt := 18) hx hb dX12_in_14 (by decide) ?_
      rw [hQ]
      exact xzretr C0 hP hS rfl h dX12_in_18
def f_X12_isRing (p1 : Int32) (σ : MMem) : Option (Int32) :=
  bnd ((((σ 0).1 0) - 1).toInt64) fun (y_1 : Int64) =>
  b1 (f_X12_in p1.toInt64 0 y_1) fun r_3 =>
  if r_3 = 0 ∨ r_3 = 1 then some r_3 else none
def rm_X12_isRing : Room := { frames := 1, cells := 0, slots := 0, locals := 25 }
set_option maxHeartbeats 4000000 in
set_option maxRecDepth 100000 in
theorem c_X12_isRing {l : Launch} {D : va_G} {ca : Nat → ClassId} {a : Nat → Nat} (hI : InjN 21 a) {p1 : Int32} {σ : MMem} {r : Int32}  (h : f_X12_isRing p1 σ = some r) : XMM l D ca a Bt yX12_isRing cX12_isRing 2 (some .boolean) rm_X12_isRing [.ref (a 0), .int p1] σ (some (.int r)) σ := by
  refine XM.of pn_X12 (Nat.le_of_ble_eq_true rfl) ?_
  intro p e s m args below meth c ls Q hQ C0 hK hB hP hS hl
  have C0 : Cx p s m args meth c RX12 cX12_isRing 2 (some .boolean) := C0
  have hx := C0.1
  have hb := C0.2.1
  have hl : lv_has ls 2 [(0, .ref (a 0)), (1, .int p1)] := hl
  rw [f_X12_isRing] at h
  refine lv_iload_n hx hb dX12_isRing_0 rfl (lv_at hl 1 rfl) ?_
  refine lv_i2l (v := p1.toInt64) hx hb dX12_isRing_1 rfl ?_
  refine lv_lconst (v := 0) hx hb dX12_isRing_2 (by decide) ?_
  refine lv_aload_n hx hb dX12_isRing_3 rfl (lv_at hl 0 rfl) ?_
  refine gX12_0 C0 hK hP tw942 dX12_isRing_4 ?_
  refine lv_iconst (v := 1) hx hb dX12_isRing_7 (by decide) ?_
  refine lv_isub hx hb dX12_isRing_8 ?_
  refine lv_i2l (v := (((σ 0).1 0) - 1).toInt64) hx hb dX12_isRing_9 rfl ?_
  obtain ⟨y_1, ey_1, h⟩ := bnd_e h
  rw [← ey_1]
  obtain ⟨r_3, h_2, h⟩ := b1_e h
  refine xcall (rS C0 hK hP hl.1 (fun _ _ _ => trivial) Bt_b (c_X12_in hI h_2) cs_X12_in tw1091 (rest := []) rfl (Nat.le_of_ble_eq_true rfl) ⟨rfl, rfl, Nat.le_of_ble_eq_true rfl, Nat.le_of_ble_eq_true rfl⟩ ⟨Nat.zero_le _, Nat.zero_le _⟩ dX12_isRing_10) hS (fun H locs hP hS => ?_)
  obtain ⟨b_4, h⟩ := asr h
  rw [hQ]
  exact xzretr C0 hP hS (by rcases b_4 with hz | hz <;> rw [hz] <;> rfl) h dX12_isRing_13
def f_X12_easeOf (p1 : Int32) (p2 : Int32) (σ : MMem) : Option (Int32) :=
  jn (fun (x3_1 : Int32) =>
    jn (fun (x3_2 : Int32) =>
      if p2 = 3 then
        if (p1 - p1 / 2 * 2) = 0 then
          if p1 < 0 ∨ 6 ≤ p1.toNatClampNeg then none else
          if p1 < 0 ∨ 6 ≤ p1.toNatClampNeg then none else
          some ((((σ 2).1 p1.toNatClampNeg) - ((σ 1).1 p1.toNatClampNeg)) - 1)
        else
          if p1 < 0 ∨ 6 ≤ p1.toNatClampNeg then none else
          if p1 < 0 ∨ 6 ≤ p1.toNatClampNeg then none else
          some ((((σ 2).1 p1.toNatClampNeg) - ((σ 1).1 p1.toNatClampNeg)) - 0)
      else
        if p1 < 0 ∨ 6 ≤ p1.toNatClampNeg then none else
        if p1 < 0 ∨ 6 ≤ p1.toNatClampNeg then none else
        some ((((σ 2).1 p1.toNatClampNeg) - ((σ 1).1 p1.toNatClampNeg)) - x3_2)) fun J45 =>
    if p2 = 2 then
      jn (fun (v_12 : Int32) =>
        J45 v_12) fun J44 =>
      if p1 = 0 then
        if p1 < 0 ∨ 6 ≤ p1.toNatClampNeg then none else
        J44 ((((σ 4).1 p1.toNatClampNeg) / 2) + 2)
      else
        if p1 < 0 ∨ 6 ≤ p1.toNatClampNeg then none else
        J44 (((σ 4).1 p1.toNatClampNeg) / 2)
    else
      J45 x3_1) fun J14 =>
  if p2 = 1 then
    if p1 < 0 ∨ 6 ≤ p1.toNatClampNeg then none else
    bnd ((σ 4).1 p1.toNatClampNeg) fun (x3_18 : Int32) =>
    J14 x3_18
  else
    J14 0
def rm_X12_easeOf : Room := { frames := 0, cells := 0, slots := 0, locals := 0 }
set_option maxHeartbeats 4000000 in
set_option maxRecDepth 100000 in
theorem c_X12_easeOf {l : Launch} {D : va_G} {ca : Nat → ClassId} {a : Nat → Nat} (hI : InjN 21 a) {p1 : Int32} {p2 : Int32} {σ : MMem} {r : Int32}  (h : f_X12_easeOf p1 p2 σ = some r) : XMM l D ca a Bt yX12_easeOf cX12_easeOf 4 (some .int) rm_X12_easeOf [.ref (a 0), .int p1, .int p2] σ (some (.int r)) σ := by
  refine XM.of pn_X12 (Nat.le_of_ble_eq_true rfl) ?_
  intro p e s m args below meth c ls Q hQ C0 hK hB hP hS hl
  have C0 : Cx p s m args meth c RX12 cX12_easeOf 4 (some .int) := C0
  have hx := C0.1
  have hb := C0.2.1
  have hl : lv_has ls 4 [(0, .ref (a 0)), (1, .int p1), (2, .int p2)] := hl
  rw [f_X12_easeOf] at h
  refine lv_iconst (v := 0) hx hb dX12_easeOf_0 (by decide) ?_
  refine lv_istore_n (lv' := [(3, .int 0), (0, .ref (a 0)), (1, .int p1), (2, .int p2)]) hx hb dX12_easeOf_1 rfl hl (by decide) rfl (fun ls hl => ?_)
  refine lv_iload_n hx hb dX12_easeOf_2 rfl (lv_at hl 3 rfl) ?_
  refine lv_iconst (v := 1) hx hb dX12_easeOf_3 (by decide) ?_
  obtain ⟨J14, eJ14, h⟩ := jn_e h
  have hJ14 : ∀ (x3_1 : Int32) (H : Heap) (locs : List Loc) (ls : Array Slot), J14 x3_1 = some r → va_P D vwCl (wM ca a σ) H → va_S (AW 21 a) s.heap H locs → lv_has ls 4 [(0, .ref (a 0)), (1, .int p1), (2, .int p2), (3, .int x3_1)] → W p l e rm_X12_easeOf s m args below meth c H locs 0 0 Q (F0 m 14 ls []) := by
    intro x3_1 H locs ls h hP hS hl
    have h := ap1 eJ14 h
    refine lv_iload_n hx hb dX12_easeOf_14 rfl (lv_at hl 2 rfl) ?_
    refine lv_iconst (v := 2) hx hb dX12_easeOf_15 (by decide) ?_
    obtain ⟨J45, eJ45, h⟩ := jn_e h
    have hJ45 : ∀ (x3_2 : Int32) (H : Heap) (locs : List Loc) (ls : Array Slot), J45 x3_2 = some r → va_P D vwCl (wM ca a σ) H → va_S (AW 21 a) s.heap H locs → lv_has ls 4 [(0, .ref (a 0)), (1, .int p1), (2, .int p2), (3, .int x3_2)] → W p l e rm_X12_easeOf s m args below meth c H locs 0 0 Q (F0 m 45 ls []) := by
      intro x3_2 H locs ls h hP hS hl
      have h := ap1 eJ45 h
      refine lv_iload_n hx hb dX12_easeOf_45 rfl (lv_at hl 2 rfl) ?_
      refine lv_iconst (v := 3) hx hb dX12_easeOf_46 (by decide) ?_
      refine lv_icmp_ne (tgt := 62) hx hb dX12_easeOf_47 (by decide) (fun c_3 => ?_) (fun c_3 => ?_)
      · have h := ie c_3 h
        refine lv_aload_n hx hb dX12_easeOf_62 rfl (lv_at hl 0 rfl) ?_
        refine gX12_6 C0 hK hP tw948 dX12_easeOf_63 ?_
        refine lv_iload_n hx hb dX12_easeOf_66 rfl (lv_at hl 1 rfl) ?_
        obtain ⟨b_4, h⟩ := ck h
        refine mald (i := 2) (N := 6) C0 hK hP (by decide) (by decide) rfl b_4 dX12_easeOf_67 ?_
        refine lv_aload_n hx hb dX12_easeOf_68 rfl (lv_at hl 0 rfl) ?_
        refine gX12_5 C0 hK hP tw947 dX12_easeOf_69 ?_
        refine lv_iload_n hx hb dX12_easeOf_72 rfl (lv_at hl 1 rfl) ?_
        obtain ⟨b_5, h⟩ := ck h
        refine mald (i := 1) (N := 6) C0 hK hP (by decide) (by decide) rfl b_5 dX12_easeOf_73 ?_
        refine lv_isub hx hb dX12_easeOf_74 ?_
        refine lv_iload_n hx hb dX12_easeOf_75 rfl (lv_at hl 3 rfl) ?_
        refine lv_isub hx hb dX12_easeOf_76 ?_
        rw [hQ]
        exact xzretr C0 hP hS rfl h dX12_easeOf_77
      · have h := it c_3 h
        refine lv_iload_n hx hb dX12_easeOf_50 rfl (lv_at hl 1 rfl) ?_
        refine lv_iconst (v := 2) hx hb dX12_easeOf_51 (by decide) ?_
        refine lv_irem hx hb dX12_easeOf_52 (by decide) ?_
        refine lv_if_ne (tgt := 60) hx hb dX12_easeOf_53 (by decide) (fun c_6 => ?_) (fun c_6 => ?_)
        · have h := ie c_6 h
          refine lv_iconst (v := 0) hx hb dX12_easeOf_60 (by decide) ?_
          refine lv_istore_n (lv' := [(3, .int 0), (0, .ref (a 0)), (1, .int p1), (2, .int p2)]) hx hb dX12_easeOf_61 rfl hl (by decide) rfl (fun ls hl => ?_)
          refine lv_aload_n hx hb dX12_easeOf_62 rfl (lv_at hl 1 rfl) ?_
          refine gX12_6 C0 hK hP tw948 dX12_easeOf_63 ?_
          refine lv_iload_n hx hb dX12_easeOf_66 rfl (lv_at hl 2 rfl) ?_
          obtain ⟨b_7, h⟩ := ck h
          refine mald (i := 2) (N := 6) C0 hK hP (by decide) (by decide) rfl b_7 dX12_easeOf_67 ?_
          refine lv_aload_n hx hb dX12_easeOf_68 rfl (lv_at hl 1 rfl) ?_
          refine gX12_5 C0 hK hP tw947 dX12_easeOf_69 ?_
          refine lv_iload_n hx hb dX12_easeOf_72 rfl (lv_at hl 2 rfl) ?_
          obtain ⟨b_8, h⟩ := ck h
          refine mald (i := 1) (N := 6) C0 hK hP (by decide) (by decide) rfl b_8 dX12_easeOf_73 ?_
          refine lv_isub hx hb dX12_easeOf_74 ?_
          refine lv_iload_n hx hb dX12_easeOf_75 rfl (lv_at hl 0 rfl) ?_
          refine lv_isub hx hb dX12_easeOf_76 ?_
          rw [hQ]
          exact xzretr C0 hP hS rfl h dX12_easeOf_77
        · have h := it c_6 h
          refine lv_iconst (v := 1) hx hb dX12_easeOf_56 (by decide) ?_
          refine lv_goto (tgt := 61) hx hb dX12_easeOf_57 (by decide) ?_
          refine lv_istore_n (lv' := [(3, .int 1), (0, .ref (a 0)), (1, .int p1), (2, .int p2)]) hx hb dX12_easeOf_61 rfl hl (by decide) rfl (fun ls hl => ?_)
          refine lv_aload_n hx hb dX12_easeOf_62 rfl (lv_at hl 1 rfl) ?_
          refine gX12_6 C0 hK hP tw948 dX12_easeOf_63 ?_
          refine lv_iload_n hx hb dX12_easeOf_66 rfl (lv_at hl 2 rfl) ?_
          obtain ⟨b_9, h⟩ := ck h
          refine mald (i := 2) (N := 6) C0 hK hP (by decide) (by decide) rfl b_9 dX12_easeOf_67 ?_
          refine lv_aload_n hx hb dX12_easeOf_68 rfl (lv_at hl 1 rfl) ?_
          refine gX12_5 C0 hK hP tw947 dX12_easeOf_69 ?_
          refine lv_iload_n hx hb dX12_easeOf_72 rfl (lv_at hl 2 rfl) ?_
          obtain ⟨b_10, h⟩ := ck h
          refine mald (i := 1) (N := 6) C0 hK hP (by decide) (by decide) rfl b_10 dX12_easeOf_73 ?_
          refine lv_isub hx hb dX12_easeOf_74 ?_
          refine lv_iload_n hx hb dX12_easeOf_75 rfl (lv_at hl 0 rfl) ?_
          refine lv_isub hx hb dX12_easeOf_76 ?_
          rw [hQ]
          exact xzretr C0 hP hS rfl h dX12_easeOf_77
    refine lv_icmp_ne (tgt := 45) hx hb dX12_easeOf_16 (by decide) (fun c_11 => ?_) (fun c_11 => ?_)
    · have h := ie c_11 h
      exact hJ45 x3_1 _ _ ls h hP hS (lv_sub hl [0, 1, 2, 3] rfl)
    · have h := it c_11 h
      refine lv_iload_n hx hb dX12_easeOf_19 rfl (lv_at hl 1 rfl) ?_
      obtain ⟨J44, eJ44, h⟩ := jn_e h
      have hJ44 : ∀ (v_12 : Int32) (H : Heap) (locs : List Loc) (ls : Array Slot), J44 v_12 = some r → va_P D vwCl (wM ca a σ) H → va_S (AW 21 a) s.heap H locs → lv_has ls 4 [(0, .ref (a 0)), (1, .int p1), (2, .int p2)] → W p l e rm_X12_easeOf s m args below meth c H locs 0 0 Q (F0 m 44 ls [.int v_12]) := by
        intro v_12 H locs ls h hP hS hl
        have h := ap1 eJ44 h
        refine lv_istore_n (lv' := [(3, .int v_12), (0, .ref (a 0)), (1, .int p1), (2, .int p2)]) hx hb dX12_easeOf_44 rfl hl (by decide) rfl (fun ls hl => ?_)
        exact hJ45 v_12 _ _ ls h hP hS (lv_sub hl [1, 2, 3, 0] rfl)
      refine lv_if_ne (tgt := 36) hx hb dX12_easeOf_20 (by decide) (fun c_13 => ?_) (fun c_13 => ?_)
      · have h := ie c_13 h
        refine lv_aload_n hx hb dX12_easeOf_36 rfl (lv_at hl 0 rfl) ?_
        refine gX12_8 C0 hK hP tw950 dX12_easeOf_37 ?_
        refine lv_iload_n hx hb dX12_easeOf_40 rfl (lv_at hl 1 rfl) ?_
        obtain ⟨b_14, h⟩ := ck h
        refine mald (i := 4) (N := 6) C0 hK hP (by decide) (by decide) rfl b_14 dX12_easeOf_41 ?_
        refine lv_iconst (v := 2) hx hb dX12_easeOf_42 (by decide) ?_
        refine lv_idiv hx hb dX12_easeOf_43 (by decide) ?_
        exact hJ44 (((σ 4).1 p1.toNatClampNeg) / 2) _ _ ls h hP hS (lv_sub hl [0, 1, 2] rfl)
      · have h := it c_13 h
        refine lv_aload_n hx hb dX12_easeOf_23 rfl (lv_at hl 0 rfl) ?_
        refine gX12_8 C0 hK hP tw950 dX12_easeOf_24 ?_
        refine lv_iload_n hx hb dX12_easeOf_27 rfl (lv_at hl 1 rfl) ?_
        obtain ⟨b_15, h⟩ := ck h
        refine mald (i := 4) (N := 6) C0 hK hP (by decide) (by decide) rfl b_15 dX12_easeOf_28 ?_
        refine lv_iconst (v := 2) hx hb dX12_easeOf_29 (by decide) ?_
        refine lv_idiv hx hb dX12_easeOf_30 (by decide) ?_
        refine lv_iconst (v := 2) hx hb dX12_easeOf_31 (by decide) ?_
        refine lv_iadd hx hb dX12_easeOf_32 ?_
        refine lv_goto (tgt := 44) hx hb dX12_easeOf_33 (by decide) ?_
        exact hJ44 ((((σ 4).1 p1.toNatClampNeg) / 2) + 2) _ _ ls h hP hS (lv_sub hl [0, 1, 2] rfl)
  refine lv_icmp_ne (tgt := 14) hx hb dX12_easeOf_4 (by decide) (fun c_16 => ?_) (fun c_16 => ?_)
  · have h := ie c_16 h
    exact hJ14 0 _ _ ls h hP hS (lv_sub hl [1, 2, 3, 0] rfl)
  · have h := it c_16 h
    refine lv_aload_n hx hb dX12_easeOf_7 rfl (lv_at hl 1 rfl) ?_
    refine gX12_8 C0 hK hP tw950 dX12_easeOf_8 ?_
    refine lv_iload_n hx hb dX12_easeOf_11 rfl (lv_at hl 2 rfl) ?_
    obtain ⟨b_17, h⟩ := ck h
    refine mald (i := 4) (N := 6) C0 hK hP (by decide) (by decide) rfl b_17 dX12_easeOf_12 ?_
    obtain ⟨x3_18, ex3_18, h⟩ := bnd_e h
    refine nm_i ex3_18 ?_
    refine lv_istore_n (lv' := [(3, .int x3_18), (0, .ref (a 0)), (1, .int p1), (2, .int p2)]) hx hb dX12_easeOf_13 rfl hl (by decide) rfl (fun ls hl => ?_)
    exact hJ14 x3_18 _ _ ls h hP hS (lv_sub hl [1, 2, 3, 0] rfl)
def f_X12_fits (p1 : Int32) (p2 : Int32) (σ : MMem) : Option (Int32) :=
  b1 (f_X12_easeOf p1 p2 σ) fun r_2 =>
  if r_2 < ((σ 0).1 3) then
    some 0
  else
    if 0 < p2 then
      some 1
    else
      if ((σ 0).1 4) < r_2 then
        some 0
      else
        some 1
def rm_X12_fits : Room := { frames := 1, cells := 0, slots := 0, locals := 23 }
set_option maxHeartbeats 4000000 in
set_option maxRecDepth 100000 in
theorem c_X12_fits {l : Launch} {D : va_G} {ca : Nat → ClassId} {a : Nat → Nat} (hI : InjN 21 a) {p1 : Int32} {p2 : Int32} {σ : MMem} {r : Int32}  (h : f_X12_fits p1 p2 σ = some r) : XMM l D ca a Bt yX12_fits cX12_fits 4 (some .boolean) rm_X12_fits [.ref (a 0), .int p1, .int p2] σ (some (.int r)) σ := by
  refine XM.of pn_X12 (Nat.le_of_ble_eq_true rfl) ?_
  intro p e s m args below meth c ls Q hQ C0 hK hB hP hS hl
  have C0 : Cx p s m args meth c RX12 cX12_fits 4 (some .boolean) := C0
  have hx := C0.1
  have hb := C0.2.1
  have hl : lv_has ls 4 [(0, .ref (a 0)), (1, .int p1), (2, .int p2)] := hl
  rw [f_X12_fits] at h
  refine lv_aload_n hx hb dX12_fits_0 rfl (lv_at hl 0 rfl) ?_
  refine lv_iload_n hx hb dX12_fits_1 rfl (lv_at hl 1 rfl) ?_
  refine lv_iload_n hx hb dX12_fits_2 rfl (lv_at hl 2 rfl) ?_
  obtain ⟨r_2, h_1, h⟩ := b1_e h
  refine xcall (rV C0 hK hP hl.1 (fun _ _ _ => trivial) Bt_b (c_X12_easeOf hI h_1) cv_X12_easeOf tw1181 (rcX12 hK hP) (rest := []) rfl (Nat.le_of_ble_eq_true rfl) ⟨rfl, rfl, Nat.le_of_ble_eq_true rfl, Nat.le_of_ble_eq_true rfl⟩ ⟨Nat.zero_le _, Nat.zero_le _⟩ dX12_fits_3) hS (fun H locs hP hS => ?_)
  refine lv_istore_n (lv' := [(3, .int r_2), (0, .ref (a 0)), (1, .int p1), (2, .int p2)]) hx hb dX12_fits_6 rfl hl (by decide) rfl (fun ls hl => ?_)
  refine lv_iload_n hx hb dX12_fits_7 rfl (lv_at hl 0 rfl) ?_
  refine lv_aload_n hx hb dX12_fits_8 rfl (lv_at hl 1 rfl) ?_
  refine gX12_3 C0 hK hP tw945 dX12_fits_9 ?_
  refine lv_icmp_lt (tgt := 31) hx hb dX12_fits_12 (by decide) (fun c_3 => ?_) (fun c_3 => ?_)
  · have h := it c_3 h
    refine lv_iconst (v := 0) hx hb dX12_fits_31 (by decide) ?_
    rw [hQ]
    exact xzretr C0 hP hS rfl h dX12_fits_32
  · have h := ie c_3 h
    refine lv_iload_n hx hb dX12_fits_15 rfl (lv_at hl 3 rfl) ?_
    refine lv_if_gt (tgt := 27) hx hb dX12_fits_16 (by decide) (fun c_4 => ?_) (fun c_4 => ?_)
    · have h := it c_4 h
      refine lv_iconst (v := 1) hx hb dX12_fits_27 (by decide) ?_
      refine lv_goto (tgt := 32) hx hb dX12_fits_28 (by decide) ?_
      rw [hQ]
      exact xzretr C0 hP hS rfl h dX12_fits_32
    · have h := ie c_4 h
      refine lv_iload_n hx hb dX12_fits_19 rfl (lv_at hl 0 rfl) ?_
      refine lv_aload_n hx hb dX12_fits_20 rfl (lv_at hl 1 rfl) ?_
      refine gX12_4 C0 hK hP tw946 dX12_fits_21 ?_
      refine lv_icmp_gt (tgt := 31) hx hb dX12_fits_24 (by decide) (fun c_5 => ?_) (fun c_5 => ?_)
      · have h := it c_5 h
        refine lv_iconst (v := 0) hx hb dX12_fits_31 (by decide) ?_
        rw [hQ]
        exact xzretr C0 hP hS rfl h dX12_fits_32
      · have h := ie c_5 h
        refine lv_iconst (v := 1) hx hb dX12_fits_27 (by decide) ?_
        refine lv_goto (tgt := 32) hx hb dX12_fits_28 (by decide) ?_
        rw [hQ]
        exact xzretr C0 hP hS rfl h dX12_fits_32
def f_X12_lacksNow_L14 (σ : MMem) (x2_2 : Int32) : Nat → Int32 → Int32 → (Int32 → Int32 → Option (Int32)) → Option (Int32)
  | 0, _, _, _ => none
  | n + 1, x1_4, x3_5, K2 =>
    if 4 ≤ x3_5 then
      K2 x1_4 x3_5
    else
      b1 (f_X12_easeOf x2_2 x3_5 σ) fun r_8 =>
      bnd (((σ 0).1 3) - r_8) fun (x4_9 : Int32) =>
      if x4_9 ≤ 0 then
        bnd (x1_4 + 0) fun (x1_11 : Int32) =>
        bnd (x3_5 + 1) fun (x3_12 : Int32) =>
        f_X12_lacksNow_L14 σ x2_2 n x1_11 x3_12 K2
      else
        bnd (x1_4 + x4_9) fun (x1_13 : Int32) =>
        bnd (x3_5 + 1) fun (x3_14 : Int32) =>
        f_X12_lacksNow_L14 σ x2_2 n x1_13 x3_14 K2
def f_X12_lacksNow_L4 (σ : MMem) : Nat → Int32 → Int32 → (Int32 → Int32 → Option (Int32)) → Option (Int32)
  | 0, _, _, _ => none
  | n + 1, x1_1, x2_2, K1 =>
    if ((σ 0).1 0) ≤ x2_2 then
      K1 x1_1 x2_2
    else
      f_X12_lacksNow_L14 σ x2_2 5000 x1_1 0 fun (x1_15 : Int32) (u_16 : Int32) =>
        b1 (f_X12_easeOf x2_2 0 σ) fun r_18 =>
        bnd (r_18 - ((σ 0).1 4)) fun (x3_19 : Int32) =>
        if x3_19 ≤ 0 then
          bnd (x1_15 + 0) fun (x1_21 : Int32) =>
          bnd (x2_2 + 1) fun (x2_22 : Int32) =>
          f_X12_lacksNow_L4 σ n x1_21 x2_22 K1
        else
          bnd (x1_15 + x3_19) fun (x1_23 : Int32) =>
          bnd (x2_2 + 1) fun (x2_24 : Int32) =>
          f_X12_lacksNow_L4 σ n x1_23 x2_24 K1
def f_X12_lacksNow (σ : MMem) : Option (Int32) :=
  f_X12_lacksNow_L4 σ 5000 0 0 fun (x1_25 : Int32) (u_26 : Int32) =>
    some x1_25
def rm_X12_lacksNow : Room := { frames := 1, cells := 0, slots := 0, locals := 23 }
set_option maxHeartbeats 4000000 in
set_option maxRecDepth 100000 in
theorem c_X12_lacksNow {l : Launch} {D : va_G} {ca : Nat → ClassId} {a : Nat → Nat} (hI : InjN 21 a)  {σ : MMem} {r : Int32}  (h : f_X12_lacksNow σ = some r) : XMM l D ca a Bt yX12_lacksNow cX12_lacksNow 5 (some .int) rm_X12_lacksNow [.ref (a 0)] σ (some (.int r)) σ := by
  refine XM.of pn_X12 (Nat.le_of_ble_eq_true rfl) ?_
  intro p e s m args below meth c ls Q hQ C0 hK hB hP hS hl
  have C0 : Cx p s m args meth c RX12 cX12_lacksNow 5 (some .int) := C0
  have hx := C0.1
  have hb := C0.2.1
  have hl : lv_has ls 5 [(0, .ref (a 0))] := hl
  rw [f_X12_lacksNow] at h
  refine lv_iconst (v := 0) hx hb dX12_lacksNow_0 (by decide) ?_
  refine lv_istore_n (lv' := [(1, .int 0), (0, .ref (a 0))]) hx hb dX12_lacksNow_1 rfl hl (by decide) rfl (fun ls hl => ?_)
  refine lv_iconst (v := 0) hx hb dX12_lacksNow_2 (by decide) ?_
  refine lv_istore_n (lv' := [(2, .int 0), (1, .int 0), (0, .ref (a 0))]) hx hb dX12_lacksNow_3 rfl hl (by decide) rfl (fun ls hl => ?_)
  obtain ⟨K1, eK1, h⟩ := lp_e (f := fun K => f_X12_lacksNow_L4 σ 5000 0 0 K) h
  have h : f_X12_lacksNow_L4 σ 5000 0 0 K1 = some r := h
  have hX1 : ∀ (x1_25 : Int32) (u_26 : Int32) (H : Heap) (locs : List Loc) (ls : Array Slot), K1 x1_25 u_26 = some r → va_P D vwCl (wM ca a σ) H → va_S (AW 21 a) s.heap H locs → lv_has ls 5 [(1, .int x1_25)] → W p l e rm_X12_lacksNow s m args below meth c H locs 0 0 Q (F0 m 82 ls []) := by
    intro x1_25 u_26 H locs ls h hP hS hl
    have h := ap2 eK1 h
    refine lv_iload_n hx hb dX12_lacksNow_82 rfl (lv_at hl 0 rfl) ?_
    rw [hQ]
    exact xzretr C0 hP hS rfl h dX12_lacksNow_83
  have hL1 : ∀ (n : Nat) (x1_1 : Int32) (x2_2 : Int32) (H : Heap) (locs : List Loc) (ls : Array Slot), f_X12_lacksNow_L4 σ n x1_1 x2_2 K1 = some r → va_P D vwCl (wM ca a σ) H → va_S (AW 21 a) s.heap H locs → lv_has ls 5 [(0, .ref (a 0)), (1, .int x1_1), (2, .int x2_2)] → W p l e rm_X12_lacksNow s m args below meth c H locs 0 0 Q (F0 m 4 ls []) := by
    intro n
    induction n with
    | zero => intro x1_1 x2_2 H locs ls h; rw [f_X12_lacksNow_L4] at h; cases h
    | succ n ih1 =>
      intro x1_1 x2_2 H locs ls h hP hS hl
      rw [f_X12_lacksNow_L4] at h
      refine lv_iload_n hx hb dX12_lacksNow_4 rfl (lv_at hl 2 rfl) ?_
      refine lv_aload_n hx hb dX12_lacksNow_5 rfl (lv_at hl 0 rfl) ?_
      refine gX12_0 C0 hK hP tw942 dX12_lacksNow_6 ?_
      refine lv_icmp_ge (tgt := 82) hx hb dX12_lacksNow_9 (by decide) (fun c_3 => ?_) (fun c_3 => ?_)
      · have h := it c_3 h
        exact hX1 x1_1 x2_2 _ _ ls h hP hS (lv_sub hl [1] rfl)
      · have h := ie c_3 h
        refine lv_iconst (v := 0) hx hb dX12_lacksNow_12 (by decide) ?_
        refine lv_istore_n (lv' := [(3, .int 0), (0, .ref (a 0)), (1, .int x1_1), (2, .int x2_2)]) hx hb dX12_lacksNow_13 rfl hl (by decide) rfl (fun ls hl => ?_)
        obtain ⟨K2, eK2, h⟩ := lp_e (f := fun K => f_X12_lacksNow_L14 σ x2_2 5000 x1_1 0 K) h
        have h : f_X12_lacksNow_L14 σ x2_2 5000 x1_1 0 K2 = some r := h
        have hX2 : ∀ (x1_15 : Int32) (u_16 : Int32) (H : Heap) (locs : List Loc) (ls : Array Slot), K2 x1_15 u_16 = some r → va_P D vwCl (wM ca a σ) H → va_S (AW 21 a) s.heap H locs → lv_has ls 5 [(0, .ref (a 0)), (1, .int x1_15), (2, .int x2_2)] → W p l e rm_X12_lacksNow s m args below meth c H locs 0 0 Q (F0 m 52 ls []) := by
          intro x1_15 u_16 H locs ls h hP hS hl
          have h := ap2 eK2 h
          refine lv_aload_n hx hb dX12_lacksNow_52 rfl (lv_at hl 0 rfl) ?_
          refine lv_iload_n hx hb dX12_lacksNow_53 rfl (lv_at hl 2 rfl) ?_
          refine lv_iconst (v := 0) hx hb dX12_lacksNow_54 (by decide) ?_
          obtain ⟨r_18, h_17, h⟩ := b1_e h
          refine xcall (rV C0 hK hP hl.1 (fun _ _ _ => trivial) Bt_b (c_X12_easeOf hI h_17) cv_X12_easeOf tw1181 (rcX12 hK hP) (rest := []) rfl (Nat.le_of_ble_eq_true rfl) ⟨rfl, rfl, Nat.le_of_ble_eq_true rfl, Nat.le_of_ble_eq_true rfl⟩ ⟨Nat.zero_le _, Nat.zero_le _⟩ dX12_lacksNow_55) hS (fun H locs hP hS => ?_)
          refine lv_aload_n hx hb dX12_lacksNow_58 rfl (lv_at hl 0 rfl) ?_
          refine gX12_4 C0 hK hP tw946 dX12_lacksNow_59 ?_
          refine lv_isub hx hb dX12_lacksNow_62 ?_
          obtain ⟨x3_19, ex3_19, h⟩ := bnd_e h
          refine nm_i ex3_19 ?_
          refine lv_istore_n (lv' := [(3, .int x3_19), (0, .ref (a 0)), (1, .int x1_15), (2, .int x2_2)]) hx hb dX12_lacksNow_63 rfl hl (by decide) rfl (fun ls hl => ?_)
          refine lv_iload_n hx hb dX12_lacksNow_64 rfl (lv_at hl 2 rfl) ?_
          refine lv_iload_n hx hb dX12_lacksNow_65 rfl (lv_at hl 0 rfl) ?_
          refine lv_if_le (tgt := 73) hx hb dX12_lacksNow_66 (by decide) (fun c_20 => ?_) (fun c_20 => ?_)
          · have h := it c_20 h
            refine lv_iconst (v := 0) hx hb dX12_lacksNow_73 (by decide) ?_
            refine lv_iadd hx hb dX12_lacksNow_74 ?_
            obtain ⟨x1_21, ex1_21, h⟩ := bnd_e h
            refine nm_i ex1_21 ?_
            refine lv_istore_n (lv' := [(1, .int x1_21), (3, .int x3_19), (0, .ref (a 0)), (2, .int x2_2)]) hx hb dX12_lacksNow_75 rfl hl (by decide) rfl (fun ls hl => ?_)
            obtain ⟨x2_22, ex2_22, h⟩ := bnd_e h
            refine lv_iinc (v := x2_22) (lv' := [(2, .int x2_22), (1, .int x1_21), (3, .int x3_19), (0, .ref (a 0))]) hx hb dX12_lacksNow_76 hl (k := 3) rfl (by rw [ex2_22]; rfl) (by decide) rfl (fun ls hl => ?_)
            refine lv_goto (tgt := 4) hx hb dX12_lacksNow_79 (by decide) ?_
            exact ih1 x1_21 x2_22 _ _ ls h hP hS (lv_sub hl [3, 1, 0] rfl)
          · have h := ie c_20 h
            refine lv_iload_n hx hb dX12_lacksNow_69 rfl (lv_at hl 0 rfl) ?_
            refine lv_goto (tgt := 74) hx hb dX12_lacksNow_70 (by decide) ?_
            refine lv_iadd hx hb dX12_lacksNow_74 ?_
            obtain ⟨x1_23, ex1_23, h⟩ := bnd_e h
            refine nm_i ex1_23 ?_
            refine lv_istore_n (lv' := [(1, .int x1_23), (3, .int x3_19), (0, .ref (a 0)), (2, .int x2_2)]) hx hb dX12_lacksNow_75 rfl hl (by decide) rfl (fun ls hl => ?_)
            obtain ⟨x2_24, ex2_24, h⟩ := bnd_e h
            refine lv_iinc (v := x2_24) (lv' := [(2, .int x2_24), (1, .int x1_23), (3, .int x3_19), (0, .ref (a 0))]) hx hb dX12_lacksNow_76 hl (k := 3) rfl (by rw [ex2_24]; rfl) (by decide) rfl (fun ls hl => ?_)
            refine lv_goto (tgt := 4) hx hb dX12_lacksNow_79 (by decide) ?_
            exact ih1 x1_23 x2_24 _ _ ls h hP hS (lv_sub hl [3, 1, 0] rfl)
        have hL2 : ∀ (n : Nat) (x1_4 : Int32) (x3_5 : Int32) (H : Heap) (locs : List Loc) (ls : Array Slot), f_X12_lacksNow_L14 σ x2_2 n x1_4 x3_5 K2 = some r → va_P D vwCl (wM ca a σ) H → va_S (AW 21 a) s.heap H locs → lv_has ls 5 [(0, .ref (a 0)), (1, .int x1_4), (2, .int x2_2), (3, .int x3_5)] → W p l e rm_X12_lacksNow s m args below meth c H locs 0 0 Q (F0 m 14 ls []) := by
          intro n
          induction n with
          | zero => intro x1_4 x3_5 H locs ls h; rw [f_X12_lacksNow_L14] at h; cases h
          | succ n ih2 =>
            intro x1_4 x3_5 H locs ls h hP hS hl
            rw [f_X12_lacksNow_L14] at h
            refine lv_iload_n hx hb dX12_lacksNow_14 rfl (lv_at hl 3 rfl) ?_
            refine lv_iconst (v := 4) hx hb dX12_lacksNow_15 (by decide) ?_
            refine lv_icmp_ge (tgt := 52) hx hb dX12_lacksNow_16 (by decide) (fun c_6 => ?_) (fun c_6 => ?_)
            · have h := it c_6 h
              exact hX2 x1_4 x3_5 _ _ ls h hP hS (lv_sub hl [0, 1, 2] rfl)
            · have h := ie c_6 h
              refine lv_aload_n hx hb dX12_lacksNow_19 rfl (lv_at hl 0 rfl) ?_
              refine gX12_3 C0 hK hP tw945 dX12_lacksNow_20 ?_
              refine lv_aload_n hx hb dX12_lacksNow_23 rfl (lv_at hl 0 rfl) ?_
              refine lv_iload_n hx hb dX12_lacksNow_24 rfl (lv_at hl 2 rfl) ?_
              refine lv_iload_n hx hb dX12_lacksNow_25 rfl (lv_at hl 3 rfl) ?_
              obtain ⟨r_8, h_7, h⟩ := b1_e h
              refine xcall (rV C0 hK hP hl.1 (fun _ _ _ => trivial) Bt_b (c_X12_easeOf hI h_7) cv_X12_easeOf tw1181 (rcX12 hK hP) (rest := [.int ((σ 0).1 3)]) rfl (Nat.le_of_ble_eq_true rfl) ⟨rfl, rfl, Nat.le_of_ble_eq_true rfl, Nat.le_of_ble_eq_true rfl⟩ ⟨Nat.zero_le _, Nat.zero_le _⟩ dX12_lacksNow_26) hS (fun H locs hP hS => ?_)
              refine lv_isub hx hb dX12_lacksNow_29 ?_
              obtain ⟨x4_9, ex4_9, h⟩ := bnd_e h
              refine nm_i ex4_9 ?_
              refine lv_istore (lv' := [(4, .int x4_9), (0, .ref (a 0)), (1, .int x1_4), (2, .int x2_2), (3, .int x3_5)]) hx hb dX12_lacksNow_30 hl (by decide) rfl (fun ls hl => ?_)
              refine lv_iload_n hx hb dX12_lacksNow_32 rfl (lv_at hl 2 rfl) ?_
              refine lv_iload hx hb dX12_lacksNow_33 (lv_at hl 0 rfl) ?_
              refine lv_if_le (tgt := 43) hx hb dX12_lacksNow_35 (by decide) (fun c_10 => ?_) (fun c_10 => ?_)
              · have h := it c_10 h
                refine lv_iconst (v := 0) hx hb dX12_lacksNow_43 (by decide) ?_
                refine lv_iadd hx hb dX12_lacksNow_44 ?_
                obtain ⟨x1_11, ex1_11, h⟩ := bnd_e h
                refine nm_i ex1_11 ?_
                refine lv_istore_n (lv' := [(1, .int x1_11), (4, .int x4_9), (0, .ref (a 0)), (2, .int x2_2), (3, .int x3_5)]) hx hb dX12_lacksNow_45 rfl hl (by decide) rfl (fun ls hl => ?_)
                obtain ⟨x3_12, ex3_12, h⟩ := bnd_e h
                refine lv_iinc (v := x3_12) (lv' := [(3, .int x3_12), (1, .int x1_11), (4, .int x4_9), (0, .ref (a 0)), (2, .int x2_2)]) hx hb dX12_lacksNow_46 hl (k := 4) rfl (by rw [ex3_12]; rfl) (by decide) rfl (fun ls hl => ?_)
                refine lv_goto (tgt := 14) hx hb dX12_lacksNow_49 (by decide) ?_
                exact ih2 x1_11 x3_12 _ _ ls h hP hS (lv_sub hl [3, 1, 4, 0] rfl)
              · have h := ie c_10 h
                refine lv_iload hx hb dX12_lacksNow_38 (lv_at hl 0 rfl) ?_
                refine lv_goto (tgt := 44) hx hb dX12_lacksNow_40 (by decide) ?_
                refine lv_iadd hx hb dX12_lacksNow_44 ?_
                obtain ⟨x1_13, ex1_13, h⟩ := bnd_e h
                refine nm_i ex1_13 ?_
                refine lv_istore_n (lv' := [(1, .int x1_13), (4, .int x4_9), (0, .ref (a 0)), (2, .int x2_2), (3, .int x3_5)]) hx hb dX12_lacksNow_45 rfl hl (by decide) rfl (fun ls hl => ?_)
                obtain ⟨x3_14, ex3_14, h⟩ := bnd_e h
                refine lv_iinc (v := x3_14) (lv' := [(3, .int x3_14), (1, .int x1_13), (4, .int x4_9), (0, .ref (a 0)), (2, .int x2_2)]) hx hb dX12_lacksNow_46 hl (k := 4) rfl (by rw [ex3_14]; rfl) (by decide) rfl (fun ls hl => ?_)
                refine lv_goto (tgt := 14) hx hb dX12_lacksNow_49 (by decide) ?_
                exact ih2 x1_13 x3_14 _ _ ls h hP hS (lv_sub hl [3, 1, 4, 0] rfl)
        exact hL2 5000 x1_1 0 _ _ ls h hP hS (lv_sub hl [1, 2, 3, 0] rfl)
  exact hL1 5000 0 0 _ _ ls h hP hS (lv_sub hl [2, 1, 0] rfl)
def f_X12_minutesOf (p1 : Int32) (p2 : Int32) : Option (Int32) :=
  if p1 = 0 then
    some 1
  else
    if p1 = 1 then
      some (1 + p2)
    else
      if p1 = 2 then
        some (1 + (2 * p2))
      else
        if p1 = 3 then
          some (3 + (3 * p2))
        else
          if p1 = 4 then
            some (10 + (2 * p2))
          else
            if p1 = 5 then
              some 0
            else
              if p1 = 6 then
                some (1 + p2)
              else
                some (5 + p2)
def rm_X12_minutesOf : Room := { frames := 0, cells := 0, slots := 0, locals := 0 }
set_option maxHeartbeats 4000000 in
set_option maxRecDepth 100000 in
theorem c_X12_minutesOf {l : Launch} {D : va_G} {ca : Nat → ClassId} {a : Nat → Nat} (hI : InjN 21 a) {p1 : Int32} {p2 : Int32} {σ : MMem} {r : Int32}  (h : f_X12_minutesOf p1 p2 = some r) : XMM l D ca a Bt yX12_minutesOf cX12_minutesOf 2 (some .int) rm_X12_minutesOf [.int p1, .int p2] σ (some (.int r)) σ := by
  refine XM.of pn_X12 (Nat.le_of_ble_eq_true rfl) ?_
  intro p e s m args below meth c ls Q hQ C0 hK hB hP hS hl
  have C0 : Cx p s m args meth c RX12 cX12_minutesOf 2 (some .int) := C0
  have hx := C0.1
  have hb := C0.2.1
  have hl : lv_has ls 2 [(0, .int p1), (1, .int p2)] := hl
  rw [f_X12_minutesOf] at h
  refine lv_iload_n hx hb dX12_minutesOf_0 rfl (lv_at hl 0 rfl) ?_
  by_cases c_1 : p1 = 0
  · have h := it c_1 h
    refine lv_tableIn (off := 43) (tgt := 44) hx hb dX12_minutesOf_1 (by rw [c_1]; decide) (by rw [c_1]; decide) (by rw [c_1]; rfl) (by decide) ?_
    refine lv_iconst (v := 1) hx hb dX12_minutesOf_44 (by decide) ?_
    rw [hQ]
    exact xzretr C0 hP hS rfl h dX12_minutesOf_45
  · have h := ie c_1 h
    by_cases c_2 : p1 = 1
    · have h := it c_2 h
      refine lv_tableIn (off := 45) (tgt := 46) hx hb dX12_minutesOf_1 (by rw [c_2]; decide) (by rw [c_2]; decide) (by rw [c_2]; rfl) (by decide) ?_
      refine lv_iconst (v := 1) hx hb dX12_minutesOf_46 (by decide) ?_
      refine lv_iload_n hx hb dX12_minutesOf_47 rfl (lv_at hl 1 rfl) ?_
      refine lv_iadd hx hb dX12_minutesOf_48 ?_
      rw [hQ]
      exact xzretr C0 hP hS rfl h dX12_minutesOf_49
    · have h := ie c_2 h
      by_cases c_3 : p1 = 2
      · have h := it c_3 h
        refine lv_tableIn (off := 49) (tgt := 50) hx hb dX12_minutesOf_1 (by rw [c_3]; decide) (by rw [c_3]; decide) (by rw [c_3]; rfl) (by decide) ?_
        refine lv_iconst (v := 1) hx hb dX12_minutesOf_50 (by decide) ?_
        refine lv_iconst (v := 2) hx hb dX12_minutesOf_51 (by decide) ?_
        refine lv_iload_n hx hb dX12_minutesOf_52 rfl (lv_at hl 1 rfl) ?_
        refine lv_imul hx hb dX12_minutesOf_53 ?_
        refine lv_iadd hx hb dX12_minutesOf_54 ?_
        rw [hQ]
        exact xzretr C0 hP hS rfl h dX12_minutesOf_55
      · have h := ie c_3 h
        by_cases c_4 : p1 = 3
        · have h := it c_4 h
          refine lv_tableIn (off := 55) (tgt := 56) hx hb dX12_minutesOf_1 (by rw [c_4]; decide) (by rw [c_4]; decide) (by rw [c_4]; rfl) (by decide) ?_
          refine lv_iconst (v := 3) hx hb dX12_minutesOf_56 (by decide) ?_
          refine lv_iconst (v := 3) hx hb dX12_minutesOf_57 (by decide) ?_
          refine lv_iload_n hx hb dX12_minutesOf_58 rfl (lv_at hl 1 rfl) ?_
          refine lv_imul hx hb dX12_minutesOf_59 ?_
          refine lv_iadd hx hb dX12_minutesOf_60 ?_
          rw [hQ]
          exact xzretr C0 hP hS rfl h dX12_minutesOf_61
        · have h := ie c_4 h
          by_cases c_5 : p1 = 4
          · have h := it c_5 h
            refine lv_tableIn (off := 61) (tgt := 62) hx hb dX12_minutesOf_1 (by rw [c_5]; decide) (by rw [c_5]; decide) (by rw [c_5]; rfl) (by decide) ?_
            refine lv_bipush (v := 10) hx hb dX12_minutesOf_62 (by decide) ?_
            refine lv_iconst (v := 2) hx hb dX12_minutesOf_64 (by decide) ?_
            refine lv_iload_n hx hb dX12_minutesOf_65 rfl (lv_at hl 1 rfl) ?_
            refine lv_imul hx hb dX12_minutesOf_66 ?_
            refine lv_iadd hx hb dX12_minutesOf_67 ?_
            rw [hQ]
            exact xzretr C0 hP hS rfl h dX12_minutesOf_68
          · have h := ie c_5 h
            by_cases c_6 : p1 = 5
            · have h := it c_6 h
              refine lv_tableIn (off := 68) (tgt := 69) hx hb dX12_minutesOf_1 (by rw [c_6]; decide) (by rw [c_6]; decide) (by rw [c_6]; rfl) (by decide) ?_
              refine lv_iconst (v := 0) hx hb dX12_minutesOf_69 (by decide) ?_
              rw [hQ]
              exact xzretr C0 hP hS rfl h dX12_minutesOf_70
            · have h := ie c_6 h
              by_cases c_7 : p1 = 6
              · have h := it c_7 h
                refine lv_tableIn (off := 70) (tgt := 71) hx hb dX12_minutesOf_1 (by rw [c_7]; decide) (by rw [c_7]; decide) (by rw [c_7]; rfl) (by decide) ?_
                refine lv_iconst (v := 1) hx hb dX12_minutesOf_71 (by decide) ?_
                refine lv_iload_n hx hb dX12_minutesOf_72 rfl (lv_at hl 1 rfl) ?_
                refine lv_iadd hx hb dX12_minutesOf_73 ?_
                rw [hQ]
                exact xzretr C0 hP hS rfl h dX12_minutesOf_74
              · have h := ie c_7 h
                refine lv_tableOut (tgt := 75) hx hb dX12_minutesOf_1 (by have := sw_ne (k := 0) (by decide) c_1; have := sw_ne (k := 1) (by decide) c_2; have := sw_ne (k := 2) (by decide) c_3; have := sw_ne (k := 3) (by decide) c_4; have := sw_ne (k := 4) (by decide) c_5; have := sw_ne (k := 5) (by decide) c_6; have := sw_ne (k := 6) (by decide) c_7; omega) (by decide) ?_
                refine lv_iconst (v := 5) hx hb dX12_minutesOf_75 (by decide) ?_
                refine lv_iload_n hx hb dX12_minutesOf_76 rfl (lv_at hl 1 rfl) ?_
                refine lv_iadd hx hb dX12_minutesOf_77 ?_
                rw [hQ]
                exact xzretr C0 hP hS rfl h dX12_minutesOf_78
def f_X12_mayBe (p1 : Int32) (p2 : Int32) (p3 : Int32) (σ : MMem) : Option (Int32) :=
  if p1 = 1 then
    if p3 < 0 ∨ 6 ≤ p3.toNatClampNeg then none else
    if ((σ 2).1 p3.toNatClampNeg) ≤ p2 then
      some 0
    else
      some 1
  else
    if p1 = 2 then
      if p3 < 0 ∨ 6 ≤ p3.toNatClampNeg then none else
      if ((σ 3).1 p3.toNatClampNeg) < p2 then
        some 0
      else
        some 1
    else
      if p1 = 3 then
        if p3 < 0 ∨ 6 ≤ p3.toNatClampNeg then none else
        if ((σ 2).1 p3.toNatClampNeg) ≤ p2 then
          some 0
        else
          if ((σ 0).1 0) ≤ (p3 + 1) then
            some 0
          else
            some 1
      else
        if p1 = 4 then
          some 1
        else
          if p1 = 5 then
            if ((σ 0).1 1) ≤ 0 then
              some 0
            else
              some 1
          else
            if p1 = 6 then
              if p3 < 0 ∨ 6 ≤ p3.toNatClampNeg then none else
              if ((σ 3).1 p3.toNatClampNeg) < p2 then
                some 0
              else
                some 1
            else
              if p1 = 7 then
                if p3 < 0 ∨ 6 ≤ p3.toNatClampNeg then none else
                if ((σ 2).1 p3.toNatClampNeg) ≤ p2 then
                  some 0
                else
                  if (p3 + 1) = ((σ 0).1 0) then
                    some 1
                  else
                    some 0
              else
                some 1
def rm_X12_mayBe : Room := { frames := 0, cells := 0, slots := 0, locals := 0 }
set_option maxHeartbeats 4000000 in
set_option maxRecDepth 100000 in
theorem c_X12_mayBe {l : Launch} {D : va_G} {ca : Nat → ClassId} {a : Nat → Nat} (hI : InjN 21 a) {p1 : Int32} {p2 : Int32} {p3 : Int32} {σ : MMem} {r : Int32}  (h : f_X12_mayBe p1 p2 p3 σ = some r) : XMM l D ca a Bt yX12_mayBe cX12_mayBe 4 (some .boolean) rm_X12_mayBe [.ref (a 0), .int p1, .int p2, .int p3] σ (some (.int r)) σ := by
  refine XM.of pn_X12 (Nat.le_of_ble_eq_true rfl) ?_
  intro p e s m args below meth c ls Q hQ C0 hK hB hP hS hl
  have C0 : Cx p s m args meth c RX12 cX12_mayBe 4 (some .boolean) := C0
  have hx := C0.1
  have hb := C0.2.1
  have hl : lv_has ls 4 [(0, .ref (a 0)), (1, .int p1), (2, .int p2), (3, .int p3)] := hl
  rw [f_X12_mayBe] at h
  refine lv_iload_n hx hb dX12_mayBe_0 rfl (lv_at hl 1 rfl) ?_
  by_cases c_1 : p1 = 1
  · have h := it c_1 h
    refine lv_tableIn (off := 43) (tgt := 44) hx hb dX12_mayBe_1 (by rw [c_1]; decide) (by rw [c_1]; decide) (by rw [c_1]; rfl) (by decide) ?_
    refine lv_aload_n hx hb dX12_mayBe_44 rfl (lv_at hl 0 rfl) ?_
    refine gX12_6 C0 hK hP tw948 dX12_mayBe_45 ?_
    refine lv_iload_n hx hb dX12_mayBe_48 rfl (lv_at hl 3 rfl) ?_
    obtain ⟨b_2, h⟩ := ck h
    refine mald (i := 2) (N := 6) C0 hK hP (by decide) (by decide) rfl b_2 dX12_mayBe_49 ?_
    refine lv_iload_n hx hb dX12_mayBe_50 rfl (lv_at hl 2 rfl) ?_
    refine lv_icmp_le (tgt := 58) hx hb dX12_mayBe_51 (by decide) (fun c_3 => ?_) (fun c_3 => ?_)
    · have h := it c_3 h
      refine lv_iconst (v := 0) hx hb dX12_mayBe_58 (by decide) ?_
      rw [hQ]
      exact xzretr C0 hP hS rfl h dX12_mayBe_59
    · have h := ie c_3 h
      refine lv_iconst (v := 1) hx hb dX12_mayBe_54 (by decide) ?_
      refine lv_goto (tgt := 59) hx hb dX12_mayBe_55 (by decide) ?_
      rw [hQ]
      exact xzretr C0 hP hS rfl h dX12_mayBe_59
  · have h := ie c_1 h
    by_cases c_4 : p1 = 2
    · have h := it c_4 h
      refine lv_tableIn (off := 59) (tgt := 60) hx hb dX12_mayBe_1 (by rw [c_4]; decide) (by rw [c_4]; decide) (by rw [c_4]; rfl) (by decide) ?_
      refine lv_aload_n hx hb dX12_mayBe_60 rfl (lv_at hl 0 rfl) ?_
      refine gX12_7 C0 hK hP tw949 dX12_mayBe_61 ?_
      refine lv_iload_n hx hb dX12_mayBe_64 rfl (lv_at hl 3 rfl) ?_
      obtain ⟨b_5, h⟩ := ck h
      refine mald (i := 3) (N := 6) C0 hK hP (by decide) (by decide) rfl b_5 dX12_mayBe_65 ?_
      refine lv_iload_n hx hb dX12_mayBe_66 rfl (lv_at hl 2 rfl) ?_
      refine lv_icmp_lt (tgt := 74) hx hb dX12_mayBe_67 (by decide) (fun c_6 => ?_) (fun c_6 => ?_)
      · have h := it c_6 h
        refine lv_iconst (v := 0) hx hb dX12_mayBe_74 (by decide) ?_
        rw [hQ]
        exact xzretr C0 hP hS rfl h dX12_mayBe_75
      · have h := ie c_6 h
        refine lv_iconst (v := 1) hx hb dX12_mayBe_70 (by decide) ?_
        refine lv_goto (tgt := 75) hx hb dX12_mayBe_71 (by decide) ?_
        rw [hQ]
        exact xzretr C0 hP hS rfl h dX12_mayBe_75
    · have h := ie c_4 h
      by_cases c_7 : p1 = 3
      · have h := it c_7 h
        refine lv_tableIn (off := 75) (tgt := 76) hx hb dX12_mayBe_1 (by rw [c_7]; decide) (by rw [c_7]; decide) (by rw [c_7]; rfl) (by decide) ?_
        refine lv_aload_n hx hb dX12_mayBe_76 rfl (lv_at hl 0 rfl) ?_
        refine gX12_6 C0 hK hP tw948 dX12_mayBe_77 ?_
        refine lv_iload_n hx hb dX12_mayBe_80 rfl (lv_at hl 3 rfl) ?_
        obtain ⟨b_8, h⟩ := ck h
        refine mald (i := 2) (N := 6) C0 hK hP (by decide) (by decide) rfl b_8 dX12_mayBe_81 ?_
        refine lv_iload_n hx hb dX12_mayBe_82 rfl (lv_at hl 2 rfl) ?_
        refine lv_icmp_le (tgt := 100) hx hb dX12_mayBe_83 (by decide) (fun c_9 => ?_) (fun c_9 => ?_)
        · have h := it c_9 h
          refine lv_iconst (v := 0) hx hb dX12_mayBe_100 (by decide) ?_
          rw [hQ]
          exact xzretr C0 hP hS rfl h dX12_mayBe_101
        · have h := ie c_9 h
          refine lv_iload_n hx hb dX12_mayBe_86 rfl (lv_at hl 3 rfl) ?_
          refine lv_iconst (v := 1) hx hb dX12_mayBe_87 (by decide) ?_
          refine lv_iadd hx hb dX12_mayBe_88 ?_
          refine lv_aload_n hx hb dX12_mayBe_89 rfl (lv_at hl 0 rfl) ?_
          refine gX12_0 C0 hK hP tw942 dX12_mayBe_90 ?_
          refine lv_icmp_ge (tgt := 100) hx hb dX12_mayBe_93 (by decide) (fun c_10 => ?_) (fun c_10 => ?_)
          · have h := it c_10 h
            refine lv_iconst (v := 0) hx hb dX12_mayBe_100 (by decide) ?_
            rw [hQ]
            exact xzretr C0 hP hS rfl h dX12_mayBe_101
          · have h := ie c_10 h
            refine lv_iconst (v := 1) hx hb dX12_mayBe_96 (by decide) ?_
            refine lv_goto (tgt := 101) hx hb dX12_mayBe_97 (by decide) ?_
            rw [hQ]
            exact xzretr C0 hP hS rfl h dX12_mayBe_101
      · have h := ie c_7 h
        by_cases c_11 : p1 = 4
        · have h := it c_11 h
          refine lv_tableIn (off := 140) (tgt := 141) hx hb dX12_mayBe_1 (by rw [c_11]; decide) (by rw [c_11]; decide) (by rw [c_11]; rfl) (by decide) ?_
          refine lv_iconst (v := 1) hx hb dX12_mayBe_141 (by decide) ?_
          rw [hQ]
          exact xzretr C0 hP hS rfl h dX12_mayBe_142
        · have h := ie c_11 h
          by_cases c_12 : p1 = 5
          · have h := it c_12 h
            refine lv_tableIn (off := 101) (tgt := 102) hx hb dX12_mayBe_1 (by rw [c_12]; decide) (by rw [c_12]; decide) (by rw [c_12]; rfl) (by decide) ?_
            refine lv_aload_n hx hb dX12_mayBe_102 rfl (lv_at hl 0 rfl) ?_
            refine gX12_1 C0 hK hP tw943 dX12_mayBe_103 ?_
            refine lv_if_le (tgt := 113) hx hb dX12_mayBe_106 (by decide) (fun c_13 => ?_) (fun c_13 => ?_)
            · have h := it c_13 h
              refine lv_iconst (v := 0) hx hb dX12_mayBe_113 (by decide) ?_
              rw [hQ]
              exact xzretr C0 hP hS rfl h dX12_mayBe_114
            · have h := ie c_13 h
              refine lv_iconst (v := 1) hx hb dX12_mayBe_109 (by decide) ?_
              refine lv_goto (tgt := 114) hx hb dX12_mayBe_110 (by decide) ?_
              rw [hQ]
              exact xzretr C0 hP hS rfl h dX12_mayBe_114
          · have h := ie c_12 h
            by_cases c_14 : p1 = 6
            · have h := it c_14 h
              refine lv_tableIn (off := 59) (tgt := 60) hx hb dX12_mayBe_1 (by rw [c_14]; decide) (by rw [c_14]; decide) (by rw [c_14]; rfl) (by decide) ?_
              refine lv_aload_n hx hb dX12_mayBe_60 rfl (lv_at hl 0 rfl) ?_
              refine gX12_7 C0 hK hP tw949 dX12_mayBe_61 ?_
              refine lv_iload_n hx hb dX12_mayBe_64 rfl (lv_at hl 3 rfl) ?_
              obtain ⟨b_15, h⟩ := ck h
              refine mald (i := 3) (N := 6) C0 hK hP (by decide) (by decide) rfl b_15 dX12_mayBe_65 ?_
              refine lv_iload_n hx hb dX12_mayBe_66 rfl (lv_at hl 2 rfl) ?_
              refine lv_icmp_lt (tgt := 74) hx hb dX12_mayBe_67 (by decide) (fun c_16 => ?_) (fun c_16 => ?_)
              · have h := it c_16 h
                refine lv_iconst (v := 0) hx hb dX12_mayBe_74 (by decide) ?_
                rw [hQ]
                exact xzretr C0 hP hS rfl h dX12_mayBe_75
              · have h := ie c_16 h
                refine lv_iconst (v := 1) hx hb dX12_mayBe_70 (by decide) ?_
                refine lv_goto (tgt := 75) hx hb dX12_mayBe_71 (by decide) ?_
                rw [hQ]
                exact xzretr C0 hP hS rfl h dX12_mayBe_75
            · have h := ie c_14 h
              by_cases c_17 : p1 = 7
              · have h := it c_17 h
                refine lv_tableIn (off := 114) (tgt := 115) hx hb dX12_mayBe_1 (by rw [c_17]; decide) (by rw [c_17]; decide) (by rw [c_17]; rfl) (by decide) ?_
                refine lv_aload_n hx hb dX12_mayBe_115 rfl (lv_at hl 0 rfl) ?_
                refine gX12_6 C0 hK hP tw948 dX12_mayBe_116 ?_
                refine lv_iload_n hx hb dX12_mayBe_119 rfl (lv_at hl 3 rfl) ?_
                obtain ⟨b_18, h⟩ := ck h
                refine mald (i := 2) (N := 6) C0 hK hP (by decide) (by decide) rfl b_18 dX12_mayBe_120 ?_
                refine lv_iload_n hx hb dX12_mayBe_121 rfl (lv_at hl 2 rfl) ?_
                refine lv_icmp_le (tgt := 139) hx hb dX12_mayBe_122 (by decide) (fun c_19 => ?_) (fun c_19 => ?_)
                · have h := it c_19 h
                  refine lv_iconst (v := 0) hx hb dX12_mayBe_139 (by decide) ?_
                  rw [hQ]
                  exact xzretr C0 hP hS rfl h dX12_mayBe_140
                · have h := ie c_19 h
                  refine lv_iload_n hx hb dX12_mayBe_125 rfl (lv_at hl 3 rfl) ?_
                  refine lv_iconst (v := 1) hx hb dX12_mayBe_126 (by decide) ?_
                  refine lv_iadd hx hb dX12_mayBe_127 ?_
                  refine lv_aload_n hx hb dX12_mayBe_128 rfl (lv_at hl 0 rfl) ?_
                  refine gX12_0 C0 hK hP tw942 dX12_mayBe_129 ?_
                  refine lv_icmp_ne (tgt := 139) hx hb dX12_mayBe_132 (by decide) (fun c_20 => ?_) (fun c_20 => ?_)
                  · have h := ie c_20 h
                    refine lv_iconst (v := 0) hx hb dX12_mayBe_139 (by decide) ?_
                    rw [hQ]
                    exact xzretr C0 hP hS rfl h dX12_mayBe_140
                  · have h := it c_20 h
                    refine lv_iconst (v := 1) hx hb dX12_mayBe_135 (by decide) ?_
                    refine lv_goto (tgt := 140) hx hb dX12_mayBe_136 (by decide) ?_
                    rw [hQ]
                    exact xzretr C0 hP hS rfl h dX12_mayBe_140
              · have h := ie c_17 h
                refine lv_tableOut (tgt := 141) hx hb dX12_mayBe_1 (by have := sw_ne (k := 1) (by decide) c_1; have := sw_ne (k := 2) (by decide) c_4; have := sw_ne (k := 3) (by decide) c_7; have := sw_ne (k := 4) (by decide) c_11; have := sw_ne (k := 5) (by decide) c_12; have := sw_ne (k := 6) (by decide) c_14; have := sw_ne (k := 7) (by decide) c_17; omega) (by decide) ?_
                refine lv_iconst (v := 1) hx hb dX12_mayBe_141 (by decide) ?_
                rw [hQ]
                exact xzretr C0 hP hS rfl h dX12_mayBe_142
def f_X12_most (p1 : Int32) (p2 : Int32) : Option (Int32) :=
  if p1 ≤ p2 then
    some p1
  else
    some p2
def rm_X12_most : Room := { frames := 0, cells := 0, slots := 0, locals := 0 }
set_option maxHeartbeats 4000000 in
set_option maxRecDepth 100000 in
theorem c_X12_most {l : Launch} {D : va_G} {ca : Nat → ClassId} {a : Nat → Nat} (hI : InjN 21 a) {p1 : Int32} {p2 : Int32} {σ : MMem} {r : Int32}  (h : f_X12_most p1 p2 = some r) : XMM l D ca a Bt yX12_most cX12_most 2 (some .int) rm_X12_most [.int p1, .int p2] σ (some (.int r)) σ := by
  refine XM.of pn_X12 (Nat.le_of_ble_eq_true rfl) ?_
  intro p e s m args below meth c ls Q hQ C0 hK hB hP hS hl
  have C0 : Cx p s m args meth c RX12 cX12_most 2 (some .int) := C0
  have hx := C0.1
  have hb := C0.2.1
  have hl : lv_has ls 2 [(0, .int p1), (1, .int p2)] := hl
  rw [f_X12_most] at h
  refine lv_iload_n hx hb dX12_most_0 rfl (lv_at hl 0 rfl) ?_
  refine lv_iload_n hx hb dX12_most_1 rfl (lv_at hl 1 rfl) ?_
  refine lv_icmp_le (tgt := 9) hx hb dX12_most_2 (by decide) (fun c_1 => ?_) (fun c_1 => ?_)
  · have h := it c_1 h
    refine lv_iload_n hx hb dX12_most_9 rfl (lv_at hl 0 rfl) ?_
    rw [hQ]
    exact xzretr C0 hP hS rfl h dX12_most_10
  · have h := ie c_1 h
    refine lv_iload_n hx hb dX12_most_5 rfl (lv_at hl 1 rfl) ?_
    refine lv_goto (tgt := 10) hx hb dX12_most_6 (by decide) ?_
    rw [hQ]
    exact xzretr C0 hP hS rfl h dX12_most_10
def f_X12_widen (p1 : Int32) (p2 : Int32) (σ : MMem) : Option (MMem) :=
  if p1 < 0 ∨ 6 ≤ p1.toNatClampNeg then none else
  bnd (((σ 2).1 p1.toNatClampNeg) + p2) fun (y_2 : Int32) =>
  b1 (f_X12_most y_2 99) fun r_4 =>
  if p1 < 0 ∨ 6 ≤ p1.toNatClampNeg then none else
  bnd (uI σ 2 p1.toNatClampNeg r_4) fun (σ_6 : MMem) =>
  some σ_6
def rm_X12_widen : Room := { frames := 1, cells := 0, slots := 0, locals := 21 }
set_option maxHeartbeats 4000000 in
set_option maxRecDepth 100000 in
theorem c_X12_widen {l : Launch} {D : va_G} {ca : Nat → ClassId} {a : Nat → Nat} (hI : InjN 21 a) {p1 : Int32} {p2 : Int32} {σ : MMem} {σ' : MMem}  (h : f_X12_widen p1 p2 σ = some σ') : XMM l D ca a Bt yX12_widen cX12_widen 3 none rm_X12_widen [.ref (a 0), .int p1, .int p2] σ none σ' := by
  refine XM.of pn_X12 (Nat.le_of_ble_eq_true rfl) ?_
  intro p e s m args below meth c ls Q hQ C0 hK hB hP hS hl
  have C0 : Cx p s m args meth c RX12 cX12_widen 3 none := C0
  have hx := C0.1
  have hb := C0.2.1
  have hl : lv_has ls 3 [(0, .ref (a 0)), (1, .int p1), (2, .int p2)] := hl
  rw [f_X12_widen] at h
  refine lv_aload_n hx hb dX12_widen_0 rfl (lv_at hl 0 rfl) ?_
  refine gX12_6 C0 hK hP tw948 dX12_widen_1 ?_
  refine lv_iload_n hx hb dX12_widen_4 rfl (lv_at hl 1 rfl) ?_
  refine lv_aload_n hx hb dX12_widen_5 rfl (lv_at hl 0 rfl) ?_
  refine gX12_6 C0 hK hP tw948 dX12_widen_6 ?_
  refine lv_iload_n hx hb dX12_widen_9 rfl (lv_at hl 1 rfl) ?_
  obtain ⟨b_1, h⟩ := ck h
  refine mald (i := 2) (N := 6) C0 hK hP (by decide) (by decide) rfl b_1 dX12_widen_10 ?_
  refine lv_iload_n hx hb dX12_widen_11 rfl (lv_at hl 2 rfl) ?_
  refine lv_iadd hx hb dX12_widen_12 ?_
  refine lv_bipush (v := 99) hx hb dX12_widen_13 (by decide) ?_
  obtain ⟨y_2, ey_2, h⟩ := bnd_e h
  rw [← ey_2]
  obtain ⟨r_4, h_3, h⟩ := b1_e h
  refine xcall (rS C0 hK hP hl.1 (fun _ _ _ => trivial) Bt_b (c_X12_most hI h_3) cs_X12_most tw1140 (rest := [.int p1, .ref (a 2)]) rfl (Nat.le_of_ble_eq_true rfl) ⟨rfl, rfl, Nat.le_of_ble_eq_true rfl, Nat.le_of_ble_eq_true rfl⟩ ⟨Nat.zero_le _, Nat.zero_le _⟩ dX12_widen_15) hS (fun H locs hP hS => ?_)
  obtain ⟨b_5, h⟩ := ck h
  obtain ⟨σ_6, eσ_6, h⟩ := bnd_e h
  refine mast (i := 2) (N := 6) C0 hK hP hI hS (by decide) (by decide) rfl b_5 dX12_widen_18 (fun H locs hP hS => ?_)
  rw [← eσ_6] at hP
  rw [hQ]
  exact xvret C0 hP hS h dX12_widen_19
def f_X12_does_L145 (p1 : Int32) (p3 : Int32) : Nat → Int32 → MMem → (Int32 → MMem → Option (MMem)) → Option (MMem)
  | 0, _, _, _ => none
  | n + 1, x4_8, σ_9, K1 =>
    if p3 ≤ x4_8 then
      K1 x4_8 σ_9
    else
      if p1 = 7 then
        if x4_8 < 0 ∨ 6 ≤ x4_8.toNatClampNeg then none else
        if x4_8 < 0 ∨ 6 ≤ x4_8.toNatClampNeg then none else
        if ((σ_9 2).1 x4_8.toNatClampNeg) ≤ 1 then
          bnd (((σ_9 2).1 x4_8.toNatClampNeg) - 0) fun (y_15 : Int32) =>
          if x4_8 < 0 ∨ 6 ≤ x4_8.toNatClampNeg then none else
          bnd (uI σ_9 2 x4_8.toNatClampNeg y_15) fun (σ_17 : MMem) =>
          bnd (x4_8 + 1) fun (x4_18 : Int32) =>
          f_X12_does_L145 p1 p3 n x4_18 σ_17 K1
        else
          bnd (((σ_9 2).1 x4_8.toNatClampNeg) - 1) fun (y_19 : Int32) =>
          if x4_8 < 0 ∨ 6 ≤ x4_8.toNatClampNeg then none else
          bnd (uI σ_9 2 x4_8.toNatClampNeg y_19) fun (σ_21 : MMem) =>
          bnd (x4_8 + 1) fun (x4_22 : Int32) =>
          f_X12_does_L145 p1 p3 n x4_22 σ_21 K1
      else
        K1 x4_8 σ_9
def f_X12_does (p1 : Int32) (p2 : Int32) (p3 : Int32) (σ : MMem) : Option (MMem) :=
  jn (fun (σ_1 : MMem) =>
    jn (fun (σ_2 : MMem) =>
      jn (fun (σ_3 : MMem) =>
        jn (fun (σ_4 : MMem) =>
          jn (fun (v_5 : Int32) (σ_6 : MMem) =>
            bnd (uI σ_6 0 1 v_5) fun (σ_7 : MMem) =>
            f_X12_does_L145 p1 p3 5000 0 σ_7 fun (u_23 : Int32) (σ_24 : MMem) =>
              b1 (f_X12_minutesOf p1 p2) fun r_26 =>
              bnd (((σ_24 0).1 2) + r_26) fun (y_27 : Int32) =>
              b1 (f_X12_most y_27 9999) fun r_29 =>
              bnd (uI σ_24 0 2 r_29) fun (σ_30 : MMem) =>
              some σ_30) fun J139 =>
          if p1 = 5 then
            J139 (((σ_4 0).1 1) - 1) σ_4
          else
            if p1 = 6 then
              b1 (f_X12_most (((σ_4 0).1 1) + p2) 99) fun r_34 =>
              J139 r_34 σ_4
            else
              J139 ((σ_4 0).1 1) σ_4) fun J100 =>
        if p1 = 4 then
          b1 (f_X12_widen p3 (2 * p2) σ_3) fun σ_37 =>
          J100 σ_37
        else
          J100 σ_3) fun J87 =>
      if p1 = 3 then
        b1 (f_X12_widen (p3 + 1) p2 σ_2) fun σ_40 =>
        J87 σ_40
      else
        J87 σ_2) fun J74 =>
    jn (fun (σ_41 : MMem) =>
      b1 (f_X12_widen p3 p2 σ_41) fun σ_43 =>
      if p3 < 0 ∨ 6 ≤ p3.toNatClampNeg then none else
      bnd (((σ_43 3).1 p3.toNatClampNeg) - p2) fun (y_45 : Int32) =>
      if p3 < 0 ∨ 6 ≤ p3.toNatClampNeg then none else
      bnd (uI σ_43 3 p3.toNatClampNeg y_45) fun (σ_47 : MMem) =>
      J74 σ_47) fun J58 =>
    if p1 = 2 then
      J58 σ_1
    else
      if p1 = 6 then
        J58 σ_1
      else
        J74 σ_1) fun J47 =>
  jn (fun (σ_50 : MMem) =>
    if p3 < 0 ∨ 6 ≤ p3.toNatClampNeg then none else
    bnd (((σ_50 2).1 p3.toNatClampNeg) - p2) fun (y_52 : Int32) =>
    if p3 < 0 ∨ 6 ≤ p3.toNatClampNeg then none else
    bnd (uI σ_50 2 p3.toNatClampNeg y_52) fun (σ_54 : MMem) =>
    if p3 < 0 ∨ 6 ≤ p3.toNatClampNeg then none else
    bnd (((σ_54 3).1 p3.toNatClampNeg) + (p2 / 2)) fun (y_56 : Int32) =>
    b1 (f_X12_most y_56 9) fun r_58 =>
    if p3 < 0 ∨ 6 ≤ p3.toNatClampNeg then none else
    bnd (uI σ_54 3 p3.toNatClampNeg r_58) fun (σ_60 : MMem) =>
    J47 σ_60) fun J16 =>
  if p1 = 1 then
    J16 σ
  else
    if p1 = 3 then
      J16 σ
    else
      if p1 = 7 then
        J16 σ
      else
        J47 σ
def rm_X12_does : Room := { frames := 2, cells := 0, slots := 0, locals := 43 }
set_option maxHeartbeats 4000000 in
set_option maxRecDepth 100000 in
theorem c_X12_does {l : Launch} {D : va_G} {ca : Nat → ClassId} {a : Nat → Nat} (hI : InjN 21 a) {p1 : Int32} {p2 : Int32} {p3 : Int32} {σ : MMem} {σ' : MMem}  (h : f_X12_does p1 p2 p3 σ = some σ') : XMM l D ca a Bt yX12_does cX12_does 5 none rm_X12_does [.ref (a 0), .int p1, .int p2, .int p3] σ none σ' := by
  refine XM.of pn_X12 (Nat.le_of_ble_eq_true rfl) ?_
  intro p e s m args below meth c ls Q hQ C0 hK hB hP hS hl
  have C0 : Cx p s m args meth c RX12 cX12_does 5 none := C0
  have hx := C0.1
  have hb := C0.2.1
  have hl : lv_has ls 5 [(0, .ref (a 0)), (1, .int p1), (2, .int p2), (3, .int p3)] := hl
  rw [f_X12_does] at h
  refine lv_iload_n hx hb dX12_does_0 rfl (lv_at hl 1 rfl) ?_
  refine lv_iconst (v := 1) hx hb dX12_does_1 (by decide) ?_
  obtain ⟨J47, eJ47, h⟩ := jn_e h
  have hJ47 : ∀ (σ_1 : MMem) (H : Heap) (locs : List Loc) (ls : Array Slot), J47 σ_1 = some σ' → va_P D vwCl (wM ca a σ_1) H → va_S (AW 21 a) s.heap H locs → lv_has ls 5 [(0, .ref (a 0)), (1, .int p1), (2, .int p2), (3, .int p3)] → W p l e rm_X12_does s m args below meth c H locs 0 0 Q (F0 m 47 ls []) := by
    intro σ_1 H locs ls h hP hS hl
    have h := ap1 eJ47 h
    refine lv_iload_n hx hb dX12_does_47 rfl (lv_at hl 1 rfl) ?_
    refine lv_iconst (v := 2) hx hb dX12_does_48 (by decide) ?_
    obtain ⟨J74, eJ74, h⟩ := jn_e h
    have hJ74 : ∀ (σ_2 : MMem) (H : Heap) (locs : List Loc) (ls : Array Slot), J74 σ_2 = some σ' → va_P D vwCl (wM ca a σ_2) H → va_S (AW 21 a) s.heap H locs → lv_has ls 5 [(0, .ref (a 0)), (1, .int p1), (2, .int p2), (3, .int p3)] → W p l e rm_X12_does s m args below meth c H locs 0 0 Q (F0 m 74 ls []) := by
      intro σ_2 H locs ls h hP hS hl
      have h := ap1 eJ74 h
      refine lv_iload_n hx hb dX12_does_74 rfl (lv_at hl 1 rfl) ?_
      refine lv_iconst (v := 3) hx hb dX12_does_75 (by decide) ?_
      obtain ⟨J87, eJ87, h⟩ := jn_e h
      have hJ87 : ∀ (σ_3 : MMem) (H : Heap) (locs : List Loc) (ls : Array Slot), J87 σ_3 = some σ' → va_P D vwCl (wM ca a σ_3) H → va_S (AW 21 a) s.heap H locs → lv_has ls 5 [(0, .ref (a 0)), (1, .int p1), (2, .int p2), (3, .int p3)] → W p l e rm_X12_does s m args below meth c H locs 0 0 Q (F0 m 87 ls []) := by
        intro σ_3 H locs ls h hP hS hl
        have h := ap1 eJ87 h
        refine lv_iload_n hx hb dX12_does_87 rfl (lv_at hl 1 rfl) ?_
        refine lv_iconst (v := 4) hx hb dX12_does_88 (by decide) ?_
        obtain ⟨J100, eJ100, h⟩ := jn_e h
        have hJ100 : ∀ (σ_4 : MMem) (H : Heap) (locs : List Loc) (ls : Array Slot), J100 σ_4 = some σ' → va_P D vwCl (wM ca a σ_4) H → va_S (AW 21 a) s.heap H locs → lv_has ls 5 [(0, .ref (a 0)), (1, .int p1), (2, .int p2), (3, .int p3)] → W p l e rm_X12_does s m args below meth c H locs 0 0 Q (F0 m 100 ls []) := by
          intro σ_4 H locs ls h hP hS hl
          have h := ap1 eJ100 h
          refine lv_aload_n hx hb dX12_does_100 rfl (lv_at hl 0 rfl) ?_
          refine lv_iload_n hx hb dX12_does_101 rfl (lv_at hl 1 rfl) ?_
          refine lv_iconst (v := 5) hx hb dX12_does_102 (by decide) ?_
          obtain ⟨J139, eJ139, h⟩ := jn_e h
          have hJ139 : ∀ (v_5 : Int32) (σ_6 : MMem) (H : Heap) (locs : List Loc) (ls : Array Slot), J139 v_5 σ_6 = some σ' → va_P D vwCl (wM ca a σ_6) H → va_S (AW 21 a) s.heap H locs → lv_has ls 5 [(0, .ref (a 0)), (1, .int p1), (2, .int p2), (3, .int p3)] → W p l e rm_X12_does s m args below meth c H locs 0 0 Q (F0 m 139 ls [.int v_5, .ref (a 0)]) := by
            intro v_5 σ_6 H locs ls h hP hS hl
            have h := ap2 eJ139 h
            obtain ⟨σ_7, eσ_7, h⟩ := bnd_e h
            refine pX12_1 C0 hK hP tw943 hI hS dX12_does_139 (fun H locs hP hS => ?_)
            rw [← eσ_7] at hP
            refine lv_iconst (v := 0) hx hb dX12_does_142 (by decide) ?_
            refine lv_istore (lv' := [(4, .int 0), (0, .ref (a 0)), (1, .int p1), (2, .int p2), (3, .int p3)]) hx hb dX12_does_143 hl (by decide) rfl (fun ls hl => ?_)
            obtain ⟨K1, eK1, h⟩ := lp_e (f := fun K => f_X12_does_L145 p1 p3 5000 0 σ_7 K) h
            have h : f_X12_does_L145 p1 p3 5000 0 σ_7 K1 = some σ' := h
            have hX1 : ∀ (u_23 : Int32) (σ_24 : MMem) (H : Heap) (locs : List Loc) (ls : Array Slot), K1 u_23 σ_24 = some σ' → va_P D vwCl (wM ca a σ_24) H → va_S (AW 21 a) s.heap H locs → lv_has ls 5 [(0, .ref (a 0)), (1, .int p1), (2, .int p2)] → W p l e rm_X12_does s m args below meth c H locs 0 0 Q (F0 m 189 ls []) := by
              intro u_23 σ_24 H locs ls h hP hS hl
              have h := ap2 eK1 h
              refine lv_aload_n hx hb dX12_does_189 rfl (lv_at hl 0 rfl) ?_
              refine lv_aload_n hx hb dX12_does_190 rfl (lv_at hl 0 rfl) ?_
              refine gX12_2 C0 hK hP tw944 dX12_does_191 ?_
              refine lv_iload_n hx hb dX12_does_194 rfl (lv_at hl 1 rfl) ?_
              refine lv_iload_n hx hb dX12_does_195 rfl (lv_at hl 2 rfl) ?_
              obtain ⟨r_26, h_25, h⟩ := b1_e h
              refine xcall (rS C0 hK hP hl.1 (fun _ _ _ => trivial) Bt_b (c_X12_minutesOf hI h_25) cs_X12_minutesOf tw1147 (rest := [.int ((σ_24 0).1 2), .ref (a 0)]) rfl (Nat.le_of_ble_eq_true rfl) ⟨rfl, rfl, Nat.le_of_ble_eq_true rfl, Nat.le_of_ble_eq_true rfl⟩ ⟨Nat.zero_le _, Nat.zero_le _⟩ dX12_does_196) hS (fun H locs hP hS => ?_)
              refine lv_iadd hx hb dX12_does_199 ?_
              refine lv_sipush (v := 9999) hx hb dX12_does_200 (by decide) ?_
              obtain ⟨y_27, ey_27, h⟩ := bnd_e h
              rw [← ey_27]
              obtain ⟨r_29, h_28, h⟩ := b1_e h
              refine xcall (rS C0 hK hP hl.1 (fun _ _ _ => trivial) Bt_b (c_X12_most hI h_28) cs_X12_most tw1140 (rest := [.ref (a 0)]) rfl (Nat.le_of_ble_eq_true rfl) ⟨rfl, rfl, Nat.le_of_ble_eq_true rfl, Nat.le_of_ble_eq_true rfl⟩ ⟨Nat.zero_le _, Nat.zero_le _⟩ dX12_does_203) hS (fun H locs hP hS => ?_)
              obtain ⟨σ_30, eσ_30, h⟩ := bnd_e h
              refine pX12_2 C0 hK hP tw944 hI hS dX12_does_206 (fun H locs hP hS => ?_)
              rw [← eσ_30] at hP
              rw [hQ]
              exact xvret C0 hP hS h dX12_does_209
            have hL1 : ∀ (n : Nat) (x4_8 : Int32) (σ_9 : MMem) (H : Heap) (locs : List Loc) (ls : Array Slot), f_X12_does_L145 p1 p3 n x4_8 σ_9 K1 = some σ' → va_P D vwCl (wM ca a σ_9) H → va_S (AW 21 a) s.heap H locs → lv_has ls 5 [(0, .ref (a 0)), (1, .int p1), (2, .int p2), (3, .int p3), (4, .int x4_8)] → W p l e rm_X12_does s m args below meth c H locs 0 0 Q (F0 m 145 ls []) := by
              intro n
              induction n with
              | zero => intro x4_8 σ_9 H locs ls h; rw [f_X12_does_L145] at h; cases h
              | succ n ih1 =>
                intro x4_8 σ_9 H locs ls h hP hS hl
                rw [f_X12_does_L145] at h
                refine lv_iload hx hb dX12_does_145 (lv_at hl 4 rfl) ?_
                refine lv_iload_n hx hb dX12_does_147 rfl (lv_at hl 3 rfl) ?_
                refine lv_icmp_ge (tgt := 189) hx hb dX12_does_148 (by decide) (fun c_10 => ?_) (fun c_10 => ?_)
                · have h := it c_10 h
                  exact hX1 x4_8 σ_9 _ _ ls h hP hS (lv_sub hl [0, 1, 2] rfl)
                · have h := ie c_10 h
                  refine lv_iload_n hx hb dX12_does_151 rfl (lv_at hl 1 rfl) ?_
                  refine lv_bipush (v := 7) hx hb dX12_does_152 (by decide) ?_
                  refine lv_icmp_ne (tgt := 189) hx hb dX12_does_154 (by decide) (fun c_11 => ?_) (fun c_11 => ?_)
                  · have h := ie c_11 h
                    exact hX1 x4_8 σ_9 _ _ ls h hP hS (lv_sub hl [0, 1, 2] rfl)
                  · have h := it c_11 h
                    refine lv_aload_n hx hb dX12_does_157 rfl (lv_at hl 0 rfl) ?_
                    refine gX12_6 C0 hK hP tw948 dX12_does_158 ?_
                    refine lv_iload hx hb dX12_does_161 (lv_at hl 4 rfl) ?_
                    refine lv_dup2_11 hx hb dX12_does_163 rfl rfl ?_
                    obtain ⟨b_12, h⟩ := ck h
                    refine mald (i := 2) (N := 6) C0 hK hP (by decide) (by decide) rfl b_12 dX12_does_164 ?_
                    refine lv_aload_n hx hb dX12_does_165 rfl (lv_at hl 0 rfl) ?_
                    refine gX12_6 C0 hK hP tw948 dX12_does_166 ?_
                    refine lv_iload hx hb dX12_does_169 (lv_at hl 4 rfl) ?_
                    obtain ⟨b_13, h⟩ := ck h
                    refine mald (i := 2) (N := 6) C0 hK hP (by decide) (by decide) rfl b_13 dX12_does_171 ?_
                    refine lv_iconst (v := 1) hx hb dX12_does_172 (by decide) ?_
                    refine lv_icmp_le (tgt := 180) hx hb dX12_does_173 (by decide) (fun c_14 => ?_) (fun c_14 => ?_)
                    · have h := it c_14 h
                      refine lv_iconst (v := 0) hx hb dX12_does_180 (by decide) ?_
                      refine lv_isub hx hb dX12_does_181 ?_
                      obtain ⟨y_15, ey_15, h⟩ := bnd_e h
                      refine nm_i ey_15 ?_
                      obtain ⟨b_16, h⟩ := ck h
                      obtain ⟨σ_17, eσ_17, h⟩ := bnd_e h
                      refine mast (i := 2) (N := 6) C0 hK hP hI hS (by decide) (by decide) rfl b_16 dX12_does_182 (fun H locs hP hS => ?_)
                      rw [← eσ_17] at hP
                      obtain ⟨x4_18, ex4_18, h⟩ := bnd_e h
                      refine lv_iinc (v := x4_18) (lv' := [(4, .int x4_18), (0, .ref (a 0)), (1, .int p1), (2, .int p2), (3, .int p3)]) hx hb dX12_does_183 hl (k := 4) rfl (by rw [ex4_18]; rfl) (by decide) rfl (fun ls hl => ?_)
                      refine lv_goto (tgt := 145) hx hb dX12_does_186 (by decide) ?_
                      exact ih1 x4_18 σ_17 _ _ ls h hP hS (lv_sub hl [1, 2, 3, 4, 0] rfl)
                    · have h := ie c_14 h
                      refine lv_iconst (v := 1) hx hb dX12_does_176 (by decide) ?_
                      refine lv_goto (tgt := 181) hx hb dX12_does_177 (by decide) ?_
                      refine lv_isub hx hb dX12_does_181 ?_
                      obtain ⟨y_19, ey_19, h⟩ := bnd_e h
                      refine nm_i ey_19 ?_
                      obtain ⟨b_20, h⟩ := ck h
                      obtain ⟨σ_21, eσ_21, h⟩ := bnd_e h
                      refine mast (i := 2) (N := 6) C0 hK hP hI hS (by decide) (by decide) rfl b_20 dX12_does_182 (fun H locs hP hS => ?_)
                      rw [← eσ_21] at hP
                      obtain ⟨x4_22, ex4_22, h⟩ := bnd_e h
                      refine lv_iinc (v := x4_22) (lv' := [(4, .int x4_22), (0, .ref (a 0)), (1, .int p1), (2, .int p2), (3, .int p3)]) hx hb dX12_does_183 hl (k := 4) rfl (by rw [ex4_22]; rfl) (by decide) rfl (fun ls hl => ?_)
                      refine lv_goto (tgt := 145) hx hb dX12_does_186 (by decide) ?_
                      exact ih1 x4_22 σ_21 _ _ ls h hP hS (lv_sub hl [1, 2, 3, 4, 0] rfl)
            exact hL1 5000 0 σ_7 _ _ ls h hP hS (lv_sub hl [1, 2, 3, 4, 0] rfl)
          refine lv_icmp_ne (tgt := 115) hx hb dX12_does_103 (by decide) (fun c_31 => ?_) (fun c_31 => ?_)
          · have h := ie c_31 h
            refine lv_iload_n hx hb dX12_does_115 rfl (lv_at hl 1 rfl) ?_
            refine lv_bipush (v := 6) hx hb dX12_does_116 (by decide) ?_
            refine lv_icmp_ne (tgt := 135) hx hb dX12_does_118 (by decide) (fun c_32 => ?_) (fun c_32 => ?_)
            · have h := ie c_32 h
              refine lv_aload_n hx hb dX12_does_135 rfl (lv_at hl 0 rfl) ?_
              refine gX12_1 C0 hK hP tw943 dX12_does_136 ?_
              exact hJ139 ((σ_4 0).1 1) σ_4 _ _ ls h hP hS (lv_sub hl [0, 1, 2, 3] rfl)
            · have h := it c_32 h
              refine lv_aload_n hx hb dX12_does_121 rfl (lv_at hl 0 rfl) ?_
              refine gX12_1 C0 hK hP tw943 dX12_does_122 ?_
              refine lv_iload_n hx hb dX12_does_125 rfl (lv_at hl 2 rfl) ?_
              refine lv_iadd hx hb dX12_does_126 ?_
              refine lv_bipush (v := 99) hx hb dX12_does_127 (by decide) ?_
              obtain ⟨r_34, h_33, h⟩ := b1_e h
              refine xcall (rS C0 hK hP hl.1 (fun _ _ _ => trivial) Bt_b (c_X12_most hI h_33) cs_X12_most tw1140 (rest := [.ref (a 0)]) rfl (Nat.le_of_ble_eq_true rfl) ⟨rfl, rfl, Nat.le_of_ble_eq_true rfl, Nat.le_of_ble_eq_true rfl⟩ ⟨Nat.zero_le _, Nat.zero_le _⟩ dX12_does_129) hS (fun H locs hP hS => ?_)
              refine lv_goto (tgt := 139) hx hb dX12_does_132 (by decide) ?_
              exact hJ139 r_34 σ_4 _ _ ls h hP hS (lv_sub hl [0, 1, 2, 3] rfl)
          · have h := it c_31 h
            refine lv_aload_n hx hb dX12_does_106 rfl (lv_at hl 0 rfl) ?_
            refine gX12_1 C0 hK hP tw943 dX12_does_107 ?_
            refine lv_iconst (v := 1) hx hb dX12_does_110 (by decide) ?_
            refine lv_isub hx hb dX12_does_111 ?_
            refine lv_goto (tgt := 139) hx hb dX12_does_112 (by decide) ?_
            exact hJ139 (((σ_4 0).1 1) - 1) σ_4 _ _ ls h hP hS (lv_sub hl [0, 1, 2, 3] rfl)
        refine lv_icmp_ne (tgt := 100) hx hb dX12_does_89 (by decide) (fun c_35 => ?_) (fun c_35 => ?_)
        · have h := ie c_35 h
          exact hJ100 σ_3 _ _ ls h hP hS (lv_sub hl [0, 1, 2, 3] rfl)
        · have h := it c_35 h
          refine lv_aload_n hx hb dX12_does_92 rfl (lv_at hl 0 rfl) ?_
          refine lv_iload_n hx hb dX12_does_93 rfl (lv_at hl 3 rfl) ?_
          refine lv_iconst (v := 2) hx hb dX12_does_94 (by decide) ?_
          refine lv_iload_n hx hb dX12_does_95 rfl (lv_at hl 2 rfl) ?_
          refine lv_imul hx hb dX12_does_96 ?_
          obtain ⟨σ_37, h_36, h⟩ := b1_e h
          refine xcall (rV C0 hK hP hl.1 (fun _ _ _ => trivial) Bt_b (c_X12_widen hI h_36) cv_X12_widen tw1143 (rcX12 hK hP) (rest := []) rfl (Nat.le_of_ble_eq_true rfl) ⟨rfl, rfl, Nat.le_of_ble_eq_true rfl, Nat.le_of_ble_eq_true rfl⟩ ⟨Nat.zero_le _, Nat.zero_le _⟩ dX12_does_97) hS (fun H locs hP hS => ?_)
          exact hJ100 σ_37 _ _ ls h hP hS (lv_sub hl [0, 1, 2, 3] rfl)
      refine lv_icmp_ne (tgt := 87) hx hb dX12_does_76 (by decide) (fun c_38 => ?_) (fun c_38 => ?_)
      · have h := ie c_38 h
        exact hJ87 σ_2 _ _ ls h hP hS (lv_sub hl [0, 1, 2, 3] rfl)
      · have h := it c_38 h
        refine lv_aload_n hx hb dX12_does_79 rfl (lv_at hl 0 rfl) ?_
        refine lv_iload_n hx hb dX12_does_80 rfl (lv_at hl 3 rfl) ?_
        refine lv_iconst (v := 1) hx hb dX12_does_81 (by decide) ?_
        refine lv_iadd hx hb dX12_does_82 ?_
        refine lv_iload_n hx hb dX12_does_83 rfl (lv_at hl 2 rfl) ?_
        obtain ⟨σ_40, h_39, h⟩ := b1_e h
        refine xcall (rV C0 hK hP hl.1 (fun _ _ _ => trivial) Bt_b (c_X12_widen hI h_39) cv_X12_widen tw1143 (rcX12 hK hP) (rest := []) rfl (Nat.le_of_ble_eq_true rfl) ⟨rfl, rfl, Nat.le_of_ble_eq_true rfl, Nat.le_of_ble_eq_true rfl⟩ ⟨Nat.zero_le _, Nat.zero_le _⟩ dX12_does_84) hS (fun H locs hP hS => ?_)
        exact hJ87 σ_40 _ _ ls h hP hS (lv_sub hl [0, 1, 2, 3] rfl)
    obtain ⟨J58, eJ58, h⟩ := jn_e h
    have hJ58 : ∀ (σ_41 : MMem) (H : Heap) (locs : List Loc) (ls : Array Slot), J58 σ_41 = some σ' → va_P D vwCl (wM ca a σ_41) H → va_S (AW 21 a) s.heap H locs → lv_has ls 5 [(0, .ref (a 0)), (1, .int p1), (2, .int p2), (3, .int p3)] → W p l e rm_X12_does s m args below meth c H locs 0 0 Q (F0 m 58 ls []) := by
      intro σ_41 H locs ls h hP hS hl
      have h := ap1 eJ58 h
      refine lv_aload_n hx hb dX12_does_58 rfl (lv_at hl 0 rfl) ?_
      refine lv_iload_n hx hb dX12_does_59 rfl (lv_at hl 3 rfl) ?_
      refine lv_iload_n hx hb dX12_does_60 rfl (lv_at hl 2 rfl) ?_
      obtain ⟨σ_43, h_42, h⟩ := b1_e h
      refine xcall (rV C0 hK hP hl.1 (fun _ _ _ => trivial) Bt_b (c_X12_widen hI h_42) cv_X12_widen tw1143 (rcX12 hK hP) (rest := []) rfl (Nat.le_of_ble_eq_true rfl) ⟨rfl, rfl, Nat.le_of_ble_eq_true rfl, Nat.le_of_ble_eq_true rfl⟩ ⟨Nat.zero_le _, Nat.zero_le _⟩ dX12_does_61) hS (fun H locs hP hS => ?_)
      refine lv_aload_n hx hb dX12_does_64 rfl (lv_at hl 0 rfl) ?_
      refine gX12_7 C0 hK hP tw949 dX12_does_65 ?_
      refine lv_iload_n hx hb dX12_does_68 rfl (lv_at hl 3 rfl) ?_
      refine lv_dup2_11 hx hb dX12_does_69 rfl rfl ?_
      obtain ⟨b_44, h⟩ := ck h
      refine mald (i := 3) (N := 6) C0 hK hP (by decide) (by decide) rfl b_44 dX12_does_70 ?_
      refine lv_iload_n hx hb dX12_does_71 rfl (lv_at hl 2 rfl) ?_
      refine lv_isub hx hb dX12_does_72 ?_
      obtain ⟨y_45, ey_45, h⟩ := bnd_e h
      refine nm_i ey_45 ?_
      obtain ⟨b_46, h⟩ := ck h
      obtain ⟨σ_47, eσ_47, h⟩ := bnd_e h
      refine mast (i := 3) (N := 6) C0 hK hP hI hS (by decide) (by decide) rfl b_46 dX12_does_73 (fun H locs hP hS => ?_)
      rw [← eσ_47] at hP
      exact hJ74 σ_47 _ _ ls h hP hS (lv_sub hl [0, 1, 2, 3] rfl)
    refine lv_icmp_eq (tgt := 58) hx hb dX12_does_49 (by decide) (fun c_48 => ?_) (fun c_48 => ?_)
    · have h := it c_48 h
      exact hJ58 σ_1 _ _ ls h hP hS (lv_sub hl [0, 1, 2, 3] rfl)
    · have h := ie c_48 h
      refine lv_iload_n hx hb dX12_does_52 rfl (lv_at hl 1 rfl) ?_
      refine lv_bipush (v := 6) hx hb dX12_does_53 (by decide) ?_
      refine lv_icmp_ne (tgt := 74) hx hb dX12_does_55 (by decide) (fun c_49 => ?_) (fun c_49 => ?_)
      · have h := ie c_49 h
        exact hJ74 σ_1 _ _ ls h hP hS (lv_sub hl [0, 1, 2, 3] rfl)
      · have h := it c_49 h
        exact hJ58 σ_1 _ _ ls h hP hS (lv_sub hl [0, 1, 2, 3] rfl)
  obtain ⟨J16, eJ16, h⟩ := jn_e h
  have hJ16 : ∀ (σ_50 : MMem) (H : Heap) (locs : List Loc) (ls : Array Slot), J16 σ_50 = some σ' → va_P D vwCl (wM ca a σ_50) H → va_S (AW 21 a) s.heap H locs → lv_has ls 5 [(0, .ref (a 0)), (1, .int p1), (2, .int p2), (3, .int p3)] → W p l e rm_X12_does s m args below meth c H locs 0 0 Q (F0 m 16 ls []) := by
    intro σ_50 H locs ls h hP hS hl
    have h := ap1 eJ16 h
    refine lv_aload_n hx hb dX12_does_16 rfl (lv_at hl 0 rfl) ?_
    refine gX12_6 C0 hK hP tw948 dX12_does_17 ?_
    refine lv_iload_n hx hb dX12_does_20 rfl (lv_at hl 3 rfl) ?_
    refine lv_dup2_11 hx hb dX12_does_21 rfl rfl ?_
    obtain ⟨b_51, h⟩ := ck h
    refine mald (i := 2) (N := 6) C0 hK hP (by decide) (by decide) rfl b_51 dX12_does_22 ?_
    refine lv_iload_n hx hb dX12_does_23 rfl (lv_at hl 2 rfl) ?_
    refine lv_isub hx hb dX12_does_24 ?_
    obtain ⟨y_52, ey_52, h⟩ := bnd_e h
    refine nm_i ey_52 ?_
    obtain ⟨b_53, h⟩ := ck h
    obtain ⟨σ_54, eσ_54, h⟩ := bnd_e h
    refine mast (i := 2) (N := 6) C0 hK hP hI hS (by decide) (by decide) rfl b_53 dX12_does_25 (fun H locs hP hS => ?_)
    rw [← eσ_54] at hP
    refine lv_aload_n hx hb dX12_does_26 rfl (lv_at hl 0 rfl) ?_
    refine gX12_7 C0 hK hP tw949 dX12_does_27 ?_
    refine lv_iload_n hx hb dX12_does_30 rfl (lv_at hl 3 rfl) ?_
    refine lv_aload_n hx hb dX12_does_31 rfl (lv_at hl 0 rfl) ?_
    refine gX12_7 C0 hK hP tw949 dX12_does_32 ?_
    refine lv_iload_n hx hb dX12_does_35 rfl (lv_at hl 3 rfl) ?_
    obtain ⟨b_55, h⟩ := ck h
    refine mald (i := 3) (N := 6) C0 hK hP (by decide) (by decide) rfl b_55 dX12_does_36 ?_
    refine lv_iload_n hx hb dX12_does_37 rfl (lv_at hl 2 rfl) ?_
    refine lv_iconst (v := 2) hx hb dX12_does_38 (by decide) ?_
    refine lv_idiv hx hb dX12_does_39 (by decide) ?_
    refine lv_iadd hx hb dX12_does_40 ?_
    refine lv_bipush (v := 9) hx hb dX12_does_41 (by decide) ?_
    obtain ⟨y_56, ey_56, h⟩ := bnd_e h
    rw [← ey_56]
    obtain ⟨r_58, h_57, h⟩ := b1_e h
    refine xcall (rS C0 hK hP hl.1 (fun _ _ _ => trivial) Bt_b (c_X12_most hI h_57) cs_X12_most tw1140 (rest := [.int p3, .ref (a 3)]) rfl (Nat.le_of_ble_eq_true rfl) ⟨rfl, rfl, Nat.le_of_ble_eq_true rfl, Nat.le_of_ble_eq_true rfl⟩ ⟨Nat.zero_le _, Nat.zero_le _⟩ dX12_does_43) hS (fun H locs hP hS => ?_)
    obtain ⟨b_59, h⟩ := ck h
    obtain ⟨σ_60, eσ_60, h⟩ := bnd_e h
    refine mast (i := 3) (N := 6) C0 hK hP hI hS (by decide) (by decide) rfl b_59 dX12_does_46 (fun H locs hP hS => ?_)
    rw [← eσ_60] at hP
    exact hJ47 σ_60 _ _ ls h hP hS (lv_sub hl [0, 1, 2, 3] rfl)
  refine lv_icmp_eq (tgt := 16) hx hb dX12_does_2 (by decide) (fun c_61 => ?_) (fun c_61 => ?_)
  · have h := it c_61 h
    exact hJ16 σ _ _ ls h hP hS (lv_sub hl [0, 1, 2, 3] rfl)
  · have h := ie c_61 h
    refine lv_iload_n hx hb dX12_does_5 rfl (lv_at hl 1 rfl) ?_
    refine lv_iconst (v := 3) hx hb dX12_does_6 (by decide) ?_
    refine lv_icmp_eq (tgt := 16) hx hb dX12_does_7 (by decide) (fun c_62 => ?_) (fun c_62 => ?_)
    · have h := it c_62 h
      exact hJ16 σ _ _ ls h hP hS (lv_sub hl [0, 1, 2, 3] rfl)
    · have h := ie c_62 h
      refine lv_iload_n hx hb dX12_does_10 rfl (lv_at hl 1 rfl) ?_
      refine lv_bipush (v := 7) hx hb dX12_does_11 (by decide) ?_
      refine lv_icmp_ne (tgt := 47) hx hb dX12_does_13 (by decide) (fun c_63 => ?_) (fun c_63 => ?_)
      · have h := ie c_63 h
        exact hJ47 σ _ _ ls h hP hS (lv_sub hl [0, 1, 2, 3] rfl)
      · have h := it c_63 h
        exact hJ16 σ _ _ ls h hP hS (lv_sub hl [0, 1, 2, 3] rfl)
def f_X12_carry (p1 : Int32) (σ : MMem) : Option (Int32 × MMem) :=
  if ((σ 0).1 14) = 0 then
    bnd (((σ 0).1 13) + 1) fun (y_2 : Int32) =>
    bnd (uI σ 0 13 y_2) fun (σ_3 : MMem) =>
    if ((σ_3 0).1 15) = 5 then
      bnd (((σ_3 0).1 13) - 1) fun (i_6 : Int32) =>
      if i_6 < 0 ∨ 29 ≤ i_6.toNatClampNeg then none else
      some ((σ_3 5).1 i_6.toNatClampNeg, σ_3)
    else if ((σ_3 0).1 15) = 6 then
      bnd (((σ_3 0).1 13) - 1) fun (i_8 : Int32) =>
      if i_8 < 0 ∨ 29 ≤ i_8.toNatClampNeg then none else
      some ((σ_3 6).1 i_8.toNatClampNeg, σ_3)
    else none
  else
    if ((σ 0).1 15) = 5 then
      bnd ((σ 0).1 13) fun (i_12 : Int32) =>
      if i_12 < 0 ∨ 29 ≤ i_12.toNatClampNeg then none else
      bnd (uI σ 5 i_12.toNatClampNeg p1) fun (σ_14 : MMem) =>
      bnd (((σ_14 0).1 13) + 1) fun (y_15 : Int32) =>
      bnd (uI σ_14 0 13 y_15) fun (σ_16 : MMem) =>
      if ((σ_16 0).1 15) = 5 then
        bnd (((σ_16 0).1 13) - 1) fun (i_19 : Int32) =>
        if i_19 < 0 ∨ 29 ≤ i_19.toNatClampNeg then none else
        some ((σ_16 5).1 i_19.toNatClampNeg, σ_16)
      else if ((σ_16 0).1 15) = 6 then
        bnd (((σ_16 0).1 13) - 1) fun (i_21 : Int32) =>
        if i_21 < 0 ∨ 29 ≤ i_21.toNatClampNeg then none else
        some ((σ_16 6).1 i_21.toNatClampNeg, σ_16)
      else none
    else if ((σ 0).1 15) = 6 then
      bnd ((σ 0).1 13) fun (i_23 : Int32) =>
      if i_23 < 0 ∨ 29 ≤ i_23.toNatClampNeg then none else
      bnd (uI σ 6 i_23.toNatClampNeg p1) fun (σ_25 : MMem) =>
      bnd (((σ_25 0).1 13) + 1) fun (y_26 : Int32) =>
      bnd (uI σ_25 0 13 y_26) fun (σ_27 : MMem) =>
      if ((σ_27 0).1 15) = 5 then
        bnd (((σ_27 0).1 13) - 1) fun (i_30 : Int32) =>
        if i_30 < 0 ∨ 29 ≤ i_30.toNatClampNeg then none else
        some ((σ_27 5).1 i_30.toNatClampNeg, σ_27)
      else if ((σ_27 0).1 15) = 6 then
        bnd (((σ_27 0).1 13) - 1) fun (i_32 : Int32) =>
        if i_32 < 0 ∨ 29 ≤ i_32.toNatClampNeg then none else
        some ((σ_27 6).1 i_32.toNatClampNeg, σ_27)
      else none
    else none
def rm_X12_carry : Room := { frames := 0, cells := 0, slots := 0, locals := 0 }
set_option maxHeartbeats 4000000 in
set_option maxRecDepth 100000 in
theorem c_X12_carry {l : Launch} {D : va_G} {ca : Nat → ClassId} {a : Nat → Nat} (hI : InjN 21 a) {p1 : Int32} {σ : MMem} {r : Int32} {σ' : MMem}  (h : f_X12_carry p1 σ = some (r, σ')) : XMM l D ca a Bt yX12_carry cX12_carry 2 (some .int) rm_X12_carry [.ref (a 0), .int p1] σ (some (.int r)) σ' := by
  refine XM.of pn_X12 (Nat.le_of_ble_eq_true rfl) ?_
  intro p e s m args below meth c ls Q hQ C0 hK hB hP hS hl
  have C0 : Cx p s m args meth c RX12 cX12_carry 2 (some .int) := C0
  have hx := C0.1
  have hb := C0.2.1
  have hl : lv_has ls 2 [(0, .ref (a 0)), (1, .int p1)] := hl
  rw [f_X12_carry] at h
  refine lv_aload_n hx hb dX12_carry_0 rfl (lv_at hl 0 rfl) ?_
  refine gX12_14 C0 hK hP tw956 dX12_carry_1 ?_
  refine lv_if_eq (tgt := 17) hx hb dX12_carry_4 (by decide) (fun c_1 => ?_) (fun c_1 => ?_)
  · have h := it c_1 h
    refine lv_aload_n hx hb dX12_carry_17 rfl (lv_at hl 0 rfl) ?_
    refine lv_dup hx hb dX12_carry_18 rfl ?_
    refine gX12_13 C0 hK hP tw955 dX12_carry_19 ?_
    refine lv_iconst (v := 1) hx hb dX12_carry_22 (by decide) ?_
    refine lv_iadd hx hb dX12_carry_23 ?_
    obtain ⟨y_2, ey_2, h⟩ := bnd_e h
    refine nm_i ey_2 ?_
    obtain ⟨σ_3, eσ_3, h⟩ := bnd_e h
    refine pX12_13 C0 hK hP tw955 hI hS dX12_carry_24 (fun H locs hP hS => ?_)
    rw [← eσ_3] at hP
    refine lv_aload_n hx hb dX12_carry_27 rfl (lv_at hl 0 rfl) ?_
    refine gX12_15 C0 hK hP tw957 dX12_carry_28 ?_
    by_cases c_4 : ((σ_3 0).1 15) = 5
    · have h := it c_4 h
      refine nm_top (kref5 (a := a) c_4).symm ?_
      refine lv_aload_n hx hb dX12_carry_31 rfl (lv_at hl 0 rfl) ?_
      refine gX12_13 C0 hK hP tw955 dX12_carry_32 ?_
      refine lv_iconst (v := 1) hx hb dX12_carry_35 (by decide) ?_
      refine lv_isub hx hb dX12_carry_36 ?_
      obtain ⟨i_6, ei_6, h⟩ := bnd_e h
      refine nm_i ei_6 ?_
      obtain ⟨b_7, h⟩ := ck h
      refine mald (i := 5) (N := 29) C0 hK hP (by decide) (by decide) rfl b_7 dX12_carry_37 ?_
      rw [hQ]
      exact xzret C0 hP hS rfl h dX12_carry_38
    · have h := ie c_4 h
      obtain ⟨c_5, h⟩ := asr h
      refine nm_top (kref6 (a := a) c_5).symm ?_
      refine lv_aload_n hx hb dX12_carry_31 rfl (lv_at hl 0 rfl) ?_
      refine gX12_13 C0 hK hP tw955 dX12_carry_32 ?_
      refine lv_iconst (v := 1) hx hb dX12_carry_35 (by decide) ?_
      refine lv_isub hx hb dX12_carry_36 ?_
      obtain ⟨i_8, ei_8, h⟩ := bnd_e h
      refine nm_i ei_8 ?_
      obtain ⟨b_9, h⟩ := ck h
      refine mald (i := 6) (N := 29) C0 hK hP (by decide) (by decide) rfl b_9 dX12_carry_37 ?_
      rw [hQ]
      exact xzret C0 hP hS rfl h dX12_carry_38
  · have h := ie c_1 h
    refine lv_aload_n hx hb dX12_carry_7 rfl (lv_at hl 0 rfl) ?_
    refine gX12_15 C0 hK hP tw957 dX12_carry_8 ?_
    by_cases c_10 : ((σ 0).1 15) = 5
    · have h := it c_10 h
      refine nm_top (kref5 (a := a) c_10).symm ?_
      refine lv_aload_n hx hb dX12_carry_11 rfl (lv_at hl 0 rfl) ?_
      refine gX12_13 C0 hK hP tw955 dX12_carry_12 ?_
      refine lv_iload_n hx hb dX12_carry_15 rfl (lv_at hl 1 rfl) ?_
      obtain ⟨i_12, ei_12, h⟩ := bnd_e h
      rw [← ei_12]
      obtain ⟨b_13, h⟩ := ck h
      obtain ⟨σ_14, eσ_14, h⟩ := bnd_e h
      refine mast (i := 5) (N := 29) C0 hK hP hI hS (by decide) (by decide) rfl b_13 dX12_carry_16 (fun H locs hP hS => ?_)
      rw [← eσ_14] at hP
      refine lv_aload_n hx hb dX12_carry_17 rfl (lv_at hl 0 rfl) ?_
      refine lv_dup hx hb dX12_carry_18 rfl ?_
      refine gX12_13 C0 hK hP tw955 dX12_carry_19 ?_
      refine lv_iconst (v := 1) hx hb dX12_carry_22 (by decide) ?_
      refine lv_iadd hx hb dX12_carry_23 ?_
      obtain ⟨y_15, ey_15, h⟩ := bnd_e h
      refine nm_i ey_15 ?_
      obtain ⟨σ_16, eσ_16, h⟩ := bnd_e h
      refine pX12_13 C0 hK hP tw955 hI hS dX12_carry_24 (fun H locs hP hS => ?_)
      rw [← eσ_16] at hP
      refine lv_aload_n hx hb dX12_carry_27 rfl (lv_at hl 0 rfl) ?_
      refine gX12_15 C0 hK hP tw957 dX12_carry_28 ?_
      by_cases c_17 : ((σ_16 0).1 15) = 5
      · have h := it c_17 h
        refine nm_top (kref5 (a := a) c_17).symm ?_
        refine lv_aload_n hx hb dX12_carry_31 rfl (lv_at hl 0 rfl) ?_
        refine gX12_13 C0 hK hP tw955 dX12_carry_32 ?_
        refine lv_iconst (v := 1) hx hb dX12_carry_35 (by decide) ?_
        refine lv_isub hx hb dX12_carry_36 ?_
        obtain ⟨i_19, ei_19, h⟩ := bnd_e h
        refine nm_i ei_19 ?_
        obtain ⟨b_20, h⟩ := ck h
        refine mald (i := 5) (N := 29) C0 hK hP (by decide) (by decide) rfl b_20 dX12_carry_37 ?_
        rw [hQ]
        exact xzret C0 hP hS rfl h dX12_carry_38
      · have h := ie c_17 h
        obtain ⟨c_18, h⟩ := asr h
        refine nm_top (kref6 (a := a) c_18).symm ?_
        refine lv_aload_n hx hb dX12_carry_31 rfl (lv_at hl 0 rfl) ?_
        refine gX12_13 C0 hK hP tw955 dX12_carry_32 ?_
        refine lv_iconst (v := 1) hx hb dX12_carry_35 (by decide) ?_
        refine lv_isub hx hb dX12_carry_36 ?_
        obtain ⟨i_21, ei_21, h⟩ := bnd_e h
        refine nm_i ei_21 ?_
        obtain ⟨b_22, h⟩ := ck h
        refine mald (i := 6) (N := 29) C0 hK hP (by decide) (by decide) rfl b_22 dX12_carry_37 ?_
        rw [hQ]
        exact xzret C0 hP hS rfl h dX12_carry_38
    · have h := ie c_10 h
      obtain ⟨c_11, h⟩ := asr h
      refine nm_top (kref6 (a := a) c_11).symm ?_
      refine lv_aload_n hx hb dX12_carry_11 rfl (lv_at hl 0 rfl) ?_
      refine gX12_13 C0 hK hP tw955 dX12_carry_12 ?_
      refine lv_iload_n hx hb dX12_carry_15 rfl (lv_at hl 1 rfl) ?_
      obtain ⟨i_23, ei_23, h⟩ := bnd_e h
      rw [← ei_23]
      obtain ⟨b_24, h⟩ := ck h
      obtain ⟨σ_25, eσ_25, h⟩ := bnd_e h
      refine mast (i := 6) (N := 29) C0 hK hP hI hS (by decide) (by decide) rfl b_24 dX12_carry_16 (fun H locs hP hS => ?_)
      rw [← eσ_25] at hP
      refine lv_aload_n hx hb dX12_carry_17 rfl (lv_at hl 0 rfl) ?_
      refine lv_dup hx hb dX12_carry_18 rfl ?_
      refine gX12_13 C0 hK hP tw955 dX12_carry_19 ?_
      refine lv_iconst (v := 1) hx hb dX12_carry_22 (by decide) ?_
      refine lv_iadd hx hb dX12_carry_23 ?_
      obtain ⟨y_26, ey_26, h⟩ := bnd_e h
      refine nm_i ey_26 ?_
      obtain ⟨σ_27, eσ_27, h⟩ := bnd_e h
      refine pX12_13 C0 hK hP tw955 hI hS dX12_carry_24 (fun H locs hP hS => ?_)
      rw [← eσ_27] at hP
      refine lv_aload_n hx hb dX12_carry_27 rfl (lv_at hl 0 rfl) ?_
      refine gX12_15 C0 hK hP tw957 dX12_carry_28 ?_
      by_cases c_28 : ((σ_27 0).1 15) = 5
      · have h := it c_28 h
        refine nm_top (kref5 (a := a) c_28).symm ?_
        refine lv_aload_n hx hb dX12_carry_31 rfl (lv_at hl 0 rfl) ?_
        refine gX12_13 C0 hK hP tw955 dX12_carry_32 ?_
        refine lv_iconst (v := 1) hx hb dX12_carry_35 (by decide) ?_
        refine lv_isub hx hb dX12_carry_36 ?_
        obtain ⟨i_30, ei_30, h⟩ := bnd_e h
        refine nm_i ei_30 ?_
        obtain ⟨b_31, h⟩ := ck h
        refine mald (i := 5) (N := 29) C0 hK hP (by decide) (by decide) rfl b_31 dX12_carry_37 ?_
        rw [hQ]
        exact xzret C0 hP hS rfl h dX12_carry_38
      · have h := ie c_28 h
        obtain ⟨c_29, h⟩ := asr h
        refine nm_top (kref6 (a := a) c_29).symm ?_
        refine lv_aload_n hx hb dX12_carry_31 rfl (lv_at hl 0 rfl) ?_
        refine gX12_13 C0 hK hP tw955 dX12_carry_32 ?_
        refine lv_iconst (v := 1) hx hb dX12_carry_35 (by decide) ?_
        refine lv_isub hx hb dX12_carry_36 ?_
        obtain ⟨i_32, ei_32, h⟩ := bnd_e h
        refine nm_i ei_32 ?_
        obtain ⟨b_33, h⟩ := ck h
        refine mald (i := 6) (N := 29) C0 hK hP (by decide) (by decide) rfl b_33 dX12_carry_37 ?_
        rw [hQ]
        exact xzret C0 hP hS rfl h dX12_carry_38
def f_X12_carryAll_L77  : Nat → Int32 → MMem → (Int32 → MMem → Option (MMem)) → Option (MMem)
  | 0, _, _, _ => none
  | n + 1, x3_25, σ_26, K1 =>
    if 6 ≤ x3_25 then
      K1 x3_25 σ_26
    else
      if x3_25 < 0 ∨ 6 ≤ x3_25.toNatClampNeg then none else
      bnd ((σ_26 1).1 x3_25.toNatClampNeg) fun (y_29 : Int32) =>
      b2 (f_X12_carry y_29 σ_26) fun r_31 σ_32 =>
      if x3_25 < 0 ∨ 6 ≤ x3_25.toNatClampNeg then none else
      bnd (uI σ_32 1 x3_25.toNatClampNeg r_31) fun (σ_34 : MMem) =>
      if x3_25 < 0 ∨ 6 ≤ x3_25.toNatClampNeg then none else
      bnd ((σ_34 2).1 x3_25.toNatClampNeg) fun (y_36 : Int32) =>
      b2 (f_X12_carry y_36 σ_34) fun r_38 σ_39 =>
      if x3_25 < 0 ∨ 6 ≤ x3_25.toNatClampNeg then none else
      bnd (uI σ_39 2 x3_25.toNatClampNeg r_38) fun (σ_41 : MMem) =>
      if x3_25 < 0 ∨ 6 ≤ x3_25.toNatClampNeg then none else
      bnd ((σ_41 3).1 x3_25.toNatClampNeg) fun (y_43 : Int32) =>
      b2 (f_X12_carry y_43 σ_41) fun r_45 σ_46 =>
      if x3_25 < 0 ∨ 6 ≤ x3_25.toNatClampNeg then none else
      bnd (uI σ_46 3 x3_25.toNatClampNeg r_45) fun (σ_48 : MMem) =>
      if x3_25 < 0 ∨ 6 ≤ x3_25.toNatClampNeg then none else
      bnd ((σ_48 4).1 x3_25.toNatClampNeg) fun (y_50 : Int32) =>
      b2 (f_X12_carry y_50 σ_48) fun r_52 σ_53 =>
      if x3_25 < 0 ∨ 6 ≤ x3_25.toNatClampNeg then none else
      bnd (uI σ_53 4 x3_25.toNatClampNeg r_52) fun (σ_55 : MMem) =>
      bnd (x3_25 + 1) fun (x3_56 : Int32) =>
      f_X12_carryAll_L77 n x3_56 σ_55 K1
def f_X12_carryAll (t1 : Nat) (p2 : Int32) (σ : MMem) : Option (MMem) :=
  bnd (uI σ 0 15 (nI t1)) fun (σ_1 : MMem) =>
  if p2 = 0 ∨ p2 = 1 then
    bnd (uI σ_1 0 14 p2) fun (σ_3 : MMem) =>
    bnd (uI σ_3 0 13 0) fun (σ_4 : MMem) =>
    b2 (f_X12_carry ((σ_4 0).1 0) σ_4) fun r_6 σ_7 =>
    bnd (uI σ_7 0 0 r_6) fun (σ_8 : MMem) =>
    b2 (f_X12_carry ((σ_8 0).1 1) σ_8) fun r_10 σ_11 =>
    bnd (uI σ_11 0 1 r_10) fun (σ_12 : MMem) =>
    b2 (f_X12_carry ((σ_12 0).1 2) σ_12) fun r_14 σ_15 =>
    bnd (uI σ_15 0 2 r_14) fun (σ_16 : MMem) =>
    b2 (f_X12_carry ((σ_16 0).1 3) σ_16) fun r_18 σ_19 =>
    bnd (uI σ_19 0 3 r_18) fun (σ_20 : MMem) =>
    b2 (f_X12_carry ((σ_20 0).1 4) σ_20) fun r_22 σ_23 =>
    bnd (uI σ_23 0 4 r_22) fun (σ_24 : MMem) =>
    f_X12_carryAll_L77 5000 0 σ_24 fun (u_57 : Int32) (σ_58 : MMem) =>
      some σ_58
  else none
def rm_X12_carryAll : Room := { frames := 1, cells := 0, slots := 0, locals := 21 }
set_option maxHeartbeats 4000000 in
set_option maxRecDepth 100000 in
theorem c_X12_carryAll {l : Launch} {D : va_G} {ca : Nat → ClassId} {a : Nat → Nat} (hI : InjN 21 a) {t1 : Nat} {p2 : Int32} {σ : MMem} {σ' : MMem} (ht_t1 : t1 = 5 ∨ t1 = 6) (h : f_X12_carryAll t1 p2 σ = some σ') : XMM l D ca a Bt yX12_carryAll cX12_carryAll 4 none rm_X12_carryAll [.ref (a 0), .ref (a t1), .int p2] σ none σ' := by
  refine XM.of pn_X12 (Nat.le_of_ble_eq_true rfl) ?_
  intro p e s m args below meth c ls Q hQ C0 hK hB hP hS hl
  have C0 : Cx p s m args meth c RX12 cX12_carryAll 4 none := C0
  have hx := C0.1
  have hb := C0.2.1
  have hl : lv_has ls 4 [(0, .ref (a 0)), (1, .ref (a t1)), (2, .int p2)] := hl
  rw [f_X12_carryAll] at h
  refine lv_aload_n hx hb dX12_carryAll_0 rfl (lv_at hl 0 rfl) ?_
  refine lv_aload_n hx hb dX12_carryAll_1 rfl (lv_at hl 1 rfl) ?_
  obtain ⟨σ_1, eσ_1, h⟩ := bnd_e h
  refine pX12_15 C0 hK hP tw957 hI hS ht_t1 dX12_carryAll_2 (fun H locs hP hS => ?_)
  rw [← eσ_1] at hP
  refine lv_aload_n hx hb dX12_carryAll_5 rfl (lv_at hl 0 rfl) ?_
  refine lv_iload_n hx hb dX12_carryAll_6 rfl (lv_at hl 2 rfl) ?_
  obtain ⟨b_2, h⟩ := asr h
  obtain ⟨σ_3, eσ_3, h⟩ := bnd_e h
  refine pX12_14 C0 hK hP tw956 hI hS b_2 dX12_carryAll_7 (fun H locs hP hS => ?_)
  rw [← eσ_3] at hP
  refine lv_aload_n hx hb dX12_carryAll_10 rfl (lv_at hl 0 rfl) ?_
  refine lv_iconst (v := 0) hx hb dX12_carryAll_11 (by decide) ?_
  obtain ⟨σ_4, eσ_4, h⟩ := bnd_e h
  refine pX12_13 C0 hK hP tw955 hI hS dX12_carryAll_12 (fun H locs hP hS => ?_)
  rw [← eσ_4] at hP
  refine lv_aload_n hx hb dX12_carryAll_15 rfl (lv_at hl 0 rfl) ?_
  refine lv_aload_n hx hb dX12_carryAll_16 rfl (lv_at hl 0 rfl) ?_
  refine lv_aload_n hx hb dX12_carryAll_17 rfl (lv_at hl 0 rfl) ?_
  refine gX12_0 C0 hK hP tw942 dX12_carryAll_18 ?_
  obtain ⟨r_6, σ_7, h_5, h⟩ := b2_e h
  refine xcall (rV C0 hK hP hl.1 (fun _ _ _ => trivial) Bt_b (c_X12_carry hI h_5) cv_X12_carry tw1070 (rcX12 hK hP) (rest := [.ref (a 0)]) rfl (Nat.le_of_ble_eq_true rfl) ⟨rfl, rfl, Nat.le_of_ble_eq_true rfl, Nat.le_of_ble_eq_true rfl⟩ ⟨Nat.zero_le _, Nat.zero_le _⟩ dX12_carryAll_21) hS (fun H locs hP hS => ?_)
  obtain ⟨σ_8, eσ_8, h⟩ := bnd_e h
  refine pX12_0 C0 hK hP tw942 hI hS dX12_carryAll_24 (fun H locs hP hS => ?_)
  rw [← eσ_8] at hP
  refine lv_aload_n hx hb dX12_carryAll_27 rfl (lv_at hl 0 rfl) ?_
  refine lv_aload_n hx hb dX12_carryAll_28 rfl (lv_at hl 0 rfl) ?_
  refine lv_aload_n hx hb dX12_carryAll_29 rfl (lv_at hl 0 rfl) ?_
  refine gX12_1 C0 hK hP tw943 dX12_carryAll_30 ?_
  obtain ⟨r_10, σ_11, h_9, h⟩ := b2_e h
  refine xcall (rV C0 hK hP hl.1 (fun _ _ _ => trivial) Bt_b (c_X12_carry hI h_9) cv_X12_carry tw1070 (rcX12 hK hP) (rest := [.ref (a 0)]) rfl (Nat.le_of_ble_eq_true rfl) ⟨rfl, rfl, Nat.le_of_ble_eq_true rfl, Nat.le_of_ble_eq_true rfl⟩ ⟨Nat.zero_le _, Nat.zero_le _⟩ dX12_carryAll_33) hS (fun H locs hP hS => ?_)
  obtain ⟨σ_12, eσ_12, h⟩ := bnd_e h
  refine pX12_1 C0 hK hP tw943 hI hS dX12_carryAll_36 (fun H locs hP hS => ?_)
  rw [← eσ_12] at hP
  refine lv_aload_n hx hb dX12_carryAll_39 rfl (lv_at hl 0 rfl) ?_
  refine lv_aload_n hx hb dX12_carryAll_40 rfl (lv_at hl 0 rfl) ?_
  refine lv_aload_n hx hb dX12_carryAll_41 rfl (lv_at hl 0 rfl) ?_
  refine gX12_2 C0 hK hP tw944 dX12_carryAll_42 ?_
  obtain ⟨r_14, σ_15, h_13, h⟩ := b2_e h
  refine xcall (rV C0 hK hP hl.1 (fun _ _ _ => trivial) Bt_b (c_X12_carry hI h_13) cv_X12_carry tw1070 (rcX12 hK hP) (rest := [.ref (a 0)]) rfl (Nat.le_of_ble_eq_true rfl) ⟨rfl, rfl, Nat.le_of_ble_eq_true rfl, Nat.le_of_ble_eq_true rfl⟩ ⟨Nat.zero_le _, Nat.zero_le _⟩ dX12_carryAll_45) hS (fun H locs hP hS => ?_)
  obtain ⟨σ_16, eσ_16, h⟩ := bnd_e h
  refine pX12_2 C0 hK hP tw944 hI hS dX12_carryAll_48 (fun H locs hP hS => ?_)
  rw [← eσ_16] at hP
  refine lv_aload_n hx hb dX12_carryAll_51 rfl (lv_at hl 0 rfl) ?_
  refine lv_aload_n hx hb dX12_carryAll_52 rfl (lv_at hl 0 rfl) ?_
  refine lv_aload_n hx hb dX12_carryAll_53 rfl (lv_at hl 0 rfl) ?_
  refine gX12_3 C0 hK hP tw945 dX12_carryAll_54 ?_
  obtain ⟨r_18, σ_19, h_17, h⟩ := b2_e h
  refine xcall (rV C0 hK hP hl.1 (fun _ _ _ => trivial) Bt_b (c_X12_carry hI h_17) cv_X12_carry tw1070 (rcX12 hK hP) (rest := [.ref (a 0)]) rfl (Nat.le_of_ble_eq_true rfl) ⟨rfl, rfl, Nat.le_of_ble_eq_true rfl, Nat.le_of_ble_eq_true rfl⟩ ⟨Nat.zero_le _, Nat.zero_le _⟩ dX12_carryAll_57) hS (fun H locs hP hS => ?_)
  obtain ⟨σ_20, eσ_20, h⟩ := bnd_e h
  refine pX12_3 C0 hK hP tw945 hI hS dX12_carryAll_60 (fun H locs hP hS => ?_)
  rw [← eσ_20] at hP
  refine lv_aload_n hx hb dX12_carryAll_63 rfl (lv_at hl 0 rfl) ?_
  refine lv_aload_n hx hb dX12_carryAll_64 rfl (lv_at hl 0 rfl) ?_
  refine lv_aload_n hx hb dX12_carryAll_65 rfl (lv_at hl 0 rfl) ?_
  refine gX12_4 C0 hK hP tw946 dX12_carryAll_66 ?_
  obtain ⟨r_22, σ_23, h_21, h⟩ := b2_e h
  refine xcall (rV C0 hK hP hl.1 (fun _ _ _ => trivial) Bt_b (c_X12_carry hI h_21) cv_X12_carry tw1070 (rcX12 hK hP) (rest := [.ref (a 0)]) rfl (Nat.le_of_ble_eq_true rfl) ⟨rfl, rfl, Nat.le_of_ble_eq_true rfl, Nat.le_of_ble_eq_true rfl⟩ ⟨Nat.zero_le _, Nat.zero_le _⟩ dX12_carryAll_69) hS (fun H locs hP hS => ?_)
  obtain ⟨σ_24, eσ_24, h⟩ := bnd_e h
  refine pX12_4 C0 hK hP tw946 hI hS dX12_carryAll_72 (fun H locs hP hS => ?_)
  rw [← eσ_24] at hP
  refine lv_iconst (v := 0) hx hb dX12_carryAll_75 (by decide) ?_
  refine lv_istore_n (lv' := [(3, .int 0), (0, .ref (a 0)), (1, .ref (a t1)), (2, .int p2)]) hx hb dX12_carryAll_76 rfl hl (by decide) rfl (fun ls hl => ?_)
  obtain ⟨K1, eK1, h⟩ := lp_e (f := fun K => f_X12_carryAll_L77 5000 0 σ_24 K) h
  have h : f_X12_carryAll_L77 5000 0 σ_24 K1 = some σ' := h
  have hX1 : ∀ (u_57 : Int32) (σ_58 : MMem) (H : Heap) (locs : List Loc) (ls : Array Slot), K1 u_57 σ_58 = some σ' → va_P D vwCl (wM ca a σ_58) H → va_S (AW 21 a) s.heap H locs → lv_has ls 4 [] → W p l e rm_X12_carryAll s m args below meth c H locs 0 0 Q (F0 m 153 ls []) := by
    intro u_57 σ_58 H locs ls h hP hS hl
    have h := ap2 eK1 h
    rw [hQ]
    exact xvret C0 hP hS h dX12_carryAll_153
  have hL1 : ∀ (n : Nat) (x3_25 : Int32) (σ_26 : MMem) (H : Heap) (locs : List Loc) (ls : Array Slot), f_X12_carryAll_L77 n x3_25 σ_26 K1 = some σ' → va_P D vwCl (wM ca a σ_26) H → va_S (AW 21 a) s.heap H locs → lv_has ls 4 [(0, .ref (a 0)), (3, .int x3_25)] → W p l e rm_X12_carryAll s m args below meth c H locs 0 0 Q (F0 m 77 ls []) := by
    intro n
    induction n with
    | zero => intro x3_25 σ_26 H locs ls h; rw [f_X12_carryAll_L77] at h; cases h
    | succ n ih1 =>
      intro x3_25 σ_26 H locs ls h hP hS hl
      rw [f_X12_carryAll_L77] at h
      refine lv_iload_n hx hb dX12_carryAll_77 rfl (lv_at hl 1 rfl) ?_
      refine lv_bipush (v := 6) hx hb dX12_carryAll_78 (by decide) ?_
      refine lv_icmp_ge (tgt := 153) hx hb dX12_carryAll_80 (by decide) (fun c_27 => ?_) (fun c_27 => ?_)
      · have h := it c_27 h
        exact hX1 x3_25 σ_26 _ _ ls h hP hS (lv_sub hl [] rfl)
      · have h := ie c_27 h
        refine lv_aload_n hx hb dX12_carryAll_83 rfl (lv_at hl 0 rfl) ?_
        refine gX12_5 C0 hK hP tw947 dX12_carryAll_84 ?_
        refine lv_iload_n hx hb dX12_carryAll_87 rfl (lv_at hl 1 rfl) ?_
        refine lv_aload_n hx hb dX12_carryAll_88 rfl (lv_at hl 0 rfl) ?_
        refine lv_aload_n hx hb dX12_carryAll_89 rfl (lv_at hl 0 rfl) ?_
        refine gX12_5 C0 hK hP tw947 dX12_carryAll_90 ?_
        refine lv_iload_n hx hb dX12_carryAll_93 rfl (lv_at hl 1 rfl) ?_
        obtain ⟨b_28, h⟩ := ck h
        refine mald (i := 1) (N := 6) C0 hK hP (by decide) (by decide) rfl b_28 dX12_carryAll_94 ?_
        obtain ⟨y_29, ey_29, h⟩ := bnd_e h
        rw [← ey_29]
        obtain ⟨r_31, σ_32, h_30, h⟩ := b2_e h
        refine xcall (rV C0 hK hP hl.1 (fun _ _ _ => trivial) Bt_b (c_X12_carry hI h_30) cv_X12_carry tw1070 (rcX12 hK hP) (rest := [.int x3_25, .ref (a 1)]) rfl (Nat.le_of_ble_eq_true rfl) ⟨rfl, rfl, Nat.le_of_ble_eq_true rfl, Nat.le_of_ble_eq_true rfl⟩ ⟨Nat.zero_le _, Nat.zero_le _⟩ dX12_carryAll_95) hS (fun H locs hP hS => ?_)
        obtain ⟨b_33, h⟩ := ck h
        obtain ⟨σ_34, eσ_34, h⟩ := bnd_e h
        refine mast (i := 1) (N := 6) C0 hK hP hI hS (by decide) (by decide) rfl b_33 dX12_carryAll_98 (fun H locs hP hS => ?_)
        rw [← eσ_34] at hP
        refine lv_aload_n hx hb dX12_carryAll_99 rfl (lv_at hl 0 rfl) ?_
        refine gX12_6 C0 hK hP tw948 dX12_carryAll_100 ?_
        refine lv_iload_n hx hb dX12_carryAll_103 rfl (lv_at hl 1 rfl) ?_
        refine lv_aload_n hx hb dX12_carryAll_104 rfl (lv_at hl 0 rfl) ?_
        refine lv_aload_n hx hb dX12_carryAll_105 rfl (lv_at hl 0 rfl) ?_
        refine gX12_6 C0 hK hP tw948 dX12_carryAll_106 ?_
        refine lv_iload_n hx hb dX12_carryAll_109 rfl (lv_at hl 1 rfl) ?_
        obtain ⟨b_35, h⟩ := ck h
        refine mald (i := 2) (N := 6) C0 hK hP (by decide) (by decide) rfl b_35 dX12_carryAll_110 ?_
        obtain ⟨y_36, ey_36, h⟩ := bnd_e h
        rw [← ey_36]
        obtain ⟨r_38, σ_39, h_37, h⟩ := b2_e h
        refine xcall (rV C0 hK hP hl.1 (fun _ _ _ => trivial) Bt_b (c_X12_carry hI h_37) cv_X12_carry tw1070 (rcX12 hK hP) (rest := [.int x3_25, .ref (a 2)]) rfl (Nat.le_of_ble_eq_true rfl) ⟨rfl, rfl, Nat.le_of_ble_eq_true rfl, Nat.le_of_ble_eq_true rfl⟩ ⟨Nat.zero_le _, Nat.zero_le _⟩ dX12_carryAll_111) hS (fun H locs hP hS => ?_)
        obtain ⟨b_40, h⟩ := ck h
        obtain ⟨σ_41, eσ_41, h⟩ := bnd_e h
        refine mast (i := 2) (N := 6) C0 hK hP hI hS (by decide) (by decide) rfl b_40 dX12_carryAll_114 (fun H locs hP hS => ?_)
        rw [← eσ_41] at hP
        refine lv_aload_n hx hb dX12_carryAll_115 rfl (lv_at hl 0 rfl) ?_
        refine gX12_7 C0 hK hP tw949 dX12_carryAll_116 ?_
        refine lv_iload_n hx hb dX12_carryAll_119 rfl (lv_at hl 1 rfl) ?_
        refine lv_aload_n hx hb dX12_carryAll_120 rfl (lv_at hl 0 rfl) ?_
        refine lv_aload_n hx hb dX12_carryAll_121 rfl (lv_at hl 0 rfl) ?_
        refine gX12_7 C0 hK hP tw949 dX12_carryAll_122 ?_
        refine lv_iload_n hx hb dX12_carryAll_125 rfl (lv_at hl 1 rfl) ?_
        obtain ⟨b_42, h⟩ := ck h
        refine mald (i := 3) (N := 6) C0 hK hP (by decide) (by decide) rfl b_42 dX12_carryAll_126 ?_
        obtain ⟨y_43, ey_43, h⟩ := bnd_e h
        rw [← ey_43]
        obtain ⟨r_45, σ_46, h_44, h⟩ := b2_e h
        refine xcall (rV C0 hK hP hl.1 (fun _ _ _ => trivial) Bt_b (c_X12_carry hI h_44) cv_X12_carry tw1070 (rcX12 hK hP) (rest := [.int x3_25, .ref (a 3)]) rfl (Nat.le_of_ble_eq_true rfl) ⟨rfl, rfl, Nat.le_of_ble_eq_true rfl, Nat.le_of_ble_eq_true rfl⟩ ⟨Nat.zero_le _, Nat.zero_le _⟩ dX12_carryAll_127) hS (fun H locs hP hS => ?_)
        obtain ⟨b_47, h⟩ := ck h
        obtain ⟨σ_48, eσ_48, h⟩ := bnd_e h
        refine mast (i := 3) (N := 6) C0 hK hP hI hS (by decide) (by decide) rfl b_47 dX12_carryAll_130 (fun H locs hP hS => ?_)
        rw [← eσ_48] at hP
        refine lv_aload_n hx hb dX12_carryAll_131 rfl (lv_at hl 0 rfl) ?_
        refine gX12_8 C0 hK hP tw950 dX12_carryAll_132 ?_
        refine lv_iload_n hx hb dX12_carryAll_135 rfl (lv_at hl 1 rfl) ?_
        refine lv_aload_n hx hb dX12_carryAll_136 rfl (lv_at hl 0 rfl) ?_
        refine lv_aload_n hx hb dX12_carryAll_137 rfl (lv_at hl 0 rfl) ?_
        refine gX12_8 C0 hK hP tw950 dX12_carryAll_138 ?_
        refine lv_iload_n hx hb dX12_carryAll_141 rfl (lv_at hl 1 rfl) ?_
        obtain ⟨b_49, h⟩ := ck h
        refine mald (i := 4) (N := 6) C0 hK hP (by decide) (by decide) rfl b_49 dX12_carryAll_142 ?_
        obtain ⟨y_50, ey_50, h⟩ := bnd_e h
        rw [← ey_50]
        obtain ⟨r_52, σ_53, h_51, h⟩ := b2_e h
        refine xcall (rV C0 hK hP hl.1 (fun _ _ _ => trivial) Bt_b (c_X12_carry hI h_51) cv_X12_carry tw1070 (rcX12 hK hP) (rest := [.int x3_25, .ref (a 4)]) rfl (Nat.le_of_ble_eq_true rfl) ⟨rfl, rfl, Nat.le_of_ble_eq_true rfl, Nat.le_of_ble_eq_true rfl⟩ ⟨Nat.zero_le _, Nat.zero_le _⟩ dX12_carryAll_143) hS (fun H locs hP hS => ?_)
        obtain ⟨b_54, h⟩ := ck h
        obtain ⟨σ_55, eσ_55, h⟩ := bnd_e h
        refine mast (i := 4) (N := 6) C0 hK hP hI hS (by decide) (by decide) rfl b_54 dX12_carryAll_146 (fun H locs hP hS => ?_)
        rw [← eσ_55] at hP
        obtain ⟨x3_56, ex3_56, h⟩ := bnd_e h
        refine lv_iinc (v := x3_56) (lv' := [(3, .int x3_56), (0, .ref (a 0))]) hx hb dX12_carryAll_147 hl (k := 1) rfl (by rw [ex3_56]; rfl) (by decide) rfl (fun ls hl => ?_)
        refine lv_goto (tgt := 77) hx hb dX12_carryAll_150 (by decide) ?_
        exact ih1 x3_56 σ_55 _ _ ls h hP hS (lv_sub hl [1, 0] rfl)
  exact hL1 5000 0 σ_24 _ _ ls h hP hS (lv_sub hl [1, 0] rfl)
def f_X12_open (σ : MMem) : Option (MMem) :=
  b1 (f_X12_carryAll 6 1 σ) fun σ_2 =>
  some σ_2
def rm_X12_open : Room := { frames := 2, cells := 0, slots := 0, locals := 44 }
set_option maxHeartbeats 4000000 in
set_option maxRecDepth 100000 in
theorem c_X12_open {l : Launch} {D : va_G} {ca : Nat → ClassId} {a : Nat → Nat} (hI : InjN 21 a)  {σ : MMem} {σ' : MMem}  (h : f_X12_open σ = some σ') : XMM l D ca a Bt yX12_open cX12_open 1 none rm_X12_open [.ref (a 0)] σ none σ' := by
  refine XM.of pn_X12 (Nat.le_of_ble_eq_true rfl) ?_
  intro p e s m args below meth c ls Q hQ C0 hK hB hP hS hl
  have C0 : Cx p s m args meth c RX12 cX12_open 1 none := C0
  have hx := C0.1
  have hb := C0.2.1
  have hl : lv_has ls 1 [(0, .ref (a 0))] := hl
  rw [f_X12_open] at h
  refine lv_aload_n hx hb dX12_open_0 rfl (lv_at hl 0 rfl) ?_
  refine lv_aload_n hx hb dX12_open_1 rfl (lv_at hl 0 rfl) ?_
  refine gX12_11 C0 hK hP tw953 dX12_open_2 ?_
  refine lv_iconst (v := 1) hx hb dX12_open_5 (by decide) ?_
  obtain ⟨σ_2, h_1, h⟩ := b1_e h
  refine xcall (rV C0 hK hP hl.1 (fun _ _ _ => trivial) Bt_b (c_X12_carryAll hI (by decide) h_1) cv_X12_carryAll tw1066 (rcX12 hK hP) (rest := []) rfl (Nat.le_of_ble_eq_true rfl) ⟨rfl, rfl, Nat.le_of_ble_eq_true rfl, Nat.le_of_ble_eq_true rfl⟩ ⟨Nat.zero_le _, Nat.zero_le _⟩ dX12_open_6) hS (fun H locs hP hS => ?_)
  rw [hQ]
  exact xvret C0 hP hS h dX12_open_9
def f_X12_close (σ : MMem) : Option (MMem) :=
  b1 (f_X12_carryAll 6 0 σ) fun σ_2 =>
  some σ_2
def rm_X12_close : Room := { frames := 2, cells := 0, slots := 0, locals := 44 }
set_option maxHeartbeats 4000000 in
set_option maxRecDepth 100000 in
theorem c_X12_close {l : Launch} {D : va_G} {ca : Nat → ClassId} {a : Nat → Nat} (hI : InjN 21 a)  {σ : MMem} {σ' : MMem}  (h : f_X12_close σ = some σ') : XMM l D ca a Bt yX12_close cX12_close 1 none rm_X12_close [.ref (a 0)] σ none σ' := by
  refine XM.of pn_X12 (Nat.le_of_ble_eq_true rfl) ?_
  intro p e s m args below meth c ls Q hQ C0 hK hB hP hS hl
  have C0 : Cx p s m args meth c RX12 cX12_close 1 none := C0
  have hx := C0.1
  have hb := C0.2.1
  have hl : lv_has ls 1 [(0, .ref (a 0))] := hl
  rw [f_X12_close] at h
  refine lv_aload_n hx hb dX12_close_0 rfl (lv_at hl 0 rfl) ?_
  refine lv_aload_n hx hb dX12_close_1 rfl (lv_at hl 0 rfl) ?_
  refine gX12_11 C0 hK hP tw953 dX12_close_2 ?_
  refine lv_iconst (v := 0) hx hb dX12_close_5 (by decide) ?_
  obtain ⟨σ_2, h_1, h⟩ := b1_e h
  refine xcall (rV C0 hK hP hl.1 (fun _ _ _ => trivial) Bt_b (c_X12_carryAll hI (by decide) h_1) cv_X12_carryAll tw1066 (rcX12 hK hP) (rest := []) rfl (Nat.le_of_ble_eq_true rfl) ⟨rfl, rfl, Nat.le_of_ble_eq_true rfl, Nat.le_of_ble_eq_true rfl⟩ ⟨Nat.zero_le _, Nat.zero_le _⟩ dX12_close_6) hS (fun H locs hP hS => ?_)
  rw [hQ]
  exact xvret C0 hP hS h dX12_close_9
def f_X12_image (σ : MMem) : Option (Int32 × MMem) :=
  bnd (uI σ 0 9 0) fun (σ_1 : MMem) =>
  bnd (uI σ_1 0 12 1) fun (σ_2 : MMem) =>
  b1 (f_X12_carryAll 5 1 σ_2) fun σ_4 =>
  some ((σ_4 0).1 0, σ_4)
def rm_X12_image : Room := { frames := 2, cells := 0, slots := 0, locals := 44 }
set_option maxHeartbeats 4000000 in
set_option maxRecDepth 100000 in
theorem c_X12_image {l : Launch} {D : va_G} {ca : Nat → ClassId} {a : Nat → Nat} (hI : InjN 21 a)  {σ : MMem} {r : Int32} {σ' : MMem}  (h : f_X12_image σ = some (r, σ')) : XMM l D ca a Bt yX12_image cX12_image 1 (some .int) rm_X12_image [.ref (a 0)] σ (some (.int r)) σ' := by
  refine XM.of pn_X12 (Nat.le_of_ble_eq_true rfl) ?_
  intro p e s m args below meth c ls Q hQ C0 hK hB hP hS hl
  have C0 : Cx p s m args meth c RX12 cX12_image 1 (some .int) := C0
  have hx := C0.1
  have hb := C0.2.1
  have hl : lv_has ls 1 [(0, .ref (a 0))] := hl
  rw [f_X12_image] at h
  refine lv_aload_n hx hb dX12_image_0 rfl (lv_at hl 0 rfl) ?_
  refine lv_iconst (v := 0) hx hb dX12_image_1 (by decide) ?_
  obtain ⟨σ_1, eσ_1, h⟩ := bnd_e h
  refine pX12_9 C0 hK hP tw951 hI hS dX12_image_2 (fun H locs hP hS => ?_)
  rw [← eσ_1] at hP
  refine lv_aload_n hx hb dX12_image_5 rfl (lv_at hl 0 rfl) ?_
  refine lv_iconst (v := 1) hx hb dX12_image_6 (by decide) ?_
  obtain ⟨σ_2, eσ_2, h⟩ := bnd_e h
  refine pX12_12 C0 hK hP tw954 hI hS (by decide) dX12_image_7 (fun H locs hP hS => ?_)
  rw [← eσ_2] at hP
  refine lv_aload_n hx hb dX12_image_10 rfl (lv_at hl 0 rfl) ?_
  refine lv_aload_n hx hb dX12_image_11 rfl (lv_at hl 0 rfl) ?_
  refine gX12_10 C0 hK hP tw952 dX12_image_12 ?_
  refine lv_iconst (v := 1) hx hb dX12_image_15 (by decide) ?_
  obtain ⟨σ_4, h_3, h⟩ := b1_e h
  refine xcall (rV C0 hK hP hl.1 (fun _ _ _ => trivial) Bt_b (c_X12_carryAll hI (by decide) h_3) cv_X12_carryAll tw1066 (rcX12 hK hP) (rest := []) rfl (Nat.le_of_ble_eq_true rfl) ⟨rfl, rfl, Nat.le_of_ble_eq_true rfl, Nat.le_of_ble_eq_true rfl⟩ ⟨Nat.zero_le _, Nat.zero_le _⟩ dX12_image_16) hS (fun H locs hP hS => ?_)
  refine lv_aload_n hx hb dX12_image_19 rfl (lv_at hl 0 rfl) ?_
  refine gX12_0 C0 hK hP tw942 dX12_image_20 ?_
  rw [hQ]
  exact xzret C0 hP hS rfl h dX12_image_23
def f_X12_restore (σ : MMem) : Option (Int32 × MMem) :=
  bnd (uI σ 0 9 0) fun (σ_1 : MMem) =>
  if ((σ_1 0).1 12) = 0 then
    some ((-3), σ_1)
  else
    b1 (f_X12_carryAll 5 0 σ_1) fun σ_4 =>
    some ((σ_4 0).1 0, σ_4)
def rm_X12_restore : Room := { frames := 2, cells := 0, slots := 0, locals := 44 }
set_option maxHeartbeats 4000000 in
set_option maxRecDepth 100000 in
theorem c_X12_restore {l : Launch} {D : va_G} {ca : Nat → ClassId} {a : Nat → Nat} (hI : InjN 21 a)  {σ : MMem} {r : Int32} {σ' : MMem}  (h : f_X12_restore σ = some (r, σ')) : XMM l D ca a Bt yX12_restore cX12_restore 1 (some .int) rm_X12_restore [.ref (a 0)] σ (some (.int r)) σ' := by
  refine XM.of pn_X12 (Nat.le_of_ble_eq_true rfl) ?_
  intro p e s m args below meth c ls Q hQ C0 hK hB hP hS hl
  have C0 : Cx p s m args meth c RX12 cX12_restore 1 (some .int) := C0
  have hx := C0.1
  have hb := C0.2.1
  have hl : lv_has ls 1 [(0, .ref (a 0))] := hl
  rw [f_X12_restore] at h
  refine lv_aload_n hx hb dX12_restore_0 rfl (lv_at hl 0 rfl) ?_
  refine lv_iconst (v := 0) hx hb dX12_restore_1 (by decide) ?_
  obtain ⟨σ_1, eσ_1, h⟩ := bnd_e h
  refine pX12_9 C0 hK hP tw951 hI hS dX12_restore_2 (fun H locs hP hS => ?_)
  rw [← eσ_1] at hP
  refine lv_aload_n hx hb dX12_restore_5 rfl (lv_at hl 0 rfl) ?_
  refine gX12_12 C0 hK hP tw954 dX12_restore_6 ?_
  refine lv_if_ne (tgt := 15) hx hb dX12_restore_9 (by decide) (fun c_2 => ?_) (fun c_2 => ?_)
  · have h := ie c_2 h
    refine lv_aload_n hx hb dX12_restore_15 rfl (lv_at hl 0 rfl) ?_
    refine lv_aload_n hx hb dX12_restore_16 rfl (lv_at hl 0 rfl) ?_
    refine gX12_10 C0 hK hP tw952 dX12_restore_17 ?_
    refine lv_iconst (v := 0) hx hb dX12_restore_20 (by decide) ?_
    obtain ⟨σ_4, h_3, h⟩ := b1_e h
    refine xcall (rV C0 hK hP hl.1 (fun _ _ _ => trivial) Bt_b (c_X12_carryAll hI (by decide) h_3) cv_X12_carryAll tw1066 (rcX12 hK hP) (rest := []) rfl (Nat.le_of_ble_eq_true rfl) ⟨rfl, rfl, Nat.le_of_ble_eq_true rfl, Nat.le_of_ble_eq_true rfl⟩ ⟨Nat.zero_le _, Nat.zero_le _⟩ dX12_restore_21) hS (fun H locs hP hS => ?_)
    refine lv_aload_n hx hb dX12_restore_24 rfl (lv_at hl 0 rfl) ?_
    refine gX12_0 C0 hK hP tw942 dX12_restore_25 ?_
    rw [hQ]
    exact xzret C0 hP hS rfl h dX12_restore_28
  · have h := it c_2 h
    refine lv_bipush (v := (-3)) hx hb dX12_restore_12 (by decide) ?_
    rw [hQ]
    exact xzret C0 hP hS rfl h dX12_restore_14
def f_X12_here (σ : MMem) : Option (Int32) :=
  if ((σ 0).1 18) < ((σ 0).1 17) then
    bnd (((σ 0).1 16) + ((σ 0).1 18)) fun (i_2 : Int32) =>
    if i_2 < 0 ∨ 800 ≤ i_2.toNatClampNeg then none else
    some ((((σ 19).2 i_2.toNatClampNeg).toInt32) &&& 255)
  else
    some (-1)
def rm_X12_here : Room := { frames := 0, cells := 0, slots := 0, locals := 0 }
set_option maxHeartbeats 4000000 in
set_option maxRecDepth 100000 in
theorem c_X12_here {l : Launch} {D : va_G} {ca : Nat → ClassId} {a : Nat → Nat} (hI : InjN 21 a)  {σ : MMem} {r : Int32}  (h : f_X12_here σ = some r) : XMM l D ca a Bt yX12_here cX12_here 1 (some .int) rm_X12_here [.ref (a 0)] σ (some (.int r)) σ := by
  refine XM.of pn_X12 (Nat.le_of_ble_eq_true rfl) ?_
  intro p e s m args below meth c ls Q hQ C0 hK hB hP hS hl
  have C0 : Cx p s m args meth c RX12 cX12_here 1 (some .int) := C0
  have hx := C0.1
  have hb := C0.2.1
  have hl : lv_has ls 1 [(0, .ref (a 0))] := hl
  rw [f_X12_here] at h
  refine lv_aload_n hx hb dX12_here_0 rfl (lv_at hl 0 rfl) ?_
  refine gX12_18 C0 hK hP tw960 dX12_here_1 ?_
  refine lv_aload_n hx hb dX12_here_4 rfl (lv_at hl 0 rfl) ?_
  refine gX12_17 C0 hK hP tw959 dX12_here_5 ?_
  refine lv_icmp_lt (tgt := 15) hx hb dX12_here_8 (by decide) (fun c_1 => ?_) (fun c_1 => ?_)
  · have h := it c_1 h
    refine lv_aload_n hx hb dX12_here_15 rfl (lv_at hl 0 rfl) ?_
    refine gX12_36 C0 hK hP tw978 dX12_here_16 ?_
    refine lv_aload_n hx hb dX12_here_19 rfl (lv_at hl 0 rfl) ?_
    refine gX12_16 C0 hK hP tw958 dX12_here_20 ?_
    refine lv_aload_n hx hb dX12_here_23 rfl (lv_at hl 0 rfl) ?_
    refine gX12_18 C0 hK hP tw960 dX12_here_24 ?_
    refine lv_iadd hx hb dX12_here_27 ?_
    obtain ⟨i_2, ei_2, h⟩ := bnd_e h
    refine nm_i ei_2 ?_
    obtain ⟨b_3, h⟩ := ck h
    refine mlald (i := 19) (N := 800) C0 hK hP (by decide) (by decide) rfl b_3 dX12_here_28 ?_
    refine lv_l2i (v := ((σ 19).2 i_2.toNatClampNeg).toInt32) hx hb dX12_here_29 rfl ?_
    refine lv_sipush (v := 255) hx hb dX12_here_30 (by decide) ?_
    refine lv_iand hx hb dX12_here_33 ?_
    rw [hQ]
    exact xzretr C0 hP hS rfl h dX12_here_34
  · have h := ie c_1 h
    refine lv_iconst (v := (-1)) hx hb dX12_here_11 (by decide) ?_
    refine lv_goto (tgt := 34) hx hb dX12_here_12 (by decide) ?_
    rw [hQ]
    exact xzretr C0 hP hS rfl h dX12_here_34
def f_X12_take (p1 : Int32) (σ : MMem) : Option (MMem) :=
  jn (fun (v_1 : Int32) (σ_2 : MMem) =>
    if v_1 = 0 ∨ v_1 = 1 then
      bnd (uI σ_2 0 19 v_1) fun (σ_4 : MMem) =>
      if ((σ_4 0).1 19) = 0 then
        bnd (((σ_4 0).1 18) + 1) fun (y_6 : Int32) =>
        bnd (uI σ_4 0 18 y_6) fun (σ_7 : MMem) =>
        some σ_7
      else
        bnd (((σ_4 0).1 18) + 0) fun (y_8 : Int32) =>
        bnd (uI σ_4 0 18 y_8) fun (σ_9 : MMem) =>
        some σ_9
    else none) fun J21 =>
  jn (fun (σ_10 : MMem) =>
    J21 1 σ_10) fun J16 =>
  if ((σ 0).1 19) = 0 then
    b1 (f_X12_here σ) fun r_13 =>
    if r_13 = p1 then
      J21 0 σ
    else
      J16 σ
  else
    J16 σ
def rm_X12_take : Room := { frames := 1, cells := 0, slots := 0, locals := 20 }
set_option maxHeartbeats 4000000 in
set_option maxRecDepth 100000 in
theorem c_X12_take {l : Launch} {D : va_G} {ca : Nat → ClassId} {a : Nat → Nat} (hI : InjN 21 a) {p1 : Int32} {σ : MMem} {σ' : MMem}  (h : f_X12_take p1 σ = some σ') : XMM l D ca a Bt yX12_take cX12_take 2 none rm_X12_take [.ref (a 0), .int p1] σ none σ' := by
  refine XM.of pn_X12 (Nat.le_of_ble_eq_true rfl) ?_
  intro p e s m args below meth c ls Q hQ C0 hK hB hP hS hl
  have C0 : Cx p s m args meth c RX12 cX12_take 2 none := C0
  have hx := C0.1
  have hb := C0.2.1
  have hl : lv_has ls 2 [(0, .ref (a 0)), (1, .int p1)] := hl
  rw [f_X12_take] at h
  refine lv_aload_n hx hb dX12_take_0 rfl (lv_at hl 0 rfl) ?_
  refine lv_aload_n hx hb dX12_take_1 rfl (lv_at hl 0 rfl) ?_
  refine gX12_19 C0 hK hP tw961 dX12_take_2 ?_
  obtain ⟨J21, eJ21, h⟩ := jn_e h
  have hJ21 : ∀ (v_1 : Int32) (σ_2 : MMem) (H : Heap) (locs : List Loc) (ls : Array Slot), J21 v_1 σ_2 = some σ' → va_P D vwCl (wM ca a σ_2) H → va_S (AW 21 a) s.heap H locs → lv_has ls 2 [(0, .ref (a 0))] → W p l e rm_X12_take s m args below meth c H locs 0 0 Q (F0 m 21 ls [.int v_1, .ref (a 0)]) := by
    intro v_1 σ_2 H locs ls h hP hS hl
    have h := ap2 eJ21 h
    obtain ⟨b_3, h⟩ := asr h
    obtain ⟨σ_4, eσ_4, h⟩ := bnd_e h
    refine pX12_19 C0 hK hP tw961 hI hS b_3 dX12_take_21 (fun H locs hP hS => ?_)
    rw [← eσ_4] at hP
    refine lv_aload_n hx hb dX12_take_24 rfl (lv_at hl 0 rfl) ?_
    refine lv_dup hx hb dX12_take_25 rfl ?_
    refine gX12_18 C0 hK hP tw960 dX12_take_26 ?_
    refine lv_aload_n hx hb dX12_take_29 rfl (lv_at hl 0 rfl) ?_
    refine gX12_19 C0 hK hP tw961 dX12_take_30 ?_
    refine lv_if_eq (tgt := 40) hx hb dX12_take_33 (by decide) (fun c_5 => ?_) (fun c_5 => ?_)
    · have h := it c_5 h
      refine lv_iconst (v := 1) hx hb dX12_take_40 (by decide) ?_
      refine lv_iadd hx hb dX12_take_41 ?_
      obtain ⟨y_6, ey_6, h⟩ := bnd_e h
      refine nm_i ey_6 ?_
      obtain ⟨σ_7, eσ_7, h⟩ := bnd_e h
      refine pX12_18 C0 hK hP tw960 hI hS dX12_take_42 (fun H locs hP hS => ?_)
      rw [← eσ_7] at hP
      rw [hQ]
      exact xvret C0 hP hS h dX12_take_45
    · have h := ie c_5 h
      refine lv_iconst (v := 0) hx hb dX12_take_36 (by decide) ?_
      refine lv_goto (tgt := 41) hx hb dX12_take_37 (by decide) ?_
      refine lv_iadd hx hb dX12_take_41 ?_
      obtain ⟨y_8, ey_8, h⟩ := bnd_e h
      refine nm_i ey_8 ?_
      obtain ⟨σ_9, eσ_9, h⟩ := bnd_e h
      refine pX12_18 C0 hK hP tw960 hI hS dX12_take_42 (fun H locs hP hS => ?_)
      rw [← eσ_9] at hP
      rw [hQ]
      exact xvret C0 hP hS h dX12_take_45
  obtain ⟨J16, eJ16, h⟩ := jn_e h
  have hJ16 : ∀ (σ_10 : MMem) (H : Heap) (locs : List Loc) (ls : Array Slot), J16 σ_10 = some σ' → va_P D vwCl (wM ca a σ_10) H → va_S (AW 21 a) s.heap H locs → lv_has ls 2 [(0, .ref (a 0))] → W p l e rm_X12_take s m args below meth c H locs 0 0 Q (F0 m 16 ls [.ref (a 0)]) := by
    intro σ_10 H locs ls h hP hS hl
    have h := ap1 eJ16 h
    refine lv_iconst (v := 1) hx hb dX12_take_16 (by decide) ?_
    refine lv_goto (tgt := 21) hx hb dX12_take_17 (by decide) ?_
    exact hJ21 1 σ_10 _ _ ls h hP hS (lv_sub hl [0] rfl)
  refine lv_if_ne (tgt := 16) hx hb dX12_take_5 (by decide) (fun c_11 => ?_) (fun c_11 => ?_)
  · have h := ie c_11 h
    exact hJ16 σ _ _ ls h hP hS (lv_sub hl [0] rfl)
  · have h := it c_11 h
    refine lv_aload_n hx hb dX12_take_8 rfl (lv_at hl 0 rfl) ?_
    obtain ⟨r_13, h_12, h⟩ := b1_e h
    refine xcall (rV C0 hK hP hl.1 (fun _ _ _ => trivial) Bt_b (c_X12_here hI h_12) cv_X12_here tw1098 (rcX12 hK hP) (rest := [.ref (a 0)]) rfl (Nat.le_of_ble_eq_true rfl) ⟨rfl, rfl, Nat.le_of_ble_eq_true rfl, Nat.le_of_ble_eq_true rfl⟩ ⟨Nat.zero_le _, Nat.zero_le _⟩ dX12_take_9) hS (fun H locs hP hS => ?_)
    refine lv_iload_n hx hb dX12_take_12 rfl (lv_at hl 1 rfl) ?_
    refine lv_icmp_eq (tgt := 20) hx hb dX12_take_13 (by decide) (fun c_14 => ?_) (fun c_14 => ?_)
    · have h := it c_14 h
      refine lv_iconst (v := 0) hx hb dX12_take_20 (by decide) ?_
      exact hJ21 0 σ _ _ ls h hP hS (lv_sub hl [0] rfl)
    · have h := ie c_14 h
      exact hJ16 σ _ _ ls h hP hS (lv_sub hl [0] rfl)
def f_X12_readDigit (σ : MMem) : Option (Int32 × MMem) :=
  jn (fun (v_1 : Int32) (σ_2 : MMem) =>
    if v_1 = 0 ∨ v_1 = 1 then
      bnd (uI σ_2 0 19 v_1) fun (σ_4 : MMem) =>
      if ((σ_4 0).1 19) = 0 then
        bnd (((σ_4 0).1 18) + 1) fun (y_6 : Int32) =>
        bnd (uI σ_4 0 18 y_6) fun (σ_7 : MMem) =>
        bnd ((((σ_7 0).1 16) + ((σ_7 0).1 18)) - 1) fun (i_8 : Int32) =>
        if i_8 < 0 ∨ 800 ≤ i_8.toNatClampNeg then none else
        some ((((σ_7 19).2 i_8.toNatClampNeg).toInt32) - 48, σ_7)
      else
        some (0, σ_4)
    else none) fun J30 =>
  jn (fun (σ_10 : MMem) =>
    J30 1 σ_10) fun J25 =>
  if ((σ 0).1 19) = 0 then
    b1 (f_X12_here σ) fun r_13 =>
    b1 (f_X12_in r_13.toInt64 48 57) fun r_15 =>
    if r_15 = 0 then
      J25 σ
    else
      J30 0 σ
  else
    J25 σ
def rm_X12_readDigit : Room := { frames := 1, cells := 0, slots := 0, locals := 25 }
set_option maxHeartbeats 4000000 in
set_option maxRecDepth 100000 in
theorem c_X12_readDigit {l : Launch} {D : va_G} {ca : Nat → ClassId} {a : Nat → Nat} (hI : InjN 21 a)  {σ : MMem} {r : Int32} {σ' : MMem}  (h : f_X12_readDigit σ = some (r, σ')) : XMM l D ca a Bt yX12_readDigit cX12_readDigit 1 (some .int) rm_X12_readDigit [.ref (a 0)] σ (some (.int r)) σ' := by
  refine XM.of pn_X12 (Nat.le_of_ble_eq_true rfl) ?_
  intro p e s m args below meth c ls Q hQ C0 hK hB hP hS hl
  have C0 : Cx p s m args meth c RX12 cX12_readDigit 1 (some .int) := C0
  have hx := C0.1
  have hb := C0.2.1
  have hl : lv_has ls 1 [(0, .ref (a 0))] := hl
  rw [f_X12_readDigit] at h
  refine lv_aload_n hx hb dX12_readDigit_0 rfl (lv_at hl 0 rfl) ?_
  refine lv_aload_n hx hb dX12_readDigit_1 rfl (lv_at hl 0 rfl) ?_
  refine gX12_19 C0 hK hP tw961 dX12_readDigit_2 ?_
  obtain ⟨J30, eJ30, h⟩ := jn_e h
  have hJ30 : ∀ (v_1 : Int32) (σ_2 : MMem) (H : Heap) (locs : List Loc) (ls : Array Slot), J30 v_1 σ_2 = some (r, σ') → va_P D vwCl (wM ca a σ_2) H → va_S (AW 21 a) s.heap H locs → lv_has ls 1 [(0, .ref (a 0))] → W p l e rm_X12_readDigit s m args below meth c H locs 0 0 Q (F0 m 30 ls [.int v_1, .ref (a 0)]) := by
    intro v_1 σ_2 H locs ls h hP hS hl
    have h := ap2 eJ30 h
    obtain ⟨b_3, h⟩ := asr h
    obtain ⟨σ_4, eσ_4, h⟩ := bnd_e h
    refine pX12_19 C0 hK hP tw961 hI hS b_3 dX12_readDigit_30 (fun H locs hP hS => ?_)
    rw [← eσ_4] at hP
    refine lv_aload_n hx hb dX12_readDigit_33 rfl (lv_at hl 0 rfl) ?_
    refine gX12_19 C0 hK hP tw961 dX12_readDigit_34 ?_
    refine lv_if_eq (tgt := 42) hx hb dX12_readDigit_37 (by decide) (fun c_5 => ?_) (fun c_5 => ?_)
    · have h := it c_5 h
      refine lv_aload_n hx hb dX12_readDigit_42 rfl (lv_at hl 0 rfl) ?_
      refine lv_dup hx hb dX12_readDigit_43 rfl ?_
      refine gX12_18 C0 hK hP tw960 dX12_readDigit_44 ?_
      refine lv_iconst (v := 1) hx hb dX12_readDigit_47 (by decide) ?_
      refine lv_iadd hx hb dX12_readDigit_48 ?_
      obtain ⟨y_6, ey_6, h⟩ := bnd_e h
      refine nm_i ey_6 ?_
      obtain ⟨σ_7, eσ_7, h⟩ := bnd_e h
      refine pX12_18 C0 hK hP tw960 hI hS dX12_readDigit_49 (fun H locs hP hS => ?_)
      rw [← eσ_7] at hP
      refine lv_aload_n hx hb dX12_readDigit_52 rfl (lv_at hl 0 rfl) ?_
      refine gX12_36 C0 hK hP tw978 dX12_readDigit_53 ?_
      refine lv_aload_n hx hb dX12_readDigit_56 rfl (lv_at hl 0 rfl) ?_
      refine gX12_16 C0 hK hP tw958 dX12_readDigit_57 ?_
      refine lv_aload_n hx hb dX12_readDigit_60 rfl (lv_at hl 0 rfl) ?_
      refine gX12_18 C0 hK hP tw960 dX12_readDigit_61 ?_
      refine lv_iadd hx hb dX12_readDigit_64 ?_
      refine lv_iconst (v := 1) hx hb dX12_readDigit_65 (by decide) ?_
      refine lv_isub hx hb dX12_readDigit_66 ?_
      obtain ⟨i_8, ei_8, h⟩ := bnd_e h
      refine nm_i ei_8 ?_
      obtain ⟨b_9, h⟩ := ck h
      refine mlald (i := 19) (N := 800) C0 hK hP (by decide) (by decide) rfl b_9 dX12_readDigit_67 ?_
      refine lv_l2i (v := ((σ_7 19).2 i_8.toNatClampNeg).toInt32) hx hb dX12_readDigit_68 rfl ?_
      refine lv_bipush (v := 48) hx hb dX12_readDigit_69 (by decide) ?_
      refine lv_isub hx hb dX12_readDigit_71 ?_
      rw [hQ]
      exact xzret C0 hP hS rfl h dX12_readDigit_72
    · have h := ie c_5 h
      refine lv_iconst (v := 0) hx hb dX12_readDigit_40 (by decide) ?_
      rw [hQ]
      exact xzret C0 hP hS rfl h dX12_readDigit_41
  obtain ⟨J25, eJ25, h⟩ := jn_e h
  have hJ25 : ∀ (σ_10 : MMem) (H : Heap) (locs : List Loc) (ls : Array Slot), J25 σ_10 = some (r, σ') → va_P D vwCl (wM ca a σ_10) H → va_S (AW 21 a) s.heap H locs → lv_has ls 1 [(0, .ref (a 0))] → W p l e rm_X12_readDigit s m args below meth c H locs 0 0 Q (F0 m 25 ls [.ref (a 0)]) := by
    intro σ_10 H locs ls h hP hS hl
    have h := ap1 eJ25 h
    refine lv_iconst (v := 1) hx hb dX12_readDigit_25 (by decide) ?_
    refine lv_goto (tgt := 30) hx hb dX12_readDigit_26 (by decide) ?_
    exact hJ30 1 σ_10 _ _ ls h hP hS (lv_sub hl [0] rfl)
  refine lv_if_ne (tgt := 25) hx hb dX12_readDigit_5 (by decide) (fun c_11 => ?_) (fun c_11 => ?_)
  · have h := ie c_11 h
    exact hJ25 σ _ _ ls h hP hS (lv_sub hl [0] rfl)
  · have h := it c_11 h
    refine lv_aload_n hx hb dX12_readDigit_8 rfl (lv_at hl 0 rfl) ?_
    obtain ⟨r_13, h_12, h⟩ := b1_e h
    refine xcall (rV C0 hK hP hl.1 (fun _ _ _ => trivial) Bt_b (c_X12_here hI h_12) cv_X12_here tw1098 (rcX12 hK hP) (rest := [.ref (a 0)]) rfl (Nat.le_of_ble_eq_true rfl) ⟨rfl, rfl, Nat.le_of_ble_eq_true rfl, Nat.le_of_ble_eq_true rfl⟩ ⟨Nat.zero_le _, Nat.zero_le _⟩ dX12_readDigit_9) hS (fun H locs hP hS => ?_)
    refine lv_i2l (v := r_13.toInt64) hx hb dX12_readDigit_12 rfl ?_
    refine lv_ldc2 (v := 48) hx hb C0.2.2.2.1 (C0.2.2.2.2.1 _ tw1110) dX12_readDigit_13 ?_
    refine lv_ldc2 (v := 57) hx hb C0.2.2.2.1 (C0.2.2.2.2.1 _ tw1111) dX12_readDigit_16 ?_
    obtain ⟨r_15, h_14, h⟩ := b1_e h
    refine xcall (rS C0 hK hP hl.1 (fun _ _ _ => trivial) Bt_b (c_X12_in hI h_14) cs_X12_in tw1091 (rest := [.ref (a 0)]) rfl (Nat.le_of_ble_eq_true rfl) ⟨rfl, rfl, Nat.le_of_ble_eq_true rfl, Nat.le_of_ble_eq_true rfl⟩ ⟨Nat.zero_le _, Nat.zero_le _⟩ dX12_readDigit_19) hS (fun H locs hP hS => ?_)
    refine lv_if_ne (tgt := 29) hx hb dX12_readDigit_22 (by decide) (fun c_16 => ?_) (fun c_16 => ?_)
    · have h := ie c_16 h
      refine lv_iconst (v := 0) hx hb dX12_readDigit_29 (by decide) ?_
      exact hJ30 0 σ _ _ ls h hP hS (lv_sub hl [0] rfl)
    · have h := it c_16 h
      exact hJ25 σ _ _ ls h hP hS (lv_sub hl [0] rfl)
def f_X12_readNumber (σ : MMem) : Option (Int32 × MMem) :=
  b2 (f_X12_readDigit σ) fun r_2 σ_3 =>
  if ((σ_3 0).1 19) = 0 then
    if r_2 ≤ 0 then
      some (r_2, σ_3)
    else
      b1 (f_X12_here σ_3) fun r_7 =>
      b1 (f_X12_in r_7.toInt64 48 57) fun r_9 =>
      if r_9 = 0 then
        some (r_2, σ_3)
      else
        b2 (f_X12_readDigit σ_3) fun r_12 σ_13 =>
        some ((10 * r_2) + r_12, σ_13)
  else
    some (r_2, σ_3)
def rm_X12_readNumber : Room := { frames := 2, cells := 0, slots := 0, locals := 45 }
set_option maxHeartbeats 4000000 in
set_option maxRecDepth 100000 in
theorem c_X12_readNumber {l : Launch} {D : va_G} {ca : Nat → ClassId} {a : Nat → Nat} (hI : InjN 21 a)  {σ : MMem} {r : Int32} {σ' : MMem}  (h : f_X12_readNumber σ = some (r, σ')) : XMM l D ca a Bt yX12_readNumber cX12_readNumber 2 (some .int) rm_X12_readNumber [.ref (a 0)] σ (some (.int r)) σ' := by
  refine XM.of pn_X12 (Nat.le_of_ble_eq_true rfl) ?_
  intro p e s m args below meth c ls Q hQ C0 hK hB hP hS hl
  have C0 : Cx p s m args meth c RX12 cX12_readNumber 2 (some .int) := C0
  have hx := C0.1
  have hb := C0.2.1
  have hl : lv_has ls 2 [(0, .ref (a 0))] := hl
  rw [f_X12_readNumber] at h
  refine lv_aload_n hx hb dX12_readNumber_0 rfl (lv_at hl 0 rfl) ?_
  obtain ⟨r_2, σ_3, h_1, h⟩ := b2_e h
  refine xcall (rV C0 hK hP hl.1 (fun _ _ _ => trivial) Bt_b (c_X12_readDigit hI h_1) cv_X12_readDigit tw1106 (rcX12 hK hP) (rest := []) rfl (Nat.le_of_ble_eq_true rfl) ⟨rfl, rfl, Nat.le_of_ble_eq_true rfl, Nat.le_of_ble_eq_true rfl⟩ ⟨Nat.zero_le _, Nat.zero_le _⟩ dX12_readNumber_1) hS (fun H locs hP hS => ?_)
  refine lv_istore_n (lv' := [(1, .int r_2), (0, .ref (a 0))]) hx hb dX12_readNumber_4 rfl hl (by decide) rfl (fun ls hl => ?_)
  refine lv_aload_n hx hb dX12_readNumber_5 rfl (lv_at hl 1 rfl) ?_
  refine gX12_19 C0 hK hP tw961 dX12_readNumber_6 ?_
  refine lv_if_ne (tgt := 45) hx hb dX12_readNumber_9 (by decide) (fun c_4 => ?_) (fun c_4 => ?_)
  · have h := ie c_4 h
    refine lv_iload_n hx hb dX12_readNumber_45 rfl (lv_at hl 0 rfl) ?_
    rw [hQ]
    exact xzret C0 hP hS rfl h dX12_readNumber_46
  · have h := it c_4 h
    refine lv_iload_n hx hb dX12_readNumber_12 rfl (lv_at hl 0 rfl) ?_
    refine lv_if_le (tgt := 45) hx hb dX12_readNumber_13 (by decide) (fun c_5 => ?_) (fun c_5 => ?_)
    · have h := it c_5 h
      refine lv_iload_n hx hb dX12_readNumber_45 rfl (lv_at hl 0 rfl) ?_
      rw [hQ]
      exact xzret C0 hP hS rfl h dX12_readNumber_46
    · have h := ie c_5 h
      refine lv_aload_n hx hb dX12_readNumber_16 rfl (lv_at hl 1 rfl) ?_
      obtain ⟨r_7, h_6, h⟩ := b1_e h
      refine xcall (rV C0 hK hP hl.1 (fun _ _ _ => trivial) Bt_b (c_X12_here hI h_6) cv_X12_here tw1098 (rcX12 hK hP) (rest := []) rfl (Nat.le_of_ble_eq_true rfl) ⟨rfl, rfl, Nat.le_of_ble_eq_true rfl, Nat.le_of_ble_eq_true rfl⟩ ⟨Nat.zero_le _, Nat.zero_le _⟩ dX12_readNumber_17) hS (fun H locs hP hS => ?_)
      refine lv_i2l (v := r_7.toInt64) hx hb dX12_readNumber_20 rfl ?_
      refine lv_ldc2 (v := 48) hx hb C0.2.2.2.1 (C0.2.2.2.2.1 _ tw1110) dX12_readNumber_21 ?_
      refine lv_ldc2 (v := 57) hx hb C0.2.2.2.1 (C0.2.2.2.2.1 _ tw1111) dX12_readNumber_24 ?_
      obtain ⟨r_9, h_8, h⟩ := b1_e h
      refine xcall (rS C0 hK hP hl.1 (fun _ _ _ => trivial) Bt_b (c_X12_in hI h_8) cs_X12_in tw1091 (rest := []) rfl (Nat.le_of_ble_eq_true rfl) ⟨rfl, rfl, Nat.le_of_ble_eq_true rfl, Nat.le_of_ble_eq_true rfl⟩ ⟨Nat.zero_le _, Nat.zero_le _⟩ dX12_readNumber_27) hS (fun H locs hP hS => ?_)
      refine lv_if_eq (tgt := 45) hx hb dX12_readNumber_30 (by decide) (fun c_10 => ?_) (fun c_10 => ?_)
      · have h := it c_10 h
        refine lv_iload_n hx hb dX12_readNumber_45 rfl (lv_at hl 0 rfl) ?_
        rw [hQ]
        exact xzret C0 hP hS rfl h dX12_readNumber_46
      · have h := ie c_10 h
        refine lv_bipush (v := 10) hx hb dX12_readNumber_33 (by decide) ?_
        refine lv_iload_n hx hb dX12_readNumber_35 rfl (lv_at hl 0 rfl) ?_
        refine lv_imul hx hb dX12_readNumber_36 ?_
        refine lv_aload_n hx hb dX12_readNumber_37 rfl (lv_at hl 1 rfl) ?_
        obtain ⟨r_12, σ_13, h_11, h⟩ := b2_e h
        refine xcall (rV C0 hK hP hl.1 (fun _ _ _ => trivial) Bt_b (c_X12_readDigit hI h_11) cv_X12_readDigit tw1106 (rcX12 hK hP) (rest := [.int (10 * r_2)]) rfl (Nat.le_of_ble_eq_true rfl) ⟨rfl, rfl, Nat.le_of_ble_eq_true rfl, Nat.le_of_ble_eq_true rfl⟩ ⟨Nat.zero_le _, Nat.zero_le _⟩ dX12_readNumber_38) hS (fun H locs hP hS => ?_)
        refine lv_iadd hx hb dX12_readNumber_41 ?_
        refine lv_goto (tgt := 46) hx hb dX12_readNumber_42 (by decide) ?_
        rw [hQ]
        exact xzret C0 hP hS rfl h dX12_readNumber_46
def f_X12_readStatement (σ : MMem) : Option (MMem) :=
  bnd ((σ 0).1 20) fun (x1_1 : Int32) =>
  b1 (f_X12_here σ) fun r_3 =>
  bnd ((σ 0).1 18) fun (y_4 : Int32) =>
  if x1_1 < 0 ∨ 51 ≤ x1_1.toNatClampNeg then none else
  bnd (uI σ 7 x1_1.toNatClampNeg y_4) fun (σ_6 : MMem) =>
  if x1_1 < 0 ∨ 51 ≤ x1_1.toNatClampNeg then none else
  bnd (uI σ_6 8 x1_1.toNatClampNeg r_3) fun (σ_8 : MMem) =>
  jn (fun (v_9 : Int32) (σ_10 : MMem) =>
    if v_9 = 0 ∨ v_9 = 1 then
      bnd (uI σ_10 0 19 v_9) fun (σ_12 : MMem) =>
      jn (fun (v_13 : Int32) (σ_14 : MMem) =>
        bnd (((σ_12 0).1 18) + v_13) fun (y_15 : Int32) =>
        bnd (uI σ_14 0 18 y_15) fun (σ_16 : MMem) =>
        jn (fun (v_17 : Int32) (σ_18 : MMem) =>
          if x1_1 < 0 ∨ 51 ≤ x1_1.toNatClampNeg then none else
          bnd (uI σ_18 9 x1_1.toNatClampNeg v_17) fun (σ_20 : MMem) =>
          jn (fun (σ_21 : MMem) =>
            if r_3 = 112 then
              b2 (f_X12_readDigit σ_21) fun r_28 σ_29 =>
              if x1_1 < 0 ∨ 51 ≤ x1_1.toNatClampNeg then none else
              bnd (uI σ_29 10 x1_1.toNatClampNeg r_28) fun (σ_31 : MMem) =>
              b2 (f_X12_readDigit σ_31) fun r_33 σ_34 =>
              if x1_1 < 0 ∨ 51 ≤ x1_1.toNatClampNeg then none else
              bnd (uI σ_34 11 x1_1.toNatClampNeg r_33) fun (σ_36 : MMem) =>
              b1 (f_X12_take 59 σ_36) fun σ_38 =>
              bnd (((σ_38 0).1 20) + 1) fun (y_39 : Int32) =>
              bnd (uI σ_38 0 20 y_39) fun (σ_40 : MMem) =>
              some σ_40
            else
              b1 (f_X12_take 59 σ_21) fun σ_24 =>
              bnd (((σ_24 0).1 20) + 1) fun (y_25 : Int32) =>
              bnd (uI σ_24 0 20 y_25) fun (σ_26 : MMem) =>
              some σ_26) fun J165 =>
          if r_3 = 114 then
            b1 (f_X12_take 32 σ_20) fun σ_43 =>
            b2 (f_X12_readNumber σ_43) fun r_45 σ_46 =>
            if x1_1 < 0 ∨ 51 ≤ x1_1.toNatClampNeg then none else
            bnd (uI σ_46 10 x1_1.toNatClampNeg r_45) fun (σ_48 : MMem) =>
            b1 (f_X12_take 32 σ_48) fun σ_50 =>
            b2 (f_X12_readDigit σ_50) fun r_52 σ_53 =>
            if x1_1 < 0 ∨ 51 ≤ x1_1.toNatClampNeg then none else
            bnd (uI σ_53 11 x1_1.toNatClampNeg r_52) fun (σ_55 : MMem) =>
            b2 (f_X12_readDigit σ_55) fun r_57 σ_58 =>
            if x1_1 < 0 ∨ 51 ≤ x1_1.toNatClampNeg then none else
            bnd (uI σ_58 12 x1_1.toNatClampNeg r_57) fun (σ_60 : MMem) =>
            J165 σ_60
          else
            J165 σ_20) fun J116 =>
        jn (fun (σ_61 : MMem) =>
          b2 (f_X12_readNumber σ_61) fun r_63 σ_64 =>
          J116 r_63 σ_64) fun J105 =>
        if r_3 = 114 then
          J105 σ_16
        else
          if r_3 = 108 then
            J105 σ_16
          else
            b2 (f_X12_readDigit σ_16) fun r_68 σ_69 =>
            J116 r_68 σ_69) fun J84 =>
      if ((σ_12 0).1 19) = 0 then
        J84 1 σ_12
      else
        J84 0 σ_12
    else none) fun J64 =>
  jn (fun (σ_71 : MMem) =>
    J64 1 σ_71) fun J59 =>
  if ((σ_8 0).1 19) = 0 then
    jn (fun (σ_73 : MMem) =>
      J64 0 σ_73) fun J63 =>
    if r_3 = 114 then
      J63 σ_8
    else
      if r_3 = 116 then
        J63 σ_8
      else
        if r_3 = 108 then
          J63 σ_8
        else
          if r_3 = 112 then
            J63 σ_8
          else
            J59 σ_8
  else
    J59 σ_8
def rm_X12_readStatement : Room := { frames := 3, cells := 0, slots := 0, locals := 66 }
set_option maxHeartbeats 4000000 in
set_option maxRecDepth 100000 in
theorem c_X12_readStatement {l : Launch} {D : va_G} {ca : Nat → ClassId} {a : Nat → Nat} (hI : InjN 21 a)  {σ : MMem} {σ' : MMem}  (h : f_X12_readStatement σ = some σ') : XMM l D ca a Bt yX12_readStatement cX12_readStatement 3 none rm_X12_readStatement [.ref (a 0)] σ none σ' := by
  refine XM.of pn_X12 (Nat.le_of_ble_eq_true rfl) ?_
  intro p e s m args below meth c ls Q hQ C0 hK hB hP hS hl
  have C0 : Cx p s m args meth c RX12 cX12_readStatement 3 none := C0
  have hx := C0.1
  have hb := C0.2.1
  have hl : lv_has ls 3 [(0, .ref (a 0))] := hl
  rw [f_X12_readStatement] at h
  refine lv_aload_n hx hb dX12_readStatement_0 rfl (lv_at hl 0 rfl) ?_
  refine gX12_20 C0 hK hP tw962 dX12_readStatement_1 ?_
  obtain ⟨x1_1, ex1_1, h⟩ := bnd_e h
  refine nm_i ex1_1 ?_
  refine lv_istore_n (lv' := [(1, .int x1_1), (0, .ref (a 0))]) hx hb dX12_readStatement_4 rfl hl (by decide) rfl (fun ls hl => ?_)
  refine lv_aload_n hx hb dX12_readStatement_5 rfl (lv_at hl 1 rfl) ?_
  obtain ⟨r_3, h_2, h⟩ := b1_e h
  refine xcall (rV C0 hK hP hl.1 (fun _ _ _ => trivial) Bt_b (c_X12_here hI h_2) cv_X12_here tw1098 (rcX12 hK hP) (rest := []) rfl (Nat.le_of_ble_eq_true rfl) ⟨rfl, rfl, Nat.le_of_ble_eq_true rfl, Nat.le_of_ble_eq_true rfl⟩ ⟨Nat.zero_le _, Nat.zero_le _⟩ dX12_readStatement_6) hS (fun H locs hP hS => ?_)
  refine lv_istore_n (lv' := [(2, .int r_3), (1, .int x1_1), (0, .ref (a 0))]) hx hb dX12_readStatement_9 rfl hl (by decide) rfl (fun ls hl => ?_)
  refine lv_aload_n hx hb dX12_readStatement_10 rfl (lv_at hl 2 rfl) ?_
  refine gX12_21 C0 hK hP tw963 dX12_readStatement_11 ?_
  refine lv_iload_n hx hb dX12_readStatement_14 rfl (lv_at hl 1 rfl) ?_
  refine lv_aload_n hx hb dX12_readStatement_15 rfl (lv_at hl 2 rfl) ?_
  refine gX12_18 C0 hK hP tw960 dX12_readStatement_16 ?_
  obtain ⟨y_4, ey_4, h⟩ := bnd_e h
  refine nm_i ey_4 ?_
  obtain ⟨b_5, h⟩ := ck h
  obtain ⟨σ_6, eσ_6, h⟩ := bnd_e h
  refine mast (i := 7) (N := 51) C0 hK hP hI hS (by decide) (by decide) rfl b_5 dX12_readStatement_19 (fun H locs hP hS => ?_)
  rw [← eσ_6] at hP
  refine lv_aload_n hx hb dX12_readStatement_20 rfl (lv_at hl 2 rfl) ?_
  refine gX12_22 C0 hK hP tw964 dX12_readStatement_21 ?_
  refine lv_iload_n hx hb dX12_readStatement_24 rfl (lv_at hl 1 rfl) ?_
  refine lv_iload_n hx hb dX12_readStatement_25 rfl (lv_at hl 0 rfl) ?_
  obtain ⟨b_7, h⟩ := ck h
  obtain ⟨σ_8, eσ_8, h⟩ := bnd_e h
  refine mast (i := 8) (N := 51) C0 hK hP hI hS (by decide) (by decide) rfl b_7 dX12_readStatement_26 (fun H locs hP hS => ?_)
  rw [← eσ_8] at hP
  refine lv_aload_n hx hb dX12_readStatement_27 rfl (lv_at hl 2 rfl) ?_
  refine lv_aload_n hx hb dX12_readStatement_28 rfl (lv_at hl 2 rfl) ?_
  refine gX12_19 C0 hK hP tw961 dX12_readStatement_29 ?_
  obtain ⟨J64, eJ64, h⟩ := jn_e h
  have hJ64 : ∀ (v_9 : Int32) (σ_10 : MMem) (H : Heap) (locs : List Loc) (ls : Array Slot), J64 v_9 σ_10 = some σ' → va_P D vwCl (wM ca a σ_10) H → va_S (AW 21 a) s.heap H locs → lv_has ls 3 [(0, .ref (a 0)), (1, .int x1_1), (2, .int r_3)] → W p l e rm_X12_readStatement s m args below meth c H locs 0 0 Q (F0 m 64 ls [.int v_9, .ref (a 0)]) := by
    intro v_9 σ_10 H locs ls h hP hS hl
    have h := ap2 eJ64 h
    obtain ⟨b_11, h⟩ := asr h
    obtain ⟨σ_12, eσ_12, h⟩ := bnd_e h
    refine pX12_19 C0 hK hP tw961 hI hS b_11 dX12_readStatement_64 (fun H locs hP hS => ?_)
    rw [← eσ_12] at hP
    refine lv_aload_n hx hb dX12_readStatement_67 rfl (lv_at hl 0 rfl) ?_
    refine lv_dup hx hb dX12_readStatement_68 rfl ?_
    refine gX12_18 C0 hK hP tw960 dX12_readStatement_69 ?_
    refine lv_aload_n hx hb dX12_readStatement_72 rfl (lv_at hl 0 rfl) ?_
    refine gX12_19 C0 hK hP tw961 dX12_readStatement_73 ?_
    obtain ⟨J84, eJ84, h⟩ := jn_e h
    have hJ84 : ∀ (v_13 : Int32) (σ_14 : MMem) (H : Heap) (locs : List Loc) (ls : Array Slot), J84 v_13 σ_14 = some σ' → va_P D vwCl (wM ca a σ_14) H → va_S (AW 21 a) s.heap H locs → lv_has ls 3 [(0, .ref (a 0)), (1, .int x1_1), (2, .int r_3)] → W p l e rm_X12_readStatement s m args below meth c H locs 0 0 Q (F0 m 84 ls [.int v_13, .int ((σ_12 0).1 18), .ref (a 0)]) := by
      intro v_13 σ_14 H locs ls h hP hS hl
      have h := ap2 eJ84 h
      refine lv_iadd hx hb dX12_readStatement_84 ?_
      obtain ⟨y_15, ey_15, h⟩ := bnd_e h
      refine nm_i ey_15 ?_
      obtain ⟨σ_16, eσ_16, h⟩ := bnd_e h
      refine pX12_18 C0 hK hP tw960 hI hS dX12_readStatement_85 (fun H locs hP hS => ?_)
      rw [← eσ_16] at hP
      refine lv_aload_n hx hb dX12_readStatement_88 rfl (lv_at hl 0 rfl) ?_
      refine gX12_23 C0 hK hP tw965 dX12_readStatement_89 ?_
      refine lv_iload_n hx hb dX12_readStatement_92 rfl (lv_at hl 1 rfl) ?_
      refine lv_iload_n hx hb dX12_readStatement_93 rfl (lv_at hl 2 rfl) ?_
      refine lv_bipush (v := 114) hx hb dX12_readStatement_94 (by decide) ?_
      obtain ⟨J116, eJ116, h⟩ := jn_e h
      have hJ116 : ∀ (v_17 : Int32) (σ_18 : MMem) (H : Heap) (locs : List Loc) (ls : Array Slot), J116 v_17 σ_18 = some σ' → va_P D vwCl (wM ca a σ_18) H → va_S (AW 21 a) s.heap H locs → lv_has ls 3 [(0, .ref (a 0)), (1, .int x1_1), (2, .int r_3)] → W p l e rm_X12_readStatement s m args below meth c H locs 0 0 Q (F0 m 116 ls [.int v_17, .int x1_1, .ref (a 9)]) := by
        intro v_17 σ_18 H locs ls h hP hS hl
        have h := ap2 eJ116 h
        obtain ⟨b_19, h⟩ := ck h
        obtain ⟨σ_20, eσ_20, h⟩ := bnd_e h
        refine mast (i := 9) (N := 51) C0 hK hP hI hS (by decide) (by decide) rfl b_19 dX12_readStatement_116 (fun H locs hP hS => ?_)
        rw [← eσ_20] at hP
        refine lv_iload_n hx hb dX12_readStatement_117 rfl (lv_at hl 2 rfl) ?_
        refine lv_bipush (v := 114) hx hb dX12_readStatement_118 (by decide) ?_
        obtain ⟨J165, eJ165, h⟩ := jn_e h
        have hJ165 : ∀ (σ_21 : MMem) (H : Heap) (locs : List Loc) (ls : Array Slot), J165 σ_21 = some σ' → va_P D vwCl (wM ca a σ_21) H → va_S (AW 21 a) s.heap H locs → lv_has ls 3 [(0, .ref (a 0)), (1, .int x1_1), (2, .int r_3)] → W p l e rm_X12_readStatement s m args below meth c H locs 0 0 Q (F0 m 165 ls []) := by
          intro σ_21 H locs ls h hP hS hl
          have h := ap1 eJ165 h
          refine lv_iload_n hx hb dX12_readStatement_165 rfl (lv_at hl 2 rfl) ?_
          refine lv_bipush (v := 112) hx hb dX12_readStatement_166 (by decide) ?_
          refine lv_icmp_ne (tgt := 191) hx hb dX12_readStatement_168 (by decide) (fun c_22 => ?_) (fun c_22 => ?_)
          · have h := ie c_22 h
            refine lv_aload_n hx hb dX12_readStatement_191 rfl (lv_at hl 0 rfl) ?_
            refine lv_bipush (v := 59) hx hb dX12_readStatement_192 (by decide) ?_
            obtain ⟨σ_24, h_23, h⟩ := b1_e h
            refine xcall (rV C0 hK hP hl.1 (fun _ _ _ => trivial) Bt_b (c_X12_take hI h_23) cv_X12_take tw1112 (rcX12 hK hP) (rest := []) rfl (Nat.le_of_ble_eq_true rfl) ⟨rfl, rfl, Nat.le_of_ble_eq_true rfl, Nat.le_of_ble_eq_true rfl⟩ ⟨Nat.zero_le _, Nat.zero_le _⟩ dX12_readStatement_194) hS (fun H locs hP hS => ?_)
            refine lv_aload_n hx hb dX12_readStatement_197 rfl (lv_at hl 0 rfl) ?_
            refine lv_dup hx hb dX12_readStatement_198 rfl ?_
            refine gX12_20 C0 hK hP tw962 dX12_readStatement_199 ?_
            refine lv_iconst (v := 1) hx hb dX12_readStatement_202 (by decide) ?_
            refine lv_iadd hx hb dX12_readStatement_203 ?_
            obtain ⟨y_25, ey_25, h⟩ := bnd_e h
            refine nm_i ey_25 ?_
            obtain ⟨σ_26, eσ_26, h⟩ := bnd_e h
            refine pX12_20 C0 hK hP tw962 hI hS dX12_readStatement_204 (fun H locs hP hS => ?_)
            rw [← eσ_26] at hP
            rw [hQ]
            exact xvret C0 hP hS h dX12_readStatement_207
          · have h := it c_22 h
            refine lv_aload_n hx hb dX12_readStatement_171 rfl (lv_at hl 0 rfl) ?_
            refine gX12_24 C0 hK hP tw966 dX12_readStatement_172 ?_
            refine lv_iload_n hx hb dX12_readStatement_175 rfl (lv_at hl 1 rfl) ?_
            refine lv_aload_n hx hb dX12_readStatement_176 rfl (lv_at hl 0 rfl) ?_
            obtain ⟨r_28, σ_29, h_27, h⟩ := b2_e h
            refine xcall (rV C0 hK hP hl.1 (fun _ _ _ => trivial) Bt_b (c_X12_readDigit hI h_27) cv_X12_readDigit tw1106 (rcX12 hK hP) (rest := [.int x1_1, .ref (a 10)]) rfl (Nat.le_of_ble_eq_true rfl) ⟨rfl, rfl, Nat.le_of_ble_eq_true rfl, Nat.le_of_ble_eq_true rfl⟩ ⟨Nat.zero_le _, Nat.zero_le _⟩ dX12_readStatement_177) hS (fun H locs hP hS => ?_)
            obtain ⟨b_30, h⟩ := ck h
            obtain ⟨σ_31, eσ_31, h⟩ := bnd_e h
            refine mast (i := 10) (N := 51) C0 hK hP hI hS (by decide) (by decide) rfl b_30 dX12_readStatement_180 (fun H locs hP hS => ?_)
            rw [← eσ_31] at hP
            refine lv_aload_n hx hb dX12_readStatement_181 rfl (lv_at hl 0 rfl) ?_
            refine gX12_25 C0 hK hP tw967 dX12_readStatement_182 ?_
            refine lv_iload_n hx hb dX12_readStatement_185 rfl (lv_at hl 1 rfl) ?_
            refine lv_aload_n hx hb dX12_readStatement_186 rfl (lv_at hl 0 rfl) ?_
            obtain ⟨r_33, σ_34, h_32, h⟩ := b2_e h
            refine xcall (rV C0 hK hP hl.1 (fun _ _ _ => trivial) Bt_b (c_X12_readDigit hI h_32) cv_X12_readDigit tw1106 (rcX12 hK hP) (rest := [.int x1_1, .ref (a 11)]) rfl (Nat.le_of_ble_eq_true rfl) ⟨rfl, rfl, Nat.le_of_ble_eq_true rfl, Nat.le_of_ble_eq_true rfl⟩ ⟨Nat.zero_le _, Nat.zero_le _⟩ dX12_readStatement_187) hS (fun H locs hP hS => ?_)
            obtain ⟨b_35, h⟩ := ck h
            obtain ⟨σ_36, eσ_36, h⟩ := bnd_e h
            refine mast (i := 11) (N := 51) C0 hK hP hI hS (by decide) (by decide) rfl b_35 dX12_readStatement_190 (fun H locs hP hS => ?_)
            rw [← eσ_36] at hP
            refine lv_aload_n hx hb dX12_readStatement_191 rfl (lv_at hl 0 rfl) ?_
            refine lv_bipush (v := 59) hx hb dX12_readStatement_192 (by decide) ?_
            obtain ⟨σ_38, h_37, h⟩ := b1_e h
            refine xcall (rV C0 hK hP hl.1 (fun _ _ _ => trivial) Bt_b (c_X12_take hI h_37) cv_X12_take tw1112 (rcX12 hK hP) (rest := []) rfl (Nat.le_of_ble_eq_true rfl) ⟨rfl, rfl, Nat.le_of_ble_eq_true rfl, Nat.le_of_ble_eq_true rfl⟩ ⟨Nat.zero_le _, Nat.zero_le _⟩ dX12_readStatement_194) hS (fun H locs hP hS => ?_)
            refine lv_aload_n hx hb dX12_readStatement_197 rfl (lv_at hl 0 rfl) ?_
            refine lv_dup hx hb dX12_readStatement_198 rfl ?_
            refine gX12_20 C0 hK hP tw962 dX12_readStatement_199 ?_
            refine lv_iconst (v := 1) hx hb dX12_readStatement_202 (by decide) ?_
            refine lv_iadd hx hb dX12_readStatement_203 ?_
            obtain ⟨y_39, ey_39, h⟩ := bnd_e h
            refine nm_i ey_39 ?_
            obtain ⟨σ_40, eσ_40, h⟩ := bnd_e h
            refine pX12_20 C0 hK hP tw962 hI hS dX12_readStatement_204 (fun H locs hP hS => ?_)
            rw [← eσ_40] at hP
            rw [hQ]
            exact xvret C0 hP hS h dX12_readStatement_207
        refine lv_icmp_ne (tgt := 165) hx hb dX12_readStatement_120 (by decide) (fun c_41 => ?_) (fun c_41 => ?_)
        · have h := ie c_41 h
          exact hJ165 σ_20 _ _ ls h hP hS (lv_sub hl [0, 1, 2] rfl)
        · have h := it c_41 h
          refine lv_aload_n hx hb dX12_readStatement_123 rfl (lv_at hl 0 rfl) ?_
          refine lv_bipush (v := 32) hx hb dX12_readStatement_124 (by decide) ?_
          obtain ⟨σ_43, h_42, h⟩ := b1_e h
          refine xcall (rV C0 hK hP hl.1 (fun _ _ _ => trivial) Bt_b (c_X12_take hI h_42) cv_X12_take tw1112 (rcX12 hK hP) (rest := []) rfl (Nat.le_of_ble_eq_true rfl) ⟨rfl, rfl, Nat.le_of_ble_eq_true rfl, Nat.le_of_ble_eq_true rfl⟩ ⟨Nat.zero_le _, Nat.zero_le _⟩ dX12_readStatement_126) hS (fun H locs hP hS => ?_)
          refine lv_aload_n hx hb dX12_readStatement_129 rfl (lv_at hl 0 rfl) ?_
          refine gX12_24 C0 hK hP tw966 dX12_readStatement_130 ?_
          refine lv_iload_n hx hb dX12_readStatement_133 rfl (lv_at hl 1 rfl) ?_
          refine lv_aload_n hx hb dX12_readStatement_134 rfl (lv_at hl 0 rfl) ?_
          obtain ⟨r_45, σ_46, h_44, h⟩ := b2_e h
          refine xcall (rV C0 hK hP hl.1 (fun _ _ _ => trivial) Bt_b (c_X12_readNumber hI h_44) cv_X12_readNumber tw1102 (rcX12 hK hP) (rest := [.int x1_1, .ref (a 10)]) rfl (Nat.le_of_ble_eq_true rfl) ⟨rfl, rfl, Nat.le_of_ble_eq_true rfl, Nat.le_of_ble_eq_true rfl⟩ ⟨Nat.zero_le _, Nat.zero_le _⟩ dX12_readStatement_135) hS (fun H locs hP hS => ?_)
          obtain ⟨b_47, h⟩ := ck h
          obtain ⟨σ_48, eσ_48, h⟩ := bnd_e h
          refine mast (i := 10) (N := 51) C0 hK hP hI hS (by decide) (by decide) rfl b_47 dX12_readStatement_138 (fun H locs hP hS => ?_)
          rw [← eσ_48] at hP
          refine lv_aload_n hx hb dX12_readStatement_139 rfl (lv_at hl 0 rfl) ?_
          refine lv_bipush (v := 32) hx hb dX12_readStatement_140 (by decide) ?_
          obtain ⟨σ_50, h_49, h⟩ := b1_e h
          refine xcall (rV C0 hK hP hl.1 (fun _ _ _ => trivial) Bt_b (c_X12_take hI h_49) cv_X12_take tw1112 (rcX12 hK hP) (rest := []) rfl (Nat.le_of_ble_eq_true rfl) ⟨rfl, rfl, Nat.le_of_ble_eq_true rfl, Nat.le_of_ble_eq_true rfl⟩ ⟨Nat.zero_le _, Nat.zero_le _⟩ dX12_readStatement_142) hS (fun H locs hP hS => ?_)
          refine lv_aload_n hx hb dX12_readStatement_145 rfl (lv_at hl 0 rfl) ?_
          refine gX12_25 C0 hK hP tw967 dX12_readStatement_146 ?_
          refine lv_iload_n hx hb dX12_readStatement_149 rfl (lv_at hl 1 rfl) ?_
          refine lv_aload_n hx hb dX12_readStatement_150 rfl (lv_at hl 0 rfl) ?_
          obtain ⟨r_52, σ_53, h_51, h⟩ := b2_e h
          refine xcall (rV C0 hK hP hl.1 (fun _ _ _ => trivial) Bt_b (c_X12_readDigit hI h_51) cv_X12_readDigit tw1106 (rcX12 hK hP) (rest := [.int x1_1, .ref (a 11)]) rfl (Nat.le_of_ble_eq_true rfl) ⟨rfl, rfl, Nat.le_of_ble_eq_true rfl, Nat.le_of_ble_eq_true rfl⟩ ⟨Nat.zero_le _, Nat.zero_le _⟩ dX12_readStatement_151) hS (fun H locs hP hS => ?_)
          obtain ⟨b_54, h⟩ := ck h
          obtain ⟨σ_55, eσ_55, h⟩ := bnd_e h
          refine mast (i := 11) (N := 51) C0 hK hP hI hS (by decide) (by decide) rfl b_54 dX12_readStatement_154 (fun H locs hP hS => ?_)
          rw [← eσ_55] at hP
          refine lv_aload_n hx hb dX12_readStatement_155 rfl (lv_at hl 0 rfl) ?_
          refine gX12_26 C0 hK hP tw968 dX12_readStatement_156 ?_
          refine lv_iload_n hx hb dX12_readStatement_159 rfl (lv_at hl 1 rfl) ?_
          refine lv_aload_n hx hb dX12_readStatement_160 rfl (lv_at hl 0 rfl) ?_
          obtain ⟨r_57, σ_58, h_56, h⟩ := b2_e h
          refine xcall (rV C0 hK hP hl.1 (fun _ _ _ => trivial) Bt_b (c_X12_readDigit hI h_56) cv_X12_readDigit tw1106 (rcX12 hK hP) (rest := [.int x1_1, .ref (a 12)]) rfl (Nat.le_of_ble_eq_true rfl) ⟨rfl, rfl, Nat.le_of_ble_eq_true rfl, Nat.le_of_ble_eq_true rfl⟩ ⟨Nat.zero_le _, Nat.zero_le _⟩ dX12_readStatement_161) hS (fun H locs hP hS => ?_)
          obtain ⟨b_59, h⟩ := ck h
          obtain ⟨σ_60, eσ_60, h⟩ := bnd_e h
          refine mast (i := 12) (N := 51) C0 hK hP hI hS (by decide) (by decide) rfl b_59 dX12_readStatement_164 (fun H locs hP hS => ?_)
          rw [← eσ_60] at hP
          exact hJ165 σ_60 _ _ ls h hP hS (lv_sub hl [0, 1, 2] rfl)
      obtain ⟨J105, eJ105, h⟩ := jn_e h
      have hJ105 : ∀ (σ_61 : MMem) (H : Heap) (locs : List Loc) (ls : Array Slot), J105 σ_61 = some σ' → va_P D vwCl (wM ca a σ_61) H → va_S (AW 21 a) s.heap H locs → lv_has ls 3 [(0, .ref (a 0)), (1, .int x1_1), (2, .int r_3)] → W p l e rm_X12_readStatement s m args below meth c H locs 0 0 Q (F0 m 105 ls [.int x1_1, .ref (a 9)]) := by
        intro σ_61 H locs ls h hP hS hl
        have h := ap1 eJ105 h
        refine lv_aload_n hx hb dX12_readStatement_105 rfl (lv_at hl 0 rfl) ?_
        obtain ⟨r_63, σ_64, h_62, h⟩ := b2_e h
        refine xcall (rV C0 hK hP hl.1 (fun _ _ _ => trivial) Bt_b (c_X12_readNumber hI h_62) cv_X12_readNumber tw1102 (rcX12 hK hP) (rest := [.int x1_1, .ref (a 9)]) rfl (Nat.le_of_ble_eq_true rfl) ⟨rfl, rfl, Nat.le_of_ble_eq_true rfl, Nat.le_of_ble_eq_true rfl⟩ ⟨Nat.zero_le _, Nat.zero_le _⟩ dX12_readStatement_106) hS (fun H locs hP hS => ?_)
        refine lv_goto (tgt := 116) hx hb dX12_readStatement_109 (by decide) ?_
        exact hJ116 r_63 σ_64 _ _ ls h hP hS (lv_sub hl [0, 1, 2] rfl)
      refine lv_icmp_eq (tgt := 105) hx hb dX12_readStatement_96 (by decide) (fun c_65 => ?_) (fun c_65 => ?_)
      · have h := it c_65 h
        exact hJ105 σ_16 _ _ ls h hP hS (lv_sub hl [0, 1, 2] rfl)
      · have h := ie c_65 h
        refine lv_iload_n hx hb dX12_readStatement_99 rfl (lv_at hl 2 rfl) ?_
        refine lv_bipush (v := 108) hx hb dX12_readStatement_100 (by decide) ?_
        refine lv_icmp_ne (tgt := 112) hx hb dX12_readStatement_102 (by decide) (fun c_66 => ?_) (fun c_66 => ?_)
        · have h := ie c_66 h
          refine lv_aload_n hx hb dX12_readStatement_112 rfl (lv_at hl 0 rfl) ?_
          obtain ⟨r_68, σ_69, h_67, h⟩ := b2_e h
          refine xcall (rV C0 hK hP hl.1 (fun _ _ _ => trivial) Bt_b (c_X12_readDigit hI h_67) cv_X12_readDigit tw1106 (rcX12 hK hP) (rest := [.int x1_1, .ref (a 9)]) rfl (Nat.le_of_ble_eq_true rfl) ⟨rfl, rfl, Nat.le_of_ble_eq_true rfl, Nat.le_of_ble_eq_true rfl⟩ ⟨Nat.zero_le _, Nat.zero_le _⟩ dX12_readStatement_113) hS (fun H locs hP hS => ?_)
          exact hJ116 r_68 σ_69 _ _ ls h hP hS (lv_sub hl [0, 1, 2] rfl)
        · have h := it c_66 h
          exact hJ105 σ_16 _ _ ls h hP hS (lv_sub hl [0, 1, 2] rfl)
    refine lv_if_eq (tgt := 83) hx hb dX12_readStatement_76 (by decide) (fun c_70 => ?_) (fun c_70 => ?_)
    · have h := it c_70 h
      refine lv_iconst (v := 1) hx hb dX12_readStatement_83 (by decide) ?_
      exact hJ84 1 σ_12 _ _ ls h hP hS (lv_sub hl [0, 1, 2] rfl)
    · have h := ie c_70 h
      refine lv_iconst (v := 0) hx hb dX12_readStatement_79 (by decide) ?_
      refine lv_goto (tgt := 84) hx hb dX12_readStatement_80 (by decide) ?_
      exact hJ84 0 σ_12 _ _ ls h hP hS (lv_sub hl [0, 1, 2] rfl)
  obtain ⟨J59, eJ59, h⟩ := jn_e h
  have hJ59 : ∀ (σ_71 : MMem) (H : Heap) (locs : List Loc) (ls : Array Slot), J59 σ_71 = some σ' → va_P D vwCl (wM ca a σ_71) H → va_S (AW 21 a) s.heap H locs → lv_has ls 3 [(0, .ref (a 0)), (1, .int x1_1), (2, .int r_3)] → W p l e rm_X12_readStatement s m args below meth c H locs 0 0 Q (F0 m 59 ls [.ref (a 0)]) := by
    intro σ_71 H locs ls h hP hS hl
    have h := ap1 eJ59 h
    refine lv_iconst (v := 1) hx hb dX12_readStatement_59 (by decide) ?_
    refine lv_goto (tgt := 64) hx hb dX12_readStatement_60 (by decide) ?_
    exact hJ64 1 σ_71 _ _ ls h hP hS (lv_sub hl [0, 1, 2] rfl)
  refine lv_if_ne (tgt := 59) hx hb dX12_readStatement_32 (by decide) (fun c_72 => ?_) (fun c_72 => ?_)
  · have h := ie c_72 h
    exact hJ59 σ_8 _ _ ls h hP hS (lv_sub hl [2, 1, 0] rfl)
  · have h := it c_72 h
    refine lv_iload_n hx hb dX12_readStatement_35 rfl (lv_at hl 0 rfl) ?_
    refine lv_bipush (v := 114) hx hb dX12_readStatement_36 (by decide) ?_
    obtain ⟨J63, eJ63, h⟩ := jn_e h
    have hJ63 : ∀ (σ_73 : MMem) (H : Heap) (locs : List Loc) (ls : Array Slot), J63 σ_73 = some σ' → va_P D vwCl (wM ca a σ_73) H → va_S (AW 21 a) s.heap H locs → lv_has ls 3 [(0, .ref (a 0)), (1, .int x1_1), (2, .int r_3)] → W p l e rm_X12_readStatement s m args below meth c H locs 0 0 Q (F0 m 63 ls [.ref (a 0)]) := by
      intro σ_73 H locs ls h hP hS hl
      have h := ap1 eJ63 h
      refine lv_iconst (v := 0) hx hb dX12_readStatement_63 (by decide) ?_
      exact hJ64 0 σ_73 _ _ ls h hP hS (lv_sub hl [0, 1, 2] rfl)
    refine lv_icmp_eq (tgt := 63) hx hb dX12_readStatement_38 (by decide) (fun c_74 => ?_) (fun c_74 => ?_)
    · have h := it c_74 h
      exact hJ63 σ_8 _ _ ls h hP hS (lv_sub hl [2, 1, 0] rfl)
    · have h := ie c_74 h
      refine lv_iload_n hx hb dX12_readStatement_41 rfl (lv_at hl 0 rfl) ?_
      refine lv_bipush (v := 116) hx hb dX12_readStatement_42 (by decide) ?_
      refine lv_icmp_eq (tgt := 63) hx hb dX12_readStatement_44 (by decide) (fun c_75 => ?_) (fun c_75 => ?_)
      · have h := it c_75 h
        exact hJ63 σ_8 _ _ ls h hP hS (lv_sub hl [2, 1, 0] rfl)
      · have h := ie c_75 h
        refine lv_iload_n hx hb dX12_readStatement_47 rfl (lv_at hl 0 rfl) ?_
        refine lv_bipush (v := 108) hx hb dX12_readStatement_48 (by decide) ?_
        refine lv_icmp_eq (tgt := 63) hx hb dX12_readStatement_50 (by decide) (fun c_76 => ?_) (fun c_76 => ?_)
        · have h := it c_76 h
          exact hJ63 σ_8 _ _ ls h hP hS (lv_sub hl [2, 1, 0] rfl)
        · have h := ie c_76 h
          refine lv_iload_n hx hb dX12_readStatement_53 rfl (lv_at hl 0 rfl) ?_
          refine lv_bipush (v := 112) hx hb dX12_readStatement_54 (by decide) ?_
          refine lv_icmp_eq (tgt := 63) hx hb dX12_readStatement_56 (by decide) (fun c_77 => ?_) (fun c_77 => ?_)
          · have h := it c_77 h
            exact hJ63 σ_8 _ _ ls h hP hS (lv_sub hl [2, 1, 0] rfl)
          · have h := ie c_77 h
            exact hJ59 σ_8 _ _ ls h hP hS (lv_sub hl [2, 1, 0] rfl)
def f_X12_ringComes (p1 : Int32) (σ : MMem) : Option (Int32 × MMem) :=
  if p1 < 0 ∨ 51 ≤ p1.toNatClampNeg then none else
  if ((σ 9).1 p1.toNatClampNeg) < 1 then
    some (0, σ)
  else
    if p1 < 0 ∨ 51 ≤ p1.toNatClampNeg then none else
    if ((σ 10).1 p1.toNatClampNeg) < 1 then
      some (0, σ)
    else
      if ((σ 0).1 0) = 6 then
        some (0, σ)
      else
        if p1 < 0 ∨ 51 ≤ p1.toNatClampNeg then none else
        bnd ((σ 9).1 p1.toNatClampNeg) fun (y_7 : Int32) =>
        bnd ((σ 0).1 0) fun (i_8 : Int32) =>
        if i_8 < 0 ∨ 6 ≤ i_8.toNatClampNeg then none else
        bnd (uI σ 1 i_8.toNatClampNeg y_7) fun (σ_10 : MMem) =>
        if p1 < 0 ∨ 51 ≤ p1.toNatClampNeg then none else
        bnd ((σ_10 10).1 p1.toNatClampNeg) fun (y_12 : Int32) =>
        bnd ((σ_10 0).1 0) fun (i_13 : Int32) =>
        if i_13 < 0 ∨ 6 ≤ i_13.toNatClampNeg then none else
        bnd (uI σ_10 2 i_13.toNatClampNeg y_12) fun (σ_15 : MMem) =>
        if p1 < 0 ∨ 51 ≤ p1.toNatClampNeg then none else
        bnd ((σ_15 11).1 p1.toNatClampNeg) fun (y_17 : Int32) =>
        bnd ((σ_15 0).1 0) fun (i_18 : Int32) =>
        if i_18 < 0 ∨ 6 ≤ i_18.toNatClampNeg then none else
        bnd (uI σ_15 3 i_18.toNatClampNeg y_17) fun (σ_20 : MMem) =>
        if p1 < 0 ∨ 51 ≤ p1.toNatClampNeg then none else
        bnd ((σ_20 12).1 p1.toNatClampNeg) fun (y_22 : Int32) =>
        bnd ((σ_20 0).1 0) fun (i_23 : Int32) =>
        if i_23 < 0 ∨ 6 ≤ i_23.toNatClampNeg then none else
        bnd (uI σ_20 4 i_23.toNatClampNeg y_22) fun (σ_25 : MMem) =>
        bnd (((σ_25 0).1 0) + 1) fun (y_26 : Int32) =>
        bnd (uI σ_25 0 0 y_26) fun (σ_27 : MMem) =>
        some (1, σ_27)
def rm_X12_ringComes : Room := { frames := 0, cells := 0, slots := 0, locals := 0 }
set_option maxHeartbeats 4000000 in
set_option maxRecDepth 100000 in
theorem c_X12_ringComes {l : Launch} {D : va_G} {ca : Nat → ClassId} {a : Nat → Nat} (hI : InjN 21 a) {p1 : Int32} {σ : MMem} {r : Int32} {σ' : MMem}  (h : f_X12_ringComes p1 σ = some (r, σ')) : XMM l D ca a Bt yX12_ringComes cX12_ringComes 2 (some .boolean) rm_X12_ringComes [.ref (a 0), .int p1] σ (some (.int r)) σ' := by
  refine XM.of pn_X12 (Nat.le_of_ble_eq_true rfl) ?_
  intro p e s m args below meth c ls Q hQ C0 hK hB hP hS hl
  have C0 : Cx p s m args meth c RX12 cX12_ringComes 2 (some .boolean) := C0
  have hx := C0.1
  have hb := C0.2.1
  have hl : lv_has ls 2 [(0, .ref (a 0)), (1, .int p1)] := hl
  rw [f_X12_ringComes] at h
  refine lv_aload_n hx hb dX12_ringComes_0 rfl (lv_at hl 0 rfl) ?_
  refine gX12_23 C0 hK hP tw965 dX12_ringComes_1 ?_
  refine lv_iload_n hx hb dX12_ringComes_4 rfl (lv_at hl 1 rfl) ?_
  obtain ⟨b_1, h⟩ := ck h
  refine mald (i := 9) (N := 51) C0 hK hP (by decide) (by decide) rfl b_1 dX12_ringComes_5 ?_
  refine lv_iconst (v := 1) hx hb dX12_ringComes_6 (by decide) ?_
  refine lv_icmp_lt (tgt := 29) hx hb dX12_ringComes_7 (by decide) (fun c_2 => ?_) (fun c_2 => ?_)
  · have h := it c_2 h
    refine lv_iconst (v := 0) hx hb dX12_ringComes_29 (by decide) ?_
    rw [hQ]
    exact xzret C0 hP hS rfl h dX12_ringComes_30
  · have h := ie c_2 h
    refine lv_aload_n hx hb dX12_ringComes_10 rfl (lv_at hl 0 rfl) ?_
    refine gX12_24 C0 hK hP tw966 dX12_ringComes_11 ?_
    refine lv_iload_n hx hb dX12_ringComes_14 rfl (lv_at hl 1 rfl) ?_
    obtain ⟨b_3, h⟩ := ck h
    refine mald (i := 10) (N := 51) C0 hK hP (by decide) (by decide) rfl b_3 dX12_ringComes_15 ?_
    refine lv_iconst (v := 1) hx hb dX12_ringComes_16 (by decide) ?_
    refine lv_icmp_lt (tgt := 29) hx hb dX12_ringComes_17 (by decide) (fun c_4 => ?_) (fun c_4 => ?_)
    · have h := it c_4 h
      refine lv_iconst (v := 0) hx hb dX12_ringComes_29 (by decide) ?_
      rw [hQ]
      exact xzret C0 hP hS rfl h dX12_ringComes_30
    · have h := ie c_4 h
      refine lv_aload_n hx hb dX12_ringComes_20 rfl (lv_at hl 0 rfl) ?_
      refine gX12_0 C0 hK hP tw942 dX12_ringComes_21 ?_
      refine lv_bipush (v := 6) hx hb dX12_ringComes_24 (by decide) ?_
      refine lv_icmp_ne (tgt := 31) hx hb dX12_ringComes_26 (by decide) (fun c_5 => ?_) (fun c_5 => ?_)
      · have h := ie c_5 h
        refine lv_aload_n hx hb dX12_ringComes_31 rfl (lv_at hl 0 rfl) ?_
        refine gX12_5 C0 hK hP tw947 dX12_ringComes_32 ?_
        refine lv_aload_n hx hb dX12_ringComes_35 rfl (lv_at hl 0 rfl) ?_
        refine gX12_0 C0 hK hP tw942 dX12_ringComes_36 ?_
        refine lv_aload_n hx hb dX12_ringComes_39 rfl (lv_at hl 0 rfl) ?_
        refine gX12_23 C0 hK hP tw965 dX12_ringComes_40 ?_
        refine lv_iload_n hx hb dX12_ringComes_43 rfl (lv_at hl 1 rfl) ?_
        obtain ⟨b_6, h⟩ := ck h
        refine mald (i := 9) (N := 51) C0 hK hP (by decide) (by decide) rfl b_6 dX12_ringComes_44 ?_
        obtain ⟨y_7, ey_7, h⟩ := bnd_e h
        refine nm_i ey_7 ?_
        obtain ⟨i_8, ei_8, h⟩ := bnd_e h
        rw [← ei_8]
        obtain ⟨b_9, h⟩ := ck h
        obtain ⟨σ_10, eσ_10, h⟩ := bnd_e h
        refine mast (i := 1) (N := 6) C0 hK hP hI hS (by decide) (by decide) rfl b_9 dX12_ringComes_45 (fun H locs hP hS => ?_)
        rw [← eσ_10] at hP
        refine lv_aload_n hx hb dX12_ringComes_46 rfl (lv_at hl 0 rfl) ?_
        refine gX12_6 C0 hK hP tw948 dX12_ringComes_47 ?_
        refine lv_aload_n hx hb dX12_ringComes_50 rfl (lv_at hl 0 rfl) ?_
        refine gX12_0 C0 hK hP tw942 dX12_ringComes_51 ?_
        refine lv_aload_n hx hb dX12_ringComes_54 rfl (lv_at hl 0 rfl) ?_
        refine gX12_24 C0 hK hP tw966 dX12_ringComes_55 ?_
        refine lv_iload_n hx hb dX12_ringComes_58 rfl (lv_at hl 1 rfl) ?_
        obtain ⟨b_11, h⟩ := ck h
        refine mald (i := 10) (N := 51) C0 hK hP (by decide) (by decide) rfl b_11 dX12_ringComes_59 ?_
        obtain ⟨y_12, ey_12, h⟩ := bnd_e h
        refine nm_i ey_12 ?_
        obtain ⟨i_13, ei_13, h⟩ := bnd_e h
        rw [← ei_13]
        obtain ⟨b_14, h⟩ := ck h
        obtain ⟨σ_15, eσ_15, h⟩ := bnd_e h
        refine mast (i := 2) (N := 6) C0 hK hP hI hS (by decide) (by decide) rfl b_14 dX12_ringComes_60 (fun H locs hP hS => ?_)
        rw [← eσ_15] at hP
        refine lv_aload_n hx hb dX12_ringComes_61 rfl (lv_at hl 0 rfl) ?_
        refine gX12_7 C0 hK hP tw949 dX12_ringComes_62 ?_
        refine lv_aload_n hx hb dX12_ringComes_65 rfl (lv_at hl 0 rfl) ?_
        refine gX12_0 C0 hK hP tw942 dX12_ringComes_66 ?_
        refine lv_aload_n hx hb dX12_ringComes_69 rfl (lv_at hl 0 rfl) ?_
        refine gX12_25 C0 hK hP tw967 dX12_ringComes_70 ?_
        refine lv_iload_n hx hb dX12_ringComes_73 rfl (lv_at hl 1 rfl) ?_
        obtain ⟨b_16, h⟩ := ck h
        refine mald (i := 11) (N := 51) C0 hK hP (by decide) (by decide) rfl b_16 dX12_ringComes_74 ?_
        obtain ⟨y_17, ey_17, h⟩ := bnd_e h
        refine nm_i ey_17 ?_
        obtain ⟨i_18, ei_18, h⟩ := bnd_e h
        rw [← ei_18]
        obtain ⟨b_19, h⟩ := ck h
        obtain ⟨σ_20, eσ_20, h⟩ := bnd_e h
        refine mast (i := 3) (N := 6) C0 hK hP hI hS (by decide) (by decide) rfl b_19 dX12_ringComes_75 (fun H locs hP hS => ?_)
        rw [← eσ_20] at hP
        refine lv_aload_n hx hb dX12_ringComes_76 rfl (lv_at hl 0 rfl) ?_
        refine gX12_8 C0 hK hP tw950 dX12_ringComes_77 ?_
        refine lv_aload_n hx hb dX12_ringComes_80 rfl (lv_at hl 0 rfl) ?_
        refine gX12_0 C0 hK hP tw942 dX12_ringComes_81 ?_
        refine lv_aload_n hx hb dX12_ringComes_84 rfl (lv_at hl 0 rfl) ?_
        refine gX12_26 C0 hK hP tw968 dX12_ringComes_85 ?_
        refine lv_iload_n hx hb dX12_ringComes_88 rfl (lv_at hl 1 rfl) ?_
        obtain ⟨b_21, h⟩ := ck h
        refine mald (i := 12) (N := 51) C0 hK hP (by decide) (by decide) rfl b_21 dX12_ringComes_89 ?_
        obtain ⟨y_22, ey_22, h⟩ := bnd_e h
        refine nm_i ey_22 ?_
        obtain ⟨i_23, ei_23, h⟩ := bnd_e h
        rw [← ei_23]
        obtain ⟨b_24, h⟩ := ck h
        obtain ⟨σ_25, eσ_25, h⟩ := bnd_e h
        refine mast (i := 4) (N := 6) C0 hK hP hI hS (by decide) (by decide) rfl b_24 dX12_ringComes_90 (fun H locs hP hS => ?_)
        rw [← eσ_25] at hP
        refine lv_aload_n hx hb dX12_ringComes_91 rfl (lv_at hl 0 rfl) ?_
        refine lv_dup hx hb dX12_ringComes_92 rfl ?_
        refine gX12_0 C0 hK hP tw942 dX12_ringComes_93 ?_
        refine lv_iconst (v := 1) hx hb dX12_ringComes_96 (by decide) ?_
        refine lv_iadd hx hb dX12_ringComes_97 ?_
        obtain ⟨y_26, ey_26, h⟩ := bnd_e h
        refine nm_i ey_26 ?_
        obtain ⟨σ_27, eσ_27, h⟩ := bnd_e h
        refine pX12_0 C0 hK hP tw942 hI hS dX12_ringComes_98 (fun H locs hP hS => ?_)
        rw [← eσ_27] at hP
        refine lv_iconst (v := 1) hx hb dX12_ringComes_101 (by decide) ?_
        rw [hQ]
        exact xzret C0 hP hS rfl h dX12_ringComes_102
      · have h := it c_5 h
        refine lv_iconst (v := 0) hx hb dX12_ringComes_29 (by decide) ?_
        rw [hQ]
        exact xzret C0 hP hS rfl h dX12_ringComes_30
def f_X12_comes (p1 : Int32) (σ : MMem) : Option (Int32 × MMem) :=
  if p1 < 0 ∨ 51 ≤ p1.toNatClampNeg then none else
  if ((σ 8).1 p1.toNatClampNeg) = 114 then
    b2 (f_X12_ringComes p1 σ) fun r_46 σ_47 =>
    if r_46 = 0 ∨ r_46 = 1 then some (r_46, σ_47) else none
  else
    if p1 < 0 ∨ 51 ≤ p1.toNatClampNeg then none else
    if ((σ 8).1 p1.toNatClampNeg) = 116 then
      if p1 < 0 ∨ 51 ≤ p1.toNatClampNeg then none else
      bnd ((σ 9).1 p1.toNatClampNeg) fun (y_43 : Int32) =>
      bnd (uI σ 0 3 y_43) fun (σ_44 : MMem) =>
      some (1, σ_44)
    else
      if p1 < 0 ∨ 51 ≤ p1.toNatClampNeg then none else
      if ((σ 8).1 p1.toNatClampNeg) = 108 then
        if p1 < 0 ∨ 51 ≤ p1.toNatClampNeg then none else
        bnd ((σ 9).1 p1.toNatClampNeg) fun (y_38 : Int32) =>
        bnd (uI σ 0 4 y_38) fun (σ_39 : MMem) =>
        if p1 < 0 ∨ 51 ≤ p1.toNatClampNeg then none else
        if 30 < ((σ_39 9).1 p1.toNatClampNeg) then
          some (0, σ_39)
        else
          some (1, σ_39)
      else
        if p1 < 0 ∨ 51 ≤ p1.toNatClampNeg then none else
        jn (fun (v_8 : Int32) (σ_9 : MMem) =>
          if v_8 = 0 then
            if v_8 = 0 ∨ v_8 = 1 then some (v_8, σ_9) else none
          else
            if p1 < 0 ∨ 51 ≤ p1.toNatClampNeg then none else
            if p1 < 0 ∨ 51 ≤ p1.toNatClampNeg then none else
            if p1 < 0 ∨ 51 ≤ p1.toNatClampNeg then none else
            bnd ((σ_9 9).1 p1.toNatClampNeg) fun (y_15 : Int32) =>
            bnd ((σ_9 10).1 p1.toNatClampNeg) fun (y_16 : Int32) =>
            bnd ((σ_9 11).1 p1.toNatClampNeg) fun (y_17 : Int32) =>
            b1 (f_X12_does y_15 y_16 y_17 σ_9) fun σ_19 =>
            if v_8 = 0 ∨ v_8 = 1 then some (v_8, σ_19) else none) fun J132 =>
        jn (fun (σ_21 : MMem) =>
          J132 0 σ_21) fun J131 =>
        if 8 ≤ ((σ 9).1 p1.toNatClampNeg) then
          J131 σ
        else
          if p1 < 0 ∨ 51 ≤ p1.toNatClampNeg then none else
          bnd ((σ 11).1 p1.toNatClampNeg) fun (y_24 : Int32) =>
          b1 (f_X12_isRing y_24 σ) fun r_26 =>
          if r_26 = 0 then
            J131 σ
          else
            if p1 < 0 ∨ 51 ≤ p1.toNatClampNeg then none else
            if p1 < 0 ∨ 51 ≤ p1.toNatClampNeg then none else
            if p1 < 0 ∨ 51 ≤ p1.toNatClampNeg then none else
            bnd ((σ 9).1 p1.toNatClampNeg) fun (y_31 : Int32) =>
            bnd ((σ 10).1 p1.toNatClampNeg) fun (y_32 : Int32) =>
            bnd ((σ 11).1 p1.toNatClampNeg) fun (y_33 : Int32) =>
            b1 (f_X12_mayBe y_31 y_32 y_33 σ) fun r_35 =>
            if r_35 = 0 then
              J131 σ
            else
              J132 1 σ
def rm_X12_comes : Room := { frames := 3, cells := 0, slots := 0, locals := 67 }
set_option maxHeartbeats 4000000 in
set_option maxRecDepth 100000 in
theorem c_X12_comes {l : Launch} {D : va_G} {ca : Nat → ClassId} {a : Nat → Nat} (hI : InjN 21 a) {p1 : Int32} {σ : MMem} {r : Int32} {σ' : MMem}  (h : f_X12_comes p1 σ = some (r, σ')) : XMM l D ca a Bt yX12_comes cX12_comes 3 (some .boolean) rm_X12_comes [.ref (a 0), .int p1] σ (some (.int r)) σ' := by
  refine XM.of pn_X12 (Nat.le_of_ble_eq_true rfl) ?_
  intro p e s m args below meth c ls Q hQ C0 hK hB hP hS hl
  have C0 : Cx p s m args meth c RX12 cX12_comes 3 (some .boolean) := C0
  have hx := C0.1
  have hb := C0.2.1
  have hl : lv_has ls 3 [(0, .ref (a 0)), (1, .int p1)] := hl
  rw [f_X12_comes] at h
  refine lv_aload_n hx hb dX12_comes_0 rfl (lv_at hl 0 rfl) ?_
  refine gX12_22 C0 hK hP tw964 dX12_comes_1 ?_
  refine lv_iload_n hx hb dX12_comes_4 rfl (lv_at hl 1 rfl) ?_
  obtain ⟨b_1, h⟩ := ck h
  refine mald (i := 8) (N := 51) C0 hK hP (by decide) (by decide) rfl b_1 dX12_comes_5 ?_
  refine lv_bipush (v := 114) hx hb dX12_comes_6 (by decide) ?_
  refine lv_icmp_ne (tgt := 17) hx hb dX12_comes_8 (by decide) (fun c_2 => ?_) (fun c_2 => ?_)
  · have h := ie c_2 h
    refine lv_aload_n hx hb dX12_comes_17 rfl (lv_at hl 0 rfl) ?_
    refine gX12_22 C0 hK hP tw964 dX12_comes_18 ?_
    refine lv_iload_n hx hb dX12_comes_21 rfl (lv_at hl 1 rfl) ?_
    obtain ⟨b_3, h⟩ := ck h
    refine mald (i := 8) (N := 51) C0 hK hP (by decide) (by decide) rfl b_3 dX12_comes_22 ?_
    refine lv_bipush (v := 116) hx hb dX12_comes_23 (by decide) ?_
    refine lv_icmp_ne (tgt := 40) hx hb dX12_comes_25 (by decide) (fun c_4 => ?_) (fun c_4 => ?_)
    · have h := ie c_4 h
      refine lv_aload_n hx hb dX12_comes_40 rfl (lv_at hl 0 rfl) ?_
      refine gX12_22 C0 hK hP tw964 dX12_comes_41 ?_
      refine lv_iload_n hx hb dX12_comes_44 rfl (lv_at hl 1 rfl) ?_
      obtain ⟨b_5, h⟩ := ck h
      refine mald (i := 8) (N := 51) C0 hK hP (by decide) (by decide) rfl b_5 dX12_comes_45 ?_
      refine lv_bipush (v := 108) hx hb dX12_comes_46 (by decide) ?_
      refine lv_icmp_ne (tgt := 78) hx hb dX12_comes_48 (by decide) (fun c_6 => ?_) (fun c_6 => ?_)
      · have h := ie c_6 h
        refine lv_aload_n hx hb dX12_comes_78 rfl (lv_at hl 0 rfl) ?_
        refine gX12_23 C0 hK hP tw965 dX12_comes_79 ?_
        refine lv_iload_n hx hb dX12_comes_82 rfl (lv_at hl 1 rfl) ?_
        obtain ⟨b_7, h⟩ := ck h
        refine mald (i := 9) (N := 51) C0 hK hP (by decide) (by decide) rfl b_7 dX12_comes_83 ?_
        refine lv_bipush (v := 8) hx hb dX12_comes_84 (by decide) ?_
        obtain ⟨J132, eJ132, h⟩ := jn_e h
        have hJ132 : ∀ (v_8 : Int32) (σ_9 : MMem) (H : Heap) (locs : List Loc) (ls : Array Slot), J132 v_8 σ_9 = some (r, σ') → va_P D vwCl (wM ca a σ_9) H → va_S (AW 21 a) s.heap H locs → lv_has ls 3 [(0, .ref (a 0)), (1, .int p1)] → W p l e rm_X12_comes s m args below meth c H locs 0 0 Q (F0 m 132 ls [.int v_8]) := by
          intro v_8 σ_9 H locs ls h hP hS hl
          have h := ap2 eJ132 h
          refine lv_istore_n (lv' := [(2, .int v_8), (0, .ref (a 0)), (1, .int p1)]) hx hb dX12_comes_132 rfl hl (by decide) rfl (fun ls hl => ?_)
          refine lv_iload_n hx hb dX12_comes_133 rfl (lv_at hl 0 rfl) ?_
          refine lv_if_eq (tgt := 159) hx hb dX12_comes_134 (by decide) (fun c_10 => ?_) (fun c_10 => ?_)
          · have h := it c_10 h
            refine lv_iload_n hx hb dX12_comes_159 rfl (lv_at hl 0 rfl) ?_
            obtain ⟨b_11, h⟩ := asr h
            rw [hQ]
            exact xzret C0 hP hS (by rcases b_11 with hz | hz <;> rw [hz] <;> rfl) h dX12_comes_160
          · have h := ie c_10 h
            refine lv_aload_n hx hb dX12_comes_137 rfl (lv_at hl 1 rfl) ?_
            refine lv_aload_n hx hb dX12_comes_138 rfl (lv_at hl 1 rfl) ?_
            refine gX12_23 C0 hK hP tw965 dX12_comes_139 ?_
            refine lv_iload_n hx hb dX12_comes_142 rfl (lv_at hl 2 rfl) ?_
            obtain ⟨b_12, h⟩ := ck h
            refine mald (i := 9) (N := 51) C0 hK hP (by decide) (by decide) rfl b_12 dX12_comes_143 ?_
            refine lv_aload_n hx hb dX12_comes_144 rfl (lv_at hl 1 rfl) ?_
            refine gX12_24 C0 hK hP tw966 dX12_comes_145 ?_
            refine lv_iload_n hx hb dX12_comes_148 rfl (lv_at hl 2 rfl) ?_
            obtain ⟨b_13, h⟩ := ck h
            refine mald (i := 10) (N := 51) C0 hK hP (by decide) (by decide) rfl b_13 dX12_comes_149 ?_
            refine lv_aload_n hx hb dX12_comes_150 rfl (lv_at hl 1 rfl) ?_
            refine gX12_25 C0 hK hP tw967 dX12_comes_151 ?_
            refine lv_iload_n hx hb dX12_comes_154 rfl (lv_at hl 2 rfl) ?_
            obtain ⟨b_14, h⟩ := ck h
            refine mald (i := 11) (N := 51) C0 hK hP (by decide) (by decide) rfl b_14 dX12_comes_155 ?_
            obtain ⟨y_15, ey_15, h⟩ := bnd_e h
            rw [← ey_15]
            obtain ⟨y_16, ey_16, h⟩ := bnd_e h
            rw [← ey_16]
            obtain ⟨y_17, ey_17, h⟩ := bnd_e h
            rw [← ey_17]
            obtain ⟨σ_19, h_18, h⟩ := b1_e h
            refine xcall (rV C0 hK hP hl.1 (fun _ _ _ => trivial) Bt_b (c_X12_does hI h_18) cv_X12_does tw1136 (rcX12 hK hP) (rest := []) rfl (Nat.le_of_ble_eq_true rfl) ⟨rfl, rfl, Nat.le_of_ble_eq_true rfl, Nat.le_of_ble_eq_true rfl⟩ ⟨Nat.zero_le _, Nat.zero_le _⟩ dX12_comes_156) hS (fun H locs hP hS => ?_)
            refine lv_iload_n hx hb dX12_comes_159 rfl (lv_at hl 0 rfl) ?_
            obtain ⟨b_20, h⟩ := asr h
            rw [hQ]
            exact xzret C0 hP hS (by rcases b_20 with hz | hz <;> rw [hz] <;> rfl) h dX12_comes_160
        obtain ⟨J131, eJ131, h⟩ := jn_e h
        have hJ131 : ∀ (σ_21 : MMem) (H : Heap) (locs : List Loc) (ls : Array Slot), J131 σ_21 = some (r, σ') → va_P D vwCl (wM ca a σ_21) H → va_S (AW 21 a) s.heap H locs → lv_has ls 3 [(0, .ref (a 0)), (1, .int p1)] → W p l e rm_X12_comes s m args below meth c H locs 0 0 Q (F0 m 131 ls []) := by
          intro σ_21 H locs ls h hP hS hl
          have h := ap1 eJ131 h
          refine lv_iconst (v := 0) hx hb dX12_comes_131 (by decide) ?_
          exact hJ132 0 σ_21 _ _ ls h hP hS (lv_sub hl [0, 1] rfl)
        refine lv_icmp_ge (tgt := 131) hx hb dX12_comes_86 (by decide) (fun c_22 => ?_) (fun c_22 => ?_)
        · have h := it c_22 h
          exact hJ131 σ _ _ ls h hP hS (lv_sub hl [0, 1] rfl)
        · have h := ie c_22 h
          refine lv_aload_n hx hb dX12_comes_89 rfl (lv_at hl 0 rfl) ?_
          refine lv_aload_n hx hb dX12_comes_90 rfl (lv_at hl 0 rfl) ?_
          refine gX12_25 C0 hK hP tw967 dX12_comes_91 ?_
          refine lv_iload_n hx hb dX12_comes_94 rfl (lv_at hl 1 rfl) ?_
          obtain ⟨b_23, h⟩ := ck h
          refine mald (i := 11) (N := 51) C0 hK hP (by decide) (by decide) rfl b_23 dX12_comes_95 ?_
          obtain ⟨y_24, ey_24, h⟩ := bnd_e h
          rw [← ey_24]
          obtain ⟨r_26, h_25, h⟩ := b1_e h
          refine xcall (rV C0 hK hP hl.1 (fun _ _ _ => trivial) Bt_b (c_X12_isRing hI h_25) cv_X12_isRing tw1128 (rcX12 hK hP) (rest := []) rfl (Nat.le_of_ble_eq_true rfl) ⟨rfl, rfl, Nat.le_of_ble_eq_true rfl, Nat.le_of_ble_eq_true rfl⟩ ⟨Nat.zero_le _, Nat.zero_le _⟩ dX12_comes_96) hS (fun H locs hP hS => ?_)
          refine lv_if_eq (tgt := 131) hx hb dX12_comes_99 (by decide) (fun c_27 => ?_) (fun c_27 => ?_)
          · have h := it c_27 h
            exact hJ131 σ _ _ ls h hP hS (lv_sub hl [0, 1] rfl)
          · have h := ie c_27 h
            refine lv_aload_n hx hb dX12_comes_102 rfl (lv_at hl 0 rfl) ?_
            refine lv_aload_n hx hb dX12_comes_103 rfl (lv_at hl 0 rfl) ?_
            refine gX12_23 C0 hK hP tw965 dX12_comes_104 ?_
            refine lv_iload_n hx hb dX12_comes_107 rfl (lv_at hl 1 rfl) ?_
            obtain ⟨b_28, h⟩ := ck h
            refine mald (i := 9) (N := 51) C0 hK hP (by decide) (by decide) rfl b_28 dX12_comes_108 ?_
            refine lv_aload_n hx hb dX12_comes_109 rfl (lv_at hl 0 rfl) ?_
            refine gX12_24 C0 hK hP tw966 dX12_comes_110 ?_
            refine lv_iload_n hx hb dX12_comes_113 rfl (lv_at hl 1 rfl) ?_
            obtain ⟨b_29, h⟩ := ck h
            refine mald (i := 10) (N := 51) C0 hK hP (by decide) (by decide) rfl b_29 dX12_comes_114 ?_
            refine lv_aload_n hx hb dX12_comes_115 rfl (lv_at hl 0 rfl) ?_
            refine gX12_25 C0 hK hP tw967 dX12_comes_116 ?_
            refine lv_iload_n hx hb dX12_comes_119 rfl (lv_at hl 1 rfl) ?_
            obtain ⟨b_30, h⟩ := ck h
            refine mald (i := 11) (N := 51) C0 hK hP (by decide) (by decide) rfl b_30 dX12_comes_120 ?_
            obtain ⟨y_31, ey_31, h⟩ := bnd_e h
            rw [← ey_31]
            obtain ⟨y_32, ey_32, h⟩ := bnd_e h
            rw [← ey_32]
            obtain ⟨y_33, ey_33, h⟩ := bnd_e h
            rw [← ey_33]
            obtain ⟨r_35, h_34, h⟩ := b1_e h
            refine xcall (rV C0 hK hP hl.1 (fun _ _ _ => trivial) Bt_b (c_X12_mayBe hI h_34) cv_X12_mayBe tw1132 (rcX12 hK hP) (rest := []) rfl (Nat.le_of_ble_eq_true rfl) ⟨rfl, rfl, Nat.le_of_ble_eq_true rfl, Nat.le_of_ble_eq_true rfl⟩ ⟨Nat.zero_le _, Nat.zero_le _⟩ dX12_comes_121) hS (fun H locs hP hS => ?_)
            refine lv_if_eq (tgt := 131) hx hb dX12_comes_124 (by decide) (fun c_36 => ?_) (fun c_36 => ?_)
            · have h := it c_36 h
              exact hJ131 σ _ _ ls h hP hS (lv_sub hl [0, 1] rfl)
            · have h := ie c_36 h
              refine lv_iconst (v := 1) hx hb dX12_comes_127 (by decide) ?_
              refine lv_goto (tgt := 132) hx hb dX12_comes_128 (by decide) ?_
              exact hJ132 1 σ _ _ ls h hP hS (lv_sub hl [0, 1] rfl)
      · have h := it c_6 h
        refine lv_aload_n hx hb dX12_comes_51 rfl (lv_at hl 0 rfl) ?_
        refine lv_aload_n hx hb dX12_comes_52 rfl (lv_at hl 0 rfl) ?_
        refine gX12_23 C0 hK hP tw965 dX12_comes_53 ?_
        refine lv_iload_n hx hb dX12_comes_56 rfl (lv_at hl 1 rfl) ?_
        obtain ⟨b_37, h⟩ := ck h
        refine mald (i := 9) (N := 51) C0 hK hP (by decide) (by decide) rfl b_37 dX12_comes_57 ?_
        obtain ⟨y_38, ey_38, h⟩ := bnd_e h
        refine nm_i ey_38 ?_
        obtain ⟨σ_39, eσ_39, h⟩ := bnd_e h
        refine pX12_4 C0 hK hP tw946 hI hS dX12_comes_58 (fun H locs hP hS => ?_)
        rw [← eσ_39] at hP
        refine lv_aload_n hx hb dX12_comes_61 rfl (lv_at hl 0 rfl) ?_
        refine gX12_23 C0 hK hP tw965 dX12_comes_62 ?_
        refine lv_iload_n hx hb dX12_comes_65 rfl (lv_at hl 1 rfl) ?_
        obtain ⟨b_40, h⟩ := ck h
        refine mald (i := 9) (N := 51) C0 hK hP (by decide) (by decide) rfl b_40 dX12_comes_66 ?_
        refine lv_bipush (v := 30) hx hb dX12_comes_67 (by decide) ?_
        refine lv_icmp_gt (tgt := 76) hx hb dX12_comes_69 (by decide) (fun c_41 => ?_) (fun c_41 => ?_)
        · have h := it c_41 h
          refine lv_iconst (v := 0) hx hb dX12_comes_76 (by decide) ?_
          rw [hQ]
          exact xzret C0 hP hS rfl h dX12_comes_77
        · have h := ie c_41 h
          refine lv_iconst (v := 1) hx hb dX12_comes_72 (by decide) ?_
          refine lv_goto (tgt := 77) hx hb dX12_comes_73 (by decide) ?_
          rw [hQ]
          exact xzret C0 hP hS rfl h dX12_comes_77
    · have h := it c_4 h
      refine lv_aload_n hx hb dX12_comes_28 rfl (lv_at hl 0 rfl) ?_
      refine lv_aload_n hx hb dX12_comes_29 rfl (lv_at hl 0 rfl) ?_
      refine gX12_23 C0 hK hP tw965 dX12_comes_30 ?_
      refine lv_iload_n hx hb dX12_comes_33 rfl (lv_at hl 1 rfl) ?_
      obtain ⟨b_42, h⟩ := ck h
      refine mald (i := 9) (N := 51) C0 hK hP (by decide) (by decide) rfl b_42 dX12_comes_34 ?_
      obtain ⟨y_43, ey_43, h⟩ := bnd_e h
      refine nm_i ey_43 ?_
      obtain ⟨σ_44, eσ_44, h⟩ := bnd_e h
      refine pX12_3 C0 hK hP tw945 hI hS dX12_comes_35 (fun H locs hP hS => ?_)
      rw [← eσ_44] at hP
      refine lv_iconst (v := 1) hx hb dX12_comes_38 (by decide) ?_
      rw [hQ]
      exact xzret C0 hP hS rfl h dX12_comes_39
  · have h := it c_2 h
    refine lv_aload_n hx hb dX12_comes_11 rfl (lv_at hl 0 rfl) ?_
    refine lv_iload_n hx hb dX12_comes_12 rfl (lv_at hl 1 rfl) ?_
    obtain ⟨r_46, σ_47, h_45, h⟩ := b2_e h
    refine xcall (rV C0 hK hP hl.1 (fun _ _ _ => trivial) Bt_b (c_X12_ringComes hI h_45) cv_X12_ringComes tw1124 (rcX12 hK hP) (rest := []) rfl (Nat.le_of_ble_eq_true rfl) ⟨rfl, rfl, Nat.le_of_ble_eq_true rfl, Nat.le_of_ble_eq_true rfl⟩ ⟨Nat.zero_le _, Nat.zero_le _⟩ dX12_comes_13) hS (fun H locs hP hS => ?_)
    obtain ⟨b_48, h⟩ := asr h
    rw [hQ]
    exact xzret C0 hP hS (by rcases b_48 with hz | hz <;> rw [hz] <;> rfl) h dX12_comes_16
