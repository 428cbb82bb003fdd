/-! OUR OWN LAYER: one world for each system (its cells by their number, at addresses a i), methods by what they compute (f_ = the method's own text, read as a function of the memory). -/
def TBL : List Cond := lw_tbl.filter goodWord
theorem tb_of {w : Cond} (i : Nat) (h : lw_tbl[i]? = some w) (hg : goodWord w = true) : w ∈ TBL := List.mem_filter.mpr ⟨List.mem_of_getElem? h, hg⟩
theorem tb_all {ws : List Cond} (is : List Nat) (h : is.filterMap (fun i => lw_tbl[i]?) = ws) (hg : ws.all goodWord = true) : ∀ w ∈ ws, w ∈ TBL := by
  intro w hw
  have h1 := List.all_eq_true.mp hg w hw
  rw [← h] at hw
  obtain ⟨i, -, hi⟩ := List.mem_filterMap.mp hw
  exact tb_of i hi h1
theorem tbl_good {w : Cond} (h : w ∈ TBL) : (w.onTables && w.keeps) = true ∨ ∃ ty, w = .arrayClass ty := good_of_word (List.mem_filter.mp h).2
theorem tb_ga {c : Cond} (h : c ∈ TBL) : GoodIn TBL (c :: TBL) := by
  intro w hw
  rcases List.mem_cons.mp hw with rfl | hw
  · exact ⟨h, tbl_good h⟩
  · exact ⟨hw, tbl_good hw⟩
theorem tb_gs {c : Cond} {ws : List Cond} (h : c ∈ TBL) (h2 : ∀ w ∈ ws, w ∈ TBL) : GoodIn TBL (ws ++ c :: TBL) := by
  intro w hw
  rcases List.mem_append.mp hw with hw | hw
  · exact ⟨h2 w hw, tbl_good (h2 w hw)⟩
  · exact tb_ga h w hw
def isN : Cond → Bool
  | .fieldLinkNest _ _ _ _ _ _ => true
  | .methodLinkNest _ _ _ _ => true
  | .castable _ _ => true
  | .declares _ => true
  | _ => false
def NST : List Cond := lw_tbl.filter isN
theorem ns_of {w : Cond} (i : Nat) (h : lw_tbl[i]? = some w) (hg : isN w = true) : w ∈ NST := List.mem_filter.mpr ⟨List.mem_of_getElem? h, hg⟩
def KX (D : va_G) (cl : List vw_C) (tys : List (ClassId × FieldType)) (U : State) : Prop := va_K D cl tys U ∧ ∀ w ∈ NST, va_Nw w U
theorem KX.warm {D : va_G} {cl : List vw_C} {tys : List (ClassId × FieldType)} {s U : State} (hW : s.WarmedH U.vm) (h : KX D cl tys s) : KX D cl tys U := ⟨va_K.moved hW.alike h.1, fun w hw => by
  have h2 := h.2 w hw
  have h3 := (List.mem_filter.mp hw).2
  cases w <;> first | exact va_Nw.warmF hW h2 | exact va_Nw.warmM hW h2 | exact va_Nw.warmC hW h2 | exact va_Nw.warmD hW h2 | cases h3⟩
theorem KX.same {D : va_G} {cl : List vw_C} {tys : List (ClassId × FieldType)} {u U : State} (hvm : u.vm = U.vm) (h : KX D cl tys u) : KX D cl tys U := ⟨va_K.moved (by rw [hvm]; exact Vm.Alike.refl _) h.1, fun w hw => by
  have h2 := h.2 w hw
  have h3 := (List.mem_filter.mp hw).2
  cases w <;> first | exact va_Nw.same rfl hvm h2 | cases h3⟩
-- the pure combinators of the f_ functions
def bnd {α β : Type} (x : α) (k : α → β) : β := k x
theorem bnd_e {α β : Type} {x : α} {k : α → Option β} {r : Option β} (h : bnd x k = r) : ∃ y, y = x ∧ k y = r := ⟨x, rfl, h⟩
def jn {α β : Type} (j : α) (k : α → β) : β := k j
theorem jn_e {α β : Type} {x : α} {k : α → Option β} {r : Option β} (h : jn x k = r) : ∃ y, y = x ∧ k y = r := ⟨x, rfl, h⟩
def b1 {α γ : Type} (x : Option α) (k : α → Option γ) : Option γ := match x with
  | none => none
  | some u => k u
def b2 {α β γ : Type} (x : Option (α × β)) (k : α → β → Option γ) : Option γ := match x with
  | none => none
  | some (u, v) => k u v
theorem b1_e {α γ : Type} {x : Option α} {k : α → Option γ} {r : γ} (h : b1 x k = some r) : ∃ u, x = some u ∧ k u = some r := by
  cases x with
  | none => cases h
  | some u => exact ⟨u, rfl, h⟩
theorem b2_e {α β γ : Type} {x : Option (α × β)} {k : α → β → Option γ} {r : γ} (h : b2 x k = some r) : ∃ u v, x = some (u, v) ∧ k u v = some r := by
  cases x with
  | none => cases h
  | some q => exact ⟨q.1, q.2, rfl, h⟩
theorem it {c : Prop} [Decidable c] {α : Type} {x y r : α} (hc : c) (h : (if c then x else y) = r) : x = r := by rw [if_pos hc] at h; exact h
theorem ie {c : Prop} [Decidable c] {α : Type} {x y r : α} (hc : ¬ c) (h : (if c then x else y) = r) : y = r := by rw [if_neg hc] at h; exact h
theorem ck {c : Prop} [Decidable c] {α : Type} {t : Option α} {r : α} (h : (if c then none else t) = some r) : ¬ c ∧ t = some r := by
  by_cases hc : c
  · rw [if_pos hc] at h; cases h
  · rw [if_neg hc] at h; exact ⟨hc, h⟩
theorem asr {c : Prop} [Decidable c] {α : Type} {t : Option α} {r : α} (h : (if c then t else none) = some r) : c ∧ t = some r := by
  by_cases hc : c
  · rw [if_pos hc] at h; exact ⟨hc, h⟩
  · rw [if_neg hc] at h; cases h
theorem ckb {i : Int32} {n : Nat} (h : ¬ (i < 0 ∨ n ≤ i.toNatClampNeg)) : i.toNatClampNeg < n := Nat.lt_of_not_le fun z => h (Or.inr z)
theorem ix_ok {i : Int32} {n : Nat} (h : ¬ (i < 0 ∨ n ≤ i.toNatClampNeg)) : vp_in i n := h
theorem lp_e {α γ : Type} {f : α → Option γ} {K : α} {r : γ} (h : f K = some r) : ∃ K' : α, K' = K ∧ f K' = some r := ⟨K, rfl, h⟩
theorem ap1 {A1 γ : Type} {K F : A1 → γ} {x1 : A1} {z : γ} (e : K = F) (h : K x1 = z) : F x1 = z := e ▸ h
theorem ap2 {A1 A2 γ : Type} {K F : A1 → A2 → γ} {x1 : A1} {x2 : A2} {z : γ} (e : K = F) (h : K x1 x2 = z) : F x1 x2 = z := e ▸ h
theorem ap3 {A1 A2 A3 γ : Type} {K F : A1 → A2 → A3 → γ} {x1 : A1} {x2 : A2} {x3 : A3} {z : γ} (e : K = F) (h : K x1 x2 x3 = z) : F x1 x2 x3 = z := e ▸ h
theorem ap4 {A1 A2 A3 A4 γ : Type} {K F : A1 → A2 → A3 → A4 → γ} {x1 : A1} {x2 : A2} {x3 : A3} {x4 : A4} {z : γ} (e : K = F) (h : K x1 x2 x3 x4 = z) : F x1 x2 x3 x4 = z := e ▸ h
theorem ap5 {A1 A2 A3 A4 A5 γ : Type} {K F : A1 → A2 → A3 → A4 → A5 → γ} {x1 : A1} {x2 : A2} {x3 : A3} {x4 : A4} {x5 : A5} {z : γ} (e : K = F) (h : K x1 x2 x3 x4 x5 = z) : F x1 x2 x3 x4 x5 = z := e ▸ h
theorem ap6 {A1 A2 A3 A4 A5 A6 γ : Type} {K F : A1 → A2 → A3 → A4 → A5 → A6 → γ} {x1 : A1} {x2 : A2} {x3 : A3} {x4 : A4} {x5 : A5} {x6 : A6} {z : γ} (e : K = F) (h : K x1 x2 x3 x4 x5 x6 = z) : F x1 x2 x3 x4 x5 x6 = z := e ▸ h
theorem sw_ne {x v : Int32} {k : Int} (hv : v.toInt = k) (h : ¬ x = v) : x.toInt ≠ k := fun e => h (Int32.toInt_inj.mp (e.trans hv.symm))
-- worlds
abbrev Row : Type := Nat → Int32
abbrev Mem : Type := Nat → Nat → Int32
def upR {ρ : Type} (σ : Nat → ρ) (i : Nat) (r : ρ) : Nat → ρ := fun j => if j = i then r else σ j
def wd {ρ : Type} (n : Nat) (a : Nat → Nat) (sh : Nat → ρ → va_E) (σ : Nat → ρ) : va_W := (List.range n).map fun i => (a i, sh i (σ i))
theorem wd_at {ρ : Type} {n : Nat} {a : Nat → Nat} {sh : Nat → ρ → va_E} {σ : Nat → ρ} {i : Nat} (h : i < n) : (wd n a sh σ)[i]? = some (a i, sh i (σ i)) := by
  simp [wd, h]
theorem wd_is {ρ : Type} {n : Nat} {a : Nat → Nat} {sh : Nat → ρ → va_E} {σ : Nat → ρ} {i : Nat} {q : Nat × va_E} (h : (wd n a sh σ)[i]? = some q) : i < n ∧ q = (a i, sh i (σ i)) := by
  have hl : i < n := by
    have := (List.getElem?_eq_some_iff.mp h).1
    simpa [wd] using this
  rw [wd_at hl] at h
  cases h
  exact ⟨hl, rfl⟩
theorem wd_set {ρ : Type} {n : Nat} {a : Nat → Nat} {sh : Nat → ρ → va_E} {σ : Nat → ρ} {i : Nat} (h : i < n) (r : ρ) : (wd n a sh σ).set i (a i, sh i r) = wd n a sh (upR σ i r) := by
  apply List.ext_getElem?
  intro j
  by_cases hj : i = j
  · subst hj
    rw [List.getElem?_set_self (by simpa [wd] using h), wd_at h]
    simp [upR]
  · rw [List.getElem?_set_ne hj]
    by_cases hl : j < n
    · rw [wd_at hl, wd_at hl]
      simp [upR, Ne.symm hj]
    · rw [List.getElem?_eq_none (by simpa [wd] using hl), List.getElem?_eq_none (by simpa [wd] using hl)]
def InjN (n : Nat) (a : Nat → Nat) : Prop := ∀ i j, i < n → j < n → a i = a j → i = j
def AW (n : Nat) (a : Nat → Nat) : Nat → Prop := fun q => ∃ i, i < n ∧ q = a i
theorem wd_D {ρ : Type} {n : Nat} {a : Nat → Nat} {sh : Nat → ρ → va_E} {σ : Nat → ρ} (hI : InjN n a) : va_D (AW n a) (wd n a sh σ) := by
  refine ⟨fun i j p q hi hj hpq => ?_, fun k q hk => ?_⟩
  · obtain ⟨h1, rfl⟩ := wd_is hi
    obtain ⟨h2, rfl⟩ := wd_is hj
    exact hI i j h1 h2 hpq
  · obtain ⟨h1, rfl⟩ := wd_is hk
    exact ⟨k, h1, rfl⟩
-- contracts
def Cx (p : Program) (s : State) (m : MethodId) (args : Array Value) (meth : Method) (c : Code) (own : String) (cc : ByteArray) (nL : Nat) (ret : Option FieldType) : Prop :=
  p.tables.exec = Jvm.exec ∧ c.code = cc ∧ c.maxLocals = nL ∧ s.vm.findClass own = some m.cls ∧ (∀ w ∈ TBL, w.before args s = true) ∧ meth.sig.returnType = ret ∧ meth.locks = false
def Blind (B : State → Prop) : Prop := ∀ (U : State) (g : JFrame) (mk : MethodId) (a : Array Value), B U → B (U.calling g mk a)
def Bt : State → Prop := fun _ => True
theorem Bt_b : Blind Bt := fun _ _ _ _ _ => trivial
def XP (D : va_G) (cl : List vw_C) (tys : List (ClassId × FieldType)) (B : State → Prop) (ws : va_W) (av : List Value) : Array Value → State → Prop := va_Pc av (fun U => va_P D cl ws U.heap ∧ KX D cl tys U ∧ B U)
def XQ (D : va_G) (cl : List vw_C) (A : Nat → Prop) (ws : va_W) (o : Option Value) : Array Value → State → Outcome → State → Prop := fun _ st oc t => oc = .returned o ∧ va_P D cl ws t.heap ∧ va_F A st t
def XM (l : Launch) (D : va_G) (cl : List vw_C) (tys : List (ClassId × FieldType)) (A : Nat → Prop) (B : State → Prop) (y : MethodName) (cc : ByteArray) (maxL : Nat) (ret : Option FieldType) (rm : Room) (av : List Value) (ws : va_W) (o : Option Value) (ws' : va_W) : Prop := Met l y (.code y cc maxL ret :: TBL) rm (XP D cl tys B ws av) (XQ D cl A ws' o) 0 0 A
theorem XP.blind {D : va_G} {cl : List vw_C} {tys : List (ClassId × FieldType)} {B : State → Prop} {ws : va_W} {av : List Value} (hB : Blind B) : FrameBlind (XP D cl tys B ws av) := fun a U g mk q => by
  obtain ⟨q0, q1, q2, q3⟩ := q
  exact ⟨q0, q1, KX.same (u := U) (U := U.calling g mk a) rfl q2, hB _ _ _ _ q3⟩
section XMO
variable {l : Launch} {D : va_G} {cl : List vw_C} {tys : List (ClassId × FieldType)} {A : Nat → Prop} {B : State → Prop} {y : MethodName} {cc : ByteArray} {maxL : Nat} {ret : Option FieldType} {rm : Room} {av : List Value} {ws ws' : va_W} {o : Option Value}
theorem XM.of (hy : plainName y.cls = true) (hn : (lg_sl av).length ≤ maxL)
    (body : ∀ (p : Program) (e : Env) (s : State) (m : MethodId) (args : Array Value) (below : List Frame) (meth : Method) (c : Code) (ls : Array Slot) (Q : State → Prop), Q = MQ below (XQ D cl A ws' o) args s 0 0 A → Cx p s m args meth c y.cls cc maxL ret → KX D cl tys s → B s → va_P D cl ws s.heap → va_S A s.heap s.heap [] → lv_has ls maxL (lv_args 0 av) →
      W p l e rm s m args below meth c s.heap [] 0 0 Q (F0 m 0 ls [])) : XM l D cl tys A B y cc maxL ret rm av ws o ws' := by
  refine Met.ofW (cc := cc) (maxL := maxL) (ret := ret) hy rfl ?_
  intro p e s m args below meth c s₁ B0 hml hv
  obtain ⟨rfl, hP, hK, hB⟩ := hv
  have hts := atoms_spec (ws := .code y cc maxL ret :: TBL) B0.pre
  have hown : s.vm.findClass y.cls = some m.cls := findClass_of_methodNamed B0.named
  rw [lg_entry_eq]
  exact body p e s m _ below meth c _ _ rfl ⟨B0.exec, B0.bytes, hml, hown, fun w hw => hts w (List.mem_cons_of_mem _ hw), B0.returns, B0.notSynchronized⟩ hK hB hP va_S.rf (lv_entry av hn)
end XMO
section XR
variable {p : Program} {l : Launch} {e : Env} {R : Room} {s : State} {m : MethodId} {args : Array Value} {below : List Frame} {meth : Method} {c : Code} {H H0 : Heap} {locs : List Loc} {cells slots : Nat} {Q : State → Prop}
variable {D : va_G} {cl : List vw_C} {tys : List (ClassId × FieldType)} {A : Nat → Prop} {B : State → Prop} {ws ws' : va_W} {own : String} {cc cc2 : ByteArray} {nL nL2 idx pc : Nat} {ret ret2 : Option FieldType} {ls : Array Slot} {rest st0 As : List Value} {b : Nat} {y : MethodName} {rm : Room} {o : Option Value} {aa : Array Value}
theorem nm_top {v w : Value} (h : v = w) (k : W p l e R s m args below meth c H locs cells slots Q (F0 m pc ls (v :: rest))) : W p l e R s m args below meth c H locs cells slots Q (F0 m pc ls (w :: rest)) := h ▸ k
theorem nm_i {x z : Int32} (h : x = z) (k : W p l e R s m args below meth c H locs cells slots Q (F0 m pc ls (.int x :: rest))) : W p l e R s m args below meth c H locs cells slots Q (F0 m pc ls (.int z :: rest)) := h ▸ k
theorem nm_l {x z : Int64} (h : x = z) (k : W p l e R s m args below meth c H locs cells slots Q (F0 m pc ls (.long x :: rest))) : W p l e R s m args below meth c H locs cells slots Q (F0 m pc ls (.long z :: rest)) := h ▸ k
theorem xcall (hr : va_Run p l e R s m args below meth c H locs cells slots 0 0 (F0 m pc ls st0) rest (XQ D cl A ws' o aa) A) (hS : va_S A H0 H locs)
    (kk : ∀ (H1 : Heap) (locs1 : List Loc), va_P D cl ws' H1 → va_S A H0 H1 locs1 → W p l e R s m args below meth c H1 locs1 cells slots Q (F0 m (pc + 3) ls (o.toList ++ rest))) : W p l e R s m args below meth c H locs cells slots Q (F0 m pc ls st0) := by
  intro T hT X
  obtain ⟨v, st₀, t, T', L, h0, X', hL, e1, e2, ⟨hv, hP', hz, hk⟩, st⟩ := hr T hT X
  cases hv
  rw [h0] at hz hk
  obtain ⟨t2, a1, b1⟩ := kk T'.heap (locs ++ L) (by rw [e1]; exact hP') ⟨Nat.le_trans hS.1 (by rw [e1]; exact hz), fun q h1 h2 => by rw [e1, hk q (Nat.lt_of_lt_of_le h1 hS.1) h2]; exact hS.2.1 q h1 h2, fun q hq => by
      rcases List.mem_append.mp hq with h | h
      · exact hS.2.2 q h
      · exact hL q h⟩ T' rfl X'
  exact ⟨t2, st t2 a1, b1⟩
/-- what the tables say of a callee -/
def CV (y : MethodName) (cc : ByteArray) (maxL : Nat) (ret : Option FieldType) (n : Nat) : Prop :=
  Cond.instanceMethod y ∈ TBL ∧ Cond.selects y.cls y y ∈ TBL ∧ Cond.initialized y.cls ∈ TBL ∧ Cond.code y cc maxL ret ∈ TBL ∧ y.cls ≠ "java/lang/invoke/MethodHandle" ∧ y.cls ≠ "java/lang/invoke/VarHandle" ∧ (parseMethodDescriptor y.desc).map (fun d => d.parameters.length) = some n
def CS (y : MethodName) (cc : ByteArray) (maxL : Nat) (ret : Option FieldType) (n : Nat) : Prop :=
  Cond.static y ∈ TBL ∧ Cond.initialized y.cls ∈ TBL ∧ Cond.code y cc maxL ret ∈ TBL ∧ y.cls ≠ "java/lang/invoke/MethodHandle" ∧ y.cls ≠ "java/lang/invoke/VarHandle" ∧ (parseMethodDescriptor y.desc).map (fun d => d.parameters.length) = some n
/-- room for a callee -/
def RMok (R rm : Room) (nL2 : Nat) : Prop := rm.cells = 0 ∧ rm.slots = 0 ∧ rm.frames + 1 ≤ R.frames ∧ 8 + (nL2 + 11) + rm.locals ≤ R.locals
theorem rV (C0 : Cx p s m args meth c own cc nL ret) (hK : KX D cl tys s) (hP : va_P D cl ws H) (hn : ls.size = nL) (hBs : ∀ U : State, U.heap = H → s.WarmedH U.vm → B U) (hB : Blind B) (hM : XM l D cl tys A B y cc2 nL2 ret2 rm (.ref b :: As) ws o ws') (cv : CV y cc2 nL2 ret2 As.length) (hlink : Cond.methodLink own idx y ∈ TBL)
    (hrec : ∃ cell : Cell, H[b]? = some cell ∧ cell.vm.isStatics = false ∧ s.vm.findClass y.cls = some cell.cls) (hst : st0 = As.reverse ++ .ref b :: rest) (hcat : (rest.map fun v => v.category).sum ≤ 8) (hrm : RMok R rm nL2) (hcs : cells ≤ R.cells ∧ slots ≤ R.slots) (hdg : decode cc pc = .ok (.invokevirtual idx, 3)) :
    va_Run p l e R s m args below meth c H locs cells slots 0 0 (F0 m pc ls st0) rest (XQ D cl A ws' o (Value.ref b :: As).toArray) A := by
  obtain ⟨hx, hb, hml, hown, hts, -⟩ := C0
  obtain ⟨w1, w2, w3, w4, w5⟩ := cv
  exact va_runV (As := As) (rest := rest) ⟨hx, hb, hml, hown, hts⟩ hM
    (cwV As.length hts (tb_gs (ws := [.methodLink own idx y, .instanceMethod y, .selects y.cls y y, .initialized y.cls]) w4 (fun w hw => by
      simp only [List.mem_cons, List.not_mem_nil, or_false] at hw
      rcases hw with rfl | rfl | rfl | rfl <;> assumption)) rfl hrm.1 hrm.2.1 ⟨rfl, w5⟩ hrm.2.2)
    ⟨XP.blind hB, hrec, fun U hU hW => ⟨rfl, by rw [hU]; exact hP, KX.warm hW hK, hBs U hU hW⟩⟩ rfl rfl hn hst (lv_room hcat) hdg hcs
theorem rS (C0 : Cx p s m args meth c own cc nL ret) (hK : KX D cl tys s) (hP : va_P D cl ws H) (hn : ls.size = nL) (hBs : ∀ U : State, U.heap = H → s.WarmedH U.vm → B U) (hB : Blind B) (hM : XM l D cl tys A B y cc2 nL2 ret2 rm As ws o ws') (cv : CS y cc2 nL2 ret2 As.length) (hlink : Cond.methodLink own idx y ∈ TBL)
    (hst : st0 = As.reverse ++ rest) (hcat : (rest.map fun v => v.category).sum ≤ 8) (hrm : RMok R rm nL2) (hcs : cells ≤ R.cells ∧ slots ≤ R.slots) (hdg : decode cc pc = .ok (.invokestatic idx, 3)) :
    va_Run p l e R s m args below meth c H locs cells slots 0 0 (F0 m pc ls st0) rest (XQ D cl A ws' o As.toArray) A := by
  obtain ⟨hx, hb, hml, hown, hts, -⟩ := C0
  obtain ⟨w1, w3, w4, w5⟩ := cv
  exact va_runS (As := As) (rest := rest) ⟨hx, hb, hml, hown, hts⟩ hM
    (va_cwS As.length hts (tb_gs (ws := [.methodLink own idx y, .static y, .initialized y.cls]) w4 (fun w hw => by
      simp only [List.mem_cons, List.not_mem_nil, or_false] at hw
      rcases hw with rfl | rfl | rfl <;> assumption)) rfl hrm.1 hrm.2.1 w5 hrm.2.2)
    ⟨XP.blind hB, fun U hU hW => ⟨rfl, by rw [hU]; exact hP, KX.warm hW hK, hBs U hU hW⟩⟩ rfl rfl hn hst (lv_room hcat) hdg hcs
/-- a private static method of a nest mate -/
theorem rSN {host : String} (C0 : Cx p s m args meth c own cc nL ret) (hK : KX D cl tys s) (hP : va_P D cl ws H) (hn : ls.size = nL) (hBs : ∀ U : State, U.heap = H → s.WarmedH U.vm → B U) (hB : Blind B) (hM : XM l D cl tys A B y cc2 nL2 ret2 rm As ws o ws') (cv : CS y cc2 nL2 ret2 As.length) (hlink : Cond.methodLinkNest own idx y host ∈ NST)
    (hst : st0 = As.reverse ++ rest) (hcat : (rest.map fun v => v.category).sum ≤ 8) (hrm : RMok R rm nL2) (hcs : cells ≤ R.cells ∧ slots ≤ R.slots) (hdg : decode cc pc = .ok (.invokestatic idx, 3)) :
    va_Run p l e R s m args below meth c H locs cells slots 0 0 (F0 m pc ls st0) rest (XQ D cl A ws' o As.toArray) A := by
  obtain ⟨hx, hb, hml, hown, hts, -⟩ := C0
  obtain ⟨w1, w3, w4, w5⟩ := cv
  exact va_runSN (As := As) (rest := rest) ⟨hx, hb, hml, hown, hts⟩ hM
    ⟨va_cnB As.length hts (tb_ga w4) rfl hrm.1 hrm.2.1 (hK.2 _ hlink) (hts _ w3) w5 hrm.2.2, hts _ w1, trivial⟩
    ⟨XP.blind hB, fun U hU hW => ⟨rfl, by rw [hU]; exact hP, KX.warm hW hK, hBs U hU hW⟩⟩ rfl rfl hn hst (lv_room hcat) hdg hcs
/-- super.y(..) -/
theorem rSU {C : String} {cC : ClassId} (C0 : Cx p s m args meth c own cc nL ret) (hK : KX D cl tys s) (hP : va_P D cl ws H) (hn : ls.size = nL) (hBs : ∀ U : State, U.heap = H → s.WarmedH U.vm → B U) (hB : Blind B) (hM : XM l D cl tys A B y cc2 nL2 ret2 rm (.ref b :: As) ws o ws') (cv : Cond.instanceMethod y ∈ TBL ∧ Cond.initialized y.cls ∈ TBL ∧ Cond.code y cc2 nL2 ret2 ∈ TBL ∧ y.name ≠ "<init>" ∧ (parseMethodDescriptor y.desc).map (fun d => d.parameters.length) = some As.length) (hlink : Cond.methodLink own idx y ∈ TBL ∧ Cond.sameMethod y.cls y.cls y.name y.desc ∈ TBL ∧ Cond.superclass own y.cls ∈ TBL)
    (hat : ClassAt s C cC) (hrec : ∃ cell : Cell, H[b]? = some cell ∧ cell.vm.isStatics = false ∧ s.vm.findClass C = some cell.cls) (hst : st0 = As.reverse ++ .ref b :: rest) (hcat : (rest.map fun v => v.category).sum ≤ 8) (hrm : RMok R rm nL2) (hcs : cells ≤ R.cells ∧ slots ≤ R.slots) (hdg : decode cc pc = .ok (.invokespecial idx, 3)) :
    va_Run p l e R s m args below meth c H locs cells slots 0 0 (F0 m pc ls st0) rest (XQ D cl A ws' o (Value.ref b :: As).toArray) A := by
  obtain ⟨hx, hb, hml, hown, hts, -⟩ := C0
  obtain ⟨w1, w2, w3, w5⟩ := cv
  obtain ⟨k1, k2, k3⟩ := hlink
  exact va_runSU (As := As) (rest := rest) hat ⟨hx, hb, hml, hown, hts⟩ hM
    (va_cwSU As.length hts (tb_gs (ws := [.methodLink own idx y, .sameMethod y.cls y.cls y.name y.desc, .superclass own y.cls, .instanceMethod y, .initialized y.cls]) w3 (fun w hw => by
      simp only [List.mem_cons, List.not_mem_nil, or_false] at hw
      rcases hw with rfl | rfl | rfl | rfl | rfl <;> assumption)) rfl hrm.1 hrm.2.1 w5 hrm.2.2)
    ⟨XP.blind hB, hrec, fun U hU hW => ⟨rfl, by rw [hU]; exact hP, KX.warm hW hK, hBs U hU hW⟩⟩ rfl rfl hn hst (lv_room hcat) hdg hcs
/-- x.m(..) of a class C that runs y: an overriding method -/
theorem rO {C owner : String} {x : MethodName} {bb : ByteArray} {mm : Nat} {rr : Option FieldType} (C0 : Cx p s m args meth c own cc nL ret) (hK : KX D cl tys s) (hP : va_P D cl ws H) (hn : ls.size = nL) (hBs : ∀ U : State, U.heap = H → s.WarmedH U.vm → B U) (hB : Blind B) (hM : XM l D cl tys A B y cc2 nL2 ret2 rm (.ref b :: As) ws o ws')
    (cv : Cond.sameMethod x.cls owner x.name x.desc ∈ TBL ∧ Cond.instanceMethod ⟨owner, x.name, x.desc⟩ ∈ TBL ∧ Cond.selects C x y ∈ TBL ∧ Cond.instanceMethod y ∈ TBL ∧ Cond.initialized y.cls ∈ TBL ∧ Cond.code y cc2 nL2 ret2 ∈ TBL ∧ Cond.code ⟨owner, x.name, x.desc⟩ bb mm rr ∈ TBL ∧ owner ≠ "java/lang/invoke/MethodHandle" ∧ owner ≠ "java/lang/invoke/VarHandle" ∧ (parseMethodDescriptor x.desc).map (fun d => d.parameters.length) = some As.length) (hlink : Cond.methodLink own idx x ∈ TBL)
    (hrec : ∃ cell : Cell, H[b]? = some cell ∧ cell.vm.isStatics = false ∧ s.vm.findClass C = some cell.cls) (hst : st0 = As.reverse ++ .ref b :: rest) (hcat : (rest.map fun v => v.category).sum ≤ 8) (hrm : RMok R rm nL2) (hcs : cells ≤ R.cells ∧ slots ≤ R.slots) (hdg : decode cc pc = .ok (.invokevirtual idx, 3)) :
    va_Run p l e R s m args below meth c H locs cells slots 0 0 (F0 m pc ls st0) rest (XQ D cl A ws' o (Value.ref b :: As).toArray) A := by
  obtain ⟨hx, hb, hml, hown, hts, -⟩ := C0
  obtain ⟨w1, w2, w3, w4, w5, w6, w7, w8⟩ := cv
  exact va_runU (As := As) (rest := rest) ⟨hx, hb, hml, hown, hts⟩ hM
    (va_cwO As.length hts (tb_gs (ws := [.methodLink own idx x, .sameMethod x.cls owner x.name x.desc, .instanceMethod ⟨owner, x.name, x.desc⟩, .selects C x y, .instanceMethod y, .initialized y.cls]) w6 (fun w hw => by
      simp only [List.mem_cons, List.not_mem_nil, or_false] at hw
      rcases hw with rfl | rfl | rfl | rfl | rfl | rfl <;> assumption)) rfl hrm.1 hrm.2.1 w7 w8 hrm.2.2)
    ⟨XP.blind hB, hrec, fun U hU hW => ⟨rfl, by rw [hU]; exact hP, KX.warm hW hK, hBs U hU hW⟩⟩ rfl rfl hn hst (lv_room hcat) hdg hcs
-- returns
theorem xzret {ρ : Type} {n : Nat} {a : Nat → Nat} {sh : Nat → ρ → va_E} {σ σ' : Nat → ρ} {ty : FieldType} {v r : Int32} (C0 : Cx p s m args meth c own cc nL (some ty)) (hP : va_P D cl (wd n a sh σ) H) (hS : va_S A s.heap H locs) (hn : narrow ty (.int v) = .int v) (h : some (v, σ) = some (r, σ')) (hdg : decode cc pc = .ok (.ireturn, 1)) :
    W p l e R s m args below meth c H locs cells slots (MQ below (XQ D cl A (wd n a sh σ') (some (.int r))) args s cells slots A) (F0 m pc ls [.int v]) := by
  cases h
  obtain ⟨hx, hb, hml, hown, hts, hr, hlocks⟩ := C0
  exact W.zret hx hb hr hn (fun t ht hW => ⟨rfl, by rw [ht]; exact hP, hS.F ht⟩) hS.2.2 hdg hlocks
theorem xzretr {ρ : Type} {n : Nat} {a : Nat → Nat} {sh : Nat → ρ → va_E} {σ : Nat → ρ} {ty : FieldType} {v r : Int32} (C0 : Cx p s m args meth c own cc nL (some ty)) (hP : va_P D cl (wd n a sh σ) H) (hS : va_S A s.heap H locs) (hn : narrow ty (.int v) = .int v) (h : some v = some r) (hdg : decode cc pc = .ok (.ireturn, 1)) :
    W p l e R s m args below meth c H locs cells slots (MQ below (XQ D cl A (wd n a sh σ) (some (.int r))) args s cells slots A) (F0 m pc ls [.int v]) := by
  cases h
  exact xzret (σ' := σ) C0 hP hS hn rfl hdg
theorem xlretr {ρ : Type} {n : Nat} {a : Nat → Nat} {sh : Nat → ρ → va_E} {σ : Nat → ρ} {v r : Int64} (C0 : Cx p s m args meth c own cc nL (some .long)) (hP : va_P D cl (wd n a sh σ) H) (hS : va_S A s.heap H locs) (h : some v = some r) (hdg : decode cc pc = .ok (.lreturn, 1)) :
    W p l e R s m args below meth c H locs cells slots (MQ below (XQ D cl A (wd n a sh σ) (some (.long r))) args s cells slots A) (F0 m pc ls [.long v]) := by
  cases h
  obtain ⟨hx, hb, hml, hown, hts, hr, hlocks⟩ := C0
  exact W.lret hx hb hr (fun t ht hW => ⟨rfl, by rw [ht]; exact hP, hS.F ht⟩) hS.2.2 hdg hlocks
theorem xlret {ρ : Type} {n : Nat} {a : Nat → Nat} {sh : Nat → ρ → va_E} {σ σ' : Nat → ρ} {v r : Int64} (C0 : Cx p s m args meth c own cc nL (some .long)) (hP : va_P D cl (wd n a sh σ) H) (hS : va_S A s.heap H locs) (h : some (v, σ) = some (r, σ')) (hdg : decode cc pc = .ok (.lreturn, 1)) :
    W p l e R s m args below meth c H locs cells slots (MQ below (XQ D cl A (wd n a sh σ') (some (.long r))) args s cells slots A) (F0 m pc ls [.long v]) := by
  cases h
  obtain ⟨hx, hb, hml, hown, hts, hr, hlocks⟩ := C0
  exact W.lret hx hb hr (fun t ht hW => ⟨rfl, by rw [ht]; exact hP, hS.F ht⟩) hS.2.2 hdg hlocks
theorem xvret {ρ : Type} {n : Nat} {a : Nat → Nat} {sh : Nat → ρ → va_E} {σ σ' : Nat → ρ} (C0 : Cx p s m args meth c own cc nL none) (hP : va_P D cl (wd n a sh σ) H) (hS : va_S A s.heap H locs) (h : some σ = some σ') (hdg : decode cc pc = .ok (.return_, 1)) :
    W p l e R s m args below meth c H locs cells slots (MQ below (XQ D cl A (wd n a sh σ') none) args s cells slots A) (F0 m pc ls []) := by
  cases h
  obtain ⟨hx, hb, hml, hown, hts, hr, hlocks⟩ := C0
  exact W.vret hx hb hr (fun t ht hW => ⟨rfl, by rw [ht]; exact hP, hS.F ht⟩) hS.2.2 hdg hlocks
theorem xaretr {ρ : Type} {n : Nat} {a : Nat → Nat} {sh : Nat → ρ → va_E} {σ : Nat → ρ} {C : String} {k r : Nat} {ad : Nat → Nat} (C0 : Cx p s m args meth c own cc nL (some (.object C))) (hP : va_P D cl (wd n a sh σ) H) (hS : va_S A s.heap H locs) (h : some k = some r) (hdg : decode cc pc = .ok (.areturn, 1)) :
    W p l e R s m args below meth c H locs cells slots (MQ below (XQ D cl A (wd n a sh σ) (some (.ref (ad r)))) args s cells slots A) (F0 m pc ls [.ref (ad k)]) := by
  cases h
  obtain ⟨hx, hb, hml, hown, hts, hr, hlocks⟩ := C0
  exact W.aret hx hb hr (Or.inl ⟨C, rfl⟩) (Or.inr ⟨_, rfl⟩) (fun t ht hW => ⟨rfl, by rw [ht]; exact hP, hS.F ht⟩) hS.2.2 hdg hlocks
end XR
