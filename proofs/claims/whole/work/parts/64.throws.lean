/-! EXCEPTIONS: what throws, what it stands on -/
abbrev nISE : String := "java/lang/IllegalStateException"
abbrev nIAE : String := "java/lang/IllegalArgumentException"
abbrev nUOE : String := "java/lang/UnsupportedOperationException"
abbrev nmE : List String := ["java/lang/RuntimeException", "java/lang/Exception"]
theorem hat_of {D : va_G} {cl : List vw_C} {tys : List (ClassId × FieldType)} {s : State} {args : Array Value} {L : List Cond} (hts : ∀ w ∈ TBL, w.before args s = true) (hK : KX D cl tys s) (is : List Nat) (h : is.filterMap (fun i => lw_tbl[i]?) = L) (hg : L.all (fun w => goodWord w || isN w) = true) : ∀ w ∈ L, w.before args s = true := by
  intro w hw
  have h1 := List.all_eq_true.mp hg w hw
  rw [← h] at hw
  obtain ⟨i, -, hi⟩ := List.mem_filterMap.mp hw
  have hm := List.mem_of_getElem? hi
  simp only [Bool.or_eq_true] at h1
  rcases h1 with h1 | h1
  · exact hts w (List.mem_filter.mpr ⟨hm, h1⟩)
  · have h2 := hK.2 w (List.mem_filter.mpr ⟨hm, h1⟩)
    cases w <;> first | exact va_Nw.use rfl h2 | cases h1
theorem at_X3 : [78, 836, 845, 849, 852, 854, 837, 838, 90, 91, 839, 844, 850, 870, 826, 871, 828, 872, 830, 840, 842, 832, 866, 867, 869, 832, 917, 918, 919, 860, 818, 860, 861, 862, 863, 820, 863, 864, 865, 866, 822, 916, 907, 908, 909, 848, 910, 911, 912, 913, 835, 834, 914].filterMap (fun i => lw_tbl[i]?) = vx_atS RX3 11 nISE nmE := by decide +kernel
theorem ag_X3 : (vx_atS RX3 11 nISE nmE).all (fun w => goodWord w || isN w) = true := by decide +kernel
theorem ao_X3 : (Cond.classLink RX3 7 nISE :: Cond.initialized nISE :: vx_atS RX3 11 nISE nmE).all vx_ot = true := by decide +kernel
theorem at_X4 : [78, 836, 845, 849, 852, 854, 837, 838, 90, 91, 839, 844, 850, 870, 826, 871, 828, 872, 830, 840, 842, 832, 866, 867, 869, 832, 857, 858, 859, 860, 818, 860, 861, 862, 863, 820, 863, 864, 865, 866, 822, 856, 815, 816, 823, 824, 825, 827, 829, 831, 835, 834, 833].filterMap (fun i => lw_tbl[i]?) = vx_atS RX4 21 nUOE nmE := by decide +kernel
theorem ag_X4 : (vx_atS RX4 21 nUOE nmE).all (fun w => goodWord w || isN w) = true := by decide +kernel
theorem ao_X4 : (Cond.classLink RX4 17 nUOE :: Cond.initialized nUOE :: vx_atS RX4 21 nUOE nmE).all vx_ot = true := by decide +kernel
theorem at_X9 : [78, 836, 845, 849, 852, 854, 837, 838, 90, 91, 839, 844, 850, 870, 826, 871, 828, 872, 830, 840, 842, 832, 866, 867, 869, 832, 897, 898, 899, 860, 818, 860, 861, 862, 863, 820, 863, 864, 865, 866, 822, 896, 887, 888, 889, 847, 890, 891, 892, 893, 835, 834, 894].filterMap (fun i => lw_tbl[i]?) = vx_atS RX9 33 nIAE nmE := by decide +kernel
theorem ag_X9 : (vx_atS RX9 33 nIAE nmE).all (fun w => goodWord w || isN w) = true := by decide +kernel
theorem ao_X9 : (Cond.classLink RX9 29 nIAE :: Cond.initialized nIAE :: vx_atS RX9 33 nIAE nmE).all vx_ot = true := by decide +kernel
theorem at_X11a : [78, 836, 845, 849, 852, 854, 837, 838, 90, 91, 839, 844, 850, 870, 826, 871, 828, 872, 830, 840, 842, 832, 866, 867, 869, 832, 897, 898, 899, 860, 818, 860, 861, 862, 863, 820, 863, 864, 865, 866, 822, 932, 887, 888, 889, 847, 890, 891, 892, 893, 835, 834, 894].filterMap (fun i => lw_tbl[i]?) = vx_atS RX11 261 nIAE nmE := by decide +kernel
theorem ag_X11a : (vx_atS RX11 261 nIAE nmE).all (fun w => goodWord w || isN w) = true := by decide +kernel
theorem ao_X11a : (Cond.classLink RX11 257 nIAE :: Cond.initialized nIAE :: vx_atS RX11 261 nIAE nmE).all vx_ot = true := by decide +kernel
theorem at_X11s : [78, 836, 845, 849, 852, 854, 837, 838, 90, 91, 839, 844, 850, 870, 826, 871, 828, 872, 830, 840, 842, 832, 866, 867, 869, 832, 917, 918, 919, 860, 818, 860, 861, 862, 863, 820, 863, 864, 865, 866, 822, 934, 907, 908, 909, 848, 910, 911, 912, 913, 835, 834, 914].filterMap (fun i => lw_tbl[i]?) = vx_atS RX11 268 nISE nmE := by decide +kernel
theorem ag_X11s : (vx_atS RX11 268 nISE nmE).all (fun w => goodWord w || isN w) = true := by decide +kernel
theorem ao_X11s : (Cond.classLink RX11 264 nISE :: Cond.initialized nISE :: vx_atS RX11 268 nISE nmE).all vx_ot = true := by decide +kernel
theorem te82 : Cond.initialized nIAE ∈ TBL := tb_of 81 (by decide +kernel) rfl
theorem te83 : Cond.initialized nISE ∈ TBL := tb_of 82 (by decide +kernel) rfl
theorem te84 : Cond.initialized nUOE ∈ TBL := tb_of 83 (by decide +kernel) rfl
theorem te826 : Cond.classLink RX4 17 nUOE ∈ TBL := tb_of 814 (by decide +kernel) rfl
theorem te898 : Cond.classLink RX9 29 nIAE ∈ TBL := tb_of 886 (by decide +kernel) rfl
theorem te918 : Cond.classLink RX3 7 nISE ∈ TBL := tb_of 906 (by decide +kernel) rfl
theorem te814 : Cond.classLink RX11 285 nUOE ∈ TBL := tb_of 802 (by decide +kernel) rfl
theorem te815 : Cond.classLink RX11 257 nIAE ∈ TBL := tb_of 803 (by decide +kernel) rfl
theorem te816 : Cond.classLink RX11 264 nISE ∈ TBL := tb_of 804 (by decide +kernel) rfl
theorem te937 : Cond.classLink RL 13 nIAE ∈ TBL := tb_of 925 (by decide +kernel) rfl
theorem te938 : Cond.classLink RL 15 nISE ∈ TBL := tb_of 926 (by decide +kernel) rfl
theorem te828 : Cond.castable nUOE nUOE ∈ NST := ns_of 816 (by decide +kernel) rfl
theorem te900 : Cond.castable nIAE nIAE ∈ NST := ns_of 888 (by decide +kernel) rfl
theorem te920 : Cond.castable nISE nISE ∈ NST := ns_of 908 (by decide +kernel) rfl
theorem te817 : Cond.methodLink RX11 281 yX3_fail ∈ TBL := tb_of 805 (by decide +kernel) rfl
theorem te818 : Cond.instanceMethod yX3_fail ∈ TBL := tb_of 806 (by decide +kernel) rfl
theorem te819 : Cond.selects RX3 yX3_fail yX3_fail ∈ TBL := tb_of 807 (by decide +kernel) rfl
theorem te820 : Cond.sameMethod RX3 RX3 "fail" "(I)V" ∈ TBL := tb_of 808 (by decide +kernel) rfl
theorem te821 : Cond.selects RX1 yX3_fail yX3_fail ∈ TBL := tb_of 809 (by decide +kernel) rfl
theorem te822 : Cond.selects RX2 yX3_fail yX3_fail ∈ TBL := tb_of 810 (by decide +kernel) rfl
theorem te823 : Cond.selects RX4 yX3_fail yX4_fail ∈ TBL := tb_of 811 (by decide +kernel) rfl
theorem te893 : Cond.selects RX6 yX3_fail yX3_fail ∈ TBL := tb_of 881 (by decide +kernel) rfl
theorem te894 : Cond.selects RX7 yX3_fail yX3_fail ∈ TBL := tb_of 882 (by decide +kernel) rfl
theorem te895 : Cond.selects RX9 yX3_fail yX9_fail ∈ TBL := tb_of 883 (by decide +kernel) rfl
theorem te914 : Cond.selects RX10 yX3_fail yX10_fail ∈ TBL := tb_of 902 (by decide +kernel) rfl
theorem te824 : Cond.instanceMethod yX4_fail ∈ TBL := tb_of 812 (by decide +kernel) rfl
theorem te825 : Cond.code yX4_fail cX4_fail 2 none ∈ TBL := tb_of 813 (by decide +kernel) rfl
theorem te896 : Cond.instanceMethod yX9_fail ∈ TBL := tb_of 884 (by decide +kernel) rfl
theorem te897 : Cond.code yX9_fail cX9_fail 2 none ∈ TBL := tb_of 885 (by decide +kernel) rfl
theorem te915 : Cond.instanceMethod yX10_fail ∈ TBL := tb_of 903 (by decide +kernel) rfl
theorem te916 : Cond.code yX10_fail cX10_fail 2 none ∈ TBL := tb_of 904 (by decide +kernel) rfl
theorem te917 : Cond.code yX3_fail cX3_fail 2 none ∈ TBL := tb_of 905 (by decide +kernel) rfl
abbrev hT_toss : List (Nat × Nat × Nat × Nat) := [(34, 43, 44, 285), (34, 43, 58, 257), (34, 43, 66, 264)]
abbrev hT_el : List (Nat × Nat × Nat × Nat) := [(0, 9, 12, 13), (0, 9, 16, 15)]
theorem te811 : Cond.instanceMethod yX11_toss ∈ TBL := tb_of 799 (by decide +kernel) rfl
theorem te812 : Cond.selects RX11 yX11_toss yX11_toss ∈ TBL := tb_of 800 (by decide +kernel) rfl
theorem te813 : Cond.codeWith yX11_toss cX11_toss 7 (some .int) hT_toss ∈ TBL := tb_of 801 (by decide +kernel) rfl
theorem te810 : Cond.methodLink RL 152 yX11_toss ∈ TBL := tb_of 798 (by decide +kernel) rfl
theorem te934 : Cond.methodLink RL 134 yL_element ∈ TBL := tb_of 922 (by decide +kernel) rfl
theorem te935 : Cond.static yL_element ∈ TBL := tb_of 923 (by decide +kernel) rfl
theorem te936 : Cond.codeWith yL_element cL_element 5 (some .int) hT_el ∈ TBL := tb_of 924 (by decide +kernel) rfl
theorem te939 : Cond.methodLink RL 7 yX11_element ∈ TBL := tb_of 927 (by decide +kernel) rfl
theorem te940 : Cond.instanceMethod yX11_element ∈ TBL := tb_of 928 (by decide +kernel) rfl
theorem te941 : Cond.selects RX11 yX11_element yX11_element ∈ TBL := tb_of 929 (by decide +kernel) rfl
theorem te942 : Cond.code yX11_element cX11_element 4 (some .long) ∈ TBL := tb_of 930 (by decide +kernel) rfl
def ES (A : Nat → Prop) (adE : Nat → Nat) (U : State) : Prop := (vk_R RX3 9 "a pin has failed" (adE 0) U ∧ vk_R RX4 19 "a piece set in has failed" (adE 1) U ∧ vk_R RX9 31 "a turned dart has failed" (adE 2) U ∧ vk_R RX11 259 "no such shelf" (adE 3) U ∧ vk_R RX11 266 "no row" (adE 4) U ∧ vk_R RX11 269 "no such place" (adE 5) U) ∧ vx_Zq Bundle.tN "UNASSIGNED_STACK" Bundle.steD A U U.heap ∧ vx_Zq Bundle.tN "SUPPRESSED_SENTINEL" Bundle.listD A U U.heap ∧ va_Nc nISE nUOE U ∧ va_Nc nISE nIAE U ∧ va_Nc nIAE nUOE U
theorem ES_b {A : Nat → Prop} {adE : Nat → Nat} : Blind (ES A adE) := fun U g mk a h => ⟨⟨vk_R.same (u := U) rfl h.1.1, vk_R.same (u := U) rfl h.1.2.1, vk_R.same (u := U) rfl h.1.2.2.1, vk_R.same (u := U) rfl h.1.2.2.2.1, vk_R.same (u := U) rfl h.1.2.2.2.2.1, vk_R.same (u := U) rfl h.1.2.2.2.2.2⟩, vx_Zq.moved (u := U) (U := U.calling g mk a) (Vm.Alike.refl U.vm) h.2.1, vx_Zq.moved (u := U) (U := U.calling g mk a) (Vm.Alike.refl U.vm) h.2.2.1, va_Nc.moved (u := U) (U := U.calling g mk a) (Vm.Alike.refl U.vm) h.2.2.2.1, va_Nc.moved (u := U) (U := U.calling g mk a) (Vm.Alike.refl U.vm) h.2.2.2.2.1, va_Nc.moved (u := U) (U := U.calling g mk a) (Vm.Alike.refl U.vm) h.2.2.2.2.2⟩
theorem ES.at {A : Nat → Prop} {adE : Nat → Nat} {s : State} {H : Heap} {locs : List Loc} (h : ES A adE s) (hS : va_S A s.heap H locs) : ∀ U : State, U.heap = H → s.WarmedH U.vm → ES A adE U := fun U hU hW => by
  subst hU
  exact ⟨⟨vk_R.warm hW h.1.1, vk_R.warm hW h.1.2.1, vk_R.warm hW h.1.2.2.1, vk_R.warm hW h.1.2.2.2.1, vk_R.warm hW h.1.2.2.2.2.1, vk_R.warm hW h.1.2.2.2.2.2⟩, vx_Zq.moved hW.alike (h.2.1.kept hS.2.1), vx_Zq.moved hW.alike (h.2.2.1.kept hS.2.1), va_Nc.moved hW.alike h.2.2.2.1, va_Nc.moved hW.alike h.2.2.2.2.1, va_Nc.moved hW.alike h.2.2.2.2.2⟩
theorem ES.narrow {A B : Nat → Prop} {adE : Nat → Nat} {s : State} (h : ES A adE s) (hAB : ∀ q, B q → A q) : ES B adE s := ⟨h.1, vx_Zq.narrow h.2.1 hAB, vx_Zq.narrow h.2.2.1 hAB, h.2.2.2⟩
def XQp (φ : Prop) (D : va_G) (cl : List vw_C) (A : Nat → Prop) (ws : va_W) (o : Option Value) : Array Value → State → Outcome → State → Prop := fun _ st oc t => φ ∧ oc = .returned o ∧ va_P D cl ws t.heap ∧ va_F A st t
def XCp (ψ : String → Prop) (D : va_G) (cl : List vw_C) (A : Nat → Prop) (ws : va_W) : String → State → State → Prop := fun E st t => ψ E ∧ va_P D cl ws t.heap ∧ va_F A st t
section XE
variable {l : Launch} {D : va_G} {cl : List vw_C} {tys : List (ClassId × FieldType)} {A : Nat → Prop} {y : MethodName} {cc : ByteArray} {maxL : Nat} {ret : Option FieldType} {rm : Room} {av : List Value} {P0 : State → Prop} {Qc : Array Value → State → Outcome → State → Prop} {XC : String → State → State → Prop} {mc ms : Nat}
theorem XE.of (hy : plainName y.cls = true) (hn : (lg_sl av).length ≤ maxL)
    (body : ∀ (p : Program) (e : Env) (s : State) (m : MethodId) (args : Array Value) (below : List Frame) (meth : Method) (c : Code) (ls : Array Slot), Cx p s m args meth c y.cls cc maxL ret → (∀ x ∈ c.exceptionTable.toList, False) → P0 s → lv_has ls maxL (lv_args 0 av) →
      W p l e rm s m args below meth c s.heap [] 0 0 (vx_MQ below Qc XC args s mc ms A) (F0 m 0 ls [])) : vx_Met l y (.code y cc maxL ret :: TBL) rm (va_Pc av P0) Qc XC mc ms A := by
  refine vx_ofW (cc := cc) (maxL := maxL) (ret := ret) hy rfl ?_
  intro p e s m args below meth c s₁ B0 hml ht hv
  obtain ⟨rfl, hP⟩ := hv
  have hts := atoms_spec (ws := .code y cc maxL ret :: TBL) B0.pre
  have hown : s.vm.findClass y.cls = some m.cls := findClass_of_methodNamed B0.named
  rw [lg_entry_eq]
  exact body p e s m _ below meth c _ ⟨B0.exec, B0.bytes, hml, hown, fun w hw => hts w (List.mem_cons_of_mem _ hw), B0.returns, B0.notSynchronized⟩ ht hP (lv_entry av hn)
theorem XE.ofH {hh : List (Nat × Nat × Nat × Nat)} (hy : plainName y.cls = true) (hn : (lg_sl av).length ≤ maxL)
    (body : ∀ (p : Program) (e : Env) (s : State) (m : MethodId) (args : Array Value) (below : List Frame) (meth : Method) (c : Code) (ls : Array Slot), Cx p s m args meth c y.cls cc maxL ret → c.exceptionTable.toList = tableOf hh → P0 s → lv_has ls maxL (lv_args 0 av) →
      W p l e rm s m args below meth c s.heap [] 0 0 (vx_MQ below Qc XC args s mc ms A) (F0 m 0 ls [])) : vx_Met l y (.codeWith y cc maxL ret hh :: TBL) rm (va_Pc av P0) Qc XC mc ms A := by
  refine vx_ofWH (cc := cc) (maxL := maxL) (ret := ret) (hh := hh) hy rfl ?_
  intro p e s m args below meth c s₁ B0 hml hv
  obtain ⟨rfl, hP⟩ := hv
  have hts := atoms_spec (ws := .codeWith y cc maxL ret hh :: TBL) B0.pre
  have hown : s.vm.findClass y.cls = some m.cls := findClass_of_methodNamed B0.named
  have htab := vx_table (x := y) B0 (hts _ List.mem_cons_self)
  rw [lg_entry_eq]
  exact body p e s m _ below meth c _ ⟨B0.exec, B0.bytes, hml, hown, fun w hw => hts w (List.mem_cons_of_mem _ hw), B0.returns, B0.notSynchronized⟩ htab hP (lv_entry av hn)
end XE
section XER
variable {p : Program} {l : Launch} {e : Env} {R : Room} {s : State} {m : MethodId} {args : Array Value} {below : List Frame} {meth : Method} {c : Code} {H H0 : Heap} {locs : List Loc} {cells slots mc ms : Nat} {Q : State → Prop}
variable {D : va_G} {cl : List vw_C} {tys : List (ClassId × FieldType)} {A0 A1 : Nat → Prop} {ws ws' : va_W} {own : String} {cc cc2 : ByteArray} {nL nL2 idx pc : Nat} {ret ret2 : Option FieldType} {ls : Array Slot} {rest st0 As : List Value} {b : Nat} {y : MethodName} {rm : Room} {o : Option Value} {aa : Array Value} {Pc : Array Value → State → Prop} {Qc : Array Value → State → Outcome → State → Prop} {XC : String → State → State → Prop} {free : Addr → Prop}
theorem xcallG {φ : Prop} {ψ : String → Prop} (hr : vx_Run p l e R s m args below meth c H locs cells slots mc ms (F0 m pc ls st0) rest (XQp φ D cl A1 ws' o aa) (XCp ψ D cl A1 ws) A1) (hS : va_S A0 H0 H locs) (hA : ∀ q, A1 q → A0 q)
    (kx : ∀ (E : String) (ce : Cell) (q9 : Addr) (H1 : Heap) (locs1 : List Loc), ψ E → va_P D cl ws H1 → (∀ q : Nat, q < H.size → ¬ A1 q → H1[q]? = H[q]?) → va_S A0 H0 H1 locs1 → H1[q9]? = some ce → ce.vm = .none → s.vm.findClass E = some ce.cls → vx_W p l e R s m args below meth c H1 locs1 (cells + mc) (slots + ms) Q (F0 m pc ls rest) q9)
    (kk : ∀ (H1 : Heap) (locs1 : List Loc), φ → va_P D cl ws' H1 → (∀ q : Nat, q < H.size → ¬ A1 q → H1[q]? = H[q]?) → va_S A0 H0 H1 locs1 → W p l e R s m args below meth c H1 locs1 (cells + mc) (slots + ms) Q (F0 m (pc + 3) ls (o.toList ++ rest))) : W p l e R s m args below meth c H locs cells slots Q (F0 m pc ls st0) := by
  intro T hT X
  rcases hr T hT X with ⟨v, st₀, t, T', L, h0, X', hL, e1, e2, ⟨hφ, hv, hP', hF⟩, st⟩ | ⟨q, st₀, t, T', L, E, ce, h0, X', hL, e1, e2, ⟨hψ, hP', hF⟩, hce, hcv, hcl, st⟩
  · cases hv
    obtain ⟨k1, k2, k3⟩ := vx_keep h0 e1 hS (fun q _ h => hA q h) hA hL hF
    obtain ⟨t2, a1, b1⟩ := kk T'.heap (locs ++ L) hφ (by rw [e1]; exact hP') k2 k3 T' rfl X'
    exact ⟨t2, st t2 a1, b1⟩
  · obtain ⟨k1, k2, k3⟩ := vx_keep h0 e1 hS (fun q _ h => hA q h) hA hL hF
    obtain ⟨t2, a1, b1⟩ := kx E ce q T'.heap (locs ++ L) hψ (by rw [e1]; exact hP') k2 k3 (by rw [e1]; exact hce) hcv hcl T' rfl X'
    exact ⟨t2, st.trans a1, b1⟩
def RMe (R rm : Room) (nL2 mc ms : Nat) : Prop := rm.cells = mc ∧ rm.slots = ms ∧ rm.frames + 1 ≤ R.frames ∧ 8 + (nL2 + 11) + rm.locals ≤ R.locals
theorem rVE (C0 : Cx p s m args meth c own cc nL ret) (hn : ls.size = nL) (hBs : ∀ U : State, U.heap = H → s.WarmedH U.vm → Pc (Value.ref b :: As).toArray U) (hB : FrameBlind Pc) (hM : vx_Met l y (.code y cc2 nL2 ret2 :: TBL) rm Pc Qc XC mc ms free) (cv : CV y cc2 nL2 ret2 As.length) (hlink : Cond.methodLink own idx y ∈ TBL)
    (hrec : ∃ cell : Cell, H[b]? = some cell ∧ cell.vm.isStatics = false ∧ s.vm.findClass y.cls = some cell.cls) (hst : st0 = As.reverse ++ .ref b :: rest) (hcat : (rest.map fun v => v.category).sum ≤ 8) (hrm : RMe R rm nL2 mc ms) (hcs : cells + mc ≤ R.cells ∧ slots + ms ≤ R.slots) (hdg : decode cc pc = .ok (.invokevirtual idx, 3)) :
    vx_Run p l e R s m args below meth c H locs cells slots mc ms (F0 m pc ls st0) rest (Qc (Value.ref b :: As).toArray) XC free := by
  obtain ⟨hx, hb, hml, hown, hts, -⟩ := C0
  obtain ⟨w1, w2, w3, w4, w5⟩ := cv
  exact vx_runV (As := As) (rest := rest) ⟨hx, hb, hml, hown, hts⟩ hM
    (cwV As.length hts (tb_gs (ws := [.methodLink own idx y, .instanceMethod y, .selects y.cls y y, .initialized y.cls]) w4 (fun w hw => by
      simp only [List.mem_cons, List.not_mem_nil, or_false] at hw
      rcases hw with rfl | rfl | rfl | rfl <;> assumption)) rfl hrm.1 hrm.2.1 ⟨rfl, w5⟩ hrm.2.2)
    ⟨hB, hrec, hBs⟩ rfl rfl hn hst (lv_room hcat) hdg hcs
theorem rOE {C owner : String} {x : MethodName} {bb : ByteArray} {mm : Nat} {rr : Option FieldType} (C0 : Cx p s m args meth c own cc nL ret) (hn : ls.size = nL) (hBs : ∀ U : State, U.heap = H → s.WarmedH U.vm → Pc (Value.ref b :: As).toArray U) (hB : FrameBlind Pc) (hM : vx_Met l y (.code y cc2 nL2 ret2 :: TBL) rm Pc Qc XC mc ms free)
    (cv : Cond.sameMethod x.cls owner x.name x.desc ∈ TBL ∧ Cond.instanceMethod ⟨owner, x.name, x.desc⟩ ∈ TBL ∧ Cond.selects C x y ∈ TBL ∧ Cond.instanceMethod y ∈ TBL ∧ Cond.initialized y.cls ∈ TBL ∧ Cond.code y cc2 nL2 ret2 ∈ TBL ∧ Cond.code ⟨owner, x.name, x.desc⟩ bb mm rr ∈ TBL ∧ owner ≠ "java/lang/invoke/MethodHandle" ∧ owner ≠ "java/lang/invoke/VarHandle" ∧ (parseMethodDescriptor x.desc).map (fun d => d.parameters.length) = some As.length) (hlink : Cond.methodLink own idx x ∈ TBL)
    (hrec : ∃ cell : Cell, H[b]? = some cell ∧ cell.vm.isStatics = false ∧ s.vm.findClass C = some cell.cls) (hst : st0 = As.reverse ++ .ref b :: rest) (hcat : (rest.map fun v => v.category).sum ≤ 8) (hrm : RMe R rm nL2 mc ms) (hcs : cells + mc ≤ R.cells ∧ slots + ms ≤ R.slots) (hdg : decode cc pc = .ok (.invokevirtual idx, 3)) :
    vx_Run p l e R s m args below meth c H locs cells slots mc ms (F0 m pc ls st0) rest (Qc (Value.ref b :: As).toArray) XC free := by
  obtain ⟨hx, hb, hml, hown, hts, -⟩ := C0
  obtain ⟨w1, w2, w3, w4, w5, w6, w7, w8⟩ := cv
  exact vx_runU (As := As) (rest := rest) ⟨hx, hb, hml, hown, hts⟩ hM
    (va_cwO As.length hts (tb_gs (ws := [.methodLink own idx x, .sameMethod x.cls owner x.name x.desc, .instanceMethod ⟨owner, x.name, x.desc⟩, .selects C x y, .instanceMethod y, .initialized y.cls]) w6 (fun w hw => by
      simp only [List.mem_cons, List.not_mem_nil, or_false] at hw
      rcases hw with rfl | rfl | rfl | rfl | rfl | rfl <;> assumption)) rfl hrm.1 hrm.2.1 w7 w8 hrm.2.2)
    ⟨hB, hrec, hBs⟩ rfl rfl hn hst (lv_room hcat) hdg hcs
end XER
theorem ESP.blind {D : va_G} {ws : va_W} {tys : List (ClassId × FieldType)} {A : Nat → Prop} {adE : Nat → Nat} {av : List Value} : FrameBlind (XP D vwCl tys (ES A adE) ws av) := XP.blind ES_b
def rm_fail : Room := { frames := 6, cells := 1, slots := 6, locals := 90 }
theorem c_X3_fail {l : Launch} {D : va_G} {ca : Nat → ClassId} {a : Nat → Nat} {adE : Nat → Nat} {σ : Mem} {j0 : Nat} {p1 : Int32} (hst : l.stackTraces = false) : vx_Met l yX3_fail (.code yX3_fail cX3_fail 2 none :: TBL) rm_fail (XP D vwCl (tysE ca) (ES (AW 37 a) adE) (wX ca a σ) [.ref (a (27 + j0)), .int p1]) (XQp (p1 ≤ 0) D vwCl (AW 37 a) (wX ca a σ) none) (XCp (fun E => ¬ p1 ≤ 0 ∧ E = nISE) D vwCl (AW 37 a) (wX ca a σ)) 1 6 (AW 37 a) := by
  refine XE.of pn_X3 (Nat.le_of_ble_eq_true rfl) ?_
  intro p e s m args below meth c ls C0 htab hv hl
  obtain ⟨hP, hK, hB⟩ := hv
  have C0 : Cx p s m args meth c RX3 cX3_fail 2 none := C0
  have hx := C0.1
  have hb := C0.2.1
  have hl : lv_has ls 2 [(0, .ref (a (27 + j0))), (1, .int p1)] := hl
  refine lv_iload_n hx hb dX3_fail_0 rfl (lv_at hl 1 rfl) ?_
  refine lv_if_le (tgt := 14) hx hb dX3_fail_1 (by decide) (fun c1 => ?_) (fun c1 => ?_)
  · refine vx_ret (W.widen (k := 1) (n := 6) (Nat.zero_le _) (Nat.zero_le _) ?_)
    exact W.vret hx hb C0.2.2.2.2.2.1 (fun t ht hW => ⟨c1, rfl, by rw [ht]; exact hP, va_S.F va_S.rf ht⟩) (fun _ h => nomatch h) dX3_fail_14 C0.2.2.2.2.2.2
  · exact vx_throwS hx hb hst (own := RX3) (cls := nISE) (names := nmE) (A := AW 37 a) C0.2.2.2.1 (by decide +kernel) (by decide +kernel) (C0.2.2.2.2.1 _ te918) (C0.2.2.2.2.1 _ te83) hB.1.1 (hat_of C0.2.2.2.2.1 hK _ at_X3 ag_X3) (List.all_eq_true.mp ao_X3) hB.2.1 hB.2.2.1 va_S.rf (hl.1.trans C0.2.2.1.symm) dX3_fail_4 dX3_fail_7 dX3_fail_8 dX3_fail_10 dX3_fail_13 (fun x hx9 => (htab x hx9).elim) (by decide) (by decide) (by decide) (by decide) C0.2.2.2.2.2.2 (fun t _ h1 h2 => ⟨⟨c1, rfl⟩, hP.kept (fun k q hk => h2 _ (P_lt hP hk)), h1, fun q h3 _ => h2 q h3⟩) (fun _ h => nomatch h) (by decide) (by decide)
theorem c_X4_fail {l : Launch} {D : va_G} {ca : Nat → ClassId} {a : Nat → Nat} {adE : Nat → Nat} {σ : Mem} {j0 : Nat} {p1 : Int32} (hst : l.stackTraces = false) : vx_Met l yX4_fail (.code yX4_fail cX4_fail 2 none :: TBL) rm_fail (XP D vwCl (tysE ca) (ES (AW 37 a) adE) (wX ca a σ) [.ref (a (27 + j0)), .int p1]) (XQp (p1 ≤ 0) D vwCl (AW 37 a) (wX ca a σ) none) (XCp (fun E => ¬ p1 ≤ 0 ∧ E = nUOE) D vwCl (AW 37 a) (wX ca a σ)) 1 6 (AW 37 a) := by
  refine XE.of pn_X4 (Nat.le_of_ble_eq_true rfl) ?_
  intro p e s m args below meth c ls C0 htab hv hl
  obtain ⟨hP, hK, hB⟩ := hv
  have C0 : Cx p s m args meth c RX4 cX4_fail 2 none := C0
  have hx := C0.1
  have hb := C0.2.1
  have hl : lv_has ls 2 [(0, .ref (a (27 + j0))), (1, .int p1)] := hl
  refine lv_iload_n hx hb dX4_fail_0 rfl (lv_at hl 1 rfl) ?_
  refine lv_if_le (tgt := 14) hx hb dX4_fail_1 (by decide) (fun c1 => ?_) (fun c1 => ?_)
  · refine vx_ret (W.widen (k := 1) (n := 6) (Nat.zero_le _) (Nat.zero_le _) ?_)
    exact W.vret hx hb C0.2.2.2.2.2.1 (fun t ht hW => ⟨c1, rfl, by rw [ht]; exact hP, va_S.F va_S.rf ht⟩) (fun _ h => nomatch h) dX4_fail_14 C0.2.2.2.2.2.2
  · exact vx_throwS hx hb hst (own := RX4) (cls := nUOE) (names := nmE) (A := AW 37 a) C0.2.2.2.1 (by decide +kernel) (by decide +kernel) (C0.2.2.2.2.1 _ te826) (C0.2.2.2.2.1 _ te84) hB.1.2.1 (hat_of C0.2.2.2.2.1 hK _ at_X4 ag_X4) (List.all_eq_true.mp ao_X4) hB.2.1 hB.2.2.1 va_S.rf (hl.1.trans C0.2.2.1.symm) dX4_fail_4 dX4_fail_7 dX4_fail_8 dX4_fail_10 dX4_fail_13 (fun x hx9 => (htab x hx9).elim) (by decide) (by decide) (by decide) (by decide) C0.2.2.2.2.2.2 (fun t _ h1 h2 => ⟨⟨c1, rfl⟩, hP.kept (fun k q hk => h2 _ (P_lt hP hk)), h1, fun q h3 _ => h2 q h3⟩) (fun _ h => nomatch h) (by decide) (by decide)
theorem c_X9_fail {l : Launch} {D : va_G} {ca : Nat → ClassId} {a : Nat → Nat} {adE : Nat → Nat} {σ : Mem} {j0 : Nat} {p1 : Int32} (hst : l.stackTraces = false) : vx_Met l yX9_fail (.code yX9_fail cX9_fail 2 none :: TBL) rm_fail (XP D vwCl (tysE ca) (ES (AW 37 a) adE) (wX ca a σ) [.ref (a (27 + j0)), .int p1]) (XQp (p1 ≤ 0) D vwCl (AW 37 a) (wX ca a σ) none) (XCp (fun E => ¬ p1 ≤ 0 ∧ E = nIAE) D vwCl (AW 37 a) (wX ca a σ)) 1 6 (AW 37 a) := by
  refine XE.of pn_X9 (Nat.le_of_ble_eq_true rfl) ?_
  intro p e s m args below meth c ls C0 htab hv hl
  obtain ⟨hP, hK, hB⟩ := hv
  have C0 : Cx p s m args meth c RX9 cX9_fail 2 none := C0
  have hx := C0.1
  have hb := C0.2.1
  have hl : lv_has ls 2 [(0, .ref (a (27 + j0))), (1, .int p1)] := hl
  refine lv_iload_n hx hb dX9_fail_0 rfl (lv_at hl 1 rfl) ?_
  refine lv_if_le (tgt := 14) hx hb dX9_fail_1 (by decide) (fun c1 => ?_) (fun c1 => ?_)
  · refine vx_ret (W.widen (k := 1) (n := 6) (Nat.zero_le _) (Nat.zero_le _) ?_)
    exact W.vret hx hb C0.2.2.2.2.2.1 (fun t ht hW => ⟨c1, rfl, by rw [ht]; exact hP, va_S.F va_S.rf ht⟩) (fun _ h => nomatch h) dX9_fail_14 C0.2.2.2.2.2.2
  · exact vx_throwS hx hb hst (own := RX9) (cls := nIAE) (names := nmE) (A := AW 37 a) C0.2.2.2.1 (by decide +kernel) (by decide +kernel) (C0.2.2.2.2.1 _ te898) (C0.2.2.2.2.1 _ te82) hB.1.2.2.1 (hat_of C0.2.2.2.2.1 hK _ at_X9 ag_X9) (List.all_eq_true.mp ao_X9) hB.2.1 hB.2.2.1 va_S.rf (hl.1.trans C0.2.2.1.symm) dX9_fail_4 dX9_fail_7 dX9_fail_8 dX9_fail_10 dX9_fail_13 (fun x hx9 => (htab x hx9).elim) (by decide) (by decide) (by decide) (by decide) C0.2.2.2.2.2.2 (fun t _ h1 h2 => ⟨⟨c1, rfl⟩, hP.kept (fun k q hk => h2 _ (P_lt hP hk)), h1, fun q h3 _ => h2 q h3⟩) (fun _ h => nomatch h) (by decide) (by decide)
theorem c_X10_fail {l : Launch} {D : va_G} {ca : Nat → ClassId} {a : Nat → Nat} {adE : Nat → Nat} {σ : Mem} {j0 : Nat} {p1 : Int32} : vx_Met l yX10_fail (.code yX10_fail cX10_fail 2 none :: TBL) rm_fail (XP D vwCl (tysE ca) (ES (AW 37 a) adE) (wX ca a σ) [.ref (a (27 + j0)), .int p1]) (XQp True D vwCl (AW 37 a) (wX ca a σ) none) (XCp (fun _ => False) D vwCl (AW 37 a) (wX ca a σ)) 1 6 (AW 37 a) := by
  refine XE.of pn_X10 (Nat.le_of_ble_eq_true rfl) ?_
  intro p e s m args below meth c ls C0 htab hv hl
  obtain ⟨hP, hK, hB⟩ := hv
  have C0 : Cx p s m args meth c RX10 cX10_fail 2 none := C0
  have hx := C0.1
  have hb := C0.2.1
  refine vx_ret (W.widen (k := 1) (n := 6) (Nat.zero_le _) (Nat.zero_le _) ?_)
  exact W.vret hx hb C0.2.2.2.2.2.1 (fun t ht hW => ⟨trivial, rfl, by rw [ht]; exact hP, va_S.F va_S.rf ht⟩) (fun _ h => nomatch h) dX10_fail_0 C0.2.2.2.2.2.2
