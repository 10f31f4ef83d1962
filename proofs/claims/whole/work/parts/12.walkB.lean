theorem tw_0 : (Cond.selects "java/util/ArrayList" (⟨"java/util/ArrayList", "add", "(Ljava/lang/Object;[Ljava/lang/Object;I)V"⟩ : MethodName) (⟨"java/util/ArrayList", "add", "(Ljava/lang/Object;[Ljava/lang/Object;I)V"⟩ : MethodName)) ∈ gG := gmm 0 (by decide +kernel) (by decide +kernel)
theorem tw_1 : (Cond.selects "java/util/ArrayList" (⟨"java/util/ArrayList", "grow", "()[Ljava/lang/Object;"⟩ : MethodName) (⟨"java/util/ArrayList", "grow", "()[Ljava/lang/Object;"⟩ : MethodName)) ∈ gG := gmm 1 (by decide +kernel) (by decide +kernel)
theorem tw_2 : (Cond.selects "java/util/ArrayList" (⟨"java/util/ArrayList", "grow", "(I)[Ljava/lang/Object;"⟩ : MethodName) (⟨"java/util/ArrayList", "grow", "(I)[Ljava/lang/Object;"⟩ : MethodName)) ∈ gG := gmm 2 (by decide +kernel) (by decide +kernel)
theorem tw_30 : (Jvm.Cond.initialized "java/util/AbstractCollection") ∈ gG := gmm 30 (by decide +kernel) (by decide +kernel)
theorem tw_31 : (Jvm.Cond.initialized "java/util/AbstractList") ∈ gG := gmm 31 (by decide +kernel) (by decide +kernel)
theorem tw_32 : (Jvm.Cond.initialized "java/util/ArrayList") ∈ gG := gmm 32 (by decide +kernel) (by decide +kernel)
theorem tw_36 : (Jvm.Cond.initialized "jdk/internal/util/Preconditions") ∈ gG := gmm 36 (by decide +kernel) (by decide +kernel)
theorem tw_51 : (Jvm.Cond.initialized "java/util/Objects") ∈ gG := gmm 51 (by decide +kernel) (by decide +kernel)
theorem tw_61 : (Jvm.Cond.instanceMethod ({ cls := "java/lang/Object", name := "<init>", desc := "()V" } : Jvm.MethodName)) ∈ gG := gmm 61 (by decide +kernel) (by decide +kernel)
theorem tw_62 : (Jvm.Cond.code ({ cls := "java/lang/Object", name := "<init>", desc := "()V" } : Jvm.MethodName) object_method_1_code (1 : Nat) (Option.none : Option Jvm.ClassFile.FieldType)) ∈ gG := gmm 62 (by decide +kernel) (by decide +kernel)
theorem tw_85 : (Jvm.Cond.methodLink "java/util/ArrayList" (1 : Nat) ({ cls := "java/util/AbstractList", name := "<init>", desc := "()V" } : Jvm.MethodName)) ∈ gG := gmm 85 (by decide +kernel) (by decide +kernel)
theorem tw_86 : (Jvm.Cond.instanceMethod ({ cls := "java/util/AbstractList", name := "<init>", desc := "()V" } : Jvm.MethodName)) ∈ gG := gmm 86 (by decide +kernel) (by decide +kernel)
theorem tw_87 : (Jvm.Cond.code ({ cls := "java/util/AbstractList", name := "<init>", desc := "()V" } : Jvm.MethodName) prog_30_method_1_code (1 : Nat) (Option.none : Option Jvm.ClassFile.FieldType)) ∈ gG := gmm 87 (by decide +kernel) (by decide +kernel)
theorem tw_88 : (Jvm.Cond.methodLink "java/util/AbstractList" (1 : Nat) ({ cls := "java/util/AbstractCollection", name := "<init>", desc := "()V" } : Jvm.MethodName)) ∈ gG := gmm 88 (by decide +kernel) (by decide +kernel)
theorem tw_89 : (Jvm.Cond.instanceMethod ({ cls := "java/util/AbstractCollection", name := "<init>", desc := "()V" } : Jvm.MethodName)) ∈ gG := gmm 89 (by decide +kernel) (by decide +kernel)
theorem tw_90 : (Jvm.Cond.code ({ cls := "java/util/AbstractCollection", name := "<init>", desc := "()V" } : Jvm.MethodName) prog_29_method_1_code (1 : Nat) (Option.none : Option Jvm.ClassFile.FieldType)) ∈ gG := gmm 90 (by decide +kernel) (by decide +kernel)
theorem tw_91 : (Jvm.Cond.methodLink "java/util/AbstractCollection" (1 : Nat) ({ cls := "java/lang/Object", name := "<init>", desc := "()V" } : Jvm.MethodName)) ∈ gG := gmm 91 (by decide +kernel) (by decide +kernel)
theorem tw_92 : (Jvm.Cond.fieldLink "java/util/ArrayList" (39 : Nat) "java/util/ArrayList" "DEFAULTCAPACITY_EMPTY_ELEMENTDATA" "[Ljava/lang/Object;") ∈ gG := gmm 92 (by decide +kernel) (by decide +kernel)
theorem tw_94 : (Jvm.Cond.fieldLink "java/util/ArrayList" (9 : Nat) "java/util/ArrayList" "elementData" "[Ljava/lang/Object;") ∈ gG := gmm 94 (by decide +kernel) (by decide +kernel)
theorem tw_95 : (Jvm.Cond.fieldLink "java/util/ArrayList" (48 : Nat) "java/util/ArrayList" "size" "I") ∈ gG := gmm 95 (by decide +kernel) (by decide +kernel)
theorem tw_96 : (Jvm.Cond.fieldLink "java/util/AbstractList" (7 : Nat) "java/util/AbstractList" "modCount" "I") ∈ gG := gmm 96 (by decide +kernel) (by decide +kernel)
theorem tw_97 : (Jvm.Cond.fieldLink "java/util/ArrayList" (63 : Nat) "java/util/ArrayList" "modCount" "I") ∈ gG := gmm 97 (by decide +kernel) (by decide +kernel)
theorem tw_98 : (Jvm.Cond.sameField "java/util/ArrayList" "java/util/AbstractList" "modCount" "I") ∈ gG := gmm 98 (by decide +kernel) (by decide +kernel)
theorem tw_140 : (Jvm.Cond.static ({ cls := "jdk/internal/util/Preconditions", name := "checkIndex", desc := "(IILjava/util/function/BiFunction;)I" } : Jvm.MethodName)) ∈ gG := gmm 140 (by decide +kernel) (by decide +kernel)
theorem tw_141 : (Jvm.Cond.code ({ cls := "jdk/internal/util/Preconditions", name := "checkIndex", desc := "(IILjava/util/function/BiFunction;)I" } : Jvm.MethodName) prog_39_method_11_code (3 : Nat) (Option.some Jvm.ClassFile.FieldType.int)) ∈ gG := gmm 141 (by decide +kernel) (by decide +kernel)
theorem tw_199 : (Jvm.Cond.methodLink "java/util/ArrayList" (131 : Nat) ({ cls := "java/util/ArrayList", name := "add", desc := "(Ljava/lang/Object;[Ljava/lang/Object;I)V" } : Jvm.MethodName)) ∈ gG := gmm 199 (by decide +kernel) (by decide +kernel)
theorem tw_201 : (Jvm.Cond.instanceMethod ({ cls := "java/util/ArrayList", name := "add", desc := "(Ljava/lang/Object;[Ljava/lang/Object;I)V" } : Jvm.MethodName)) ∈ gG := gmm 201 (by decide +kernel) (by decide +kernel)
theorem tw_202 : (Jvm.Cond.code ({ cls := "java/util/ArrayList", name := "add", desc := "(Ljava/lang/Object;[Ljava/lang/Object;I)V" } : Jvm.MethodName) prog_31_method_24_code (4 : Nat) (Option.none : Option Jvm.ClassFile.FieldType)) ∈ gG := gmm 202 (by decide +kernel) (by decide +kernel)
theorem tw_203 : (Jvm.Cond.methodLink "java/util/ArrayList" (129 : Nat) ({ cls := "java/util/ArrayList", name := "grow", desc := "()[Ljava/lang/Object;" } : Jvm.MethodName)) ∈ gG := gmm 203 (by decide +kernel) (by decide +kernel)
theorem tw_205 : (Jvm.Cond.instanceMethod ({ cls := "java/util/ArrayList", name := "grow", desc := "()[Ljava/lang/Object;" } : Jvm.MethodName)) ∈ gG := gmm 205 (by decide +kernel) (by decide +kernel)
theorem tw_206 : (Jvm.Cond.code ({ cls := "java/util/ArrayList", name := "grow", desc := "()[Ljava/lang/Object;" } : Jvm.MethodName) prog_31_method_7_code (1 : Nat) (Option.some (Jvm.ClassFile.FieldType.array (Jvm.ClassFile.FieldType.object "java/lang/Object")))) ∈ gG := gmm 206 (by decide +kernel) (by decide +kernel)
theorem tw_207 : (Jvm.Cond.methodLink "java/util/ArrayList" (69 : Nat) ({ cls := "java/util/ArrayList", name := "grow", desc := "(I)[Ljava/lang/Object;" } : Jvm.MethodName)) ∈ gG := gmm 207 (by decide +kernel) (by decide +kernel)
theorem tw_209 : (Jvm.Cond.instanceMethod ({ cls := "java/util/ArrayList", name := "grow", desc := "(I)[Ljava/lang/Object;" } : Jvm.MethodName)) ∈ gG := gmm 209 (by decide +kernel) (by decide +kernel)
theorem tw_210 : (Jvm.Cond.code ({ cls := "java/util/ArrayList", name := "grow", desc := "(I)[Ljava/lang/Object;" } : Jvm.MethodName) prog_31_method_6_code (4 : Nat) (Option.some (Jvm.ClassFile.FieldType.array (Jvm.ClassFile.FieldType.object "java/lang/Object")))) ∈ gG := gmm 210 (by decide +kernel) (by decide +kernel)
theorem tw_244 : (Jvm.Cond.arrayOver (Jvm.ClassFile.FieldType.object "java/lang/Object")) ∈ gG := gmm 244 (by decide +kernel) (by decide +kernel)
theorem tw_252 : (Jvm.Cond.methodLink "java/util/ArrayList" (79 : Nat) ({ cls := "java/lang/Math", name := "max", desc := "(II)I" } : Jvm.MethodName)) ∈ gG := gmm 252 (by decide +kernel) (by decide +kernel)
theorem tw_253 : (Jvm.Cond.classLink "java/util/ArrayList" (7 : Nat) "java/lang/Object") ∈ gG := gmm 253 (by decide +kernel) (by decide +kernel)
theorem tw_294 : (Jvm.Cond.methodLink "java/util/ArrayList" (118 : Nat) ({ cls := "java/util/Objects", name := "checkIndex", desc := "(II)I" } : Jvm.MethodName)) ∈ gG := gmm 294 (by decide +kernel) (by decide +kernel)
theorem tw_295 : (Jvm.Cond.static ({ cls := "java/util/Objects", name := "checkIndex", desc := "(II)I" } : Jvm.MethodName)) ∈ gG := gmm 295 (by decide +kernel) (by decide +kernel)
theorem tw_296 : (Jvm.Cond.code ({ cls := "java/util/Objects", name := "checkIndex", desc := "(II)I" } : Jvm.MethodName) prog_35_method_17_code (2 : Nat) (Option.some Jvm.ClassFile.FieldType.int)) ∈ gG := gmm 296 (by decide +kernel) (by decide +kernel)
theorem tw_297 : (Jvm.Cond.methodLink "java/util/Objects" (105 : Nat) ({ cls := "jdk/internal/util/Preconditions", name := "checkIndex", desc := "(IILjava/util/function/BiFunction;)I" } : Jvm.MethodName)) ∈ gG := gmm 297 (by decide +kernel) (by decide +kernel)
theorem tw_298 : (Jvm.Cond.methodLink "java/util/ArrayList" (123 : Nat) ({ cls := "java/util/ArrayList", name := "elementData", desc := "(I)Ljava/lang/Object;" } : Jvm.MethodName)) ∈ gG := gmm 298 (by decide +kernel) (by decide +kernel)
theorem tw_299 : (Jvm.Cond.instanceMethod ({ cls := "java/util/ArrayList", name := "elementData", desc := "(I)Ljava/lang/Object;" } : Jvm.MethodName)) ∈ gG := gmm 299 (by decide +kernel) (by decide +kernel)
theorem tw_300 : (Jvm.Cond.selects "java/util/ArrayList" ({ cls := "java/util/ArrayList", name := "elementData", desc := "(I)Ljava/lang/Object;" } : Jvm.MethodName) ({ cls := "java/util/ArrayList", name := "elementData", desc := "(I)Ljava/lang/Object;" } : Jvm.MethodName)) ∈ gG := gmm 300 (by decide +kernel) (by decide +kernel)
theorem tw_301 : (Jvm.Cond.code ({ cls := "java/util/ArrayList", name := "elementData", desc := "(I)Ljava/lang/Object;" } : Jvm.MethodName) prog_31_method_18_code (2 : Nat) (Option.some (Jvm.ClassFile.FieldType.object "java/lang/Object"))) ∈ gG := gmm 301 (by decide +kernel) (by decide +kernel)
theorem hd_AB_init : y_AB_init.cls ≠ "java/lang/invoke/MethodHandle" ∧ y_AB_init.cls ≠ "java/lang/invoke/VarHandle" ∧ (parseMethodDescriptor y_AB_init.desc).map (fun d => d.parameters.length) = some 0 := by decide +kernel
theorem hd_AC_init : y_AC_init.cls ≠ "java/lang/invoke/MethodHandle" ∧ y_AC_init.cls ≠ "java/lang/invoke/VarHandle" ∧ (parseMethodDescriptor y_AC_init.desc).map (fun d => d.parameters.length) = some 0 := by decide +kernel
theorem hd_AL_add3 : y_AL_add3.cls ≠ "java/lang/invoke/MethodHandle" ∧ y_AL_add3.cls ≠ "java/lang/invoke/VarHandle" ∧ (parseMethodDescriptor y_AL_add3.desc).map (fun d => d.parameters.length) = some 3 := by decide +kernel
theorem hd_AL_elementData : y_AL_elementData.cls ≠ "java/lang/invoke/MethodHandle" ∧ y_AL_elementData.cls ≠ "java/lang/invoke/VarHandle" ∧ (parseMethodDescriptor y_AL_elementData.desc).map (fun d => d.parameters.length) = some 1 := by decide +kernel
theorem hd_AL_grow0 : y_AL_grow0.cls ≠ "java/lang/invoke/MethodHandle" ∧ y_AL_grow0.cls ≠ "java/lang/invoke/VarHandle" ∧ (parseMethodDescriptor y_AL_grow0.desc).map (fun d => d.parameters.length) = some 0 := by decide +kernel
theorem hd_AL_grow1 : y_AL_grow1.cls ≠ "java/lang/invoke/MethodHandle" ∧ y_AL_grow1.cls ≠ "java/lang/invoke/VarHandle" ∧ (parseMethodDescriptor y_AL_grow1.desc).map (fun d => d.parameters.length) = some 1 := by decide +kernel
theorem hd_OB_checkIndex : y_OB_checkIndex.cls ≠ "java/lang/invoke/MethodHandle" ∧ y_OB_checkIndex.cls ≠ "java/lang/invoke/VarHandle" ∧ (parseMethodDescriptor y_OB_checkIndex.desc).map (fun d => d.parameters.length) = some 2 := by decide +kernel
theorem hd_PC_checkIndex : y_PC_checkIndex.cls ≠ "java/lang/invoke/MethodHandle" ∧ y_PC_checkIndex.cls ≠ "java/lang/invoke/VarHandle" ∧ (parseMethodDescriptor y_PC_checkIndex.desc).map (fun d => d.parameters.length) = some 3 := by decide +kernel
def w_PC_checkIndex (post : Int32 → Prop) (S : St) (a0 : Int32) (a1 : Int32) (a2 : Option Nat) : Prop :=
  ∃ J9 : Prop, (J9 → False) ∧ (a0 < 0 → J9) ∧ (¬ a0 < 0 → (a0 < a1 → post a0) ∧ (¬ a0 < a1 → J9))
set_option maxHeartbeats 4000000 in
set_option maxRecDepth 100000 in
theorem m_PC_checkIndex (l : Launch) (x : Cx) (S : St) (post : Int32 → Prop) (a0 : Int32) (a1 : Int32) (a2 : Option Nat) (h : w_PC_checkIndex post S a0 a1 a2) : Met l y_PC_checkIndex [.code y_PC_checkIndex c_PC_checkIndex 3 (some .int)] { frames := 0, cells := 0, slots := 0, locals := 0 } (va_Pc [.int a0, .int a1, va_rf a2] (GW x S)) (va_Qi (gPu post S) (gB x S) (xA x)) 0 0 (xA x) := by
  refine gMet (by decide +kernel) (by simp [lg_sl, gCat, gci1, gcr1, gcl1, gcd1]) ?_
  intro p e s m args below meth c hx hb hr hown hlocks hin hw hK H locs hG ls hlA hml
  have hown : s.vm.findClass "jdk/internal/util/Preconditions" = some m.cls := hown
  have hl0 : lv_has ls 3 [(0, .int a0), (1, .int a1), (2, va_rf a2)] := hlA
  unfold w_PC_checkIndex at h
  refine lv_iload_n hx hb d_PC_checkIndex_0 rfl (lv_at hl0 0 rfl) ?_
  have leS : gle S S := gle.rf
  obtain ⟨J9, hJ9, h⟩ := h
  have k9 : ∀ (H : Heap) (locs : List Loc) (ls : Array Slot), GH x S s H locs → lv_has ls 3 [(0, .int a0), (1, .int a1), (2, va_rf a2)] → J9 → W p l e { frames := 0, cells := 0, slots := 0, locals := 0 } s m args below meth c H locs 0 0 (MQ below (va_Qi (gPu post S) (gB x S) (xA x)) args s 0 0 (xA x)) (F0 m 9 ls []) := by
    intro  H locs ls hG hl1 hj
    replace h := hJ9 hj
    refine gaload_n hx hb d_PC_checkIndex_9 rfl (lv_at hl1 2 rfl) ?_
    refine lv_iload_n hx hb d_PC_checkIndex_10 rfl (lv_at hl1 0 rfl) ?_
    refine lv_iload_n hx hb d_PC_checkIndex_11 rfl (lv_at hl1 1 rfl) ?_
    exact h.elim
  refine lv_if_lt (tgt := 9) hx hb d_PC_checkIndex_1 (by decide) (fun hc3 => ?_) (fun hc3 => ?_)
  · replace h := h.1 hc3
    exact k9 H locs ls hG (lv_sub hl0 [0, 1, 2] rfl) h
  · replace h := h.2 hc3
    refine lv_iload_n hx hb d_PC_checkIndex_4 rfl (lv_at hl0 0 rfl) ?_
    refine lv_iload_n hx hb d_PC_checkIndex_5 rfl (lv_at hl0 1 rfl) ?_
    refine lv_icmp_lt (tgt := 16) hx hb d_PC_checkIndex_6 (by decide) (fun hc2 => ?_) (fun hc2 => ?_)
    · replace h := h.1 hc2
      refine lv_iload_n hx hb d_PC_checkIndex_16 rfl (lv_at hl0 0 rfl) ?_
      exact giret hx hb hr hlocks hK hG leS ⟨h, rfl⟩ (Nat.le_of_ble_eq_true rfl) (Nat.le_of_ble_eq_true rfl) d_PC_checkIndex_17
    · replace h := h.2 hc2
      exact k9 H locs ls hG (lv_sub hl0 [0, 1, 2] rfl) h
def w_OB_checkIndex (post : Int32 → Prop) (S : St) (a0 : Int32) (a1 : Int32) : Prop :=
  w_PC_checkIndex (fun (r1 : Int32) => post r1) S a0 a1 none
set_option maxHeartbeats 4000000 in
set_option maxRecDepth 100000 in
theorem m_OB_checkIndex (l : Launch) (x : Cx) (S : St) (post : Int32 → Prop) (a0 : Int32) (a1 : Int32) (h : w_OB_checkIndex post S a0 a1) : Met l y_OB_checkIndex [.code y_OB_checkIndex c_OB_checkIndex 2 (some .int)] { frames := 1, cells := 0, slots := 0, locals := 22 } (va_Pc [.int a0, .int a1] (GW x S)) (va_Qi (gPu post S) (gB x S) (xA x)) 0 0 (xA x) := by
  refine gMet (by decide +kernel) (Nat.le_of_ble_eq_true rfl) ?_
  intro p e s m args below meth c hx hb hr hown hlocks hin hw hK H locs hG ls hlA hml
  have hown : s.vm.findClass "java/util/Objects" = some m.cls := hown
  have hl0 : lv_has ls 2 [(0, .int a0), (1, .int a1)] := hlA
  unfold w_OB_checkIndex at h
  refine lv_iload_n hx hb d_OB_checkIndex_0 rfl (lv_at hl0 0 rfl) ?_
  refine lv_iload_n hx hb d_OB_checkIndex_1 rfl (lv_at hl0 1 rfl) ?_
  refine gnull hx hb d_OB_checkIndex_2 ?_
  -- call PC_checkIndex
  refine gpi hK hG (va_runS (As := [.int a0, .int a1, va_rf none]) (rest := []) ⟨hx, hb, hml, hown, hw⟩ (m_PC_checkIndex l x S _ a0 a1 none  h) ⟨gcb hw tw_141 tw_36 tw_297 hd_PC_checkIndex rfl rfl ⟨(Nat.le_of_ble_eq_true rfl), (Nat.le_of_ble_eq_true rfl)⟩, hw _ tw_140⟩ (gpS hK hG) rfl rfl hl0.1 rfl (lv_room (Nat.le_of_ble_eq_true rfl)) d_OB_checkIndex_3 ⟨(Nat.le_of_ble_eq_true rfl), (Nat.le_of_ble_eq_true rfl)⟩) (fun r1 H locs h9 hG => ?_)
  replace h := h9
  clear h9
  exact giret hx hb hr hlocks hK hG gle.rf ⟨h, rfl⟩ (Nat.le_of_ble_eq_true rfl) (Nat.le_of_ble_eq_true rfl) d_OB_checkIndex_6
def w_AL_size (post : Int32 → Prop) (S : St) (a0 : Nat) : Prop :=
  post (sI S 2 a0)
set_option maxHeartbeats 4000000 in
set_option maxRecDepth 100000 in
theorem m_AL_size (l : Launch) (x : Cx) (S : St) (post : Int32 → Prop) (a0 : Nat) (fa0 : isA S 0 a0) (h : w_AL_size post S a0) : Met l y_AL_size [.code y_AL_size c_AL_size 1 (some .int)] { frames := 0, cells := 0, slots := 0, locals := 0 } (va_Pc [.ref a0] (GW x S)) (va_Qi (gPu post S) (gB x S) (xA x)) 0 0 (xA x) := by
  refine gMet (by decide +kernel) (Nat.le_of_ble_eq_true rfl) ?_
  intro p e s m args below meth c hx hb hr hown hlocks hin hw hK H locs hG ls hlA hml
  have hown : s.vm.findClass "java/util/ArrayList" = some m.cls := hown
  have hl0 : lv_has ls 1 [(0, .ref a0)] := hlA
  unfold w_AL_size at h
  refine lv_aload_n hx hb d_AL_size_0 rfl (lv_at hl0 0 rfl) ?_
  refine gget hx hb hw hown hK hG kd_AL fa0 rfl 2 (by decide) rfl tw_95 (fun _ h9 => h9) d_AL_size_1 ?_
  exact giret hx hb hr hlocks hK hG gle.rf ⟨h, rfl⟩ (Nat.le_of_ble_eq_true rfl) (Nat.le_of_ble_eq_true rfl) d_AL_size_4
def w_AL_elementData (post : Option Nat → Prop) (S : St) (a0 : Nat) (a1 : Int32) : Prop :=
  ∀ o1 : Option Nat, o1 = sQ S 1 a0 → ∃ y2 : Nat, o1 = some y2 ∧ isA S 12 y2 ∧ vp_in a1 (sN S y2) ∧ ∀ o5 : Option Nat, o5 = sP S y2 a1.toNatClampNeg → post o5
set_option maxHeartbeats 4000000 in
set_option maxRecDepth 100000 in
theorem m_AL_elementData (l : Launch) (x : Cx) (S : St) (post : Option Nat → Prop) (a0 : Nat) (a1 : Int32) (fa0 : isA S 0 a0) (h : w_AL_elementData post S a0 a1) : Met l y_AL_elementData [.code y_AL_elementData c_AL_elementData 2 (some (.object "java/lang/Object"))] { frames := 0, cells := 0, slots := 0, locals := 0 } (va_Pc [.ref a0, .int a1] (GW x S)) (va_Qq (gPu post S) (gB x S) (xA x)) 0 0 (xA x) := by
  refine gMet (by decide +kernel) (Nat.le_of_ble_eq_true rfl) ?_
  intro p e s m args below meth c hx hb hr hown hlocks hin hw hK H locs hG ls hlA hml
  have hown : s.vm.findClass "java/util/ArrayList" = some m.cls := hown
  have hl0 : lv_has ls 2 [(0, .ref a0), (1, .int a1)] := hlA
  unfold w_AL_elementData at h
  refine lv_aload_n hx hb d_AL_elementData_0 rfl (lv_at hl0 0 rfl) ?_
  refine gget hx hb hw hown hK hG kd_AL fa0 rfl 1 (by decide) rfl tw_94 (fun _ h9 => h9) d_AL_elementData_1 ?_
  refine gtopq (fun o1 eo1 => ?_)
  replace h := h o1 eo1
  refine lv_iload_n hx hb d_AL_elementData_4 rfl (lv_at hl0 1 rfl) ?_
  obtain ⟨y2, ey2, h⟩ := h
  subst ey2
  obtain ⟨f3, h⟩ := h
  obtain ⟨hi4, h⟩ := h
  refine gaald hx hb hK hG f3 hi4 d_AL_elementData_5 ?_
  refine gtopq (fun o5 eo5 => ?_)
  replace h := h o5 eo5
  exact garet (o := o5) hx hb hr (Or.inl ⟨_, rfl⟩) hlocks hK hG gle.rf ⟨h, rfl⟩ (Nat.le_of_ble_eq_true rfl) (Nat.le_of_ble_eq_true rfl) d_AL_elementData_6
def w_AL_get (post : Option Nat → Prop) (S : St) (a0 : Nat) (a1 : Int32) : Prop :=
  w_OB_checkIndex (fun (r1 : Int32) => w_AL_elementData (fun (o2 : Option Nat) => post o2) S a0 a1) S a1 (sI S 2 a0)
set_option maxHeartbeats 4000000 in
set_option maxRecDepth 100000 in
theorem m_AL_get (l : Launch) (x : Cx) (S : St) (post : Option Nat → Prop) (a0 : Nat) (a1 : Int32) (fa0 : isA S 0 a0) (h : w_AL_get post S a0 a1) : Met l y_AL_get [.code y_AL_get c_AL_get 2 (some (.object "java/lang/Object"))] { frames := 2, cells := 0, slots := 0, locals := 43 } (va_Pc [.ref a0, .int a1] (GW x S)) (va_Qq (gPu post S) (gB x S) (xA x)) 0 0 (xA x) := by
  refine gMet (by decide +kernel) (Nat.le_of_ble_eq_true rfl) ?_
  intro p e s m args below meth c hx hb hr hown hlocks hin hw hK H locs hG ls hlA hml
  have hown : s.vm.findClass "java/util/ArrayList" = some m.cls := hown
  have hl0 : lv_has ls 2 [(0, .ref a0), (1, .int a1)] := hlA
  unfold w_AL_get at h
  refine lv_iload_n hx hb d_AL_get_0 rfl (lv_at hl0 1 rfl) ?_
  refine lv_aload_n hx hb d_AL_get_1 rfl (lv_at hl0 0 rfl) ?_
  refine gget hx hb hw hown hK hG kd_AL fa0 rfl 2 (by decide) rfl tw_95 (fun _ h9 => h9) d_AL_get_2 ?_
  -- call OB_checkIndex
  refine gpi hK hG (va_runS (As := [.int a1, .int (sI S 2 a0)]) (rest := []) ⟨hx, hb, hml, hown, hw⟩ (m_OB_checkIndex l x S _ a1 (sI S 2 a0)  h) ⟨gcb hw tw_296 tw_51 tw_294 hd_OB_checkIndex rfl rfl ⟨(Nat.le_of_ble_eq_true rfl), (Nat.le_of_ble_eq_true rfl)⟩, hw _ tw_295⟩ (gpS hK hG) rfl rfl hl0.1 rfl (lv_room (Nat.le_of_ble_eq_true rfl)) d_AL_get_5 ⟨(Nat.le_of_ble_eq_true rfl), (Nat.le_of_ble_eq_true rfl)⟩) (fun r1 H locs h9 hG => ?_)
  replace h := h9
  clear h9
  refine lv_pop hx hb d_AL_get_8 rfl ?_
  refine lv_aload_n hx hb d_AL_get_9 rfl (lv_at hl0 0 rfl) ?_
  refine lv_iload_n hx hb d_AL_get_10 rfl (lv_at hl0 1 rfl) ?_
  -- call AL_elementData
  refine gpq hK hG (va_runV (As := [.int a1]) (rest := []) ⟨hx, hb, hml, hown, hw⟩ (m_AL_elementData l x S _ a0 a1 fa0 h) ⟨gcb hw tw_301 tw_32 tw_298 hd_AL_elementData rfl rfl ⟨(Nat.le_of_ble_eq_true rfl), (Nat.le_of_ble_eq_true rfl)⟩, hw _ tw_299, hw _ tw_300⟩ (gpV hK hG kd_AL fa0 rfl) rfl rfl hl0.1 rfl (lv_room (Nat.le_of_ble_eq_true rfl)) d_AL_get_11 ⟨(Nat.le_of_ble_eq_true rfl), (Nat.le_of_ble_eq_true rfl)⟩) (fun o2 H locs h9 hG => ?_)
  replace h := h9
  clear h9
  exact garet (o := o2) hx hb hr (Or.inl ⟨_, rfl⟩) hlocks hK hG gle.rf ⟨h, rfl⟩ (Nat.le_of_ble_eq_true rfl) (Nat.le_of_ble_eq_true rfl) d_AL_get_14
def w_AC_init (post : Prop) (S : St) (a0 : Nat) : Prop :=
  post
set_option maxHeartbeats 4000000 in
set_option maxRecDepth 100000 in
theorem m_AC_init (l : Launch) (x : Cx) (S : St) (post : Prop) (a0 : Nat) (fa0 : isA S 0 a0) (h : w_AC_init post S a0) : Met l y_AC_init [.code y_AC_init c_AC_init 1 none] { frames := 1, cells := 0, slots := 0, locals := 20 } (va_Pc [.ref a0] (GW x S)) (va_Qv (gPv post S) (gB x S) (xA x)) 0 0 (xA x) := by
  refine gMet (by decide +kernel) (Nat.le_of_ble_eq_true rfl) ?_
  intro p e s m args below meth c hx hb hr hown hlocks hin hw hK H locs hG ls hlA hml
  have hown : s.vm.findClass "java/util/AbstractCollection" = some m.cls := hown
  have hl0 : lv_has ls 1 [(0, .ref a0)] := hlA
  unfold w_AC_init at h
  refine lv_aload_n hx hb d_AC_init_0 rfl (lv_at hl0 0 rfl) ?_
  refine gobj (bytes := c_AC_init) hx hb hw hown tw_91 tw_61 tw_62 (hl0.1.trans hml.symm) d_AC_init_1 (Nat.le_of_ble_eq_true rfl) (Nat.le_of_ble_eq_true rfl) ?_
  exact gvret hx hb hr hlocks hK hG gle.rf ⟨h, rfl⟩ (Nat.le_of_ble_eq_true rfl) (Nat.le_of_ble_eq_true rfl) d_AC_init_4
def w_AB_init (post : St → Prop) (S : St) (a0 : Nat) : Prop :=
  w_AC_init (∀ S1 : St, S1 = pI S 0 a0 0 → post S1) S a0
set_option maxHeartbeats 4000000 in
set_option maxRecDepth 100000 in
theorem m_AB_init (l : Launch) (x : Cx) (S : St) (post : St → Prop) (a0 : Nat) (fa0 : isA S 0 a0) (h : w_AB_init post S a0) : Met l y_AB_init [.code y_AB_init c_AB_init 1 none] { frames := 2, cells := 0, slots := 0, locals := 40 } (va_Pc [.ref a0] (GW x S)) (va_Qv post (gB x S) (xA x)) 0 0 (xA x) := by
  refine gMet (by decide +kernel) (Nat.le_of_ble_eq_true rfl) ?_
  intro p e s m args below meth c hx hb hr hown hlocks hin hw hK H locs hG ls hlA hml
  have hown : s.vm.findClass "java/util/AbstractList" = some m.cls := hown
  have hl0 : lv_has ls 1 [(0, .ref a0)] := hlA
  have leS : gle S S := gle.rf
  unfold w_AB_init at h
  refine lv_aload_n hx hb d_AB_init_0 rfl (lv_at hl0 0 rfl) ?_
  -- call AC_init
  refine gpv hK hG (va_runI (As := []) (rest := []) ⟨hx, hb, hml, hown, hw⟩ (m_AC_init l x S _ a0 fa0 h) ⟨gcb hw tw_90 tw_30 tw_88 hd_AC_init rfl rfl ⟨(Nat.le_of_ble_eq_true rfl), (Nat.le_of_ble_eq_true rfl)⟩, rfl, hw _ tw_89⟩ (gpS hK hG) rfl rfl hl0.1 rfl (lv_room (Nat.le_of_ble_eq_true rfl)) d_AB_init_1 ⟨(Nat.le_of_ble_eq_true rfl), (Nat.le_of_ble_eq_true rfl)⟩) (fun H locs h9 hG => ?_)
  replace h := h9
  clear h9
  refine lv_aload_n hx hb d_AB_init_4 rfl (lv_at hl0 0 rfl) ?_
  refine lv_iconst (v := 0) hx hb d_AB_init_5 (by decide) ?_
  refine gput (S' := pI S 0 a0 0) hx hb hw hown hK hG kd_AL fa0 rfl 0 (by decide) (gChI fa0 rfl) tw_96 (fun _ h9 => h9) rfl rfl rfl rfl (Nat.le_of_ble_eq_true rfl) d_AB_init_6 (fun S1 H locs eS1 hle1 hG => ?_)
  replace h := h S1 eS1
  have fa0 := gle_isA hle1 fa0
  have leS := leS.tr hle1
  exact gvret hx hb hr hlocks hK hG leS h (Nat.le_of_ble_eq_true rfl) (Nat.le_of_ble_eq_true rfl) d_AB_init_9
def w_AL_init (post : St → Prop) (S : St) (a0 : Nat) : Prop :=
  w_AB_init (fun (S1 : St) => ∀ S2 : St, S2 = pQ S1 1 a0 (some (sX S1)) → post S2) S a0
set_option maxHeartbeats 4000000 in
set_option maxRecDepth 100000 in
theorem m_AL_init (l : Launch) (x : Cx) (S : St) (post : St → Prop) (a0 : Nat) (fa0 : isA S 0 a0) (h : w_AL_init post S a0) : Met l y_AL_init [.code y_AL_init c_AL_init 1 none] { frames := 3, cells := 0, slots := 0, locals := 60 } (va_Pc [.ref a0] (GW x S)) (va_Qv post (gB x S) (xA x)) 0 0 (xA x) := by
  refine gMet (by decide +kernel) (Nat.le_of_ble_eq_true rfl) ?_
  intro p e s m args below meth c hx hb hr hown hlocks hin hw hK H locs hG ls hlA hml
  have hown : s.vm.findClass "java/util/ArrayList" = some m.cls := hown
  have hl0 : lv_has ls 1 [(0, .ref a0)] := hlA
  have leS : gle S S := gle.rf
  unfold w_AL_init at h
  refine lv_aload_n hx hb d_AL_init_0 rfl (lv_at hl0 0 rfl) ?_
  -- call AB_init
  refine gcv hK hG (va_runI (As := []) (rest := []) ⟨hx, hb, hml, hown, hw⟩ (m_AB_init l x S _ a0 fa0 h) ⟨gcb hw tw_87 tw_31 tw_85 hd_AB_init rfl rfl ⟨(Nat.le_of_ble_eq_true rfl), (Nat.le_of_ble_eq_true rfl)⟩, rfl, hw _ tw_86⟩ (gpS hK hG) rfl rfl hl0.1 rfl (lv_room (Nat.le_of_ble_eq_true rfl)) d_AL_init_1 ⟨(Nat.le_of_ble_eq_true rfl), (Nat.le_of_ble_eq_true rfl)⟩) (fun S1 H locs h9 hle1 hG => ?_)
  replace h := h9
  clear h9
  have fa0 := gle_isA hle1 fa0
  have leS := leS.tr hle1
  refine lv_aload_n hx hb d_AL_init_4 rfl (lv_at hl0 0 rfl) ?_
  refine gsEm hx hb hw hown hK hG tw_92 d_AL_init_5 ?_
  refine gput (S' := pQ S1 1 a0 (some (sX S1))) hx hb hw hown hK hG kd_AL fa0 rfl 1 (by decide) (gChQ fa0 rfl) tw_94 (fun _ h9 => h9) rfl rfl rfl rfl (Nat.le_of_ble_eq_true rfl) d_AL_init_8 (fun S2 H locs eS2 hle1 hG => ?_)
  replace h := h S2 eS2
  have fa0 := gle_isA hle1 fa0
  have leS := leS.tr hle1
  exact gvret hx hb hr hlocks hK hG leS h (Nat.le_of_ble_eq_true rfl) (Nat.le_of_ble_eq_true rfl) d_AL_init_11
def w_AL_grow1 (post : Option Nat → St → Prop) (S : St) (a0 : Nat) (a1 : Int32) : Prop :=
  ∀ o1 : Option Nat, o1 = sQ S 1 a0 → ∃ y2 : Nat, o1 = some y2 ∧ (y2 = sX S → ∃ J20 : Prop, (J20 → False) ∧ (0 < (0 : Int32) → J20) ∧ (¬ 0 < (0 : Int32) → ∀ o6 : Option Nat, o6 = sQ S 1 a0 → (o6 = (some (sX S)) → ∀ v7 : Int32, v7 = (if 10 < a1 then a1 else 10) → ¬ v7 < 0 ∧ v7.toNatClampNeg ≤ 10 ∧ ∀ (q8 : Nat) (S9 : St), q8 ∉ sL S → S9 = pNew S q8 12 v7.toNatClampNeg → ∀ S12 : St, S12 = pQ S9 1 a0 (some q8) → post (some q8) S12) ∧ (¬ o6 = (some (sX S)) → J20))) ∧ (¬ y2 = sX S → isA S 12 y2 ∧ ∀ v16 : Int32, v16 = nI (sN S y2) → ∃ J20 : Prop, (J20 → False) ∧ (0 < v16 → J20) ∧ (¬ 0 < v16 → ∀ o19 : Option Nat, o19 = sQ S 1 a0 → (o19 = (some (sX S)) → ∀ v20 : Int32, v20 = (if 10 < a1 then a1 else 10) → ¬ v20 < 0 ∧ v20.toNatClampNeg ≤ 10 ∧ ∀ (q21 : Nat) (S22 : St), q21 ∉ sL S → S22 = pNew S q21 12 v20.toNatClampNeg → ∀ S25 : St, S25 = pQ S22 1 a0 (some q21) → post (some q21) S25) ∧ (¬ o19 = (some (sX S)) → J20)))
set_option maxHeartbeats 4000000 in
set_option maxRecDepth 100000 in
theorem m_AL_grow1 (l : Launch) (x : Cx) (S : St) (post : Option Nat → St → Prop) (a0 : Nat) (a1 : Int32) (fa0 : isA S 0 a0) (h : w_AL_grow1 post S a0 a1) : Met l y_AL_grow1 [.code y_AL_grow1 c_AL_grow1 4 (some (.array (.object "java/lang/Object")))] { frames := 1, cells := 1, slots := 10, locals := 21 } (va_Pc [.ref a0, .int a1] (GW x S)) (va_Qq post (gB x S) (xA x)) 1 10 (xA x) := by
  refine gMet (by decide +kernel) (Nat.le_of_ble_eq_true rfl) ?_
  intro p e s m args below meth c hx hb hr hown hlocks hin hw hK H locs hG ls hlA hml
  have hown : s.vm.findClass "java/util/ArrayList" = some m.cls := hown
  have hl0 : lv_has ls 4 [(0, .ref a0), (1, .int a1)] := hlA
  have leS : gle S S := gle.rf
  unfold w_AL_grow1 at h
  refine lv_aload_n hx hb d_AL_grow1_0 rfl (lv_at hl0 0 rfl) ?_
  refine gget hx hb hw hown hK hG kd_AL fa0 rfl 1 (by decide) rfl tw_94 (fun _ h9 => h9) d_AL_grow1_1 ?_
  refine gtopq (fun o1 eo1 => ?_)
  replace h := h o1 eo1
  obtain ⟨y2, ey2, h⟩ := h
  subst ey2
  by_cases hc3 : y2 = sX S
  · replace h := h.1 hc3
    refine galenX hx hb hK hG hc3 d_AL_grow1_4 ?_
    refine lv_istore_n (i := 2) (lv' := [(2, .int 0), (0, .ref a0), (1, .int a1)]) hx hb d_AL_grow1_5 rfl hl0 (by decide) rfl (fun ls hl4 => ?_)
    refine lv_iload_n hx hb d_AL_grow1_6 rfl (lv_at hl4 0 rfl) ?_
    obtain ⟨J20, hJ20, h⟩ := h
    have k20 : ∀ (H : Heap) (locs : List Loc) (ls : Array Slot), GH x S s H locs → lv_has ls 4 [(1, .int a1), (2, .int 0)] → J20 → W p l e { frames := 1, cells := 1, slots := 10, locals := 21 } s m args below meth c H locs 0 0 (MQ below (va_Qq post (gB x S) (xA x)) args s 1 10 (xA x)) (F0 m 20 ls []) := by
      intro  H locs ls hG hl5 hj
      replace h := hJ20 hj
      refine lv_iload_n hx hb d_AL_grow1_20 rfl (lv_at hl5 1 rfl) ?_
      refine lv_iload_n hx hb d_AL_grow1_21 rfl (lv_at hl5 0 rfl) ?_
      refine lv_iload_n hx hb d_AL_grow1_22 rfl (lv_at hl5 1 rfl) ?_
      refine lv_isub hx hb d_AL_grow1_23 ?_
      refine lv_iload_n hx hb d_AL_grow1_24 rfl (lv_at hl5 1 rfl) ?_
      refine lv_iconst (v := 1) hx hb d_AL_grow1_25 (by decide) ?_
      refine lv_ishr hx hb d_AL_grow1_26 ?_
      exact h.elim
    refine lv_if_gt (tgt := 20) hx hb d_AL_grow1_7 (by decide) (fun hc14 => ?_) (fun hc14 => ?_)
    · replace h := h.1 hc14
      exact k20 H locs ls hG (lv_sub hl4 [2, 0] rfl) h
    · replace h := h.2 hc14
      refine lv_aload_n hx hb d_AL_grow1_10 rfl (lv_at hl4 1 rfl) ?_
      refine gget hx hb hw hown hK hG kd_AL fa0 rfl 1 (by decide) rfl tw_94 (fun _ h9 => h9) d_AL_grow1_11 ?_
      refine gtopq (fun o6 eo6 => ?_)
      replace h := h o6 eo6
      refine gsEm hx hb hw hown hK hG tw_92 d_AL_grow1_14 ?_
      refine lv_acmp_eq (rx := o6) (ry := (some (sX S))) (tgt := 45) hx hb d_AL_grow1_17 (by decide) (fun hc13 => ?_) (fun hc13 => ?_)
      · replace h := h.1 hc13
        refine lv_aload_n hx hb d_AL_grow1_45 rfl (lv_at hl4 1 rfl) ?_
        refine lv_bipush (v := 10) hx hb d_AL_grow1_46 (by decide) ?_
        refine lv_iload_n hx hb d_AL_grow1_48 rfl (lv_at hl4 2 rfl) ?_
        refine va_mmax hx hb (hml.trans hl4.1.symm) hown (hw _ tw_252) (hw _ tw_215) (hw _ tw_40) (hw _ tw_216) (Nat.le_of_ble_eq_true rfl) (Nat.le_of_ble_eq_true rfl) (Nat.le_of_ble_eq_true rfl) (Nat.le_of_ble_eq_true rfl) d_AL_grow1_49 ?_
        refine lv_topi (fun v7 ev7 => ?_)
        replace h := h v7 ev7
        obtain ⟨hn10, hn10b, h⟩ := h
        refine gnewq hx hb hw hown hK hG tw_253 tw_244 hn10 (by omega) (Nat.le_of_ble_eq_true rfl) (by show _ + _ ≤ (10 : Nat); omega) d_AL_grow1_52 (fun q8 S9 H hqq8 eS9 hle1 hG => ?_)
        replace h := h q8 S9 hqq8 eS9
        refine W.widen (k := 1) (n := 10) (Nat.le_of_ble_eq_true rfl) (by omega) ?_
        have fa0 := gle_isA hle1 fa0
        have leS := leS.tr hle1
        have f11 : isA S9 12 q8 := by rw [eS9]; exact isA_new
        refine lv_dup_x1 hx hb d_AL_grow1_55 rfl rfl ?_
        refine gput (S' := pQ S9 1 a0 (some q8)) hx hb hw hown hK hG kd_AL fa0 rfl 1 (by decide) (gChQ fa0 rfl) tw_94 (fun _ h9 => h9) rfl rfl rfl rfl (Nat.le_of_ble_eq_true rfl) d_AL_grow1_56 (fun S12 H locs eS12 hle1 hG => ?_)
        replace h := h S12 eS12
        have fa0 := gle_isA hle1 fa0
        have f11 := gle_isA hle1 f11
        have leS := leS.tr hle1
        exact garet (o := (some q8)) hx hb hr (Or.inr ⟨_, rfl⟩) hlocks hK hG leS h (Nat.le_of_ble_eq_true rfl) (Nat.le_of_ble_eq_true rfl) d_AL_grow1_59
      · replace h := h.2 hc13
        exact k20 H locs ls hG (lv_sub hl4 [2, 0] rfl) h
  · replace h := h.2 hc3
    obtain ⟨f15, h⟩ := h
    refine galen hx hb hK hG f15 rfl 3 rfl rfl d_AL_grow1_4 ?_
    refine lv_topi (fun v16 ev16 => ?_)
    replace h := h v16 ev16
    refine lv_istore_n (i := 2) (lv' := [(2, .int v16), (0, .ref a0), (1, .int a1)]) hx hb d_AL_grow1_5 rfl hl0 (by decide) rfl (fun ls hl17 => ?_)
    refine lv_iload_n hx hb d_AL_grow1_6 rfl (lv_at hl17 0 rfl) ?_
    obtain ⟨J20, hJ20, h⟩ := h
    have k20 : ∀ (H : Heap) (locs : List Loc) (ls : Array Slot), GH x S s H locs → lv_has ls 4 [(1, .int a1), (2, .int v16)] → J20 → W p l e { frames := 1, cells := 1, slots := 10, locals := 21 } s m args below meth c H locs 0 0 (MQ below (va_Qq post (gB x S) (xA x)) args s 1 10 (xA x)) (F0 m 20 ls []) := by
      intro  H locs ls hG hl18 hj
      replace h := hJ20 hj
      refine lv_iload_n hx hb d_AL_grow1_20 rfl (lv_at hl18 1 rfl) ?_
      refine lv_iload_n hx hb d_AL_grow1_21 rfl (lv_at hl18 0 rfl) ?_
      refine lv_iload_n hx hb d_AL_grow1_22 rfl (lv_at hl18 1 rfl) ?_
      refine lv_isub hx hb d_AL_grow1_23 ?_
      refine lv_iload_n hx hb d_AL_grow1_24 rfl (lv_at hl18 1 rfl) ?_
      refine lv_iconst (v := 1) hx hb d_AL_grow1_25 (by decide) ?_
      refine lv_ishr hx hb d_AL_grow1_26 ?_
      exact h.elim
    refine lv_if_gt (tgt := 20) hx hb d_AL_grow1_7 (by decide) (fun hc27 => ?_) (fun hc27 => ?_)
    · replace h := h.1 hc27
      exact k20 H locs ls hG (lv_sub hl17 [2, 0] rfl) h
    · replace h := h.2 hc27
      refine lv_aload_n hx hb d_AL_grow1_10 rfl (lv_at hl17 1 rfl) ?_
      refine gget hx hb hw hown hK hG kd_AL fa0 rfl 1 (by decide) rfl tw_94 (fun _ h9 => h9) d_AL_grow1_11 ?_
      refine gtopq (fun o19 eo19 => ?_)
      replace h := h o19 eo19
      refine gsEm hx hb hw hown hK hG tw_92 d_AL_grow1_14 ?_
      refine lv_acmp_eq (rx := o19) (ry := (some (sX S))) (tgt := 45) hx hb d_AL_grow1_17 (by decide) (fun hc26 => ?_) (fun hc26 => ?_)
      · replace h := h.1 hc26
        refine lv_aload_n hx hb d_AL_grow1_45 rfl (lv_at hl17 1 rfl) ?_
        refine lv_bipush (v := 10) hx hb d_AL_grow1_46 (by decide) ?_
        refine lv_iload_n hx hb d_AL_grow1_48 rfl (lv_at hl17 2 rfl) ?_
        refine va_mmax hx hb (hml.trans hl17.1.symm) hown (hw _ tw_252) (hw _ tw_215) (hw _ tw_40) (hw _ tw_216) (Nat.le_of_ble_eq_true rfl) (Nat.le_of_ble_eq_true rfl) (Nat.le_of_ble_eq_true rfl) (Nat.le_of_ble_eq_true rfl) d_AL_grow1_49 ?_
        refine lv_topi (fun v20 ev20 => ?_)
        replace h := h v20 ev20
        obtain ⟨hn23, hn23b, h⟩ := h
        refine gnewq hx hb hw hown hK hG tw_253 tw_244 hn23 (by omega) (Nat.le_of_ble_eq_true rfl) (by show _ + _ ≤ (10 : Nat); omega) d_AL_grow1_52 (fun q21 S22 H hqq21 eS22 hle1 hG => ?_)
        replace h := h q21 S22 hqq21 eS22
        refine W.widen (k := 1) (n := 10) (Nat.le_of_ble_eq_true rfl) (by omega) ?_
        have fa0 := gle_isA hle1 fa0
        have f15 := gle_isA hle1 f15
        have leS := leS.tr hle1
        have f24 : isA S22 12 q21 := by rw [eS22]; exact isA_new
        refine lv_dup_x1 hx hb d_AL_grow1_55 rfl rfl ?_
        refine gput (S' := pQ S22 1 a0 (some q21)) hx hb hw hown hK hG kd_AL fa0 rfl 1 (by decide) (gChQ fa0 rfl) tw_94 (fun _ h9 => h9) rfl rfl rfl rfl (Nat.le_of_ble_eq_true rfl) d_AL_grow1_56 (fun S25 H locs eS25 hle1 hG => ?_)
        replace h := h S25 eS25
        have fa0 := gle_isA hle1 fa0
        have f15 := gle_isA hle1 f15
        have f24 := gle_isA hle1 f24
        have leS := leS.tr hle1
        exact garet (o := (some q21)) hx hb hr (Or.inr ⟨_, rfl⟩) hlocks hK hG leS h (Nat.le_of_ble_eq_true rfl) (Nat.le_of_ble_eq_true rfl) d_AL_grow1_59
      · replace h := h.2 hc26
        exact k20 H locs ls hG (lv_sub hl17 [2, 0] rfl) h
def w_AL_grow0 (post : Option Nat → St → Prop) (S : St) (a0 : Nat) : Prop :=
  w_AL_grow1 (fun (o1 : Option Nat) (S2 : St) => post o1 S2) S a0 ((sI S 2 a0) + 1)
set_option maxHeartbeats 4000000 in
set_option maxRecDepth 100000 in
theorem m_AL_grow0 (l : Launch) (x : Cx) (S : St) (post : Option Nat → St → Prop) (a0 : Nat) (fa0 : isA S 0 a0) (h : w_AL_grow0 post S a0) : Met l y_AL_grow0 [.code y_AL_grow0 c_AL_grow0 1 (some (.array (.object "java/lang/Object")))] { frames := 2, cells := 1, slots := 10, locals := 44 } (va_Pc [.ref a0] (GW x S)) (va_Qq post (gB x S) (xA x)) 1 10 (xA x) := by
  refine gMet (by decide +kernel) (Nat.le_of_ble_eq_true rfl) ?_
  intro p e s m args below meth c hx hb hr hown hlocks hin hw hK H locs hG ls hlA hml
  have hown : s.vm.findClass "java/util/ArrayList" = some m.cls := hown
  have hl0 : lv_has ls 1 [(0, .ref a0)] := hlA
  have leS : gle S S := gle.rf
  unfold w_AL_grow0 at h
  refine lv_aload_n hx hb d_AL_grow0_0 rfl (lv_at hl0 0 rfl) ?_
  refine lv_aload_n hx hb d_AL_grow0_1 rfl (lv_at hl0 0 rfl) ?_
  refine gget hx hb hw hown hK hG kd_AL fa0 rfl 2 (by decide) rfl tw_95 (fun _ h9 => h9) d_AL_grow0_2 ?_
  refine lv_iconst (v := 1) hx hb d_AL_grow0_5 (by decide) ?_
  refine lv_iadd hx hb d_AL_grow0_6 ?_
  -- call AL_grow1
  refine gcq hK hG (va_runV (As := [.int ((sI S 2 a0) + 1)]) (rest := []) ⟨hx, hb, hml, hown, hw⟩ (m_AL_grow1 l x S _ a0 ((sI S 2 a0) + 1) fa0 h) ⟨gcb hw tw_210 tw_32 tw_207 hd_AL_grow1 rfl rfl ⟨(Nat.le_of_ble_eq_true rfl), (Nat.le_of_ble_eq_true rfl)⟩, hw _ tw_209, hw _ tw_2⟩ (gpV hK hG kd_AL fa0 rfl) rfl rfl hl0.1 rfl (lv_room (Nat.le_of_ble_eq_true rfl)) d_AL_grow0_7 ⟨(Nat.le_of_ble_eq_true rfl), (Nat.le_of_ble_eq_true rfl)⟩) (fun o1 S2 H locs h9 hle1 hG => ?_)
  replace h := h9
  clear h9
  have fa0 := gle_isA hle1 fa0
  have leS := leS.tr hle1
  exact garet (o := o1) hx hb hr (Or.inr ⟨_, rfl⟩) hlocks hK hG leS h (Nat.le_of_ble_eq_true rfl) (Nat.le_of_ble_eq_true rfl) d_AL_grow0_10
def w_AL_add3 (post : St → Prop) (S : St) (a0 : Nat) (a1 : Option Nat) (a2 : Option Nat) (a3 : Int32) : Prop :=
  ∃ y1 : Nat, a2 = some y1 ∧ (y1 = sX S → ∃ J11 : St → Option Nat → Prop, (∀ (S_11 : St) (v2_11 : Option Nat), J11 S_11 v2_11 → ∃ y4 : Nat, v2_11 = some y4 ∧ isA S_11 12 y4 ∧ ∃ y6 : Nat, a1 = some y6 ∧ vp_in a3 (sN S_11 y4) ∧ gObj S_11 y6 ∧ ∀ S8 : St, S8 = pP S_11 y4 (a3.toNatClampNeg) (some y6) → ∀ S11 : St, S11 = pI S8 2 a0 (a3 + 1) → post S11) ∧ (a3 = 0 → w_AL_grow0 (fun (o12 : Option Nat) (S13 : St) => J11 S13 o12) S a0) ∧ (¬ a3 = 0 → J11 S (some y1))) ∧ (¬ y1 = sX S → isA S 12 y1 ∧ ∃ J11 : St → Option Nat → Prop, (∀ (S_11 : St) (v2_11 : Option Nat), J11 S_11 v2_11 → ∃ y18 : Nat, v2_11 = some y18 ∧ isA S_11 12 y18 ∧ ∃ y20 : Nat, a1 = some y20 ∧ vp_in a3 (sN S_11 y18) ∧ gObj S_11 y20 ∧ ∀ S22 : St, S22 = pP S_11 y18 (a3.toNatClampNeg) (some y20) → ∀ S25 : St, S25 = pI S22 2 a0 (a3 + 1) → post S25) ∧ (a3 = (nI (sN S y1)) → w_AL_grow0 (fun (o26 : Option Nat) (S27 : St) => J11 S27 o26) S a0) ∧ (¬ a3 = (nI (sN S y1)) → J11 S (some y1)))
set_option maxHeartbeats 4000000 in
set_option maxRecDepth 100000 in
theorem m_AL_add3 (l : Launch) (x : Cx) (S : St) (post : St → Prop) (a0 : Nat) (a1 : Option Nat) (a2 : Option Nat) (a3 : Int32) (fa0 : isA S 0 a0) (h : w_AL_add3 post S a0 a1 a2 a3) : Met l y_AL_add3 [.code y_AL_add3 c_AL_add3 4 none] { frames := 3, cells := 1, slots := 10, locals := 64 } (va_Pc [.ref a0, va_rf a1, va_rf a2, .int a3] (GW x S)) (va_Qv post (gB x S) (xA x)) 1 10 (xA x) := by
  refine gMet (by decide +kernel) (by simp [lg_sl, gCat, gci1, gcr1, gcl1, gcd1]) ?_
  intro p e s m args below meth c hx hb hr hown hlocks hin hw hK H locs hG ls hlA hml
  have hown : s.vm.findClass "java/util/ArrayList" = some m.cls := hown
  have hl0 : lv_has ls 4 [(0, .ref a0), (1, va_rf a1), (2, va_rf a2), (3, .int a3)] := by simpa [lv_args, gCat, gci1, gcr1, gcl1, gcd1] using hlA
  have leS : gle S S := gle.rf
  unfold w_AL_add3 at h
  refine lv_iload_n hx hb d_AL_add3_0 rfl (lv_at hl0 3 rfl) ?_
  refine gaload_n hx hb d_AL_add3_1 rfl (lv_at hl0 2 rfl) ?_
  obtain ⟨y1, ey1, h⟩ := h
  subst ey1
  by_cases hc2 : y1 = sX S
  · replace h := h.1 hc2
    refine galenX hx hb hK hG hc2 d_AL_add3_2 ?_
    obtain ⟨J11, hJ11, h⟩ := h
    have k11 : ∀ (S_11 : St) (v2_11 : Option Nat) (H : Heap) (locs : List Loc) (ls : Array Slot), gle S S_11 → GH x S_11 s H locs → lv_has ls 4 [(0, .ref a0), (1, va_rf a1), (2, va_rf v2_11), (3, .int a3)] → J11 S_11 v2_11 → W p l e { frames := 3, cells := 1, slots := 10, locals := 64 } s m args below meth c H locs 1 10 (MQ below (va_Qv post (gB x S) (xA x)) args s 1 10 (xA x)) (F0 m 11 ls []) := by
      intro S_11 v2_11  H locs ls hle1 hG hl3 hj
      replace h := hJ11 S_11 v2_11 hj
      have fa0 := gle_isA hle1 fa0
      have leS := leS.tr hle1
      refine gaload_n hx hb d_AL_add3_11 rfl (lv_at hl3 2 rfl) ?_
      refine lv_iload_n hx hb d_AL_add3_12 rfl (lv_at hl3 3 rfl) ?_
      refine gaload_n hx hb d_AL_add3_13 rfl (lv_at hl3 1 rfl) ?_
      obtain ⟨y4, ey4, h⟩ := h
      subst ey4
      obtain ⟨f5, h⟩ := h
      obtain ⟨y6, ey6, h⟩ := h
      subst ey6
      obtain ⟨hi7, h⟩ := h
      obtain ⟨f10, h⟩ := h
      refine gaastO hx hb hw hK hG f5 f10 hi7 d_AL_add3_14 (fun S8 H locs eS8 hle1 hG => ?_)
      replace h := h S8 eS8
      have fa0 := gle_isA hle1 fa0
      have f5 := gle_isA hle1 f5
      have leS := leS.tr hle1
      refine lv_aload_n hx hb d_AL_add3_15 rfl (lv_at hl3 0 rfl) ?_
      refine lv_iload_n hx hb d_AL_add3_16 rfl (lv_at hl3 3 rfl) ?_
      refine lv_iconst (v := 1) hx hb d_AL_add3_17 (by decide) ?_
      refine lv_iadd hx hb d_AL_add3_18 ?_
      refine gput (S' := pI S8 2 a0 (a3 + 1)) hx hb hw hown hK hG kd_AL fa0 rfl 2 (by decide) (gChI fa0 rfl) tw_95 (fun _ h9 => h9) rfl rfl rfl rfl (Nat.le_of_ble_eq_true rfl) d_AL_add3_19 (fun S11 H locs eS11 hle1 hG => ?_)
      replace h := h S11 eS11
      have fa0 := gle_isA hle1 fa0
      have f5 := gle_isA hle1 f5
      have leS := leS.tr hle1
      exact gvret hx hb hr hlocks hK hG leS h (Nat.le_of_ble_eq_true rfl) (Nat.le_of_ble_eq_true rfl) d_AL_add3_22
    refine lv_icmp_ne (tgt := 11) hx hb d_AL_add3_3 (by decide) (fun hc15 => ?_) (fun hc15 => ?_)
    · replace h := h.2 hc15
      refine W.widen (k := 1) (n := 10) (Nat.le_of_ble_eq_true rfl) (Nat.le_of_ble_eq_true rfl) ?_
      exact k11 S (some y1) H locs ls leS hG (lv_sub hl0 [0, 1, 2, 3] rfl) h
    · replace h := h.1 hc15
      refine lv_aload_n hx hb d_AL_add3_6 rfl (lv_at hl0 0 rfl) ?_
      -- call AL_grow0
      refine gcq hK hG (va_runV (As := []) (rest := []) ⟨hx, hb, hml, hown, hw⟩ (m_AL_grow0 l x S _ a0 fa0 h) ⟨gcb hw tw_206 tw_32 tw_203 hd_AL_grow0 rfl rfl ⟨(Nat.le_of_ble_eq_true rfl), (Nat.le_of_ble_eq_true rfl)⟩, hw _ tw_205, hw _ tw_1⟩ (gpV hK hG kd_AL fa0 rfl) rfl rfl hl0.1 rfl (lv_room (Nat.le_of_ble_eq_true rfl)) d_AL_add3_7 ⟨(Nat.le_of_ble_eq_true rfl), (Nat.le_of_ble_eq_true rfl)⟩) (fun o12 S13 H locs h9 hle1 hG => ?_)
      replace h := h9
      clear h9
      have fa0 := gle_isA hle1 fa0
      have leS := leS.tr hle1
      refine gastore_n (i := 2) (lv' := [(2, va_rf o12), (0, .ref a0), (1, va_rf a1), (3, .int a3)]) hx hb d_AL_add3_10 rfl hl0 (by decide) (by simp [gCat, gCatB, gci1, gcr1, gcl1, gcd1] <;> rfl) (fun ls hl14 => ?_)
      exact k11 S13 o12 H locs ls leS hG (lv_sub hl14 [1, 2, 0, 3] rfl) h
  · replace h := h.2 hc2
    obtain ⟨f16, h⟩ := h
    refine galen hx hb hK hG f16 rfl 3 rfl rfl d_AL_add3_2 ?_
    obtain ⟨J11, hJ11, h⟩ := h
    have k11 : ∀ (S_11 : St) (v2_11 : Option Nat) (H : Heap) (locs : List Loc) (ls : Array Slot), gle S S_11 → GH x S_11 s H locs → lv_has ls 4 [(0, .ref a0), (1, va_rf a1), (2, va_rf v2_11), (3, .int a3)] → J11 S_11 v2_11 → W p l e { frames := 3, cells := 1, slots := 10, locals := 64 } s m args below meth c H locs 1 10 (MQ below (va_Qv post (gB x S) (xA x)) args s 1 10 (xA x)) (F0 m 11 ls []) := by
      intro S_11 v2_11  H locs ls hle1 hG hl17 hj
      replace h := hJ11 S_11 v2_11 hj
      have fa0 := gle_isA hle1 fa0
      have f16 := gle_isA hle1 f16
      have leS := leS.tr hle1
      refine gaload_n hx hb d_AL_add3_11 rfl (lv_at hl17 2 rfl) ?_
      refine lv_iload_n hx hb d_AL_add3_12 rfl (lv_at hl17 3 rfl) ?_
      refine gaload_n hx hb d_AL_add3_13 rfl (lv_at hl17 1 rfl) ?_
      obtain ⟨y18, ey18, h⟩ := h
      subst ey18
      obtain ⟨f19, h⟩ := h
      obtain ⟨y20, ey20, h⟩ := h
      subst ey20
      obtain ⟨hi21, h⟩ := h
      obtain ⟨f24, h⟩ := h
      refine gaastO hx hb hw hK hG f19 f24 hi21 d_AL_add3_14 (fun S22 H locs eS22 hle1 hG => ?_)
      replace h := h S22 eS22
      have fa0 := gle_isA hle1 fa0
      have f16 := gle_isA hle1 f16
      have f19 := gle_isA hle1 f19
      have leS := leS.tr hle1
      refine lv_aload_n hx hb d_AL_add3_15 rfl (lv_at hl17 0 rfl) ?_
      refine lv_iload_n hx hb d_AL_add3_16 rfl (lv_at hl17 3 rfl) ?_
      refine lv_iconst (v := 1) hx hb d_AL_add3_17 (by decide) ?_
      refine lv_iadd hx hb d_AL_add3_18 ?_
      refine gput (S' := pI S22 2 a0 (a3 + 1)) hx hb hw hown hK hG kd_AL fa0 rfl 2 (by decide) (gChI fa0 rfl) tw_95 (fun _ h9 => h9) rfl rfl rfl rfl (Nat.le_of_ble_eq_true rfl) d_AL_add3_19 (fun S25 H locs eS25 hle1 hG => ?_)
      replace h := h S25 eS25
      have fa0 := gle_isA hle1 fa0
      have f16 := gle_isA hle1 f16
      have f19 := gle_isA hle1 f19
      have leS := leS.tr hle1
      exact gvret hx hb hr hlocks hK hG leS h (Nat.le_of_ble_eq_true rfl) (Nat.le_of_ble_eq_true rfl) d_AL_add3_22
    refine lv_icmp_ne (tgt := 11) hx hb d_AL_add3_3 (by decide) (fun hc29 => ?_) (fun hc29 => ?_)
    · replace h := h.2 hc29
      refine W.widen (k := 1) (n := 10) (Nat.le_of_ble_eq_true rfl) (Nat.le_of_ble_eq_true rfl) ?_
      exact k11 S (some y1) H locs ls leS hG (lv_sub hl0 [0, 1, 2, 3] rfl) h
    · replace h := h.1 hc29
      refine lv_aload_n hx hb d_AL_add3_6 rfl (lv_at hl0 0 rfl) ?_
      -- call AL_grow0
      refine gcq hK hG (va_runV (As := []) (rest := []) ⟨hx, hb, hml, hown, hw⟩ (m_AL_grow0 l x S _ a0 fa0 h) ⟨gcb hw tw_206 tw_32 tw_203 hd_AL_grow0 rfl rfl ⟨(Nat.le_of_ble_eq_true rfl), (Nat.le_of_ble_eq_true rfl)⟩, hw _ tw_205, hw _ tw_1⟩ (gpV hK hG kd_AL fa0 rfl) rfl rfl hl0.1 rfl (lv_room (Nat.le_of_ble_eq_true rfl)) d_AL_add3_7 ⟨(Nat.le_of_ble_eq_true rfl), (Nat.le_of_ble_eq_true rfl)⟩) (fun o26 S27 H locs h9 hle1 hG => ?_)
      replace h := h9
      clear h9
      have fa0 := gle_isA hle1 fa0
      have f16 := gle_isA hle1 f16
      have leS := leS.tr hle1
      refine gastore_n (i := 2) (lv' := [(2, va_rf o26), (0, .ref a0), (1, va_rf a1), (3, .int a3)]) hx hb d_AL_add3_10 rfl hl0 (by decide) (by simp [gCat, gCatB, gci1, gcr1, gcl1, gcd1] <;> rfl) (fun ls hl28 => ?_)
      exact k11 S27 o26 H locs ls leS hG (lv_sub hl28 [1, 2, 0, 3] rfl) h
def w_AL_add1 (post : Int32 → St → Prop) (S : St) (a0 : Nat) (a1 : Option Nat) : Prop :=
  ∀ S1 : St, S1 = pI S 0 a0 ((sI S 0 a0) + 1) → ∀ o2 : Option Nat, o2 = sQ S1 1 a0 → w_AL_add3 (fun (S3 : St) => post 1 S3) S1 a0 a1 o2 (sI S1 2 a0)
set_option maxHeartbeats 4000000 in
set_option maxRecDepth 100000 in
theorem m_AL_add1 (l : Launch) (x : Cx) (S : St) (post : Int32 → St → Prop) (a0 : Nat) (a1 : Option Nat) (fa0 : isA S 0 a0) (h : w_AL_add1 post S a0 a1) : Met l y_AL_add1 [.code y_AL_add1 c_AL_add1 2 (some .boolean)] { frames := 4, cells := 1, slots := 10, locals := 87 } (va_Pc [.ref a0, va_rf a1] (GW x S)) (va_Qi post (gB x S) (xA x)) 1 10 (xA x) := by
  refine gMet (by decide +kernel) (by simp [lg_sl, gCat, gci1, gcr1, gcl1, gcd1]) ?_
  intro p e s m args below meth c hx hb hr hown hlocks hin hw hK H locs hG ls hlA hml
  have hown : s.vm.findClass "java/util/ArrayList" = some m.cls := hown
  have hl0 : lv_has ls 2 [(0, .ref a0), (1, va_rf a1)] := hlA
  have leS : gle S S := gle.rf
  unfold w_AL_add1 at h
  refine lv_aload_n hx hb d_AL_add1_0 rfl (lv_at hl0 0 rfl) ?_
  refine lv_dup hx hb d_AL_add1_1 rfl ?_
  refine gget hx hb hw hown hK hG kd_AL fa0 rfl 0 (by decide) rfl tw_97 (fun y9 h9 => u_same (hw _ tw_98) y9 h9) d_AL_add1_2 ?_
  refine lv_iconst (v := 1) hx hb d_AL_add1_5 (by decide) ?_
  refine lv_iadd hx hb d_AL_add1_6 ?_
  refine gput (S' := pI S 0 a0 ((sI S 0 a0) + 1)) hx hb hw hown hK hG kd_AL fa0 rfl 0 (by decide) (gChI fa0 rfl) tw_97 (fun y9 h9 => u_same (hw _ tw_98) y9 h9) rfl rfl rfl rfl (Nat.le_of_ble_eq_true rfl) d_AL_add1_7 (fun S1 H locs eS1 hle1 hG => ?_)
  replace h := h S1 eS1
  have fa0 := gle_isA hle1 fa0
  have leS := leS.tr hle1
  refine lv_aload_n hx hb d_AL_add1_10 rfl (lv_at hl0 0 rfl) ?_
  refine gaload_n hx hb d_AL_add1_11 rfl (lv_at hl0 1 rfl) ?_
  refine lv_aload_n hx hb d_AL_add1_12 rfl (lv_at hl0 0 rfl) ?_
  refine gget hx hb hw hown hK hG kd_AL fa0 rfl 1 (by decide) rfl tw_94 (fun _ h9 => h9) d_AL_add1_13 ?_
  refine gtopq (fun o2 eo2 => ?_)
  replace h := h o2 eo2
  refine lv_aload_n hx hb d_AL_add1_16 rfl (lv_at hl0 0 rfl) ?_
  refine gget hx hb hw hown hK hG kd_AL fa0 rfl 2 (by decide) rfl tw_95 (fun _ h9 => h9) d_AL_add1_17 ?_
  -- call AL_add3
  refine gcv hK hG (va_runV (As := [va_rf a1, va_rf o2, .int (sI S1 2 a0)]) (rest := []) ⟨hx, hb, hml, hown, hw⟩ (m_AL_add3 l x S1 _ a0 a1 o2 (sI S1 2 a0) fa0 h) ⟨gcb hw tw_202 tw_32 tw_199 hd_AL_add3 rfl rfl ⟨(Nat.le_of_ble_eq_true rfl), (Nat.le_of_ble_eq_true rfl)⟩, hw _ tw_201, hw _ tw_0⟩ (gpV hK hG kd_AL fa0 rfl) rfl rfl hl0.1 rfl (lv_room (Nat.le_of_ble_eq_true rfl)) d_AL_add1_20 ⟨(Nat.le_of_ble_eq_true rfl), (Nat.le_of_ble_eq_true rfl)⟩) (fun S3 H locs h9 hle1 hG => ?_)
  replace h := h9
  clear h9
  have fa0 := gle_isA hle1 fa0
  have leS := leS.tr hle1
  refine lv_iconst (v := 1) hx hb d_AL_add1_23 (by decide) ?_
  exact gzret hx hb hr rfl hlocks hK hG leS h (Nat.le_of_ble_eq_true rfl) (Nat.le_of_ble_eq_true rfl) d_AL_add1_24
