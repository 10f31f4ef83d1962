theorem tw_12 : (Cond.selects "WaltzHallModel" (⟨"WaltzHallModel", "no", "(I)I"⟩ : MethodName) (⟨"WaltzHallModel", "no", "(I)I"⟩ : MethodName)) ∈ gG := gmm 12 (by decide +kernel) (by decide +kernel)
theorem tw_13 : (Cond.selects "WaltzHallModel" (⟨"WaltzHallModel", "isDancer", "(I)Z"⟩ : MethodName) (⟨"WaltzHallModel", "isDancer", "(I)Z"⟩ : MethodName)) ∈ gG := gmm 13 (by decide +kernel) (by decide +kernel)
theorem tw_15 : (Cond.selects "WaltzHallModel" (⟨"WaltzHallModel", "dancerTold", "(II)I"⟩ : MethodName) (⟨"WaltzHallModel", "dancerTold", "(II)I"⟩ : MethodName)) ∈ gG := gmm 15 (by decide +kernel) (by decide +kernel)
theorem tw_16 : (Cond.selects "WaltzHallModel" (⟨"WaltzHallModel", "isWinder", "(I)Z"⟩ : MethodName) (⟨"WaltzHallModel", "isWinder", "(I)Z"⟩ : MethodName)) ∈ gG := gmm 16 (by decide +kernel) (by decide +kernel)
theorem tw_17 : (Cond.selects "WaltzHallModel" (⟨"WaltzHallModel", "winderTold", "(II)I"⟩ : MethodName) (⟨"WaltzHallModel", "winderTold", "(II)I"⟩ : MethodName)) ∈ gG := gmm 17 (by decide +kernel) (by decide +kernel)
theorem tw_25 : (Cond.selects "WaltzHallModel" (⟨"WaltzHallModel", "counted", "(I)I"⟩ : MethodName) (⟨"WaltzHallModel", "counted", "(I)I"⟩ : MethodName)) ∈ gG := gmm 25 (by decide +kernel) (by decide +kernel)
theorem tw_941 : (Jvm.Cond.fieldLinkNest "WaltzHallModel" (161 : Nat) "WaltzHallModel$State" "beat" "I" "WaltzHallModel") ∈ gG := gmm 941 (by decide +kernel) (by decide +kernel)
theorem tw_943 : (Jvm.Cond.fieldLinkNest "WaltzHallModel" (72 : Nat) "WaltzHallModel$State" "dancers" "I" "WaltzHallModel") ∈ gG := gmm 943 (by decide +kernel) (by decide +kernel)
theorem tw_945 : (Jvm.Cond.fieldLinkNest "WaltzHallModel" (91 : Nat) "WaltzHallModel$State" "x" "[I" "WaltzHallModel") ∈ gG := gmm 945 (by decide +kernel) (by decide +kernel)
theorem tw_947 : (Jvm.Cond.fieldLinkNest "WaltzHallModel" (94 : Nat) "WaltzHallModel$State" "y" "[I" "WaltzHallModel") ∈ gG := gmm 947 (by decide +kernel) (by decide +kernel)
theorem tw_949 : (Jvm.Cond.fieldLinkNest "WaltzHallModel" (97 : Nat) "WaltzHallModel$State" "face" "[I" "WaltzHallModel") ∈ gG := gmm 949 (by decide +kernel) (by decide +kernel)
theorem tw_951 : (Jvm.Cond.fieldLinkNest "WaltzHallModel" (103 : Nat) "WaltzHallModel$State" "spring" "[I" "WaltzHallModel") ∈ gG := gmm 951 (by decide +kernel) (by decide +kernel)
theorem tw_953 : (Jvm.Cond.fieldLinkNest "WaltzHallModel" (100 : Nat) "WaltzHallModel$State" "cost" "[I" "WaltzHallModel") ∈ gG := gmm 953 (by decide +kernel) (by decide +kernel)
theorem tw_955 : (Jvm.Cond.fieldLinkNest "WaltzHallModel" (75 : Nat) "WaltzHallModel$State" "dance" "[I" "WaltzHallModel") ∈ gG := gmm 955 (by decide +kernel) (by decide +kernel)
theorem tw_957 : (Jvm.Cond.fieldLinkNest "WaltzHallModel" (78 : Nat) "WaltzHallModel$State" "place" "[I" "WaltzHallModel") ∈ gG := gmm 957 (by decide +kernel) (by decide +kernel)
theorem tw_959 : (Jvm.Cond.fieldLinkNest "WaltzHallModel" (106 : Nat) "WaltzHallModel$State" "partner" "[I" "WaltzHallModel") ∈ gG := gmm 959 (by decide +kernel) (by decide +kernel)
theorem tw_961 : (Jvm.Cond.fieldLinkNest "WaltzHallModel" (116 : Nat) "WaltzHallModel$State" "follows" "[Z" "WaltzHallModel") ∈ gG := gmm 961 (by decide +kernel) (by decide +kernel)
theorem tw_963 : (Jvm.Cond.fieldLinkNest "WaltzHallModel" (131 : Nat) "WaltzHallModel$State" "dizzy" "[I" "WaltzHallModel") ∈ gG := gmm 963 (by decide +kernel) (by decide +kernel)
theorem tw_965 : (Jvm.Cond.fieldLinkNest "WaltzHallModel" (134 : Nat) "WaltzHallModel$State" "done" "[I" "WaltzHallModel") ∈ gG := gmm 965 (by decide +kernel) (by decide +kernel)
theorem tw_967 : (Jvm.Cond.fieldLinkNest "WaltzHallModel" (137 : Nat) "WaltzHallModel$State" "bumps" "[I" "WaltzHallModel") ∈ gG := gmm 967 (by decide +kernel) (by decide +kernel)
theorem tw_969 : (Jvm.Cond.fieldLinkNest "WaltzHallModel" (143 : Nat) "WaltzHallModel$State" "winders" "I" "WaltzHallModel") ∈ gG := gmm 969 (by decide +kernel) (by decide +kernel)
theorem tw_971 : (Jvm.Cond.fieldLinkNest "WaltzHallModel" (146 : Nat) "WaltzHallModel$State" "winder" "[I" "WaltzHallModel") ∈ gG := gmm 971 (by decide +kernel) (by decide +kernel)
theorem tw_973 : (Jvm.Cond.fieldLinkNest "WaltzHallModel" (152 : Nat) "WaltzHallModel$State" "round" "[I" "WaltzHallModel") ∈ gG := gmm 973 (by decide +kernel) (by decide +kernel)
theorem tw_1017 : (Jvm.Cond.fieldLink "WaltzHallModel" (45 : Nat) "WaltzHallModel" "thrown" "I") ∈ gG := gmm 1017 (by decide +kernel) (by decide +kernel)
theorem tw_1019 : (Jvm.Cond.fieldLink "WaltzHallModel" (49 : Nat) "WaltzHallModel" "taped" "I") ∈ gG := gmm 1019 (by decide +kernel) (by decide +kernel)
theorem tw_1049 : (Jvm.Cond.methodLink "WaltzHallModel" (52 : Nat) ({ cls := "WaltzHallModel", name := "no", desc := "(I)I" } : Jvm.MethodName)) ∈ gG := gmm 1049 (by decide +kernel) (by decide +kernel)
theorem tw_1051 : (Jvm.Cond.instanceMethod ({ cls := "WaltzHallModel", name := "no", desc := "(I)I" } : Jvm.MethodName)) ∈ gG := gmm 1051 (by decide +kernel) (by decide +kernel)
theorem tw_1052 : (Jvm.Cond.code ({ cls := "WaltzHallModel", name := "no", desc := "(I)I" } : Jvm.MethodName) prog_8_method_3_code (2 : Nat) (Option.some Jvm.ClassFile.FieldType.int)) ∈ gG := gmm 1052 (by decide +kernel) (by decide +kernel)
theorem tw_1057 : (Jvm.Cond.methodLink "WaltzHallModel" (56 : Nat) ({ cls := "WaltzHallModel", name := "isIn", desc := "(III)Z" } : Jvm.MethodName)) ∈ gG := gmm 1057 (by decide +kernel) (by decide +kernel)
theorem tw_1064 : (Jvm.Cond.methodLink "WaltzHallModel" (62 : Nat) ({ cls := "WaltzHallModel", name := "isFigure", desc := "(I)Z" } : Jvm.MethodName)) ∈ gG := gmm 1064 (by decide +kernel) (by decide +kernel)
theorem tw_1065 : (Jvm.Cond.static ({ cls := "WaltzHallModel", name := "isFigure", desc := "(I)Z" } : Jvm.MethodName)) ∈ gG := gmm 1065 (by decide +kernel) (by decide +kernel)
theorem tw_1066 : (Jvm.Cond.code ({ cls := "WaltzHallModel", name := "isFigure", desc := "(I)Z" } : Jvm.MethodName) prog_8_method_7_code (3 : Nat) (Option.some Jvm.ClassFile.FieldType.boolean)) ∈ gG := gmm 1066 (by decide +kernel) (by decide +kernel)
theorem tw_1068 : (Jvm.Cond.methodLink "WaltzHallModel" (66 : Nat) ({ cls := "java/lang/System", name := "arraycopy", desc := "(Ljava/lang/Object;ILjava/lang/Object;II)V" } : Jvm.MethodName)) ∈ gG := gmm 1068 (by decide +kernel) (by decide +kernel)
theorem tw_1077 : (Jvm.Cond.fieldLink "WaltzHallModel" (81 : Nat) "WaltzHallModel" "DX" "[I") ∈ gG := gmm 1077 (by decide +kernel) (by decide +kernel)
theorem tw_1079 : (Jvm.Cond.fieldLink "WaltzHallModel" (84 : Nat) "WaltzHallModel" "DY" "[I") ∈ gG := gmm 1079 (by decide +kernel) (by decide +kernel)
theorem tw_1085 : (Jvm.Cond.methodLink "WaltzHallModel" (87 : Nat) ({ cls := "WaltzHallModel$State", name := "at", desc := "(II)I" } : Jvm.MethodName)) ∈ gG := gmm 1085 (by decide +kernel) (by decide +kernel)
theorem tw_1093 : (Jvm.Cond.methodLink "WaltzHallModel" (109 : Nat) ({ cls := "WaltzHallModel", name := "isDancer", desc := "(I)Z" } : Jvm.MethodName)) ∈ gG := gmm 1093 (by decide +kernel) (by decide +kernel)
theorem tw_1095 : (Jvm.Cond.instanceMethod ({ cls := "WaltzHallModel", name := "isDancer", desc := "(I)Z" } : Jvm.MethodName)) ∈ gG := gmm 1095 (by decide +kernel) (by decide +kernel)
theorem tw_1096 : (Jvm.Cond.code ({ cls := "WaltzHallModel", name := "isDancer", desc := "(I)Z" } : Jvm.MethodName) prog_8_method_12_code (2 : Nat) (Option.some Jvm.ClassFile.FieldType.boolean)) ∈ gG := gmm 1096 (by decide +kernel) (by decide +kernel)
theorem tw_1101 : (Jvm.Cond.methodLink "WaltzHallModel" (112 : Nat) ({ cls := "WaltzHallModel$State", name := "isBeside", desc := "(II)Z" } : Jvm.MethodName)) ∈ gG := gmm 1101 (by decide +kernel) (by decide +kernel)
theorem tw_1102 : (Jvm.Cond.instanceMethod ({ cls := "WaltzHallModel$State", name := "isBeside", desc := "(II)Z" } : Jvm.MethodName)) ∈ gG := gmm 1102 (by decide +kernel) (by decide +kernel)
theorem tw_1103 : (Jvm.Cond.selects "WaltzHallModel$State" ({ cls := "WaltzHallModel$State", name := "isBeside", desc := "(II)Z" } : Jvm.MethodName) ({ cls := "WaltzHallModel$State", name := "isBeside", desc := "(II)Z" } : Jvm.MethodName)) ∈ gG := gmm 1103 (by decide +kernel) (by decide +kernel)
theorem tw_1104 : (Jvm.Cond.code ({ cls := "WaltzHallModel$State", name := "isBeside", desc := "(II)Z" } : Jvm.MethodName) prog_9_method_5_code (3 : Nat) (Option.some Jvm.ClassFile.FieldType.boolean)) ∈ gG := gmm 1104 (by decide +kernel) (by decide +kernel)
theorem tw_1106 : (Jvm.Cond.methodLink "WaltzHallModel" (120 : Nat) ({ cls := "WaltzHallModel$State", name := "sum", desc := "(I)I" } : Jvm.MethodName)) ∈ gG := gmm 1106 (by decide +kernel) (by decide +kernel)
theorem tw_1122 : (Jvm.Cond.methodLink "WaltzHallModel" (123 : Nat) ({ cls := "java/lang/Math", name := "min", desc := "(II)I" } : Jvm.MethodName)) ∈ gG := gmm 1122 (by decide +kernel) (by decide +kernel)
theorem tw_1123 : (Jvm.Cond.methodLink "WaltzHallModel" (128 : Nat) ({ cls := "java/lang/Math", name := "max", desc := "(II)I" } : Jvm.MethodName)) ∈ gG := gmm 1123 (by decide +kernel) (by decide +kernel)
theorem tw_1128 : (Jvm.Cond.methodLink "WaltzHallModel" (140 : Nat) ({ cls := "WaltzHallModel", name := "dancerTold", desc := "(II)I" } : Jvm.MethodName)) ∈ gG := gmm 1128 (by decide +kernel) (by decide +kernel)
theorem tw_1130 : (Jvm.Cond.instanceMethod ({ cls := "WaltzHallModel", name := "dancerTold", desc := "(II)I" } : Jvm.MethodName)) ∈ gG := gmm 1130 (by decide +kernel) (by decide +kernel)
theorem tw_1131 : (Jvm.Cond.code ({ cls := "WaltzHallModel", name := "dancerTold", desc := "(II)I" } : Jvm.MethodName) prog_8_method_17_code (4 : Nat) (Option.some Jvm.ClassFile.FieldType.int)) ∈ gG := gmm 1131 (by decide +kernel) (by decide +kernel)
theorem tw_1144 : (Jvm.Cond.methodLink "WaltzHallModel" (149 : Nat) ({ cls := "WaltzHallModel", name := "isWinder", desc := "(I)Z" } : Jvm.MethodName)) ∈ gG := gmm 1144 (by decide +kernel) (by decide +kernel)
theorem tw_1146 : (Jvm.Cond.instanceMethod ({ cls := "WaltzHallModel", name := "isWinder", desc := "(I)Z" } : Jvm.MethodName)) ∈ gG := gmm 1146 (by decide +kernel) (by decide +kernel)
theorem tw_1147 : (Jvm.Cond.code ({ cls := "WaltzHallModel", name := "isWinder", desc := "(I)Z" } : Jvm.MethodName) prog_8_method_21_code (2 : Nat) (Option.some Jvm.ClassFile.FieldType.boolean)) ∈ gG := gmm 1147 (by decide +kernel) (by decide +kernel)
theorem tw_1152 : (Jvm.Cond.methodLink "WaltzHallModel" (155 : Nat) ({ cls := "WaltzHallModel", name := "winderTold", desc := "(II)I" } : Jvm.MethodName)) ∈ gG := gmm 1152 (by decide +kernel) (by decide +kernel)
theorem tw_1154 : (Jvm.Cond.instanceMethod ({ cls := "WaltzHallModel", name := "winderTold", desc := "(II)I" } : Jvm.MethodName)) ∈ gG := gmm 1154 (by decide +kernel) (by decide +kernel)
theorem tw_1155 : (Jvm.Cond.code ({ cls := "WaltzHallModel", name := "winderTold", desc := "(II)I" } : Jvm.MethodName) prog_8_method_23_code (4 : Nat) (Option.some Jvm.ClassFile.FieldType.int)) ∈ gG := gmm 1155 (by decide +kernel) (by decide +kernel)
theorem tw_1160 : (Jvm.Cond.methodLink "WaltzHallModel" (158 : Nat) ({ cls := "WaltzHallModel$State", name := "pass", desc := "()I" } : Jvm.MethodName)) ∈ gG := gmm 1160 (by decide +kernel) (by decide +kernel)
theorem tw_1161 : (Jvm.Cond.instanceMethod ({ cls := "WaltzHallModel$State", name := "pass", desc := "()I" } : Jvm.MethodName)) ∈ gG := gmm 1161 (by decide +kernel) (by decide +kernel)
theorem tw_1162 : (Jvm.Cond.selects "WaltzHallModel$State" ({ cls := "WaltzHallModel$State", name := "pass", desc := "()I" } : Jvm.MethodName) ({ cls := "WaltzHallModel$State", name := "pass", desc := "()I" } : Jvm.MethodName)) ∈ gG := gmm 1162 (by decide +kernel) (by decide +kernel)
theorem tw_1163 : (Jvm.Cond.code ({ cls := "WaltzHallModel$State", name := "pass", desc := "()I" } : Jvm.MethodName) prog_9_method_8_code (3 : Nat) (Option.some Jvm.ClassFile.FieldType.int)) ∈ gG := gmm 1163 (by decide +kernel) (by decide +kernel)
theorem tw_1206 : (Jvm.Cond.methodLink "WaltzHallModel" (164 : Nat) ({ cls := "WaltzHallModel", name := "counted", desc := "(I)I" } : Jvm.MethodName)) ∈ gG := gmm 1206 (by decide +kernel) (by decide +kernel)
theorem tw_1208 : (Jvm.Cond.instanceMethod ({ cls := "WaltzHallModel", name := "counted", desc := "(I)I" } : Jvm.MethodName)) ∈ gG := gmm 1208 (by decide +kernel) (by decide +kernel)
theorem tw_1209 : (Jvm.Cond.code ({ cls := "WaltzHallModel", name := "counted", desc := "(I)I" } : Jvm.MethodName) prog_8_method_26_code (2 : Nat) (Option.some Jvm.ClassFile.FieldType.int)) ∈ gG := gmm 1209 (by decide +kernel) (by decide +kernel)
theorem tw_1214 : (Jvm.Cond.methodLink "WaltzHallModel" (167 : Nat) ({ cls := "WaltzHallModel$State", name := "become", desc := "(LWaltzHallModel$State;)V" } : Jvm.MethodName)) ∈ gG := gmm 1214 (by decide +kernel) (by decide +kernel)
theorem tw_1215 : (Jvm.Cond.instanceMethod ({ cls := "WaltzHallModel$State", name := "become", desc := "(LWaltzHallModel$State;)V" } : Jvm.MethodName)) ∈ gG := gmm 1215 (by decide +kernel) (by decide +kernel)
theorem tw_1216 : (Jvm.Cond.selects "WaltzHallModel$State" ({ cls := "WaltzHallModel$State", name := "become", desc := "(LWaltzHallModel$State;)V" } : Jvm.MethodName) ({ cls := "WaltzHallModel$State", name := "become", desc := "(LWaltzHallModel$State;)V" } : Jvm.MethodName)) ∈ gG := gmm 1216 (by decide +kernel) (by decide +kernel)
theorem tw_1217 : (Jvm.Cond.code ({ cls := "WaltzHallModel$State", name := "become", desc := "(LWaltzHallModel$State;)V" } : Jvm.MethodName) prog_9_method_3_code (2 : Nat) (Option.none : Option Jvm.ClassFile.FieldType)) ∈ gG := gmm 1217 (by decide +kernel) (by decide +kernel)
theorem tw_1227 : (Jvm.Cond.methodLinkNest "WaltzHallModel" (171 : Nat) ({ cls := "WaltzHallModel$State", name := "isTired", desc := "(I)Z" } : Jvm.MethodName) "WaltzHallModel") ∈ gG := gmm 1227 (by decide +kernel) (by decide +kernel)
theorem tw_1240 : (Jvm.Cond.constantLong "WaltzHallModel" (174 : Nat) (521 : Int64)) ∈ gG := gmm 1240 (by decide +kernel) (by decide +kernel)
theorem tw_1241 : (Jvm.Cond.constantLong "WaltzHallModel" (176 : Nat) (31 : Int64)) ∈ gG := gmm 1241 (by decide +kernel) (by decide +kernel)
theorem hd_M_counted : y_M_counted.cls ≠ "java/lang/invoke/MethodHandle" ∧ y_M_counted.cls ≠ "java/lang/invoke/VarHandle" ∧ (parseMethodDescriptor y_M_counted.desc).map (fun d => d.parameters.length) = some 1 := by decide +kernel
theorem hd_M_dancerTold : y_M_dancerTold.cls ≠ "java/lang/invoke/MethodHandle" ∧ y_M_dancerTold.cls ≠ "java/lang/invoke/VarHandle" ∧ (parseMethodDescriptor y_M_dancerTold.desc).map (fun d => d.parameters.length) = some 2 := by decide +kernel
theorem hd_M_isDancer : y_M_isDancer.cls ≠ "java/lang/invoke/MethodHandle" ∧ y_M_isDancer.cls ≠ "java/lang/invoke/VarHandle" ∧ (parseMethodDescriptor y_M_isDancer.desc).map (fun d => d.parameters.length) = some 1 := by decide +kernel
theorem hd_M_isFigure : y_M_isFigure.cls ≠ "java/lang/invoke/MethodHandle" ∧ y_M_isFigure.cls ≠ "java/lang/invoke/VarHandle" ∧ (parseMethodDescriptor y_M_isFigure.desc).map (fun d => d.parameters.length) = some 1 := by decide +kernel
theorem hd_M_isWinder : y_M_isWinder.cls ≠ "java/lang/invoke/MethodHandle" ∧ y_M_isWinder.cls ≠ "java/lang/invoke/VarHandle" ∧ (parseMethodDescriptor y_M_isWinder.desc).map (fun d => d.parameters.length) = some 1 := by decide +kernel
theorem hd_M_no : y_M_no.cls ≠ "java/lang/invoke/MethodHandle" ∧ y_M_no.cls ≠ "java/lang/invoke/VarHandle" ∧ (parseMethodDescriptor y_M_no.desc).map (fun d => d.parameters.length) = some 1 := by decide +kernel
theorem hd_M_winderTold : y_M_winderTold.cls ≠ "java/lang/invoke/MethodHandle" ∧ y_M_winderTold.cls ≠ "java/lang/invoke/VarHandle" ∧ (parseMethodDescriptor y_M_winderTold.desc).map (fun d => d.parameters.length) = some 2 := by decide +kernel
theorem hd_S_become : y_S_become.cls ≠ "java/lang/invoke/MethodHandle" ∧ y_S_become.cls ≠ "java/lang/invoke/VarHandle" ∧ (parseMethodDescriptor y_S_become.desc).map (fun d => d.parameters.length) = some 1 := by decide +kernel
theorem hd_S_isBeside : y_S_isBeside.cls ≠ "java/lang/invoke/MethodHandle" ∧ y_S_isBeside.cls ≠ "java/lang/invoke/VarHandle" ∧ (parseMethodDescriptor y_S_isBeside.desc).map (fun d => d.parameters.length) = some 2 := by decide +kernel
theorem hd_S_pass : y_S_pass.cls ≠ "java/lang/invoke/MethodHandle" ∧ y_S_pass.cls ≠ "java/lang/invoke/VarHandle" ∧ (parseMethodDescriptor y_S_pass.desc).map (fun d => d.parameters.length) = some 0 := by decide +kernel
def w_M_thrown (post : Int32 → Prop) (S : St) (a0 : Nat) : Prop :=
  post (sI S 56 a0)
set_option maxHeartbeats 4000000 in
set_option maxRecDepth 100000 in
theorem m_M_thrown (l : Launch) (x : Cx) (S : St) (post : Int32 → Prop) (a0 : Nat) (fa0 : isA S 8 a0) (h : w_M_thrown post S a0) : Met l y_M_thrown [.code y_M_thrown c_M_thrown 1 (some .int)] { frames := 0, cells := 0, slots := 0, locals := 0 } (va_Pc [.ref a0] (GW x S)) (va_Qi (gPu post S) (gB x S) (xA x)) 0 0 (xA x) := by
  refine gMet (by decide +kernel) (Nat.le_of_ble_eq_true rfl) ?_
  intro p e s m args below meth c hx hb hr hown hlocks hin hw hK H locs hG ls hlA hml
  have hown : s.vm.findClass "WaltzHallModel" = some m.cls := hown
  have hl0 : lv_has ls 1 [(0, .ref a0)] := hlA
  unfold w_M_thrown at h
  refine lv_aload_n hx hb d_M_thrown_0 rfl (lv_at hl0 0 rfl) ?_
  refine gget hx hb hw hown hK hG kd_M fa0 rfl 0 (by decide) rfl tw_1017 (fun _ h9 => h9) d_M_thrown_1 ?_
  exact giret hx hb hr hlocks hK hG gle.rf ⟨h, rfl⟩ (Nat.le_of_ble_eq_true rfl) (Nat.le_of_ble_eq_true rfl) d_M_thrown_4
def w_M_no (post : Int32 → St → Prop) (S : St) (a0 : Nat) (a1 : Int32) : Prop :=
  ∀ S1 : St, S1 = pI S 56 a0 a1 → post 0 S1
set_option maxHeartbeats 4000000 in
set_option maxRecDepth 100000 in
theorem m_M_no (l : Launch) (x : Cx) (S : St) (post : Int32 → St → Prop) (a0 : Nat) (a1 : Int32) (fa0 : isA S 8 a0) (h : w_M_no post S a0 a1) : Met l y_M_no [.code y_M_no c_M_no 2 (some .int)] { frames := 0, cells := 0, slots := 0, locals := 0 } (va_Pc [.ref a0, .int a1] (GW x S)) (va_Qi post (gB x S) (xA x)) 0 0 (xA x) := by
  refine gMet (by decide +kernel) (Nat.le_of_ble_eq_true rfl) ?_
  intro p e s m args below meth c hx hb hr hown hlocks hin hw hK H locs hG ls hlA hml
  have hown : s.vm.findClass "WaltzHallModel" = some m.cls := hown
  have hl0 : lv_has ls 2 [(0, .ref a0), (1, .int a1)] := hlA
  have leS : gle S S := gle.rf
  unfold w_M_no at h
  refine lv_aload_n hx hb d_M_no_0 rfl (lv_at hl0 0 rfl) ?_
  refine lv_iload_n hx hb d_M_no_1 rfl (lv_at hl0 1 rfl) ?_
  refine gput (S' := pI S 56 a0 a1) hx hb hw hown hK hG kd_M fa0 rfl 0 (by decide) (gChI fa0 rfl) tw_1017 (fun _ h9 => h9) rfl rfl rfl rfl (Nat.le_of_ble_eq_true rfl) d_M_no_2 (fun S1 H locs eS1 hle1 hG => ?_)
  replace h := h S1 eS1
  have fa0 := gle_isA hle1 fa0
  have leS := leS.tr hle1
  refine lv_iconst (v := 0) hx hb d_M_no_5 (by decide) ?_
  exact giret hx hb hr hlocks hK hG leS h (Nat.le_of_ble_eq_true rfl) (Nat.le_of_ble_eq_true rfl) d_M_no_6
def w_M_feed (post : Int32 → St → Prop) (S : St) (a0 : Nat) (a1 : Int32) (a2 : Int32) (a3 : Int32) (a4 : Int32) (a5 : Int32) : Prop :=
  ∀ S1 : St, S1 = pI S 56 a0 0 → (((sI S1 58 a0) + 20) ≤ 40 → ∀ (q2 : Nat) (S3 : St), q2 ∉ sL S1 → S3 = pNew S1 q2 10 5 → vp_in 0 (sN S3 q2) ∧ ∀ S6 : St, S6 = pR S3 q2 ((0 : Int32).toNatClampNeg) a1 → vp_in 1 (sN S6 q2) ∧ ∀ S8 : St, S8 = pR S6 q2 ((1 : Int32).toNatClampNeg) a2 → vp_in 2 (sN S8 q2) ∧ ∀ S10 : St, S10 = pR S8 q2 ((2 : Int32).toNatClampNeg) a3 → vp_in 3 (sN S10 q2) ∧ ∀ S12 : St, S12 = pR S10 q2 ((3 : Int32).toNatClampNeg) a4 → vp_in 4 (sN S12 q2) ∧ ∀ S14 : St, S14 = pR S12 q2 ((4 : Int32).toNatClampNeg) a5 → ∀ v17 : Int32, v17 = nI (sN S14 q2) → ∃ J62 : Nat → St → Int32 → Prop, (∃ n : Nat, J62 n S14 0) ∧ ∀ (n62 : Nat) (S_62 : St) (v9_62 : Int32), J62 n62 S_62 v9_62 → (v17 ≤ v9_62 → post (sI S_62 58 a0) S_62) ∧ (¬ v17 ≤ v9_62 → vp_in v9_62 (sN S_62 q2) ∧ ∀ v22 : Int32, v22 = sR S_62 q2 v9_62.toNatClampNeg → ∃ J79 : Nat → St → Int32 → Prop, (∃ n : Nat, J79 n S_62 3) ∧ ∀ (n79 : Nat) (S_79 : St) (v11_79 : Int32), J79 n79 S_79 v11_79 → (v11_79 < 0 → ∀ v26 : Int32, v26 = v9_62 + 1 → ∃ nx : Nat, nx < n62 ∧ J62 nx S_79 v26) ∧ (¬ v11_79 < 0 → ∀ o28 : Option Nat, o28 = sQ S_79 57 a0 → ∃ y29 : Nat, o28 = some y29 ∧ isA S_79 10 y29 ∧ vp_in (sI S_79 58 a0) (sN S_79 y29) ∧ ∀ S32 : St, S32 = pR S_79 y29 ((sI S_79 58 a0).toNatClampNeg) ((v22 >>> ((8 * v11_79) &&& 31)) &&& 255) → ∀ S33 : St, S33 = pI S32 58 a0 ((sI S32 58 a0) + 1) → ∀ v34 : Int32, v34 = v11_79 + (-1) → ∃ nx : Nat, nx < n79 ∧ J79 nx S33 v34))) ∧ (¬ ((sI S1 58 a0) + 20) ≤ 40 → w_M_no (fun (r38 : Int32) (S39 : St) => post r38 S39) S1 a0 1)
set_option maxHeartbeats 4000000 in
set_option maxRecDepth 100000 in
theorem m_M_feed (l : Launch) (x : Cx) (S : St) (post : Int32 → St → Prop) (a0 : Nat) (a1 : Int32) (a2 : Int32) (a3 : Int32) (a4 : Int32) (a5 : Int32) (fa0 : isA S 8 a0) (h : w_M_feed post S a0 a1 a2 a3 a4 a5) : Met l y_M_feed [.code y_M_feed c_M_feed 12 (some .int)] { frames := 1, cells := 1, slots := 5, locals := 21 } (va_Pc [.ref a0, .int a1, .int a2, .int a3, .int a4, .int a5] (GW x S)) (va_Qi post (gB x S) (xA x)) 1 5 (xA x) := by
  refine gMet (by decide +kernel) (Nat.le_of_ble_eq_true rfl) ?_
  intro p e s m args below meth c hx hb hr hown hlocks hin hw hK H locs hG ls hlA hml
  have hown : s.vm.findClass "WaltzHallModel" = some m.cls := hown
  have hl0 : lv_has ls 12 [(0, .ref a0), (1, .int a1), (2, .int a2), (3, .int a3), (4, .int a4), (5, .int a5)] := hlA
  have leS : gle S S := gle.rf
  unfold w_M_feed at h
  refine lv_aload_n hx hb d_M_feed_0 rfl (lv_at hl0 0 rfl) ?_
  refine lv_iconst (v := 0) hx hb d_M_feed_1 (by decide) ?_
  refine gput (S' := pI S 56 a0 0) hx hb hw hown hK hG kd_M fa0 rfl 0 (by decide) (gChI fa0 rfl) tw_1017 (fun _ h9 => h9) rfl rfl rfl rfl (Nat.le_of_ble_eq_true rfl) d_M_feed_2 (fun S1 H locs eS1 hle1 hG => ?_)
  replace h := h S1 eS1
  have fa0 := gle_isA hle1 fa0
  have leS := leS.tr hle1
  refine lv_aload_n hx hb d_M_feed_5 rfl (lv_at hl0 0 rfl) ?_
  refine gget hx hb hw hown hK hG kd_M fa0 rfl 2 (by decide) rfl tw_1019 (fun _ h9 => h9) d_M_feed_6 ?_
  refine lv_bipush (v := 20) hx hb d_M_feed_9 (by decide) ?_
  refine lv_iadd hx hb d_M_feed_11 ?_
  refine lv_bipush (v := 40) hx hb d_M_feed_12 (by decide) ?_
  refine lv_icmp_le (tgt := 23) hx hb d_M_feed_14 (by decide) (fun hc40 => ?_) (fun hc40 => ?_)
  · replace h := h.1 hc40
    refine lv_iconst (v := 5) hx hb d_M_feed_23 (by decide) ?_
    refine gnewa (atype := .int) (N' := 5) (k := 10) (by decide) 1 hx hb hw hK hG tw_760 rfl (fun _ _ => rfl) rfl rfl (fun _ => rfl) (by decide) (Nat.le_of_ble_eq_true rfl) (Nat.le_of_ble_eq_true rfl) (Nat.le_of_ble_eq_true rfl) d_M_feed_24 (fun q2 S3 H hqq2 eS3 hle1 hG => ?_)
    replace h := h q2 S3 hqq2 eS3
    have fa0 := gle_isA hle1 fa0
    have leS := leS.tr hle1
    have f4 : isA S3 10 q2 := by rw [eS3]; exact isA_new
    refine lv_dup hx hb d_M_feed_26 rfl ?_
    refine lv_iconst (v := 0) hx hb d_M_feed_27 (by decide) ?_
    refine lv_iload_n hx hb d_M_feed_28 rfl (lv_at hl0 1 rfl) ?_
    obtain ⟨hi5, h⟩ := h
    refine giast hx hb hK hG f4 hi5 d_M_feed_29 (fun S6 H locs eS6 hle1 hG => ?_)
    replace h := h S6 eS6
    have fa0 := gle_isA hle1 fa0
    have f4 := gle_isA hle1 f4
    have leS := leS.tr hle1
    refine lv_dup hx hb d_M_feed_30 rfl ?_
    refine lv_iconst (v := 1) hx hb d_M_feed_31 (by decide) ?_
    refine lv_iload_n hx hb d_M_feed_32 rfl (lv_at hl0 2 rfl) ?_
    obtain ⟨hi7, h⟩ := h
    refine giast hx hb hK hG f4 hi7 d_M_feed_33 (fun S8 H locs eS8 hle1 hG => ?_)
    replace h := h S8 eS8
    have fa0 := gle_isA hle1 fa0
    have f4 := gle_isA hle1 f4
    have leS := leS.tr hle1
    refine lv_dup hx hb d_M_feed_34 rfl ?_
    refine lv_iconst (v := 2) hx hb d_M_feed_35 (by decide) ?_
    refine lv_iload_n hx hb d_M_feed_36 rfl (lv_at hl0 3 rfl) ?_
    obtain ⟨hi9, h⟩ := h
    refine giast hx hb hK hG f4 hi9 d_M_feed_37 (fun S10 H locs eS10 hle1 hG => ?_)
    replace h := h S10 eS10
    have fa0 := gle_isA hle1 fa0
    have f4 := gle_isA hle1 f4
    have leS := leS.tr hle1
    refine lv_dup hx hb d_M_feed_38 rfl ?_
    refine lv_iconst (v := 3) hx hb d_M_feed_39 (by decide) ?_
    refine lv_iload hx hb d_M_feed_40 (lv_at hl0 4 rfl) ?_
    obtain ⟨hi11, h⟩ := h
    refine giast hx hb hK hG f4 hi11 d_M_feed_42 (fun S12 H locs eS12 hle1 hG => ?_)
    replace h := h S12 eS12
    have fa0 := gle_isA hle1 fa0
    have f4 := gle_isA hle1 f4
    have leS := leS.tr hle1
    refine lv_dup hx hb d_M_feed_43 rfl ?_
    refine lv_iconst (v := 4) hx hb d_M_feed_44 (by decide) ?_
    refine lv_iload hx hb d_M_feed_45 (lv_at hl0 5 rfl) ?_
    obtain ⟨hi13, h⟩ := h
    refine giast hx hb hK hG f4 hi13 d_M_feed_47 (fun S14 H locs eS14 hle1 hG => ?_)
    replace h := h S14 eS14
    have fa0 := gle_isA hle1 fa0
    have f4 := gle_isA hle1 f4
    have leS := leS.tr hle1
    refine lv_astore (lv' := [(6, .ref q2), (0, .ref a0), (1, .int a1), (2, .int a2), (3, .int a3), (4, .int a4), (5, .int a5)]) hx hb d_M_feed_48 hl0 (by decide) rfl (fun ls hl15 => ?_)
    refine lv_aload hx hb d_M_feed_50 (lv_at hl15 0 rfl) ?_
    refine lv_astore (lv' := [(7, .ref q2), (6, .ref q2), (0, .ref a0), (1, .int a1), (2, .int a2), (3, .int a3), (4, .int a4), (5, .int a5)]) hx hb d_M_feed_52 hl15 (by decide) rfl (fun ls hl16 => ?_)
    refine lv_aload hx hb d_M_feed_54 (lv_at hl16 0 rfl) ?_
    refine galen hx hb hK hG f4 rfl 1 rfl rfl d_M_feed_56 ?_
    refine lv_topi (fun v17 ev17 => ?_)
    replace h := h v17 ev17
    refine lv_istore (lv' := [(8, .int v17), (7, .ref q2), (6, .ref q2), (0, .ref a0), (1, .int a1), (2, .int a2), (3, .int a3), (4, .int a4), (5, .int a5)]) hx hb d_M_feed_57 hl16 (by decide) rfl (fun ls hl18 => ?_)
    refine lv_iconst (v := 0) hx hb d_M_feed_59 (by decide) ?_
    refine lv_istore (lv' := [(9, .int 0), (8, .int v17), (7, .ref q2), (6, .ref q2), (0, .ref a0), (1, .int a1), (2, .int a2), (3, .int a3), (4, .int a4), (5, .int a5)]) hx hb d_M_feed_60 hl18 (by decide) rfl (fun ls hl19 => ?_)
    have leS14 : gle S14 S14 := gle.rf
    obtain ⟨J62, ⟨n0_62, h0_62⟩, hJ62⟩ := h
    have k62 : ∀ (n62 : Nat) (S_62 : St) (v9_62 : Int32) (H : Heap) (locs : List Loc) (ls : Array Slot), gle S14 S_62 → GH x S_62 s H locs → lv_has ls 12 [(0, .ref a0), (7, .ref q2), (8, .int v17), (9, .int v9_62)] → J62 n62 S_62 v9_62 → W p l e { frames := 1, cells := 1, slots := 5, locals := 21 } s m args below meth c H locs 1 5 (MQ below (va_Qi post (gB x S) (xA x)) args s 1 5 (xA x)) (F0 m 62 ls []) := by
      intro n62
      induction n62 using Nat.strongRecOn with
      | _ n62 ih62 =>
        intro S_62 v9_62 H locs ls hle1 hG hl20 hj
        replace h := hJ62 n62 S_62 v9_62 hj
        have fa0 := gle_isA hle1 fa0
        have f4 := gle_isA hle1 f4
        have leS := leS.tr hle1
        have leS14 := leS14.tr hle1
        refine lv_iload hx hb d_M_feed_62 (lv_at hl20 3 rfl) ?_
        refine lv_iload hx hb d_M_feed_64 (lv_at hl20 2 rfl) ?_
        refine lv_icmp_ge (tgt := 127) hx hb d_M_feed_66 (by decide) (fun hc37 => ?_) (fun hc37 => ?_)
        · replace h := h.1 hc37
          refine lv_aload_n hx hb d_M_feed_127 rfl (lv_at hl20 0 rfl) ?_
          refine gget hx hb hw hown hK hG kd_M fa0 rfl 2 (by decide) rfl tw_1019 (fun _ h9 => h9) d_M_feed_128 ?_
          exact giret hx hb hr hlocks hK hG leS h (Nat.le_of_ble_eq_true rfl) (Nat.le_of_ble_eq_true rfl) d_M_feed_131
        · replace h := h.2 hc37
          refine lv_aload hx hb d_M_feed_69 (lv_at hl20 1 rfl) ?_
          refine lv_iload hx hb d_M_feed_71 (lv_at hl20 3 rfl) ?_
          obtain ⟨hi21, h⟩ := h
          refine giald hx hb hK hG f4 hi21 d_M_feed_73 ?_
          refine lv_topi (fun v22 ev22 => ?_)
          replace h := h v22 ev22
          refine lv_istore (lv' := [(10, .int v22), (0, .ref a0), (7, .ref q2), (8, .int v17), (9, .int v9_62)]) hx hb d_M_feed_74 hl20 (by decide) rfl (fun ls hl23 => ?_)
          refine lv_iconst (v := 3) hx hb d_M_feed_76 (by decide) ?_
          refine lv_istore (lv' := [(11, .int 3), (10, .int v22), (0, .ref a0), (7, .ref q2), (8, .int v17), (9, .int v9_62)]) hx hb d_M_feed_77 hl23 (by decide) rfl (fun ls hl24 => ?_)
          have leS_62 : gle S_62 S_62 := gle.rf
          obtain ⟨J79, ⟨n0_79, h0_79⟩, hJ79⟩ := h
          have k79 : ∀ (n79 : Nat) (S_79 : St) (v11_79 : Int32) (H : Heap) (locs : List Loc) (ls : Array Slot), gle S_62 S_79 → GH x S_79 s H locs → lv_has ls 12 [(0, .ref a0), (7, .ref q2), (8, .int v17), (9, .int v9_62), (10, .int v22), (11, .int v11_79)] → J79 n79 S_79 v11_79 → W p l e { frames := 1, cells := 1, slots := 5, locals := 21 } s m args below meth c H locs 1 5 (MQ below (va_Qi post (gB x S) (xA x)) args s 1 5 (xA x)) (F0 m 79 ls []) := by
            intro n79
            induction n79 using Nat.strongRecOn with
            | _ n79 ih79 =>
              intro S_79 v11_79 H locs ls hle1 hG hl25 hj
              replace h := hJ79 n79 S_79 v11_79 hj
              have fa0 := gle_isA hle1 fa0
              have f4 := gle_isA hle1 f4
              have leS := leS.tr hle1
              have leS14 := leS14.tr hle1
              have leS_62 := leS_62.tr hle1
              refine lv_iload hx hb d_M_feed_79 (lv_at hl25 5 rfl) ?_
              refine lv_if_lt (tgt := 121) hx hb d_M_feed_81 (by decide) (fun hc36 => ?_) (fun hc36 => ?_)
              · replace h := h.1 hc36
                obtain ⟨v26, ev26⟩ : ∃ z : Int32, z = v9_62 + 1 := ⟨_, rfl⟩
                replace h := h v26 ev26
                refine lv_iinc (v := v26) (lv' := [(9, .int v26), (0, .ref a0), (7, .ref q2), (8, .int v17), (10, .int v22), (11, .int v11_79)]) hx hb d_M_feed_121 hl25 (k := 3) rfl (by rw [ev26]; rfl) (by decide) rfl (fun ls hl27 => ?_)
                refine lv_goto (tgt := 62) hx hb d_M_feed_124 (by decide) ?_
                obtain ⟨nx, hnx, h⟩ := h
                exact ih62 nx hnx S_79 v26 H locs ls leS14 hG (lv_sub hl27 [1, 2, 3, 0] rfl) h
              · replace h := h.2 hc36
                refine lv_aload_n hx hb d_M_feed_84 rfl (lv_at hl25 0 rfl) ?_
                refine gget hx hb hw hown hK hG kd_M fa0 rfl 1 (by decide) rfl tw_1018 (fun _ h9 => h9) d_M_feed_85 ?_
                refine gtopq (fun o28 eo28 => ?_)
                replace h := h o28 eo28
                refine lv_aload_n hx hb d_M_feed_88 rfl (lv_at hl25 0 rfl) ?_
                refine gget hx hb hw hown hK hG kd_M fa0 rfl 2 (by decide) rfl tw_1019 (fun _ h9 => h9) d_M_feed_89 ?_
                refine lv_iload hx hb d_M_feed_92 (lv_at hl25 4 rfl) ?_
                refine lv_bipush (v := 8) hx hb d_M_feed_94 (by decide) ?_
                refine lv_iload hx hb d_M_feed_96 (lv_at hl25 5 rfl) ?_
                refine lv_imul hx hb d_M_feed_98 ?_
                refine lv_ishr hx hb d_M_feed_99 ?_
                refine lv_sipush (v := 255) hx hb d_M_feed_100 (by decide) ?_
                refine lv_iand hx hb d_M_feed_103 ?_
                obtain ⟨y29, ey29, h⟩ := h
                subst ey29
                obtain ⟨f30, h⟩ := h
                obtain ⟨hi31, h⟩ := h
                refine giast hx hb hK hG f30 hi31 d_M_feed_104 (fun S32 H locs eS32 hle1 hG => ?_)
                replace h := h S32 eS32
                have fa0 := gle_isA hle1 fa0
                have f4 := gle_isA hle1 f4
                have f30 := gle_isA hle1 f30
                have leS := leS.tr hle1
                have leS14 := leS14.tr hle1
                have leS_62 := leS_62.tr hle1
                refine lv_aload_n hx hb d_M_feed_105 rfl (lv_at hl25 0 rfl) ?_
                refine lv_dup hx hb d_M_feed_106 rfl ?_
                refine gget hx hb hw hown hK hG kd_M fa0 rfl 2 (by decide) rfl tw_1019 (fun _ h9 => h9) d_M_feed_107 ?_
                refine lv_iconst (v := 1) hx hb d_M_feed_110 (by decide) ?_
                refine lv_iadd hx hb d_M_feed_111 ?_
                refine gput (S' := pI S32 58 a0 ((sI S32 58 a0) + 1)) hx hb hw hown hK hG kd_M fa0 rfl 2 (by decide) (gChI fa0 rfl) tw_1019 (fun _ h9 => h9) rfl rfl rfl rfl (Nat.le_of_ble_eq_true rfl) d_M_feed_112 (fun S33 H locs eS33 hle1 hG => ?_)
                replace h := h S33 eS33
                have fa0 := gle_isA hle1 fa0
                have f4 := gle_isA hle1 f4
                have f30 := gle_isA hle1 f30
                have leS := leS.tr hle1
                have leS14 := leS14.tr hle1
                have leS_62 := leS_62.tr hle1
                obtain ⟨v34, ev34⟩ : ∃ z : Int32, z = v11_79 + (-1) := ⟨_, rfl⟩
                replace h := h v34 ev34
                refine lv_iinc (v := v34) (lv' := [(11, .int v34), (0, .ref a0), (7, .ref q2), (8, .int v17), (9, .int v9_62), (10, .int v22)]) hx hb d_M_feed_115 hl25 (k := 5) rfl (by rw [ev34]; rfl) (by decide) rfl (fun ls hl35 => ?_)
                refine lv_goto (tgt := 79) hx hb d_M_feed_118 (by decide) ?_
                obtain ⟨nx, hnx, h⟩ := h
                exact ih79 nx hnx S33 v34 H locs ls leS_62 hG (lv_sub hl35 [1, 2, 3, 4, 5, 0] rfl) h
          exact k79 n0_79 S_62 3 H locs ls gle.rf hG (lv_sub hl24 [2, 3, 4, 5, 1, 0] rfl) h0_79
    exact k62 n0_62 S14 0 H locs ls gle.rf hG (lv_sub hl19 [4, 2, 1, 0] rfl) h0_62
  · replace h := h.2 hc40
    refine lv_aload_n hx hb d_M_feed_17 rfl (lv_at hl0 0 rfl) ?_
    refine lv_iconst (v := 1) hx hb d_M_feed_18 (by decide) ?_
    -- call M_no
    refine gci hK hG (va_runV (As := [.int 1]) (rest := []) ⟨hx, hb, hml, hown, hw⟩ (m_M_no l x S1 _ a0 1 fa0 h) ⟨gcb hw tw_1052 tw_43 tw_1049 hd_M_no rfl rfl ⟨(Nat.le_of_ble_eq_true rfl), (Nat.le_of_ble_eq_true rfl)⟩, hw _ tw_1051, hw _ tw_12⟩ (gpV hK hG kd_M fa0 rfl) rfl rfl hl0.1 rfl (lv_room (Nat.le_of_ble_eq_true rfl)) d_M_feed_19 ⟨(Nat.le_of_ble_eq_true rfl), (Nat.le_of_ble_eq_true rfl)⟩) (fun r38 S39 H locs h9 hle1 hG => ?_)
    replace h := h9
    clear h9
    have fa0 := gle_isA hle1 fa0
    have leS := leS.tr hle1
    exact giret hx hb hr hlocks hK hG leS h (Nat.le_of_ble_eq_true rfl) (Nat.le_of_ble_eq_true rfl) d_M_feed_22
def w_M_trim (post : Int32 → St → Prop) (S : St) (a0 : Nat) (a1 : Int32) : Prop :=
  ∀ S1 : St, S1 = pI S 56 a0 0 → w_M_isIn (fun (r2 : Int32) => (r2 = 0 → w_M_no (fun (r4 : Int32) (S5 : St) => post r4 S5) S1 a0 1) ∧ (¬ r2 = 0 → ∀ S3 : St, S3 = pI S1 58 a0 a1 → post a1 S3)) S1 a1 0 (sI S1 58 a0)
set_option maxHeartbeats 4000000 in
set_option maxRecDepth 100000 in
theorem m_M_trim (l : Launch) (x : Cx) (S : St) (post : Int32 → St → Prop) (a0 : Nat) (a1 : Int32) (fa0 : isA S 8 a0) (h : w_M_trim post S a0 a1) : Met l y_M_trim [.code y_M_trim c_M_trim 2 (some .int)] { frames := 1, cells := 0, slots := 0, locals := 22 } (va_Pc [.ref a0, .int a1] (GW x S)) (va_Qi post (gB x S) (xA x)) 0 0 (xA x) := by
  refine gMet (by decide +kernel) (Nat.le_of_ble_eq_true rfl) ?_
  intro p e s m args below meth c hx hb hr hown hlocks hin hw hK H locs hG ls hlA hml
  have hown : s.vm.findClass "WaltzHallModel" = some m.cls := hown
  have hl0 : lv_has ls 2 [(0, .ref a0), (1, .int a1)] := hlA
  have leS : gle S S := gle.rf
  unfold w_M_trim at h
  refine lv_aload_n hx hb d_M_trim_0 rfl (lv_at hl0 0 rfl) ?_
  refine lv_iconst (v := 0) hx hb d_M_trim_1 (by decide) ?_
  refine gput (S' := pI S 56 a0 0) hx hb hw hown hK hG kd_M fa0 rfl 0 (by decide) (gChI fa0 rfl) tw_1017 (fun _ h9 => h9) rfl rfl rfl rfl (Nat.le_of_ble_eq_true rfl) d_M_trim_2 (fun S1 H locs eS1 hle1 hG => ?_)
  replace h := h S1 eS1
  have fa0 := gle_isA hle1 fa0
  have leS := leS.tr hle1
  refine lv_iload_n hx hb d_M_trim_5 rfl (lv_at hl0 1 rfl) ?_
  refine lv_iconst (v := 0) hx hb d_M_trim_6 (by decide) ?_
  refine lv_aload_n hx hb d_M_trim_7 rfl (lv_at hl0 0 rfl) ?_
  refine gget hx hb hw hown hK hG kd_M fa0 rfl 2 (by decide) rfl tw_1019 (fun _ h9 => h9) d_M_trim_8 ?_
  -- call M_isIn
  refine gpi hK hG (va_runS (As := [.int a1, .int 0, .int (sI S1 58 a0)]) (rest := []) ⟨hx, hb, hml, hown, hw⟩ (m_M_isIn l x S1 _ a1 0 (sI S1 58 a0)  h) ⟨gcb hw tw_1059 tw_43 tw_1057 hd_M_isIn rfl rfl ⟨(Nat.le_of_ble_eq_true rfl), (Nat.le_of_ble_eq_true rfl)⟩, hw _ tw_1058⟩ (gpS hK hG) rfl rfl hl0.1 rfl (lv_room (Nat.le_of_ble_eq_true rfl)) d_M_trim_11 ⟨(Nat.le_of_ble_eq_true rfl), (Nat.le_of_ble_eq_true rfl)⟩) (fun r2 H locs h9 hG => ?_)
  replace h := h9
  clear h9
  refine lv_if_ne (tgt := 23) hx hb d_M_trim_14 (by decide) (fun hc6 => ?_) (fun hc6 => ?_)
  · replace h := h.2 hc6
    refine lv_aload_n hx hb d_M_trim_23 rfl (lv_at hl0 0 rfl) ?_
    refine lv_iload_n hx hb d_M_trim_24 rfl (lv_at hl0 1 rfl) ?_
    refine gput (S' := pI S1 58 a0 a1) hx hb hw hown hK hG kd_M fa0 rfl 2 (by decide) (gChI fa0 rfl) tw_1019 (fun _ h9 => h9) rfl rfl rfl rfl (Nat.le_of_ble_eq_true rfl) d_M_trim_25 (fun S3 H locs eS3 hle1 hG => ?_)
    replace h := h S3 eS3
    have fa0 := gle_isA hle1 fa0
    have leS := leS.tr hle1
    refine lv_iload_n hx hb d_M_trim_28 rfl (lv_at hl0 1 rfl) ?_
    exact giret hx hb hr hlocks hK hG leS h (Nat.le_of_ble_eq_true rfl) (Nat.le_of_ble_eq_true rfl) d_M_trim_29
  · replace h := h.1 hc6
    refine lv_aload_n hx hb d_M_trim_17 rfl (lv_at hl0 0 rfl) ?_
    refine lv_iconst (v := 1) hx hb d_M_trim_18 (by decide) ?_
    -- call M_no
    refine gci hK hG (va_runV (As := [.int 1]) (rest := []) ⟨hx, hb, hml, hown, hw⟩ (m_M_no l x S1 _ a0 1 fa0 h) ⟨gcb hw tw_1052 tw_43 tw_1049 hd_M_no rfl rfl ⟨(Nat.le_of_ble_eq_true rfl), (Nat.le_of_ble_eq_true rfl)⟩, hw _ tw_1051, hw _ tw_12⟩ (gpV hK hG kd_M fa0 rfl) rfl rfl hl0.1 rfl (lv_room (Nat.le_of_ble_eq_true rfl)) d_M_trim_19 ⟨(Nat.le_of_ble_eq_true rfl), (Nat.le_of_ble_eq_true rfl)⟩) (fun r4 S5 H locs h9 hle1 hG => ?_)
    replace h := h9
    clear h9
    have fa0 := gle_isA hle1 fa0
    have leS := leS.tr hle1
    exact giret hx hb hr hlocks hK hG leS h (Nat.le_of_ble_eq_true rfl) (Nat.le_of_ble_eq_true rfl) d_M_trim_22
def w_M_learn (post : Int32 → St → Prop) (S : St) (a0 : Nat) (a1 : Int32) : Prop :=
  ∀ S1 : St, S1 = pI S 56 a0 0 → w_M_isIn (fun (r2 : Int32) => (r2 = 0 → w_M_no (fun (r70 : Int32) (S71 : St) => post r70 S71) S1 a0 1) ∧ (¬ r2 = 0 → ∀ v3 : Int32, v3 = sI S1 58 a0 → ∀ S5 : St, S5 = pI S1 58 a0 0 → w_M_isIn (fun (r6 : Int32) => ∃ J42 : Nat → Int32 → Int32 → Prop, (∃ n : Nat, J42 n r6 0) ∧ ∀ (n42 : Nat) (v3_42 : Int32) (v4_42 : Int32), J42 n42 v3_42 v4_42 → (v3 ≤ v4_42 → (v3_42 = 0 → post (-1) S5) ∧ (¬ v3_42 = 0 → ∀ o10 : Option Nat, o10 = sQ S5 60 a0 → ∃ y11 : Nat, o10 = some y11 ∧ isA S5 10 y11 ∧ vp_in a1 (sN S5 y11) ∧ ∀ S14 : St, S14 = pR S5 y11 (a1.toNatClampNeg) v3 → ∀ o15 : Option Nat, o15 = sQ S14 57 a0 → ∀ o16 : Option Nat, o16 = sQ S14 59 a0 → ∃ y17 : Nat, o15 = some y17 ∧ ∃ y18 : Nat, o16 = some y18 ∧ isA S14 10 y17 ∧ isA S14 10 y18 ∧ (¬ (0 : Int32) < 0 ∧ ¬ (24 * a1) < 0 ∧ ¬ v3 < 0 ∧ (0 : Int32).toNatClampNeg + v3.toNatClampNeg ≤ sN S14 y17 ∧ (24 * a1).toNatClampNeg + v3.toNatClampNeg ≤ sN S14 y18 ∧ ∀ z, z < v3.toNatClampNeg → fits .int (.int (sR S14 y17 ((0 : Int32).toNatClampNeg + z))) = true) ∧ ∀ S22 : St, S22 = pRow S14 y18 (va_cpy (sR S14 y17) (sR S14 y18) ((0 : Int32).toNatClampNeg) ((24 * a1).toNatClampNeg) (v3.toNatClampNeg)) → ∃ J110 : Nat → St → Int32 → Prop, (∃ n : Nat, J110 n S22 0) ∧ ∀ (n110 : Nat) (S_110 : St) (v4_110 : Int32), J110 n110 S_110 v4_110 → ∀ o25 : Option Nat, o25 = sQ S_110 61 a0 → ∃ y26 : Nat, o25 = some y26 ∧ isA S_110 7 y26 ∧ ((sI S_110 39 y26) ≤ v4_110 → post v3 S_110) ∧ (¬ (sI S_110 39 y26) ≤ v4_110 → ∀ o28 : Option Nat, o28 = sQ S_110 61 a0 → ∃ y29 : Nat, o28 = some y29 ∧ isA S_110 7 y29 ∧ ∀ o31 : Option Nat, o31 = sQ S_110 45 y29 → ∃ y32 : Nat, o31 = some y32 ∧ isA S_110 10 y32 ∧ vp_in v4_110 (sN S_110 y32) ∧ ∃ J161 : St → Prop, (∀ (S_161 : St), J161 S_161 → ∀ v36 : Int32, v36 = v4_110 + 1 → ∃ nx : Nat, nx < n110 ∧ J110 nx S_161 v36) ∧ ((sR S_110 y32 v4_110.toNatClampNeg) = a1 → ∀ o38 : Option Nat, o38 = sQ S_110 61 a0 → ∃ y39 : Nat, o38 = some y39 ∧ isA S_110 7 y39 ∧ ∀ o41 : Option Nat, o41 = sQ S_110 46 y39 → ∃ y42 : Nat, o41 = some y42 ∧ isA S_110 10 y42 ∧ vp_in v4_110 (sN S_110 y42) ∧ ((sR S_110 y42 v4_110.toNatClampNeg) < v3 → J161 S_110) ∧ (¬ (sR S_110 y42 v4_110.toNatClampNeg) < v3 → ∀ o45 : Option Nat, o45 = sQ S_110 61 a0 → ∃ y46 : Nat, o45 = some y46 ∧ isA S_110 7 y46 ∧ ∀ o48 : Option Nat, o48 = sQ S_110 46 y46 → ∃ y49 : Nat, o48 = some y49 ∧ isA S_110 10 y49 ∧ vp_in v4_110 (sN S_110 y49) ∧ ∀ S52 : St, S52 = pR S_110 y49 (v4_110.toNatClampNeg) 0 → J161 S52)) ∧ (¬ (sR S_110 y32 v4_110.toNatClampNeg) = a1 → J161 S_110)))) ∧ (¬ v3 ≤ v4_42 → ∃ J70 : Int32 → Prop, (∀ (k0_70 : Int32), J70 k0_70 → ∀ v59 : Int32, v59 = v4_42 + 1 → ∃ nx : Nat, nx < n42 ∧ J42 nx k0_70 v59) ∧ ∃ J69 : Prop, (J69 → J70 0) ∧ (v3_42 = 0 → J69) ∧ (¬ v3_42 = 0 → ∀ o62 : Option Nat, o62 = sQ S5 57 a0 → ∃ y63 : Nat, o62 = some y63 ∧ isA S5 10 y63 ∧ vp_in v4_42 (sN S5 y63) ∧ w_M_isFigure (fun (r66 : Int32) => (r66 = 0 → J69) ∧ (¬ r66 = 0 → J70 1)) S5 (sR S5 y63 v4_42.toNatClampNeg)))) S5 v3 1 24)) S1 a1 0 7
set_option maxHeartbeats 4000000 in
set_option maxRecDepth 100000 in
theorem m_M_learn (l : Launch) (x : Cx) (S : St) (post : Int32 → St → Prop) (a0 : Nat) (a1 : Int32) (fa0 : isA S 8 a0) (h : w_M_learn post S a0 a1) : Met l y_M_learn [.code y_M_learn c_M_learn 5 (some .int)] { frames := 5, cells := 0, slots := 0, locals := 107 } (va_Pc [.ref a0, .int a1] (GW x S)) (va_Qi post (gB x S) (xA x)) 0 0 (xA x) := by
  refine gMet (by decide +kernel) (Nat.le_of_ble_eq_true rfl) ?_
  intro p e s m args below meth c hx hb hr hown hlocks hin hw hK H locs hG ls hlA hml
  have hown : s.vm.findClass "WaltzHallModel" = some m.cls := hown
  have hl0 : lv_has ls 5 [(0, .ref a0), (1, .int a1)] := hlA
  have leS : gle S S := gle.rf
  unfold w_M_learn at h
  refine lv_aload_n hx hb d_M_learn_0 rfl (lv_at hl0 0 rfl) ?_
  refine lv_iconst (v := 0) hx hb d_M_learn_1 (by decide) ?_
  refine gput (S' := pI S 56 a0 0) hx hb hw hown hK hG kd_M fa0 rfl 0 (by decide) (gChI fa0 rfl) tw_1017 (fun _ h9 => h9) rfl rfl rfl rfl (Nat.le_of_ble_eq_true rfl) d_M_learn_2 (fun S1 H locs eS1 hle1 hG => ?_)
  replace h := h S1 eS1
  have fa0 := gle_isA hle1 fa0
  have leS := leS.tr hle1
  refine lv_iload_n hx hb d_M_learn_5 rfl (lv_at hl0 1 rfl) ?_
  refine lv_iconst (v := 0) hx hb d_M_learn_6 (by decide) ?_
  refine lv_bipush (v := 7) hx hb d_M_learn_7 (by decide) ?_
  -- call M_isIn
  refine gpi hK hG (va_runS (As := [.int a1, .int 0, .int 7]) (rest := []) ⟨hx, hb, hml, hown, hw⟩ (m_M_isIn l x S1 _ a1 0 7  h) ⟨gcb hw tw_1059 tw_43 tw_1057 hd_M_isIn rfl rfl ⟨(Nat.le_of_ble_eq_true rfl), (Nat.le_of_ble_eq_true rfl)⟩, hw _ tw_1058⟩ (gpS hK hG) rfl rfl hl0.1 rfl (lv_room (Nat.le_of_ble_eq_true rfl)) d_M_learn_9 ⟨(Nat.le_of_ble_eq_true rfl), (Nat.le_of_ble_eq_true rfl)⟩) (fun r2 H locs h9 hG => ?_)
  replace h := h9
  clear h9
  refine lv_if_ne (tgt := 21) hx hb d_M_learn_12 (by decide) (fun hc72 => ?_) (fun hc72 => ?_)
  · replace h := h.2 hc72
    refine lv_aload_n hx hb d_M_learn_21 rfl (lv_at hl0 0 rfl) ?_
    refine gget hx hb hw hown hK hG kd_M fa0 rfl 2 (by decide) rfl tw_1019 (fun _ h9 => h9) d_M_learn_22 ?_
    refine lv_topi (fun v3 ev3 => ?_)
    replace h := h v3 ev3
    refine lv_istore_n (i := 2) (lv' := [(2, .int v3), (0, .ref a0), (1, .int a1)]) hx hb d_M_learn_25 rfl hl0 (by decide) rfl (fun ls hl4 => ?_)
    refine lv_aload_n hx hb d_M_learn_26 rfl (lv_at hl4 1 rfl) ?_
    refine lv_iconst (v := 0) hx hb d_M_learn_27 (by decide) ?_
    refine gput (S' := pI S1 58 a0 0) hx hb hw hown hK hG kd_M fa0 rfl 2 (by decide) (gChI fa0 rfl) tw_1019 (fun _ h9 => h9) rfl rfl rfl rfl (Nat.le_of_ble_eq_true rfl) d_M_learn_28 (fun S5 H locs eS5 hle1 hG => ?_)
    replace h := h S5 eS5
    have fa0 := gle_isA hle1 fa0
    have leS := leS.tr hle1
    refine lv_iload_n hx hb d_M_learn_31 rfl (lv_at hl4 0 rfl) ?_
    refine lv_iconst (v := 1) hx hb d_M_learn_32 (by decide) ?_
    refine lv_bipush (v := 24) hx hb d_M_learn_33 (by decide) ?_
    -- call M_isIn
    refine gpi hK hG (va_runS (As := [.int v3, .int 1, .int 24]) (rest := []) ⟨hx, hb, hml, hown, hw⟩ (m_M_isIn l x S5 _ v3 1 24  h) ⟨gcb hw tw_1059 tw_43 tw_1057 hd_M_isIn rfl rfl ⟨(Nat.le_of_ble_eq_true rfl), (Nat.le_of_ble_eq_true rfl)⟩, hw _ tw_1058⟩ (gpS hK hG) rfl rfl hl4.1 rfl (lv_room (Nat.le_of_ble_eq_true rfl)) d_M_learn_35 ⟨(Nat.le_of_ble_eq_true rfl), (Nat.le_of_ble_eq_true rfl)⟩) (fun r6 H locs h9 hG => ?_)
    replace h := h9
    clear h9
    refine lv_istore_n (i := 3) (lv' := [(3, .int r6), (2, .int v3), (0, .ref a0), (1, .int a1)]) hx hb d_M_learn_38 rfl hl4 (by decide) rfl (fun ls hl7 => ?_)
    refine lv_iconst (v := 0) hx hb d_M_learn_39 (by decide) ?_
    refine lv_istore (lv' := [(4, .int 0), (3, .int r6), (2, .int v3), (0, .ref a0), (1, .int a1)]) hx hb d_M_learn_40 hl7 (by decide) rfl (fun ls hl8 => ?_)
    have leS5 : gle S5 S5 := gle.rf
    obtain ⟨J42, ⟨n0_42, h0_42⟩, hJ42⟩ := h
    have k42 : ∀ (n42 : Nat) (v3_42 : Int32) (v4_42 : Int32) (H : Heap) (locs : List Loc) (ls : Array Slot), GH x S5 s H locs → lv_has ls 5 [(0, .ref a0), (1, .int a1), (2, .int v3), (3, .int v3_42), (4, .int v4_42)] → J42 n42 v3_42 v4_42 → W p l e { frames := 5, cells := 0, slots := 0, locals := 107 } s m args below meth c H locs 0 0 (MQ below (va_Qi post (gB x S) (xA x)) args s 0 0 (xA x)) (F0 m 42 ls []) := by
      intro n42
      induction n42 using Nat.strongRecOn with
      | _ n42 ih42 =>
        intro v3_42 v4_42 H locs ls hG hl9 hj
        replace h := hJ42 n42 v3_42 v4_42 hj
        refine lv_iload hx hb d_M_learn_42 (lv_at hl9 4 rfl) ?_
        refine lv_iload_n hx hb d_M_learn_44 rfl (lv_at hl9 2 rfl) ?_
        refine lv_icmp_ge (tgt := 77) hx hb d_M_learn_45 (by decide) (fun hc69 => ?_) (fun hc69 => ?_)
        · replace h := h.1 hc69
          refine lv_iload_n hx hb d_M_learn_77 rfl (lv_at hl9 3 rfl) ?_
          refine lv_if_ne (tgt := 83) hx hb d_M_learn_78 (by decide) (fun hc56 => ?_) (fun hc56 => ?_)
          · replace h := h.2 hc56
            refine lv_aload_n hx hb d_M_learn_83 rfl (lv_at hl9 0 rfl) ?_
            refine gget hx hb hw hown hK hG kd_M fa0 rfl 4 (by decide) rfl tw_1022 (fun _ h9 => h9) d_M_learn_84 ?_
            refine gtopq (fun o10 eo10 => ?_)
            replace h := h o10 eo10
            refine lv_iload_n hx hb d_M_learn_87 rfl (lv_at hl9 1 rfl) ?_
            refine lv_iload_n hx hb d_M_learn_88 rfl (lv_at hl9 2 rfl) ?_
            obtain ⟨y11, ey11, h⟩ := h
            subst ey11
            obtain ⟨f12, h⟩ := h
            obtain ⟨hi13, h⟩ := h
            refine giast hx hb hK hG f12 hi13 d_M_learn_89 (fun S14 H locs eS14 hle1 hG => ?_)
            replace h := h S14 eS14
            have fa0 := gle_isA hle1 fa0
            have f12 := gle_isA hle1 f12
            have leS := leS.tr hle1
            have leS5 := leS5.tr hle1
            refine lv_aload_n hx hb d_M_learn_90 rfl (lv_at hl9 0 rfl) ?_
            refine gget hx hb hw hown hK hG kd_M fa0 rfl 1 (by decide) rfl tw_1018 (fun _ h9 => h9) d_M_learn_91 ?_
            refine gtopq (fun o15 eo15 => ?_)
            replace h := h o15 eo15
            refine lv_iconst (v := 0) hx hb d_M_learn_94 (by decide) ?_
            refine lv_aload_n hx hb d_M_learn_95 rfl (lv_at hl9 0 rfl) ?_
            refine gget hx hb hw hown hK hG kd_M fa0 rfl 3 (by decide) rfl tw_1020 (fun _ h9 => h9) d_M_learn_96 ?_
            refine gtopq (fun o16 eo16 => ?_)
            replace h := h o16 eo16
            refine lv_bipush (v := 24) hx hb d_M_learn_99 (by decide) ?_
            refine lv_iload_n hx hb d_M_learn_101 rfl (lv_at hl9 1 rfl) ?_
            refine lv_imul hx hb d_M_learn_102 ?_
            refine lv_iload_n hx hb d_M_learn_103 rfl (lv_at hl9 2 rfl) ?_
            obtain ⟨y17, ey17, h⟩ := h
            subst ey17
            obtain ⟨y18, ey18, h⟩ := h
            subst ey18
            obtain ⟨f19, h⟩ := h
            obtain ⟨f20, h⟩ := h
            obtain ⟨⟨hc211, hc212, hc213, hc214, hc215, hc216⟩, h⟩ := h
            refine gcopy 1 hx hb hw (hml.trans hl9.1.symm) hown hK hG tw_1068 tw_251 tw_250 tw_42 f19 f20 (fun _ _ _ _ _ _ => rfl) rfl rfl hc211 hc212 hc213 hc214 hc215 hc216 (Nat.le_of_ble_eq_true rfl) (Nat.le_of_ble_eq_true rfl) d_M_learn_104 (fun S22 H locs eS22 hle1 hG => ?_)
            replace h := h S22 eS22
            have fa0 := gle_isA hle1 fa0
            have f12 := gle_isA hle1 f12
            have f19 := gle_isA hle1 f19
            have f20 := gle_isA hle1 f20
            have leS := leS.tr hle1
            have leS5 := leS5.tr hle1
            refine lv_iconst (v := 0) hx hb d_M_learn_107 (by decide) ?_
            refine lv_istore (lv' := [(4, .int 0), (0, .ref a0), (1, .int a1), (2, .int v3), (3, .int v3_42)]) hx hb d_M_learn_108 hl9 (by decide) rfl (fun ls hl23 => ?_)
            have leS22 : gle S22 S22 := gle.rf
            obtain ⟨J110, ⟨n0_110, h0_110⟩, hJ110⟩ := h
            have k110 : ∀ (n110 : Nat) (S_110 : St) (v4_110 : Int32) (H : Heap) (locs : List Loc) (ls : Array Slot), gle S22 S_110 → GH x S_110 s H locs → lv_has ls 5 [(0, .ref a0), (1, .int a1), (2, .int v3), (4, .int v4_110)] → J110 n110 S_110 v4_110 → W p l e { frames := 5, cells := 0, slots := 0, locals := 107 } s m args below meth c H locs 0 0 (MQ below (va_Qi post (gB x S) (xA x)) args s 0 0 (xA x)) (F0 m 110 ls []) := by
              intro n110
              induction n110 using Nat.strongRecOn with
              | _ n110 ih110 =>
                intro S_110 v4_110 H locs ls hle1 hG hl24 hj
                replace h := hJ110 n110 S_110 v4_110 hj
                have fa0 := gle_isA hle1 fa0
                have f12 := gle_isA hle1 f12
                have f19 := gle_isA hle1 f19
                have f20 := gle_isA hle1 f20
                have leS := leS.tr hle1
                have leS5 := leS5.tr hle1
                have leS22 := leS22.tr hle1
                refine lv_iload hx hb d_M_learn_110 (lv_at hl24 3 rfl) ?_
                refine lv_aload_n hx hb d_M_learn_112 rfl (lv_at hl24 0 rfl) ?_
                refine gget hx hb hw hown hK hG kd_M fa0 rfl 5 (by decide) rfl tw_1024 (fun _ h9 => h9) d_M_learn_113 ?_
                refine gtopq (fun o25 eo25 => ?_)
                replace h := h o25 eo25
                obtain ⟨y26, ey26, h⟩ := h
                subst ey26
                obtain ⟨f27, h⟩ := h
                refine ggetN hx hb hw hown hK hG kd_S f27 rfl 1 (by decide) rfl tw_943 (fun _ h9 => h9) d_M_learn_116 ?_
                refine lv_icmp_ge (tgt := 167) hx hb d_M_learn_119 (by decide) (fun hc55 => ?_) (fun hc55 => ?_)
                · replace h := h.1 hc55
                  refine lv_iload_n hx hb d_M_learn_167 rfl (lv_at hl24 2 rfl) ?_
                  exact giret hx hb hr hlocks hK hG leS h (Nat.le_of_ble_eq_true rfl) (Nat.le_of_ble_eq_true rfl) d_M_learn_168
                · replace h := h.2 hc55
                  refine lv_aload_n hx hb d_M_learn_122 rfl (lv_at hl24 0 rfl) ?_
                  refine gget hx hb hw hown hK hG kd_M fa0 rfl 5 (by decide) rfl tw_1024 (fun _ h9 => h9) d_M_learn_123 ?_
                  refine gtopq (fun o28 eo28 => ?_)
                  replace h := h o28 eo28
                  obtain ⟨y29, ey29, h⟩ := h
                  subst ey29
                  obtain ⟨f30, h⟩ := h
                  refine ggetN hx hb hw hown hK hG kd_S f30 rfl 7 (by decide) rfl tw_955 (fun _ h9 => h9) d_M_learn_126 ?_
                  refine gtopq (fun o31 eo31 => ?_)
                  replace h := h o31 eo31
                  refine lv_iload hx hb d_M_learn_129 (lv_at hl24 3 rfl) ?_
                  obtain ⟨y32, ey32, h⟩ := h
                  subst ey32
                  obtain ⟨f33, h⟩ := h
                  obtain ⟨hi34, h⟩ := h
                  refine giald hx hb hK hG f33 hi34 d_M_learn_131 ?_
                  refine lv_iload_n hx hb d_M_learn_132 rfl (lv_at hl24 1 rfl) ?_
                  have leS_110 : gle S_110 S_110 := gle.rf
                  obtain ⟨J161, hJ161, h⟩ := h
                  have k161 : ∀ (S_161 : St) (H : Heap) (locs : List Loc) (ls : Array Slot), gle S_110 S_161 → GH x S_161 s H locs → lv_has ls 5 [(0, .ref a0), (1, .int a1), (2, .int v3), (4, .int v4_110)] → J161 S_161 → W p l e { frames := 5, cells := 0, slots := 0, locals := 107 } s m args below meth c H locs 0 0 (MQ below (va_Qi post (gB x S) (xA x)) args s 0 0 (xA x)) (F0 m 161 ls []) := by
                    intro S_161  H locs ls hle1 hG hl35 hj
                    replace h := hJ161 S_161 hj
                    have fa0 := gle_isA hle1 fa0
                    have f12 := gle_isA hle1 f12
                    have f19 := gle_isA hle1 f19
                    have f20 := gle_isA hle1 f20
                    have f27 := gle_isA hle1 f27
                    have f30 := gle_isA hle1 f30
                    have f33 := gle_isA hle1 f33
                    have leS := leS.tr hle1
                    have leS5 := leS5.tr hle1
                    have leS22 := leS22.tr hle1
                    have leS_110 := leS_110.tr hle1
                    obtain ⟨v36, ev36⟩ : ∃ z : Int32, z = v4_110 + 1 := ⟨_, rfl⟩
                    replace h := h v36 ev36
                    refine lv_iinc (v := v36) (lv' := [(4, .int v36), (0, .ref a0), (1, .int a1), (2, .int v3)]) hx hb d_M_learn_161 hl35 (k := 3) rfl (by rw [ev36]; rfl) (by decide) rfl (fun ls hl37 => ?_)
                    refine lv_goto (tgt := 110) hx hb d_M_learn_164 (by decide) ?_
                    obtain ⟨nx, hnx, h⟩ := h
                    exact ih110 nx hnx S_161 v36 H locs ls leS22 hG (lv_sub hl37 [1, 2, 3, 0] rfl) h
                  refine lv_icmp_ne (tgt := 161) hx hb d_M_learn_133 (by decide) (fun hc54 => ?_) (fun hc54 => ?_)
                  · replace h := h.2 hc54
                    exact k161 S_110 H locs ls leS_110 hG (lv_sub hl24 [0, 1, 2, 3] rfl) h
                  · replace h := h.1 hc54
                    refine lv_aload_n hx hb d_M_learn_136 rfl (lv_at hl24 0 rfl) ?_
                    refine gget hx hb hw hown hK hG kd_M fa0 rfl 5 (by decide) rfl tw_1024 (fun _ h9 => h9) d_M_learn_137 ?_
                    refine gtopq (fun o38 eo38 => ?_)
                    replace h := h o38 eo38
                    obtain ⟨y39, ey39, h⟩ := h
                    subst ey39
                    obtain ⟨f40, h⟩ := h
                    refine ggetN hx hb hw hown hK hG kd_S f40 rfl 8 (by decide) rfl tw_957 (fun _ h9 => h9) d_M_learn_140 ?_
                    refine gtopq (fun o41 eo41 => ?_)
                    replace h := h o41 eo41
                    refine lv_iload hx hb d_M_learn_143 (lv_at hl24 3 rfl) ?_
                    obtain ⟨y42, ey42, h⟩ := h
                    subst ey42
                    obtain ⟨f43, h⟩ := h
                    obtain ⟨hi44, h⟩ := h
                    refine giald hx hb hK hG f43 hi44 d_M_learn_145 ?_
                    refine lv_iload_n hx hb d_M_learn_146 rfl (lv_at hl24 2 rfl) ?_
                    refine lv_icmp_lt (tgt := 161) hx hb d_M_learn_147 (by decide) (fun hc53 => ?_) (fun hc53 => ?_)
                    · replace h := h.1 hc53
                      exact k161 S_110 H locs ls leS_110 hG (lv_sub hl24 [0, 1, 2, 3] rfl) h
                    · replace h := h.2 hc53
                      refine lv_aload_n hx hb d_M_learn_150 rfl (lv_at hl24 0 rfl) ?_
                      refine gget hx hb hw hown hK hG kd_M fa0 rfl 5 (by decide) rfl tw_1024 (fun _ h9 => h9) d_M_learn_151 ?_
                      refine gtopq (fun o45 eo45 => ?_)
                      replace h := h o45 eo45
                      obtain ⟨y46, ey46, h⟩ := h
                      subst ey46
                      obtain ⟨f47, h⟩ := h
                      refine ggetN hx hb hw hown hK hG kd_S f47 rfl 8 (by decide) rfl tw_957 (fun _ h9 => h9) d_M_learn_154 ?_
                      refine gtopq (fun o48 eo48 => ?_)
                      replace h := h o48 eo48
                      refine lv_iload hx hb d_M_learn_157 (lv_at hl24 3 rfl) ?_
                      refine lv_iconst (v := 0) hx hb d_M_learn_159 (by decide) ?_
                      obtain ⟨y49, ey49, h⟩ := h
                      subst ey49
                      obtain ⟨f50, h⟩ := h
                      obtain ⟨hi51, h⟩ := h
                      refine giast hx hb hK hG f50 hi51 d_M_learn_160 (fun S52 H locs eS52 hle1 hG => ?_)
                      replace h := h S52 eS52
                      have fa0 := gle_isA hle1 fa0
                      have f12 := gle_isA hle1 f12
                      have f19 := gle_isA hle1 f19
                      have f20 := gle_isA hle1 f20
                      have f27 := gle_isA hle1 f27
                      have f30 := gle_isA hle1 f30
                      have f33 := gle_isA hle1 f33
                      have f40 := gle_isA hle1 f40
                      have f43 := gle_isA hle1 f43
                      have f47 := gle_isA hle1 f47
                      have f50 := gle_isA hle1 f50
                      have leS := leS.tr hle1
                      have leS5 := leS5.tr hle1
                      have leS22 := leS22.tr hle1
                      have leS_110 := leS_110.tr hle1
                      exact k161 S52 H locs ls leS_110 hG (lv_sub hl24 [0, 1, 2, 3] rfl) h
            exact k110 n0_110 S22 0 H locs ls gle.rf hG (lv_sub hl23 [1, 2, 3, 0] rfl) h0_110
          · replace h := h.1 hc56
            refine lv_iconst (v := (-1)) hx hb d_M_learn_81 (by decide) ?_
            exact giret hx hb hr hlocks hK hG leS h (Nat.le_of_ble_eq_true rfl) (Nat.le_of_ble_eq_true rfl) d_M_learn_82
        · replace h := h.2 hc69
          refine lv_iload_n hx hb d_M_learn_48 rfl (lv_at hl9 3 rfl) ?_
          obtain ⟨J70, hJ70, h⟩ := h
          have k70 : ∀ (k0_70 : Int32) (H : Heap) (locs : List Loc) (ls : Array Slot), GH x S5 s H locs → lv_has ls 5 [(0, .ref a0), (1, .int a1), (2, .int v3), (4, .int v4_42)] → J70 k0_70 → W p l e { frames := 5, cells := 0, slots := 0, locals := 107 } s m args below meth c H locs 0 0 (MQ below (va_Qi post (gB x S) (xA x)) args s 0 0 (xA x)) (F0 m 70 ls [.int k0_70]) := by
            intro k0_70  H locs ls hG hl57 hj
            replace h := hJ70 k0_70 hj
            refine lv_istore_n (i := 3) (lv' := [(3, .int k0_70), (0, .ref a0), (1, .int a1), (2, .int v3), (4, .int v4_42)]) hx hb d_M_learn_70 rfl hl57 (by decide) rfl (fun ls hl58 => ?_)
            obtain ⟨v59, ev59⟩ : ∃ z : Int32, z = v4_42 + 1 := ⟨_, rfl⟩
            replace h := h v59 ev59
            refine lv_iinc (v := v59) (lv' := [(4, .int v59), (3, .int k0_70), (0, .ref a0), (1, .int a1), (2, .int v3)]) hx hb d_M_learn_71 hl58 (k := 4) rfl (by rw [ev59]; rfl) (by decide) rfl (fun ls hl60 => ?_)
            refine lv_goto (tgt := 42) hx hb d_M_learn_74 (by decide) ?_
            obtain ⟨nx, hnx, h⟩ := h
            exact ih42 nx hnx k0_70 v59 H locs ls hG (lv_sub hl60 [2, 3, 4, 1, 0] rfl) h
          obtain ⟨J69, hJ69, h⟩ := h
          have k69 : ∀ (H : Heap) (locs : List Loc) (ls : Array Slot), GH x S5 s H locs → lv_has ls 5 [(0, .ref a0), (1, .int a1), (2, .int v3), (4, .int v4_42)] → J69 → W p l e { frames := 5, cells := 0, slots := 0, locals := 107 } s m args below meth c H locs 0 0 (MQ below (va_Qi post (gB x S) (xA x)) args s 0 0 (xA x)) (F0 m 69 ls []) := by
            intro  H locs ls hG hl61 hj
            replace h := hJ69 hj
            refine lv_iconst (v := 0) hx hb d_M_learn_69 (by decide) ?_
            exact k70 0 H locs ls hG (lv_sub hl61 [0, 1, 2, 3] rfl) h
          refine lv_if_eq (tgt := 69) hx hb d_M_learn_49 (by decide) (fun hc68 => ?_) (fun hc68 => ?_)
          · replace h := h.1 hc68
            exact k69 H locs ls hG (lv_sub hl9 [0, 1, 2, 4] rfl) h
          · replace h := h.2 hc68
            refine lv_aload_n hx hb d_M_learn_52 rfl (lv_at hl9 0 rfl) ?_
            refine gget hx hb hw hown hK hG kd_M fa0 rfl 1 (by decide) rfl tw_1018 (fun _ h9 => h9) d_M_learn_53 ?_
            refine gtopq (fun o62 eo62 => ?_)
            replace h := h o62 eo62
            refine lv_iload hx hb d_M_learn_56 (lv_at hl9 4 rfl) ?_
            obtain ⟨y63, ey63, h⟩ := h
            subst ey63
            obtain ⟨f64, h⟩ := h
            obtain ⟨hi65, h⟩ := h
            refine giald hx hb hK hG f64 hi65 d_M_learn_58 ?_
            -- call M_isFigure
            refine gpi hK hG (va_runS (As := [.int (sR S5 y63 v4_42.toNatClampNeg)]) (rest := []) ⟨hx, hb, hml, hown, hw⟩ (m_M_isFigure l x S5 _ (sR S5 y63 v4_42.toNatClampNeg)  h) ⟨gcb hw tw_1066 tw_43 tw_1064 hd_M_isFigure rfl rfl ⟨(Nat.le_of_ble_eq_true rfl), (Nat.le_of_ble_eq_true rfl)⟩, hw _ tw_1065⟩ (gpS hK hG) rfl rfl hl9.1 rfl (lv_room (Nat.le_of_ble_eq_true rfl)) d_M_learn_59 ⟨(Nat.le_of_ble_eq_true rfl), (Nat.le_of_ble_eq_true rfl)⟩) (fun r66 H locs h9 hG => ?_)
            replace h := h9
            clear h9
            refine lv_if_eq (tgt := 69) hx hb d_M_learn_62 (by decide) (fun hc67 => ?_) (fun hc67 => ?_)
            · replace h := h.1 hc67
              exact k69 H locs ls hG (lv_sub hl9 [0, 1, 2, 4] rfl) h
            · replace h := h.2 hc67
              refine lv_iconst (v := 1) hx hb d_M_learn_65 (by decide) ?_
              refine lv_goto (tgt := 70) hx hb d_M_learn_66 (by decide) ?_
              exact k70 1 H locs ls hG (lv_sub hl9 [0, 1, 2, 4] rfl) h
    exact k42 n0_42 r6 0 H locs ls hG (lv_sub hl8 [3, 4, 2, 1, 0] rfl) h0_42
  · replace h := h.1 hc72
    refine lv_aload_n hx hb d_M_learn_15 rfl (lv_at hl0 0 rfl) ?_
    refine lv_iconst (v := 1) hx hb d_M_learn_16 (by decide) ?_
    -- call M_no
    refine gci hK hG (va_runV (As := [.int 1]) (rest := []) ⟨hx, hb, hml, hown, hw⟩ (m_M_no l x S1 _ a0 1 fa0 h) ⟨gcb hw tw_1052 tw_43 tw_1049 hd_M_no rfl rfl ⟨(Nat.le_of_ble_eq_true rfl), (Nat.le_of_ble_eq_true rfl)⟩, hw _ tw_1051, hw _ tw_12⟩ (gpV hK hG kd_M fa0 rfl) rfl rfl hl0.1 rfl (lv_room (Nat.le_of_ble_eq_true rfl)) d_M_learn_17 ⟨(Nat.le_of_ble_eq_true rfl), (Nat.le_of_ble_eq_true rfl)⟩) (fun r70 S71 H locs h9 hle1 hG => ?_)
    replace h := h9
    clear h9
    have fa0 := gle_isA hle1 fa0
    have leS := leS.tr hle1
    exact giret hx hb hr hlocks hK hG leS h (Nat.le_of_ble_eq_true rfl) (Nat.le_of_ble_eq_true rfl) d_M_learn_20
def w_M_figure (post : Int32 → St → Prop) (S : St) (a0 : Nat) (a1 : Int32) (a2 : Int32) : Prop :=
  ∀ S1 : St, S1 = pI S 56 a0 0 → w_M_isIn (fun (r2 : Int32) => ∃ J45 : Prop, (J45 → w_M_no (fun (r4 : Int32) (S5 : St) => post r4 S5) S1 a0 1) ∧ (r2 = 0 → J45) ∧ (¬ r2 = 0 → ∀ o6 : Option Nat, o6 = sQ S1 60 a0 → ∃ y7 : Nat, o6 = some y7 ∧ isA S1 10 y7 ∧ vp_in a1 (sN S1 y7) ∧ w_M_isIn (fun (r10 : Int32) => (r10 = 0 → J45) ∧ (¬ r10 = 0 → ∀ o11 : Option Nat, o11 = sQ S1 59 a0 → ∃ y12 : Nat, o11 = some y12 ∧ isA S1 10 y12 ∧ vp_in ((24 * a1) + a2) (sN S1 y12) ∧ post (sR S1 y12 ((24 * a1) + a2).toNatClampNeg) S1)) S1 a2 0 ((sR S1 y7 a1.toNatClampNeg) - 1))) S1 a1 0 7
set_option maxHeartbeats 4000000 in
set_option maxRecDepth 100000 in
theorem m_M_figure (l : Launch) (x : Cx) (S : St) (post : Int32 → St → Prop) (a0 : Nat) (a1 : Int32) (a2 : Int32) (fa0 : isA S 8 a0) (h : w_M_figure post S a0 a1 a2) : Met l y_M_figure [.code y_M_figure c_M_figure 3 (some .int)] { frames := 1, cells := 0, slots := 0, locals := 22 } (va_Pc [.ref a0, .int a1, .int a2] (GW x S)) (va_Qi post (gB x S) (xA x)) 0 0 (xA x) := by
  refine gMet (by decide +kernel) (Nat.le_of_ble_eq_true rfl) ?_
  intro p e s m args below meth c hx hb hr hown hlocks hin hw hK H locs hG ls hlA hml
  have hown : s.vm.findClass "WaltzHallModel" = some m.cls := hown
  have hl0 : lv_has ls 3 [(0, .ref a0), (1, .int a1), (2, .int a2)] := hlA
  have leS : gle S S := gle.rf
  unfold w_M_figure at h
  refine lv_aload_n hx hb d_M_figure_0 rfl (lv_at hl0 0 rfl) ?_
  refine lv_iconst (v := 0) hx hb d_M_figure_1 (by decide) ?_
  refine gput (S' := pI S 56 a0 0) hx hb hw hown hK hG kd_M fa0 rfl 0 (by decide) (gChI fa0 rfl) tw_1017 (fun _ h9 => h9) rfl rfl rfl rfl (Nat.le_of_ble_eq_true rfl) d_M_figure_2 (fun S1 H locs eS1 hle1 hG => ?_)
  replace h := h S1 eS1
  have fa0 := gle_isA hle1 fa0
  have leS := leS.tr hle1
  refine lv_iload_n hx hb d_M_figure_5 rfl (lv_at hl0 1 rfl) ?_
  refine lv_iconst (v := 0) hx hb d_M_figure_6 (by decide) ?_
  refine lv_bipush (v := 7) hx hb d_M_figure_7 (by decide) ?_
  -- call M_isIn
  refine gpi hK hG (va_runS (As := [.int a1, .int 0, .int 7]) (rest := []) ⟨hx, hb, hml, hown, hw⟩ (m_M_isIn l x S1 _ a1 0 7  h) ⟨gcb hw tw_1059 tw_43 tw_1057 hd_M_isIn rfl rfl ⟨(Nat.le_of_ble_eq_true rfl), (Nat.le_of_ble_eq_true rfl)⟩, hw _ tw_1058⟩ (gpS hK hG) rfl rfl hl0.1 rfl (lv_room (Nat.le_of_ble_eq_true rfl)) d_M_figure_9 ⟨(Nat.le_of_ble_eq_true rfl), (Nat.le_of_ble_eq_true rfl)⟩) (fun r2 H locs h9 hG => ?_)
  replace h := h9
  clear h9
  have leS1 : gle S1 S1 := gle.rf
  obtain ⟨J45, hJ45, h⟩ := h
  have k45 : ∀ (H : Heap) (locs : List Loc) (ls : Array Slot), GH x S1 s H locs → lv_has ls 3 [(0, .ref a0)] → J45 → W p l e { frames := 1, cells := 0, slots := 0, locals := 22 } s m args below meth c H locs 0 0 (MQ below (va_Qi post (gB x S) (xA x)) args s 0 0 (xA x)) (F0 m 45 ls []) := by
    intro  H locs ls hG hl3 hj
    replace h := hJ45 hj
    refine lv_aload_n hx hb d_M_figure_45 rfl (lv_at hl3 0 rfl) ?_
    refine lv_iconst (v := 1) hx hb d_M_figure_46 (by decide) ?_
    -- call M_no
    refine gci hK hG (va_runV (As := [.int 1]) (rest := []) ⟨hx, hb, hml, hown, hw⟩ (m_M_no l x S1 _ a0 1 fa0 h) ⟨gcb hw tw_1052 tw_43 tw_1049 hd_M_no rfl rfl ⟨(Nat.le_of_ble_eq_true rfl), (Nat.le_of_ble_eq_true rfl)⟩, hw _ tw_1051, hw _ tw_12⟩ (gpV hK hG kd_M fa0 rfl) rfl rfl hl3.1 rfl (lv_room (Nat.le_of_ble_eq_true rfl)) d_M_figure_47 ⟨(Nat.le_of_ble_eq_true rfl), (Nat.le_of_ble_eq_true rfl)⟩) (fun r4 S5 H locs h9 hle1 hG => ?_)
    replace h := h9
    clear h9
    have fa0 := gle_isA hle1 fa0
    have leS := leS.tr hle1
    have leS1 := leS1.tr hle1
    exact giret hx hb hr hlocks hK hG leS h (Nat.le_of_ble_eq_true rfl) (Nat.le_of_ble_eq_true rfl) d_M_figure_50
  refine lv_if_eq (tgt := 45) hx hb d_M_figure_12 (by decide) (fun hc16 => ?_) (fun hc16 => ?_)
  · replace h := h.1 hc16
    exact k45 H locs ls hG (lv_sub hl0 [0] rfl) h
  · replace h := h.2 hc16
    refine lv_iload_n hx hb d_M_figure_15 rfl (lv_at hl0 2 rfl) ?_
    refine lv_iconst (v := 0) hx hb d_M_figure_16 (by decide) ?_
    refine lv_aload_n hx hb d_M_figure_17 rfl (lv_at hl0 0 rfl) ?_
    refine gget hx hb hw hown hK hG kd_M fa0 rfl 4 (by decide) rfl tw_1022 (fun _ h9 => h9) d_M_figure_18 ?_
    refine gtopq (fun o6 eo6 => ?_)
    replace h := h o6 eo6
    refine lv_iload_n hx hb d_M_figure_21 rfl (lv_at hl0 1 rfl) ?_
    obtain ⟨y7, ey7, h⟩ := h
    subst ey7
    obtain ⟨f8, h⟩ := h
    obtain ⟨hi9, h⟩ := h
    refine giald hx hb hK hG f8 hi9 d_M_figure_22 ?_
    refine lv_iconst (v := 1) hx hb d_M_figure_23 (by decide) ?_
    refine lv_isub hx hb d_M_figure_24 ?_
    -- call M_isIn
    refine gpi hK hG (va_runS (As := [.int a2, .int 0, .int ((sR S1 y7 a1.toNatClampNeg) - 1)]) (rest := []) ⟨hx, hb, hml, hown, hw⟩ (m_M_isIn l x S1 _ a2 0 ((sR S1 y7 a1.toNatClampNeg) - 1)  h) ⟨gcb hw tw_1059 tw_43 tw_1057 hd_M_isIn rfl rfl ⟨(Nat.le_of_ble_eq_true rfl), (Nat.le_of_ble_eq_true rfl)⟩, hw _ tw_1058⟩ (gpS hK hG) rfl rfl hl0.1 rfl (lv_room (Nat.le_of_ble_eq_true rfl)) d_M_figure_25 ⟨(Nat.le_of_ble_eq_true rfl), (Nat.le_of_ble_eq_true rfl)⟩) (fun r10 H locs h9 hG => ?_)
    replace h := h9
    clear h9
    refine lv_if_eq (tgt := 45) hx hb d_M_figure_28 (by decide) (fun hc15 => ?_) (fun hc15 => ?_)
    · replace h := h.1 hc15
      exact k45 H locs ls hG (lv_sub hl0 [0] rfl) h
    · replace h := h.2 hc15
      refine lv_aload_n hx hb d_M_figure_31 rfl (lv_at hl0 0 rfl) ?_
      refine gget hx hb hw hown hK hG kd_M fa0 rfl 3 (by decide) rfl tw_1020 (fun _ h9 => h9) d_M_figure_32 ?_
      refine gtopq (fun o11 eo11 => ?_)
      replace h := h o11 eo11
      refine lv_bipush (v := 24) hx hb d_M_figure_35 (by decide) ?_
      refine lv_iload_n hx hb d_M_figure_37 rfl (lv_at hl0 1 rfl) ?_
      refine lv_imul hx hb d_M_figure_38 ?_
      refine lv_iload_n hx hb d_M_figure_39 rfl (lv_at hl0 2 rfl) ?_
      refine lv_iadd hx hb d_M_figure_40 ?_
      obtain ⟨y12, ey12, h⟩ := h
      subst ey12
      obtain ⟨f13, h⟩ := h
      obtain ⟨hi14, h⟩ := h
      refine giald hx hb hK hG f13 hi14 d_M_figure_41 ?_
      refine lv_goto (tgt := 50) hx hb d_M_figure_42 (by decide) ?_
      exact giret hx hb hr hlocks hK hG leS h (Nat.le_of_ble_eq_true rfl) (Nat.le_of_ble_eq_true rfl) d_M_figure_50
def w_M_drift (post : Int32 → St → Prop) (S : St) (a0 : Nat) (a1 : Int32) (a2 : Int32) : Prop :=
  ∀ S1 : St, S1 = pI S 56 a0 0 → w_M_isIn (fun (r2 : Int32) => ∃ J24 : Prop, (J24 → w_M_no (fun (r4 : Int32) (S5 : St) => post r4 S5) S1 a0 1) ∧ (r2 = 0 → J24) ∧ (¬ r2 = 0 → w_M_isIn (fun (r6 : Int32) => (r6 = 0 → J24) ∧ (¬ r6 = 0 → ∃ J41 : Nat → Int32 → Int32 → Int32 → Int32 → Prop, (∃ n : Nat, J41 n 0 0 0 0) ∧ ∀ (n41 : Nat) (v3_41 : Int32) (v4_41 : Int32) (v5_41 : Int32) (v6_41 : Int32), J41 n41 v3_41 v4_41 v5_41 v6_41 → ∀ o12 : Option Nat, o12 = sQ S1 60 a0 → ∃ y13 : Nat, o12 = some y13 ∧ isA S1 10 y13 ∧ vp_in a1 (sN S1 y13) ∧ ((sR S1 y13 a1.toNatClampNeg) ≤ v6_41 → (3 ≤ a2 → (v5_41 = 0 → (v3_41 = 0 → (v4_41 = 0 → post 1 S1) ∧ (¬ v4_41 = 0 → post (-1) S1)) ∧ (¬ v3_41 = 0 → post (-1) S1)) ∧ (¬ v5_41 = 0 → (v5_41 = 2 → post 2 S1) ∧ (¬ v5_41 = 2 → post 4 S1))) ∧ (¬ 3 ≤ a2 → (a2 = 0 → post v3_41 S1) ∧ (¬ a2 = 0 → (a2 = 1 → post v4_41 S1) ∧ (¬ a2 = 1 → post v5_41 S1)))) ∧ (¬ (sR S1 y13 a1.toNatClampNeg) ≤ v6_41 → ∀ o23 : Option Nat, o23 = sQ S1 59 a0 → ∃ y24 : Nat, o23 = some y24 ∧ isA S1 10 y24 ∧ vp_in ((24 * a1) + v6_41) (sN S1 y24) ∧ ∀ v27 : Int32, v27 = sR S1 y24 ((24 * a1) + v6_41).toNatClampNeg → ∃ J111 : Int32 → Prop, (∀ (k0_111 : Int32), J111 k0_111 → ∃ J149 : Int32 → Int32 → Prop, (∀ (v3_149 : Int32) (v4_149 : Int32), J149 v3_149 v4_149 → ∃ J174 : Int32 → Prop, (∀ (k1_174 : Int32), J174 k1_174 → ∀ v33 : Int32, v33 = (v5_41 + k1_174) - (v5_41 + k1_174) / 4 * 4 → ∀ v35 : Int32, v35 = v6_41 + 1 → ∃ nx : Nat, nx < n41 ∧ J41 nx v3_149 v4_149 v33 v35) ∧ (v27 = 116 → J174 1) ∧ (¬ v27 = 116 → (v27 = 117 → J174 3) ∧ (¬ v27 = 117 → J174 0))) ∧ (k0_111 = (-1) → J149 v3_41 v4_41) ∧ (¬ k0_111 = (-1) → ∀ v39 : Int32, v39 = (v5_41 + k0_111) - (v5_41 + k0_111) / 4 * 4 → vp_in v39 4 ∧ ∀ v41 : Int32, v41 = v3_41 + (dxT v39.toNatClampNeg) → ∀ v43 : Int32, v43 = (v5_41 + k0_111) - (v5_41 + k0_111) / 4 * 4 → vp_in v43 4 ∧ ∀ v45 : Int32, v45 = v4_41 + (dyT v43.toNatClampNeg) → J149 v41 v45)) ∧ (v27 = 102 → J111 0) ∧ (¬ v27 = 102 → (v27 = 114 → J111 1) ∧ (¬ v27 = 114 → (v27 = 98 → J111 2) ∧ (¬ v27 = 98 → (v27 = 108 → J111 3) ∧ (¬ v27 = 108 → J111 (-1)))))))) S1 a2 0 3)) S1 a1 0 7
set_option maxHeartbeats 4000000 in
set_option maxRecDepth 100000 in
theorem m_M_drift (l : Launch) (x : Cx) (S : St) (post : Int32 → St → Prop) (a0 : Nat) (a1 : Int32) (a2 : Int32) (fa0 : isA S 8 a0) (h : w_M_drift post S a0 a1 a2) : Met l y_M_drift [.code y_M_drift c_M_drift 9 (some .int)] { frames := 1, cells := 0, slots := 0, locals := 22 } (va_Pc [.ref a0, .int a1, .int a2] (GW x S)) (va_Qi post (gB x S) (xA x)) 0 0 (xA x) := by
  refine gMet (by decide +kernel) (Nat.le_of_ble_eq_true rfl) ?_
  intro p e s m args below meth c hx hb hr hown hlocks hin hw hK H locs hG ls hlA hml
  have hown : s.vm.findClass "WaltzHallModel" = some m.cls := hown
  have hl0 : lv_has ls 9 [(0, .ref a0), (1, .int a1), (2, .int a2)] := hlA
  have leS : gle S S := gle.rf
  unfold w_M_drift at h
  refine lv_aload_n hx hb d_M_drift_0 rfl (lv_at hl0 0 rfl) ?_
  refine lv_iconst (v := 0) hx hb d_M_drift_1 (by decide) ?_
  refine gput (S' := pI S 56 a0 0) hx hb hw hown hK hG kd_M fa0 rfl 0 (by decide) (gChI fa0 rfl) tw_1017 (fun _ h9 => h9) rfl rfl rfl rfl (Nat.le_of_ble_eq_true rfl) d_M_drift_2 (fun S1 H locs eS1 hle1 hG => ?_)
  replace h := h S1 eS1
  have fa0 := gle_isA hle1 fa0
  have leS := leS.tr hle1
  refine lv_iload_n hx hb d_M_drift_5 rfl (lv_at hl0 1 rfl) ?_
  refine lv_iconst (v := 0) hx hb d_M_drift_6 (by decide) ?_
  refine lv_bipush (v := 7) hx hb d_M_drift_7 (by decide) ?_
  -- call M_isIn
  refine gpi hK hG (va_runS (As := [.int a1, .int 0, .int 7]) (rest := []) ⟨hx, hb, hml, hown, hw⟩ (m_M_isIn l x S1 _ a1 0 7  h) ⟨gcb hw tw_1059 tw_43 tw_1057 hd_M_isIn rfl rfl ⟨(Nat.le_of_ble_eq_true rfl), (Nat.le_of_ble_eq_true rfl)⟩, hw _ tw_1058⟩ (gpS hK hG) rfl rfl hl0.1 rfl (lv_room (Nat.le_of_ble_eq_true rfl)) d_M_drift_9 ⟨(Nat.le_of_ble_eq_true rfl), (Nat.le_of_ble_eq_true rfl)⟩) (fun r2 H locs h9 hG => ?_)
  replace h := h9
  clear h9
  have leS1 : gle S1 S1 := gle.rf
  obtain ⟨J24, hJ24, h⟩ := h
  have k24 : ∀ (H : Heap) (locs : List Loc) (ls : Array Slot), GH x S1 s H locs → lv_has ls 9 [(0, .ref a0)] → J24 → W p l e { frames := 1, cells := 0, slots := 0, locals := 22 } s m args below meth c H locs 0 0 (MQ below (va_Qi post (gB x S) (xA x)) args s 0 0 (xA x)) (F0 m 24 ls []) := by
    intro  H locs ls hG hl3 hj
    replace h := hJ24 hj
    refine lv_aload_n hx hb d_M_drift_24 rfl (lv_at hl3 0 rfl) ?_
    refine lv_iconst (v := 1) hx hb d_M_drift_25 (by decide) ?_
    -- call M_no
    refine gci hK hG (va_runV (As := [.int 1]) (rest := []) ⟨hx, hb, hml, hown, hw⟩ (m_M_no l x S1 _ a0 1 fa0 h) ⟨gcb hw tw_1052 tw_43 tw_1049 hd_M_no rfl rfl ⟨(Nat.le_of_ble_eq_true rfl), (Nat.le_of_ble_eq_true rfl)⟩, hw _ tw_1051, hw _ tw_12⟩ (gpV hK hG kd_M fa0 rfl) rfl rfl hl3.1 rfl (lv_room (Nat.le_of_ble_eq_true rfl)) d_M_drift_26 ⟨(Nat.le_of_ble_eq_true rfl), (Nat.le_of_ble_eq_true rfl)⟩) (fun r4 S5 H locs h9 hle1 hG => ?_)
    replace h := h9
    clear h9
    have fa0 := gle_isA hle1 fa0
    have leS := leS.tr hle1
    have leS1 := leS1.tr hle1
    exact giret hx hb hr hlocks hK hG leS h (Nat.le_of_ble_eq_true rfl) (Nat.le_of_ble_eq_true rfl) d_M_drift_29
  refine lv_if_eq (tgt := 24) hx hb d_M_drift_12 (by decide) (fun hc54 => ?_) (fun hc54 => ?_)
  · replace h := h.1 hc54
    exact k24 H locs ls hG (lv_sub hl0 [0] rfl) h
  · replace h := h.2 hc54
    refine lv_iload_n hx hb d_M_drift_15 rfl (lv_at hl0 2 rfl) ?_
    refine lv_iconst (v := 0) hx hb d_M_drift_16 (by decide) ?_
    refine lv_iconst (v := 3) hx hb d_M_drift_17 (by decide) ?_
    -- call M_isIn
    refine gpi hK hG (va_runS (As := [.int a2, .int 0, .int 3]) (rest := []) ⟨hx, hb, hml, hown, hw⟩ (m_M_isIn l x S1 _ a2 0 3  h) ⟨gcb hw tw_1059 tw_43 tw_1057 hd_M_isIn rfl rfl ⟨(Nat.le_of_ble_eq_true rfl), (Nat.le_of_ble_eq_true rfl)⟩, hw _ tw_1058⟩ (gpS hK hG) rfl rfl hl0.1 rfl (lv_room (Nat.le_of_ble_eq_true rfl)) d_M_drift_18 ⟨(Nat.le_of_ble_eq_true rfl), (Nat.le_of_ble_eq_true rfl)⟩) (fun r6 H locs h9 hG => ?_)
    replace h := h9
    clear h9
    refine lv_if_ne (tgt := 30) hx hb d_M_drift_21 (by decide) (fun hc53 => ?_) (fun hc53 => ?_)
    · replace h := h.2 hc53
      refine lv_iconst (v := 0) hx hb d_M_drift_30 (by decide) ?_
      refine lv_istore_n (i := 3) (lv' := [(3, .int 0), (0, .ref a0), (1, .int a1), (2, .int a2)]) hx hb d_M_drift_31 rfl hl0 (by decide) rfl (fun ls hl7 => ?_)
      refine lv_iconst (v := 0) hx hb d_M_drift_32 (by decide) ?_
      refine lv_istore (lv' := [(4, .int 0), (3, .int 0), (0, .ref a0), (1, .int a1), (2, .int a2)]) hx hb d_M_drift_33 hl7 (by decide) rfl (fun ls hl8 => ?_)
      refine lv_iconst (v := 0) hx hb d_M_drift_35 (by decide) ?_
      refine lv_istore (lv' := [(5, .int 0), (4, .int 0), (3, .int 0), (0, .ref a0), (1, .int a1), (2, .int a2)]) hx hb d_M_drift_36 hl8 (by decide) rfl (fun ls hl9 => ?_)
      refine lv_iconst (v := 0) hx hb d_M_drift_38 (by decide) ?_
      refine lv_istore (lv' := [(6, .int 0), (5, .int 0), (4, .int 0), (3, .int 0), (0, .ref a0), (1, .int a1), (2, .int a2)]) hx hb d_M_drift_39 hl9 (by decide) rfl (fun ls hl10 => ?_)
      obtain ⟨J41, ⟨n0_41, h0_41⟩, hJ41⟩ := h
      have k41 : ∀ (n41 : Nat) (v3_41 : Int32) (v4_41 : Int32) (v5_41 : Int32) (v6_41 : Int32) (H : Heap) (locs : List Loc) (ls : Array Slot), GH x S1 s H locs → lv_has ls 9 [(0, .ref a0), (1, .int a1), (2, .int a2), (3, .int v3_41), (4, .int v4_41), (5, .int v5_41), (6, .int v6_41)] → J41 n41 v3_41 v4_41 v5_41 v6_41 → W p l e { frames := 1, cells := 0, slots := 0, locals := 22 } s m args below meth c H locs 0 0 (MQ below (va_Qi post (gB x S) (xA x)) args s 0 0 (xA x)) (F0 m 41 ls []) := by
        intro n41
        induction n41 using Nat.strongRecOn with
        | _ n41 ih41 =>
          intro v3_41 v4_41 v5_41 v6_41 H locs ls hG hl11 hj
          replace h := hJ41 n41 v3_41 v4_41 v5_41 v6_41 hj
          refine lv_iload hx hb d_M_drift_41 (lv_at hl11 6 rfl) ?_
          refine lv_aload_n hx hb d_M_drift_43 rfl (lv_at hl11 0 rfl) ?_
          refine gget hx hb hw hown hK hG kd_M fa0 rfl 4 (by decide) rfl tw_1022 (fun _ h9 => h9) d_M_drift_44 ?_
          refine gtopq (fun o12 eo12 => ?_)
          replace h := h o12 eo12
          refine lv_iload_n hx hb d_M_drift_47 rfl (lv_at hl11 1 rfl) ?_
          obtain ⟨y13, ey13, h⟩ := h
          subst ey13
          obtain ⟨f14, h⟩ := h
          obtain ⟨hi15, h⟩ := h
          refine giald hx hb hK hG f14 hi15 d_M_drift_48 ?_
          refine lv_icmp_ge (tgt := 185) hx hb d_M_drift_49 (by decide) (fun hc52 => ?_) (fun hc52 => ?_)
          · replace h := h.1 hc52
            refine lv_iload_n hx hb d_M_drift_185 rfl (lv_at hl11 2 rfl) ?_
            refine lv_iconst (v := 3) hx hb d_M_drift_186 (by decide) ?_
            refine lv_icmp_ge (tgt := 211) hx hb d_M_drift_187 (by decide) (fun hc22 => ?_) (fun hc22 => ?_)
            · replace h := h.1 hc22
              refine lv_iload hx hb d_M_drift_211 (lv_at hl11 5 rfl) ?_
              refine lv_if_ne (tgt := 233) hx hb d_M_drift_213 (by decide) (fun hc19 => ?_) (fun hc19 => ?_)
              · replace h := h.2 hc19
                refine lv_iload hx hb d_M_drift_233 (lv_at hl11 5 rfl) ?_
                refine lv_iconst (v := 2) hx hb d_M_drift_235 (by decide) ?_
                refine lv_icmp_ne (tgt := 243) hx hb d_M_drift_236 (by decide) (fun hc16 => ?_) (fun hc16 => ?_)
                · replace h := h.2 hc16
                  refine lv_iconst (v := 4) hx hb d_M_drift_243 (by decide) ?_
                  exact giret hx hb hr hlocks hK hG leS h (Nat.le_of_ble_eq_true rfl) (Nat.le_of_ble_eq_true rfl) d_M_drift_244
                · replace h := h.1 hc16
                  refine lv_iconst (v := 2) hx hb d_M_drift_239 (by decide) ?_
                  refine lv_goto (tgt := 244) hx hb d_M_drift_240 (by decide) ?_
                  exact giret hx hb hr hlocks hK hG leS h (Nat.le_of_ble_eq_true rfl) (Nat.le_of_ble_eq_true rfl) d_M_drift_244
              · replace h := h.1 hc19
                refine lv_iload_n hx hb d_M_drift_216 rfl (lv_at hl11 3 rfl) ?_
                refine lv_if_ne (tgt := 229) hx hb d_M_drift_217 (by decide) (fun hc18 => ?_) (fun hc18 => ?_)
                · replace h := h.2 hc18
                  refine lv_iconst (v := (-1)) hx hb d_M_drift_229 (by decide) ?_
                  refine lv_goto (tgt := 244) hx hb d_M_drift_230 (by decide) ?_
                  exact giret hx hb hr hlocks hK hG leS h (Nat.le_of_ble_eq_true rfl) (Nat.le_of_ble_eq_true rfl) d_M_drift_244
                · replace h := h.1 hc18
                  refine lv_iload hx hb d_M_drift_220 (lv_at hl11 4 rfl) ?_
                  refine lv_if_ne (tgt := 229) hx hb d_M_drift_222 (by decide) (fun hc17 => ?_) (fun hc17 => ?_)
                  · replace h := h.2 hc17
                    refine lv_iconst (v := (-1)) hx hb d_M_drift_229 (by decide) ?_
                    refine lv_goto (tgt := 244) hx hb d_M_drift_230 (by decide) ?_
                    exact giret hx hb hr hlocks hK hG leS h (Nat.le_of_ble_eq_true rfl) (Nat.le_of_ble_eq_true rfl) d_M_drift_244
                  · replace h := h.1 hc17
                    refine lv_iconst (v := 1) hx hb d_M_drift_225 (by decide) ?_
                    refine lv_goto (tgt := 244) hx hb d_M_drift_226 (by decide) ?_
                    exact giret hx hb hr hlocks hK hG leS h (Nat.le_of_ble_eq_true rfl) (Nat.le_of_ble_eq_true rfl) d_M_drift_244
            · replace h := h.2 hc22
              refine lv_iload_n hx hb d_M_drift_190 rfl (lv_at hl11 2 rfl) ?_
              refine lv_if_ne (tgt := 198) hx hb d_M_drift_191 (by decide) (fun hc21 => ?_) (fun hc21 => ?_)
              · replace h := h.2 hc21
                refine lv_iload_n hx hb d_M_drift_198 rfl (lv_at hl11 2 rfl) ?_
                refine lv_iconst (v := 1) hx hb d_M_drift_199 (by decide) ?_
                refine lv_icmp_ne (tgt := 208) hx hb d_M_drift_200 (by decide) (fun hc20 => ?_) (fun hc20 => ?_)
                · replace h := h.2 hc20
                  refine lv_iload hx hb d_M_drift_208 (lv_at hl11 5 rfl) ?_
                  exact giret hx hb hr hlocks hK hG leS h (Nat.le_of_ble_eq_true rfl) (Nat.le_of_ble_eq_true rfl) d_M_drift_210
                · replace h := h.1 hc20
                  refine lv_iload hx hb d_M_drift_203 (lv_at hl11 4 rfl) ?_
                  refine lv_goto (tgt := 210) hx hb d_M_drift_205 (by decide) ?_
                  exact giret hx hb hr hlocks hK hG leS h (Nat.le_of_ble_eq_true rfl) (Nat.le_of_ble_eq_true rfl) d_M_drift_210
              · replace h := h.1 hc21
                refine lv_iload_n hx hb d_M_drift_194 rfl (lv_at hl11 3 rfl) ?_
                refine lv_goto (tgt := 210) hx hb d_M_drift_195 (by decide) ?_
                exact giret hx hb hr hlocks hK hG leS h (Nat.le_of_ble_eq_true rfl) (Nat.le_of_ble_eq_true rfl) d_M_drift_210
          · replace h := h.2 hc52
            refine lv_aload_n hx hb d_M_drift_52 rfl (lv_at hl11 0 rfl) ?_
            refine gget hx hb hw hown hK hG kd_M fa0 rfl 3 (by decide) rfl tw_1020 (fun _ h9 => h9) d_M_drift_53 ?_
            refine gtopq (fun o23 eo23 => ?_)
            replace h := h o23 eo23
            refine lv_bipush (v := 24) hx hb d_M_drift_56 (by decide) ?_
            refine lv_iload_n hx hb d_M_drift_58 rfl (lv_at hl11 1 rfl) ?_
            refine lv_imul hx hb d_M_drift_59 ?_
            refine lv_iload hx hb d_M_drift_60 (lv_at hl11 6 rfl) ?_
            refine lv_iadd hx hb d_M_drift_62 ?_
            obtain ⟨y24, ey24, h⟩ := h
            subst ey24
            obtain ⟨f25, h⟩ := h
            obtain ⟨hi26, h⟩ := h
            refine giald hx hb hK hG f25 hi26 d_M_drift_63 ?_
            refine lv_topi (fun v27 ev27 => ?_)
            replace h := h v27 ev27
            refine lv_istore (lv' := [(7, .int v27), (0, .ref a0), (1, .int a1), (2, .int a2), (3, .int v3_41), (4, .int v4_41), (5, .int v5_41), (6, .int v6_41)]) hx hb d_M_drift_64 hl11 (by decide) rfl (fun ls hl28 => ?_)
            refine lv_iload hx hb d_M_drift_66 (lv_at hl28 0 rfl) ?_
            refine lv_bipush (v := 102) hx hb d_M_drift_68 (by decide) ?_
            obtain ⟨J111, hJ111, h⟩ := h
            have k111 : ∀ (k0_111 : Int32) (H : Heap) (locs : List Loc) (ls : Array Slot), GH x S1 s H locs → lv_has ls 9 [(0, .ref a0), (1, .int a1), (2, .int a2), (3, .int v3_41), (4, .int v4_41), (5, .int v5_41), (6, .int v6_41), (7, .int v27)] → J111 k0_111 → W p l e { frames := 1, cells := 0, slots := 0, locals := 22 } s m args below meth c H locs 0 0 (MQ below (va_Qi post (gB x S) (xA x)) args s 0 0 (xA x)) (F0 m 111 ls [.int k0_111]) := by
              intro k0_111  H locs ls hG hl29 hj
              replace h := hJ111 k0_111 hj
              refine lv_istore (lv' := [(8, .int k0_111), (0, .ref a0), (1, .int a1), (2, .int a2), (3, .int v3_41), (4, .int v4_41), (5, .int v5_41), (6, .int v6_41), (7, .int v27)]) hx hb d_M_drift_111 hl29 (by decide) rfl (fun ls hl30 => ?_)
              refine lv_iload hx hb d_M_drift_113 (lv_at hl30 0 rfl) ?_
              refine lv_iconst (v := (-1)) hx hb d_M_drift_115 (by decide) ?_
              obtain ⟨J149, hJ149, h⟩ := h
              have k149 : ∀ (v3_149 : Int32) (v4_149 : Int32) (H : Heap) (locs : List Loc) (ls : Array Slot), GH x S1 s H locs → lv_has ls 9 [(0, .ref a0), (1, .int a1), (2, .int a2), (3, .int v3_149), (4, .int v4_149), (5, .int v5_41), (6, .int v6_41), (7, .int v27)] → J149 v3_149 v4_149 → W p l e { frames := 1, cells := 0, slots := 0, locals := 22 } s m args below meth c H locs 0 0 (MQ below (va_Qi post (gB x S) (xA x)) args s 0 0 (xA x)) (F0 m 149 ls []) := by
                intro v3_149 v4_149  H locs ls hG hl31 hj
                replace h := hJ149 v3_149 v4_149 hj
                refine lv_iload hx hb d_M_drift_149 (lv_at hl31 5 rfl) ?_
                refine lv_iload hx hb d_M_drift_151 (lv_at hl31 7 rfl) ?_
                refine lv_bipush (v := 116) hx hb d_M_drift_153 (by decide) ?_
                obtain ⟨J174, hJ174, h⟩ := h
                have k174 : ∀ (k1_174 : Int32) (H : Heap) (locs : List Loc) (ls : Array Slot), GH x S1 s H locs → lv_has ls 9 [(0, .ref a0), (1, .int a1), (2, .int a2), (3, .int v3_149), (4, .int v4_149), (6, .int v6_41)] → J174 k1_174 → W p l e { frames := 1, cells := 0, slots := 0, locals := 22 } s m args below meth c H locs 0 0 (MQ below (va_Qi post (gB x S) (xA x)) args s 0 0 (xA x)) (F0 m 174 ls [.int k1_174, .int v5_41]) := by
                  intro k1_174  H locs ls hG hl32 hj
                  replace h := hJ174 k1_174 hj
                  refine lv_iadd hx hb d_M_drift_174 ?_
                  refine lv_iconst (v := 4) hx hb d_M_drift_175 (by decide) ?_
                  refine lv_irem hx hb d_M_drift_176 (by decide) ?_
                  refine lv_topi (fun v33 ev33 => ?_)
                  replace h := h v33 ev33
                  refine lv_istore (lv' := [(5, .int v33), (0, .ref a0), (1, .int a1), (2, .int a2), (3, .int v3_149), (4, .int v4_149), (6, .int v6_41)]) hx hb d_M_drift_177 hl32 (by decide) rfl (fun ls hl34 => ?_)
                  obtain ⟨v35, ev35⟩ : ∃ z : Int32, z = v6_41 + 1 := ⟨_, rfl⟩
                  replace h := h v35 ev35
                  refine lv_iinc (v := v35) (lv' := [(6, .int v35), (5, .int v33), (0, .ref a0), (1, .int a1), (2, .int a2), (3, .int v3_149), (4, .int v4_149)]) hx hb d_M_drift_179 hl34 (k := 6) rfl (by rw [ev35]; rfl) (by decide) rfl (fun ls hl36 => ?_)
                  refine lv_goto (tgt := 41) hx hb d_M_drift_182 (by decide) ?_
                  obtain ⟨nx, hnx, h⟩ := h
                  exact ih41 nx hnx v3_149 v4_149 v33 v35 H locs ls hG (lv_sub hl36 [2, 3, 4, 5, 6, 1, 0] rfl) h
                refine lv_icmp_ne (tgt := 162) hx hb d_M_drift_155 (by decide) (fun hc38 => ?_) (fun hc38 => ?_)
                · replace h := h.2 hc38
                  refine lv_iload hx hb d_M_drift_162 (lv_at hl31 7 rfl) ?_
                  refine lv_bipush (v := 117) hx hb d_M_drift_164 (by decide) ?_
                  refine lv_icmp_ne (tgt := 173) hx hb d_M_drift_166 (by decide) (fun hc37 => ?_) (fun hc37 => ?_)
                  · replace h := h.2 hc37
                    refine lv_iconst (v := 0) hx hb d_M_drift_173 (by decide) ?_
                    exact k174 0 H locs ls hG (lv_sub hl31 [0, 1, 2, 3, 4, 6] rfl) h
                  · replace h := h.1 hc37
                    refine lv_iconst (v := 3) hx hb d_M_drift_169 (by decide) ?_
                    refine lv_goto (tgt := 174) hx hb d_M_drift_170 (by decide) ?_
                    exact k174 3 H locs ls hG (lv_sub hl31 [0, 1, 2, 3, 4, 6] rfl) h
                · replace h := h.1 hc38
                  refine lv_iconst (v := 1) hx hb d_M_drift_158 (by decide) ?_
                  refine lv_goto (tgt := 174) hx hb d_M_drift_159 (by decide) ?_
                  exact k174 1 H locs ls hG (lv_sub hl31 [0, 1, 2, 3, 4, 6] rfl) h
              refine lv_icmp_eq (tgt := 149) hx hb d_M_drift_116 (by decide) (fun hc47 => ?_) (fun hc47 => ?_)
              · replace h := h.1 hc47
                exact k149 v3_41 v4_41 H locs ls hG (lv_sub hl30 [1, 2, 3, 4, 5, 6, 7, 8] rfl) h
              · replace h := h.2 hc47
                refine lv_iload_n hx hb d_M_drift_119 rfl (lv_at hl30 4 rfl) ?_
                refine gsDx hx hb hw hown hK hG tw_1077 d_M_drift_120 ?_
                refine lv_iload hx hb d_M_drift_123 (lv_at hl30 6 rfl) ?_
                refine lv_iload hx hb d_M_drift_125 (lv_at hl30 0 rfl) ?_
                refine lv_iadd hx hb d_M_drift_127 ?_
                refine lv_iconst (v := 4) hx hb d_M_drift_128 (by decide) ?_
                refine lv_irem hx hb d_M_drift_129 (by decide) ?_
                refine lv_topi (fun v39 ev39 => ?_)
                replace h := h v39 ev39
                obtain ⟨hi40, h⟩ := h
                refine gdx hx hb hK hG hi40 d_M_drift_130 ?_
                refine lv_iadd hx hb d_M_drift_131 ?_
                refine lv_topi (fun v41 ev41 => ?_)
                replace h := h v41 ev41
                refine lv_istore_n (i := 3) (lv' := [(3, .int v41), (8, .int k0_111), (0, .ref a0), (1, .int a1), (2, .int a2), (4, .int v4_41), (5, .int v5_41), (6, .int v6_41), (7, .int v27)]) hx hb d_M_drift_132 rfl hl30 (by decide) rfl (fun ls hl42 => ?_)
                refine lv_iload hx hb d_M_drift_133 (lv_at hl42 5 rfl) ?_
                refine gsDy hx hb hw hown hK hG tw_1079 d_M_drift_135 ?_
                refine lv_iload hx hb d_M_drift_138 (lv_at hl42 6 rfl) ?_
                refine lv_iload hx hb d_M_drift_140 (lv_at hl42 1 rfl) ?_
                refine lv_iadd hx hb d_M_drift_142 ?_
                refine lv_iconst (v := 4) hx hb d_M_drift_143 (by decide) ?_
                refine lv_irem hx hb d_M_drift_144 (by decide) ?_
                refine lv_topi (fun v43 ev43 => ?_)
                replace h := h v43 ev43
                obtain ⟨hi44, h⟩ := h
                refine gdy hx hb hK hG hi44 d_M_drift_145 ?_
                refine lv_iadd hx hb d_M_drift_146 ?_
                refine lv_topi (fun v45 ev45 => ?_)
                replace h := h v45 ev45
                refine lv_istore (lv' := [(4, .int v45), (3, .int v41), (8, .int k0_111), (0, .ref a0), (1, .int a1), (2, .int a2), (5, .int v5_41), (6, .int v6_41), (7, .int v27)]) hx hb d_M_drift_147 hl42 (by decide) rfl (fun ls hl46 => ?_)
                exact k149 v41 v45 H locs ls hG (lv_sub hl46 [3, 4, 5, 1, 0, 6, 7, 8] rfl) h
            refine lv_icmp_ne (tgt := 77) hx hb d_M_drift_70 (by decide) (fun hc51 => ?_) (fun hc51 => ?_)
            · replace h := h.2 hc51
              refine lv_iload hx hb d_M_drift_77 (lv_at hl28 0 rfl) ?_
              refine lv_bipush (v := 114) hx hb d_M_drift_79 (by decide) ?_
              refine lv_icmp_ne (tgt := 88) hx hb d_M_drift_81 (by decide) (fun hc50 => ?_) (fun hc50 => ?_)
              · replace h := h.2 hc50
                refine lv_iload hx hb d_M_drift_88 (lv_at hl28 0 rfl) ?_
                refine lv_bipush (v := 98) hx hb d_M_drift_90 (by decide) ?_
                refine lv_icmp_ne (tgt := 99) hx hb d_M_drift_92 (by decide) (fun hc49 => ?_) (fun hc49 => ?_)
                · replace h := h.2 hc49
                  refine lv_iload hx hb d_M_drift_99 (lv_at hl28 0 rfl) ?_
                  refine lv_bipush (v := 108) hx hb d_M_drift_101 (by decide) ?_
                  refine lv_icmp_ne (tgt := 110) hx hb d_M_drift_103 (by decide) (fun hc48 => ?_) (fun hc48 => ?_)
                  · replace h := h.2 hc48
                    refine lv_iconst (v := (-1)) hx hb d_M_drift_110 (by decide) ?_
                    exact k111 (-1) H locs ls hG (lv_sub hl28 [1, 2, 3, 4, 5, 6, 7, 0] rfl) h
                  · replace h := h.1 hc48
                    refine lv_iconst (v := 3) hx hb d_M_drift_106 (by decide) ?_
                    refine lv_goto (tgt := 111) hx hb d_M_drift_107 (by decide) ?_
                    exact k111 3 H locs ls hG (lv_sub hl28 [1, 2, 3, 4, 5, 6, 7, 0] rfl) h
                · replace h := h.1 hc49
                  refine lv_iconst (v := 2) hx hb d_M_drift_95 (by decide) ?_
                  refine lv_goto (tgt := 111) hx hb d_M_drift_96 (by decide) ?_
                  exact k111 2 H locs ls hG (lv_sub hl28 [1, 2, 3, 4, 5, 6, 7, 0] rfl) h
              · replace h := h.1 hc50
                refine lv_iconst (v := 1) hx hb d_M_drift_84 (by decide) ?_
                refine lv_goto (tgt := 111) hx hb d_M_drift_85 (by decide) ?_
                exact k111 1 H locs ls hG (lv_sub hl28 [1, 2, 3, 4, 5, 6, 7, 0] rfl) h
            · replace h := h.1 hc51
              refine lv_iconst (v := 0) hx hb d_M_drift_73 (by decide) ?_
              refine lv_goto (tgt := 111) hx hb d_M_drift_74 (by decide) ?_
              exact k111 0 H locs ls hG (lv_sub hl28 [1, 2, 3, 4, 5, 6, 7, 0] rfl) h
      exact k41 n0_41 0 0 0 0 H locs ls hG (lv_sub hl10 [4, 5, 6, 3, 2, 1, 0] rfl) h0_41
    · replace h := h.1 hc53
      exact k24 H locs ls hG (lv_sub hl0 [0] rfl) h
def w_M_come (post : Int32 → St → Prop) (S : St) (a0 : Nat) (a1 : Int32) (a2 : Int32) (a3 : Int32) (a4 : Int32) : Prop :=
  ∀ S1 : St, S1 = pI S 56 a0 0 → w_M_isIn (fun (r2 : Int32) => ∃ J45 : Prop, (J45 → w_M_no (fun (r4 : Int32) (S5 : St) => post r4 S5) S1 a0 1) ∧ (r2 = 0 → J45) ∧ (¬ r2 = 0 → w_M_isIn (fun (r6 : Int32) => (r6 = 0 → J45) ∧ (¬ r6 = 0 → w_M_isIn (fun (r7 : Int32) => (r7 = 0 → J45) ∧ (¬ r7 = 0 → w_M_isIn (fun (r8 : Int32) => (r8 = 0 → J45) ∧ (¬ r8 = 0 → ∀ o9 : Option Nat, o9 = sQ S1 61 a0 → ∃ y10 : Nat, o9 = some y10 ∧ isA S1 7 y10 ∧ w_S_at (fun (r12 : Int32) => ∃ J76 : Prop, (J76 → w_M_no (fun (r14 : Int32) (S15 : St) => post r14 S15) S1 a0 2) ∧ (r12 = (-1) → ∀ o16 : Option Nat, o16 = sQ S1 61 a0 → ∃ y17 : Nat, o16 = some y17 ∧ isA S1 7 y17 ∧ ((sI S1 39 y17) = 8 → J76) ∧ (¬ (sI S1 39 y17) = 8 → ∀ o19 : Option Nat, o19 = sQ S1 61 a0 → ∃ y20 : Nat, o19 = some y20 ∧ isA S1 7 y20 ∧ ∀ v22 : Int32, v22 = sI S1 39 y20 → ∀ o24 : Option Nat, o24 = sQ S1 61 a0 → ∃ y25 : Nat, o24 = some y25 ∧ isA S1 7 y25 ∧ ∀ o27 : Option Nat, o27 = sQ S1 40 y25 → ∃ y28 : Nat, o27 = some y28 ∧ isA S1 10 y28 ∧ vp_in v22 (sN S1 y28) ∧ ∀ S31 : St, S31 = pR S1 y28 (v22.toNatClampNeg) a1 → ∀ o32 : Option Nat, o32 = sQ S31 61 a0 → ∃ y33 : Nat, o32 = some y33 ∧ isA S31 7 y33 ∧ ∀ o35 : Option Nat, o35 = sQ S31 41 y33 → ∃ y36 : Nat, o35 = some y36 ∧ isA S31 10 y36 ∧ vp_in v22 (sN S31 y36) ∧ ∀ S39 : St, S39 = pR S31 y36 (v22.toNatClampNeg) a2 → ∀ o40 : Option Nat, o40 = sQ S39 61 a0 → ∃ y41 : Nat, o40 = some y41 ∧ isA S39 7 y41 ∧ ∀ o43 : Option Nat, o43 = sQ S39 42 y41 → ∃ y44 : Nat, o43 = some y44 ∧ isA S39 10 y44 ∧ vp_in v22 (sN S39 y44) ∧ ∀ S47 : St, S47 = pR S39 y44 (v22.toNatClampNeg) a3 → ∀ o48 : Option Nat, o48 = sQ S47 61 a0 → ∃ y49 : Nat, o48 = some y49 ∧ isA S47 7 y49 ∧ ∀ o51 : Option Nat, o51 = sQ S47 44 y49 → ∃ y52 : Nat, o51 = some y52 ∧ isA S47 10 y52 ∧ vp_in v22 (sN S47 y52) ∧ ∀ S55 : St, S55 = pR S47 y52 (v22.toNatClampNeg) a4 → ∀ o56 : Option Nat, o56 = sQ S55 61 a0 → ∃ y57 : Nat, o56 = some y57 ∧ isA S55 7 y57 ∧ ∀ o59 : Option Nat, o59 = sQ S55 43 y57 → ∃ y60 : Nat, o59 = some y60 ∧ isA S55 10 y60 ∧ vp_in v22 (sN S55 y60) ∧ ∀ S63 : St, S63 = pR S55 y60 (v22.toNatClampNeg) 100 → ∀ o64 : Option Nat, o64 = sQ S63 61 a0 → ∃ y65 : Nat, o64 = some y65 ∧ isA S63 7 y65 ∧ ∀ o67 : Option Nat, o67 = sQ S63 47 y65 → ∃ y68 : Nat, o67 = some y68 ∧ isA S63 10 y68 ∧ vp_in v22 (sN S63 y68) ∧ ∀ S71 : St, S71 = pR S63 y68 (v22.toNatClampNeg) (-1) → ∀ o72 : Option Nat, o72 = sQ S71 61 a0 → ∃ y73 : Nat, o72 = some y73 ∧ isA S71 7 y73 ∧ ∀ S75 : St, S75 = pI S71 39 y73 ((sI S71 39 y73) + 1) → post v22 S75)) ∧ (¬ r12 = (-1) → J76)) S1 y10 a1 a2)) S1 a4 1 9)) S1 a3 0 3)) S1 a2 0 15)) S1 a1 0 15
set_option maxHeartbeats 4000000 in
set_option maxRecDepth 100000 in
theorem m_M_come (l : Launch) (x : Cx) (S : St) (post : Int32 → St → Prop) (a0 : Nat) (a1 : Int32) (a2 : Int32) (a3 : Int32) (a4 : Int32) (fa0 : isA S 8 a0) (h : w_M_come post S a0 a1 a2 a3 a4) : Met l y_M_come [.code y_M_come c_M_come 6 (some .int)] { frames := 1, cells := 0, slots := 0, locals := 24 } (va_Pc [.ref a0, .int a1, .int a2, .int a3, .int a4] (GW x S)) (va_Qi post (gB x S) (xA x)) 0 0 (xA x) := by
  refine gMet (by decide +kernel) (Nat.le_of_ble_eq_true rfl) ?_
  intro p e s m args below meth c hx hb hr hown hlocks hin hw hK H locs hG ls hlA hml
  have hown : s.vm.findClass "WaltzHallModel" = some m.cls := hown
  have hl0 : lv_has ls 6 [(0, .ref a0), (1, .int a1), (2, .int a2), (3, .int a3), (4, .int a4)] := hlA
  have leS : gle S S := gle.rf
  unfold w_M_come at h
  refine lv_aload_n hx hb d_M_come_0 rfl (lv_at hl0 0 rfl) ?_
  refine lv_iconst (v := 0) hx hb d_M_come_1 (by decide) ?_
  refine gput (S' := pI S 56 a0 0) hx hb hw hown hK hG kd_M fa0 rfl 0 (by decide) (gChI fa0 rfl) tw_1017 (fun _ h9 => h9) rfl rfl rfl rfl (Nat.le_of_ble_eq_true rfl) d_M_come_2 (fun S1 H locs eS1 hle1 hG => ?_)
  replace h := h S1 eS1
  have fa0 := gle_isA hle1 fa0
  have leS := leS.tr hle1
  refine lv_iload_n hx hb d_M_come_5 rfl (lv_at hl0 1 rfl) ?_
  refine lv_iconst (v := 0) hx hb d_M_come_6 (by decide) ?_
  refine lv_bipush (v := 15) hx hb d_M_come_7 (by decide) ?_
  -- call M_isIn
  refine gpi hK hG (va_runS (As := [.int a1, .int 0, .int 15]) (rest := []) ⟨hx, hb, hml, hown, hw⟩ (m_M_isIn l x S1 _ a1 0 15  h) ⟨gcb hw tw_1059 tw_43 tw_1057 hd_M_isIn rfl rfl ⟨(Nat.le_of_ble_eq_true rfl), (Nat.le_of_ble_eq_true rfl)⟩, hw _ tw_1058⟩ (gpS hK hG) rfl rfl hl0.1 rfl (lv_room (Nat.le_of_ble_eq_true rfl)) d_M_come_9 ⟨(Nat.le_of_ble_eq_true rfl), (Nat.le_of_ble_eq_true rfl)⟩) (fun r2 H locs h9 hG => ?_)
  replace h := h9
  clear h9
  have leS1 : gle S1 S1 := gle.rf
  obtain ⟨J45, hJ45, h⟩ := h
  have k45 : ∀ (H : Heap) (locs : List Loc) (ls : Array Slot), GH x S1 s H locs → lv_has ls 6 [(0, .ref a0)] → J45 → W p l e { frames := 1, cells := 0, slots := 0, locals := 24 } s m args below meth c H locs 0 0 (MQ below (va_Qi post (gB x S) (xA x)) args s 0 0 (xA x)) (F0 m 45 ls []) := by
    intro  H locs ls hG hl3 hj
    replace h := hJ45 hj
    refine lv_aload_n hx hb d_M_come_45 rfl (lv_at hl3 0 rfl) ?_
    refine lv_iconst (v := 1) hx hb d_M_come_46 (by decide) ?_
    -- call M_no
    refine gci hK hG (va_runV (As := [.int 1]) (rest := []) ⟨hx, hb, hml, hown, hw⟩ (m_M_no l x S1 _ a0 1 fa0 h) ⟨gcb hw tw_1052 tw_43 tw_1049 hd_M_no rfl rfl ⟨(Nat.le_of_ble_eq_true rfl), (Nat.le_of_ble_eq_true rfl)⟩, hw _ tw_1051, hw _ tw_12⟩ (gpV hK hG kd_M fa0 rfl) rfl rfl hl3.1 rfl (lv_room (Nat.le_of_ble_eq_true rfl)) d_M_come_47 ⟨(Nat.le_of_ble_eq_true rfl), (Nat.le_of_ble_eq_true rfl)⟩) (fun r4 S5 H locs h9 hle1 hG => ?_)
    replace h := h9
    clear h9
    have fa0 := gle_isA hle1 fa0
    have leS := leS.tr hle1
    have leS1 := leS1.tr hle1
    exact giret hx hb hr hlocks hK hG leS h (Nat.le_of_ble_eq_true rfl) (Nat.le_of_ble_eq_true rfl) d_M_come_50
  refine lv_if_eq (tgt := 45) hx hb d_M_come_12 (by decide) (fun hc81 => ?_) (fun hc81 => ?_)
  · replace h := h.1 hc81
    exact k45 H locs ls hG (lv_sub hl0 [0] rfl) h
  · replace h := h.2 hc81
    refine lv_iload_n hx hb d_M_come_15 rfl (lv_at hl0 2 rfl) ?_
    refine lv_iconst (v := 0) hx hb d_M_come_16 (by decide) ?_
    refine lv_bipush (v := 15) hx hb d_M_come_17 (by decide) ?_
    -- call M_isIn
    refine gpi hK hG (va_runS (As := [.int a2, .int 0, .int 15]) (rest := []) ⟨hx, hb, hml, hown, hw⟩ (m_M_isIn l x S1 _ a2 0 15  h) ⟨gcb hw tw_1059 tw_43 tw_1057 hd_M_isIn rfl rfl ⟨(Nat.le_of_ble_eq_true rfl), (Nat.le_of_ble_eq_true rfl)⟩, hw _ tw_1058⟩ (gpS hK hG) rfl rfl hl0.1 rfl (lv_room (Nat.le_of_ble_eq_true rfl)) d_M_come_19 ⟨(Nat.le_of_ble_eq_true rfl), (Nat.le_of_ble_eq_true rfl)⟩) (fun r6 H locs h9 hG => ?_)
    replace h := h9
    clear h9
    refine lv_if_eq (tgt := 45) hx hb d_M_come_22 (by decide) (fun hc80 => ?_) (fun hc80 => ?_)
    · replace h := h.1 hc80
      exact k45 H locs ls hG (lv_sub hl0 [0] rfl) h
    · replace h := h.2 hc80
      refine lv_iload_n hx hb d_M_come_25 rfl (lv_at hl0 3 rfl) ?_
      refine lv_iconst (v := 0) hx hb d_M_come_26 (by decide) ?_
      refine lv_iconst (v := 3) hx hb d_M_come_27 (by decide) ?_
      -- call M_isIn
      refine gpi hK hG (va_runS (As := [.int a3, .int 0, .int 3]) (rest := []) ⟨hx, hb, hml, hown, hw⟩ (m_M_isIn l x S1 _ a3 0 3  h) ⟨gcb hw tw_1059 tw_43 tw_1057 hd_M_isIn rfl rfl ⟨(Nat.le_of_ble_eq_true rfl), (Nat.le_of_ble_eq_true rfl)⟩, hw _ tw_1058⟩ (gpS hK hG) rfl rfl hl0.1 rfl (lv_room (Nat.le_of_ble_eq_true rfl)) d_M_come_28 ⟨(Nat.le_of_ble_eq_true rfl), (Nat.le_of_ble_eq_true rfl)⟩) (fun r7 H locs h9 hG => ?_)
      replace h := h9
      clear h9
      refine lv_if_eq (tgt := 45) hx hb d_M_come_31 (by decide) (fun hc79 => ?_) (fun hc79 => ?_)
      · replace h := h.1 hc79
        exact k45 H locs ls hG (lv_sub hl0 [0] rfl) h
      · replace h := h.2 hc79
        refine lv_iload hx hb d_M_come_34 (lv_at hl0 4 rfl) ?_
        refine lv_iconst (v := 1) hx hb d_M_come_36 (by decide) ?_
        refine lv_bipush (v := 9) hx hb d_M_come_37 (by decide) ?_
        -- call M_isIn
        refine gpi hK hG (va_runS (As := [.int a4, .int 1, .int 9]) (rest := []) ⟨hx, hb, hml, hown, hw⟩ (m_M_isIn l x S1 _ a4 1 9  h) ⟨gcb hw tw_1059 tw_43 tw_1057 hd_M_isIn rfl rfl ⟨(Nat.le_of_ble_eq_true rfl), (Nat.le_of_ble_eq_true rfl)⟩, hw _ tw_1058⟩ (gpS hK hG) rfl rfl hl0.1 rfl (lv_room (Nat.le_of_ble_eq_true rfl)) d_M_come_39 ⟨(Nat.le_of_ble_eq_true rfl), (Nat.le_of_ble_eq_true rfl)⟩) (fun r8 H locs h9 hG => ?_)
        replace h := h9
        clear h9
        refine lv_if_ne (tgt := 51) hx hb d_M_come_42 (by decide) (fun hc78 => ?_) (fun hc78 => ?_)
        · replace h := h.2 hc78
          refine lv_aload_n hx hb d_M_come_51 rfl (lv_at hl0 0 rfl) ?_
          refine gget hx hb hw hown hK hG kd_M fa0 rfl 5 (by decide) rfl tw_1024 (fun _ h9 => h9) d_M_come_52 ?_
          refine gtopq (fun o9 eo9 => ?_)
          replace h := h o9 eo9
          refine lv_iload_n hx hb d_M_come_55 rfl (lv_at hl0 1 rfl) ?_
          refine lv_iload_n hx hb d_M_come_56 rfl (lv_at hl0 2 rfl) ?_
          obtain ⟨y10, ey10, h⟩ := h
          subst ey10
          obtain ⟨f11, h⟩ := h
          -- call S_at
          refine gpi hK hG (va_runV (As := [.int a1, .int a2]) (rest := []) ⟨hx, hb, hml, hown, hw⟩ (m_S_at l x S1 _ y10 a1 a2 f11 h) ⟨gcb hw tw_1088 tw_44 tw_1085 hd_S_at rfl rfl ⟨(Nat.le_of_ble_eq_true rfl), (Nat.le_of_ble_eq_true rfl)⟩, hw _ tw_1086, hw _ tw_1087⟩ (gpV hK hG kd_S f11 rfl) rfl rfl hl0.1 rfl (lv_room (Nat.le_of_ble_eq_true rfl)) d_M_come_57 ⟨(Nat.le_of_ble_eq_true rfl), (Nat.le_of_ble_eq_true rfl)⟩) (fun r12 H locs h9 hG => ?_)
          replace h := h9
          clear h9
          refine lv_iconst (v := (-1)) hx hb d_M_come_60 (by decide) ?_
          obtain ⟨J76, hJ76, h⟩ := h
          have k76 : ∀ (H : Heap) (locs : List Loc) (ls : Array Slot), GH x S1 s H locs → lv_has ls 6 [(0, .ref a0)] → J76 → W p l e { frames := 1, cells := 0, slots := 0, locals := 24 } s m args below meth c H locs 0 0 (MQ below (va_Qi post (gB x S) (xA x)) args s 0 0 (xA x)) (F0 m 76 ls []) := by
            intro  H locs ls hG hl13 hj
            replace h := hJ76 hj
            refine lv_aload_n hx hb d_M_come_76 rfl (lv_at hl13 0 rfl) ?_
            refine lv_iconst (v := 2) hx hb d_M_come_77 (by decide) ?_
            -- call M_no
            refine gci hK hG (va_runV (As := [.int 2]) (rest := []) ⟨hx, hb, hml, hown, hw⟩ (m_M_no l x S1 _ a0 2 fa0 h) ⟨gcb hw tw_1052 tw_43 tw_1049 hd_M_no rfl rfl ⟨(Nat.le_of_ble_eq_true rfl), (Nat.le_of_ble_eq_true rfl)⟩, hw _ tw_1051, hw _ tw_12⟩ (gpV hK hG kd_M fa0 rfl) rfl rfl hl13.1 rfl (lv_room (Nat.le_of_ble_eq_true rfl)) d_M_come_78 ⟨(Nat.le_of_ble_eq_true rfl), (Nat.le_of_ble_eq_true rfl)⟩) (fun r14 S15 H locs h9 hle1 hG => ?_)
            replace h := h9
            clear h9
            have fa0 := gle_isA hle1 fa0
            have f11 := gle_isA hle1 f11
            have leS := leS.tr hle1
            have leS1 := leS1.tr hle1
            exact giret hx hb hr hlocks hK hG leS h (Nat.le_of_ble_eq_true rfl) (Nat.le_of_ble_eq_true rfl) d_M_come_81
          refine lv_icmp_ne (tgt := 76) hx hb d_M_come_61 (by decide) (fun hc77 => ?_) (fun hc77 => ?_)
          · replace h := h.2 hc77
            exact k76 H locs ls hG (lv_sub hl0 [0] rfl) h
          · replace h := h.1 hc77
            refine lv_aload_n hx hb d_M_come_64 rfl (lv_at hl0 0 rfl) ?_
            refine gget hx hb hw hown hK hG kd_M fa0 rfl 5 (by decide) rfl tw_1024 (fun _ h9 => h9) d_M_come_65 ?_
            refine gtopq (fun o16 eo16 => ?_)
            replace h := h o16 eo16
            obtain ⟨y17, ey17, h⟩ := h
            subst ey17
            obtain ⟨f18, h⟩ := h
            refine ggetN hx hb hw hown hK hG kd_S f18 rfl 1 (by decide) rfl tw_943 (fun _ h9 => h9) d_M_come_68 ?_
            refine lv_bipush (v := 8) hx hb d_M_come_71 (by decide) ?_
            refine lv_icmp_ne (tgt := 82) hx hb d_M_come_73 (by decide) (fun hc76 => ?_) (fun hc76 => ?_)
            · replace h := h.2 hc76
              refine lv_aload_n hx hb d_M_come_82 rfl (lv_at hl0 0 rfl) ?_
              refine gget hx hb hw hown hK hG kd_M fa0 rfl 5 (by decide) rfl tw_1024 (fun _ h9 => h9) d_M_come_83 ?_
              refine gtopq (fun o19 eo19 => ?_)
              replace h := h o19 eo19
              obtain ⟨y20, ey20, h⟩ := h
              subst ey20
              obtain ⟨f21, h⟩ := h
              refine ggetN hx hb hw hown hK hG kd_S f21 rfl 1 (by decide) rfl tw_943 (fun _ h9 => h9) d_M_come_86 ?_
              refine lv_topi (fun v22 ev22 => ?_)
              replace h := h v22 ev22
              refine lv_istore (lv' := [(5, .int v22), (0, .ref a0), (1, .int a1), (2, .int a2), (3, .int a3), (4, .int a4)]) hx hb d_M_come_89 hl0 (by decide) rfl (fun ls hl23 => ?_)
              refine lv_aload_n hx hb d_M_come_91 rfl (lv_at hl23 1 rfl) ?_
              refine gget hx hb hw hown hK hG kd_M fa0 rfl 5 (by decide) rfl tw_1024 (fun _ h9 => h9) d_M_come_92 ?_
              refine gtopq (fun o24 eo24 => ?_)
              replace h := h o24 eo24
              obtain ⟨y25, ey25, h⟩ := h
              subst ey25
              obtain ⟨f26, h⟩ := h
              refine ggetN hx hb hw hown hK hG kd_S f26 rfl 2 (by decide) rfl tw_945 (fun _ h9 => h9) d_M_come_95 ?_
              refine gtopq (fun o27 eo27 => ?_)
              replace h := h o27 eo27
              refine lv_iload hx hb d_M_come_98 (lv_at hl23 0 rfl) ?_
              refine lv_iload_n hx hb d_M_come_100 rfl (lv_at hl23 2 rfl) ?_
              obtain ⟨y28, ey28, h⟩ := h
              subst ey28
              obtain ⟨f29, h⟩ := h
              obtain ⟨hi30, h⟩ := h
              refine giast hx hb hK hG f29 hi30 d_M_come_101 (fun S31 H locs eS31 hle1 hG => ?_)
              replace h := h S31 eS31
              have fa0 := gle_isA hle1 fa0
              have f11 := gle_isA hle1 f11
              have f18 := gle_isA hle1 f18
              have f21 := gle_isA hle1 f21
              have f26 := gle_isA hle1 f26
              have f29 := gle_isA hle1 f29
              have leS := leS.tr hle1
              have leS1 := leS1.tr hle1
              refine lv_aload_n hx hb d_M_come_102 rfl (lv_at hl23 1 rfl) ?_
              refine gget hx hb hw hown hK hG kd_M fa0 rfl 5 (by decide) rfl tw_1024 (fun _ h9 => h9) d_M_come_103 ?_
              refine gtopq (fun o32 eo32 => ?_)
              replace h := h o32 eo32
              obtain ⟨y33, ey33, h⟩ := h
              subst ey33
              obtain ⟨f34, h⟩ := h
              refine ggetN hx hb hw hown hK hG kd_S f34 rfl 3 (by decide) rfl tw_947 (fun _ h9 => h9) d_M_come_106 ?_
              refine gtopq (fun o35 eo35 => ?_)
              replace h := h o35 eo35
              refine lv_iload hx hb d_M_come_109 (lv_at hl23 0 rfl) ?_
              refine lv_iload_n hx hb d_M_come_111 rfl (lv_at hl23 3 rfl) ?_
              obtain ⟨y36, ey36, h⟩ := h
              subst ey36
              obtain ⟨f37, h⟩ := h
              obtain ⟨hi38, h⟩ := h
              refine giast hx hb hK hG f37 hi38 d_M_come_112 (fun S39 H locs eS39 hle1 hG => ?_)
              replace h := h S39 eS39
              have fa0 := gle_isA hle1 fa0
              have f11 := gle_isA hle1 f11
              have f18 := gle_isA hle1 f18
              have f21 := gle_isA hle1 f21
              have f26 := gle_isA hle1 f26
              have f29 := gle_isA hle1 f29
              have f34 := gle_isA hle1 f34
              have f37 := gle_isA hle1 f37
              have leS := leS.tr hle1
              have leS1 := leS1.tr hle1
              refine lv_aload_n hx hb d_M_come_113 rfl (lv_at hl23 1 rfl) ?_
              refine gget hx hb hw hown hK hG kd_M fa0 rfl 5 (by decide) rfl tw_1024 (fun _ h9 => h9) d_M_come_114 ?_
              refine gtopq (fun o40 eo40 => ?_)
              replace h := h o40 eo40
              obtain ⟨y41, ey41, h⟩ := h
              subst ey41
              obtain ⟨f42, h⟩ := h
              refine ggetN hx hb hw hown hK hG kd_S f42 rfl 4 (by decide) rfl tw_949 (fun _ h9 => h9) d_M_come_117 ?_
              refine gtopq (fun o43 eo43 => ?_)
              replace h := h o43 eo43
              refine lv_iload hx hb d_M_come_120 (lv_at hl23 0 rfl) ?_
              refine lv_iload_n hx hb d_M_come_122 rfl (lv_at hl23 4 rfl) ?_
              obtain ⟨y44, ey44, h⟩ := h
              subst ey44
              obtain ⟨f45, h⟩ := h
              obtain ⟨hi46, h⟩ := h
              refine giast hx hb hK hG f45 hi46 d_M_come_123 (fun S47 H locs eS47 hle1 hG => ?_)
              replace h := h S47 eS47
              have fa0 := gle_isA hle1 fa0
              have f11 := gle_isA hle1 f11
              have f18 := gle_isA hle1 f18
              have f21 := gle_isA hle1 f21
              have f26 := gle_isA hle1 f26
              have f29 := gle_isA hle1 f29
              have f34 := gle_isA hle1 f34
              have f37 := gle_isA hle1 f37
              have f42 := gle_isA hle1 f42
              have f45 := gle_isA hle1 f45
              have leS := leS.tr hle1
              have leS1 := leS1.tr hle1
              refine lv_aload_n hx hb d_M_come_124 rfl (lv_at hl23 1 rfl) ?_
              refine gget hx hb hw hown hK hG kd_M fa0 rfl 5 (by decide) rfl tw_1024 (fun _ h9 => h9) d_M_come_125 ?_
              refine gtopq (fun o48 eo48 => ?_)
              replace h := h o48 eo48
              obtain ⟨y49, ey49, h⟩ := h
              subst ey49
              obtain ⟨f50, h⟩ := h
              refine ggetN hx hb hw hown hK hG kd_S f50 rfl 6 (by decide) rfl tw_953 (fun _ h9 => h9) d_M_come_128 ?_
              refine gtopq (fun o51 eo51 => ?_)
              replace h := h o51 eo51
              refine lv_iload hx hb d_M_come_131 (lv_at hl23 0 rfl) ?_
              refine lv_iload hx hb d_M_come_133 (lv_at hl23 5 rfl) ?_
              obtain ⟨y52, ey52, h⟩ := h
              subst ey52
              obtain ⟨f53, h⟩ := h
              obtain ⟨hi54, h⟩ := h
              refine giast hx hb hK hG f53 hi54 d_M_come_135 (fun S55 H locs eS55 hle1 hG => ?_)
              replace h := h S55 eS55
              have fa0 := gle_isA hle1 fa0
              have f11 := gle_isA hle1 f11
              have f18 := gle_isA hle1 f18
              have f21 := gle_isA hle1 f21
              have f26 := gle_isA hle1 f26
              have f29 := gle_isA hle1 f29
              have f34 := gle_isA hle1 f34
              have f37 := gle_isA hle1 f37
              have f42 := gle_isA hle1 f42
              have f45 := gle_isA hle1 f45
              have f50 := gle_isA hle1 f50
              have f53 := gle_isA hle1 f53
              have leS := leS.tr hle1
              have leS1 := leS1.tr hle1
              refine lv_aload_n hx hb d_M_come_136 rfl (lv_at hl23 1 rfl) ?_
              refine gget hx hb hw hown hK hG kd_M fa0 rfl 5 (by decide) rfl tw_1024 (fun _ h9 => h9) d_M_come_137 ?_
              refine gtopq (fun o56 eo56 => ?_)
              replace h := h o56 eo56
              obtain ⟨y57, ey57, h⟩ := h
              subst ey57
              obtain ⟨f58, h⟩ := h
              refine ggetN hx hb hw hown hK hG kd_S f58 rfl 5 (by decide) rfl tw_951 (fun _ h9 => h9) d_M_come_140 ?_
              refine gtopq (fun o59 eo59 => ?_)
              replace h := h o59 eo59
              refine lv_iload hx hb d_M_come_143 (lv_at hl23 0 rfl) ?_
              refine lv_bipush (v := 100) hx hb d_M_come_145 (by decide) ?_
              obtain ⟨y60, ey60, h⟩ := h
              subst ey60
              obtain ⟨f61, h⟩ := h
              obtain ⟨hi62, h⟩ := h
              refine giast hx hb hK hG f61 hi62 d_M_come_147 (fun S63 H locs eS63 hle1 hG => ?_)
              replace h := h S63 eS63
              have fa0 := gle_isA hle1 fa0
              have f11 := gle_isA hle1 f11
              have f18 := gle_isA hle1 f18
              have f21 := gle_isA hle1 f21
              have f26 := gle_isA hle1 f26
              have f29 := gle_isA hle1 f29
              have f34 := gle_isA hle1 f34
              have f37 := gle_isA hle1 f37
              have f42 := gle_isA hle1 f42
              have f45 := gle_isA hle1 f45
              have f50 := gle_isA hle1 f50
              have f53 := gle_isA hle1 f53
              have f58 := gle_isA hle1 f58
              have f61 := gle_isA hle1 f61
              have leS := leS.tr hle1
              have leS1 := leS1.tr hle1
              refine lv_aload_n hx hb d_M_come_148 rfl (lv_at hl23 1 rfl) ?_
              refine gget hx hb hw hown hK hG kd_M fa0 rfl 5 (by decide) rfl tw_1024 (fun _ h9 => h9) d_M_come_149 ?_
              refine gtopq (fun o64 eo64 => ?_)
              replace h := h o64 eo64
              obtain ⟨y65, ey65, h⟩ := h
              subst ey65
              obtain ⟨f66, h⟩ := h
              refine ggetN hx hb hw hown hK hG kd_S f66 rfl 9 (by decide) rfl tw_959 (fun _ h9 => h9) d_M_come_152 ?_
              refine gtopq (fun o67 eo67 => ?_)
              replace h := h o67 eo67
              refine lv_iload hx hb d_M_come_155 (lv_at hl23 0 rfl) ?_
              refine lv_iconst (v := (-1)) hx hb d_M_come_157 (by decide) ?_
              obtain ⟨y68, ey68, h⟩ := h
              subst ey68
              obtain ⟨f69, h⟩ := h
              obtain ⟨hi70, h⟩ := h
              refine giast hx hb hK hG f69 hi70 d_M_come_158 (fun S71 H locs eS71 hle1 hG => ?_)
              replace h := h S71 eS71
              have fa0 := gle_isA hle1 fa0
              have f11 := gle_isA hle1 f11
              have f18 := gle_isA hle1 f18
              have f21 := gle_isA hle1 f21
              have f26 := gle_isA hle1 f26
              have f29 := gle_isA hle1 f29
              have f34 := gle_isA hle1 f34
              have f37 := gle_isA hle1 f37
              have f42 := gle_isA hle1 f42
              have f45 := gle_isA hle1 f45
              have f50 := gle_isA hle1 f50
              have f53 := gle_isA hle1 f53
              have f58 := gle_isA hle1 f58
              have f61 := gle_isA hle1 f61
              have f66 := gle_isA hle1 f66
              have f69 := gle_isA hle1 f69
              have leS := leS.tr hle1
              have leS1 := leS1.tr hle1
              refine lv_aload_n hx hb d_M_come_159 rfl (lv_at hl23 1 rfl) ?_
              refine gget hx hb hw hown hK hG kd_M fa0 rfl 5 (by decide) rfl tw_1024 (fun _ h9 => h9) d_M_come_160 ?_
              refine gtopq (fun o72 eo72 => ?_)
              replace h := h o72 eo72
              refine lv_dup hx hb d_M_come_163 (gCat _) ?_
              obtain ⟨y73, ey73, h⟩ := h
              subst ey73
              obtain ⟨f74, h⟩ := h
              refine ggetN hx hb hw hown hK hG kd_S f74 rfl 1 (by decide) rfl tw_943 (fun _ h9 => h9) d_M_come_164 ?_
              refine lv_iconst (v := 1) hx hb d_M_come_167 (by decide) ?_
              refine lv_iadd hx hb d_M_come_168 ?_
              refine gputN (S' := pI S71 39 y73 ((sI S71 39 y73) + 1)) hx hb hw hown hK hG kd_S f74 rfl 1 (by decide) (gChI f74 rfl) tw_943 (fun _ h9 => h9) rfl rfl rfl rfl (Nat.le_of_ble_eq_true rfl) d_M_come_169 (fun S75 H locs eS75 hle1 hG => ?_)
              replace h := h S75 eS75
              have fa0 := gle_isA hle1 fa0
              have f11 := gle_isA hle1 f11
              have f18 := gle_isA hle1 f18
              have f21 := gle_isA hle1 f21
              have f26 := gle_isA hle1 f26
              have f29 := gle_isA hle1 f29
              have f34 := gle_isA hle1 f34
              have f37 := gle_isA hle1 f37
              have f42 := gle_isA hle1 f42
              have f45 := gle_isA hle1 f45
              have f50 := gle_isA hle1 f50
              have f53 := gle_isA hle1 f53
              have f58 := gle_isA hle1 f58
              have f61 := gle_isA hle1 f61
              have f66 := gle_isA hle1 f66
              have f69 := gle_isA hle1 f69
              have f74 := gle_isA hle1 f74
              have leS := leS.tr hle1
              have leS1 := leS1.tr hle1
              refine lv_iload hx hb d_M_come_172 (lv_at hl23 0 rfl) ?_
              exact giret hx hb hr hlocks hK hG leS h (Nat.le_of_ble_eq_true rfl) (Nat.le_of_ble_eq_true rfl) d_M_come_174
            · replace h := h.1 hc76
              exact k76 H locs ls hG (lv_sub hl0 [0] rfl) h
        · replace h := h.1 hc78
          exact k45 H locs ls hG (lv_sub hl0 [0] rfl) h
def w_M_isDancer (post : Int32 → Prop) (S : St) (a0 : Nat) (a1 : Int32) : Prop :=
  ∀ o1 : Option Nat, o1 = sQ S 61 a0 → ∃ y2 : Nat, o1 = some y2 ∧ isA S 7 y2 ∧ w_M_isIn (fun (r4 : Int32) => gBo r4 ∧ post r4) S a1 0 ((sI S 39 y2) - 1)
set_option maxHeartbeats 4000000 in
set_option maxRecDepth 100000 in
theorem m_M_isDancer (l : Launch) (x : Cx) (S : St) (post : Int32 → Prop) (a0 : Nat) (a1 : Int32) (fa0 : isA S 8 a0) (h : w_M_isDancer post S a0 a1) : Met l y_M_isDancer [.code y_M_isDancer c_M_isDancer 2 (some .boolean)] { frames := 1, cells := 0, slots := 0, locals := 22 } (va_Pc [.ref a0, .int a1] (GW x S)) (va_Qi (gPu post S) (gB x S) (xA x)) 0 0 (xA x) := by
  refine gMet (by decide +kernel) (Nat.le_of_ble_eq_true rfl) ?_
  intro p e s m args below meth c hx hb hr hown hlocks hin hw hK H locs hG ls hlA hml
  have hown : s.vm.findClass "WaltzHallModel" = some m.cls := hown
  have hl0 : lv_has ls 2 [(0, .ref a0), (1, .int a1)] := hlA
  unfold w_M_isDancer at h
  refine lv_iload_n hx hb d_M_isDancer_0 rfl (lv_at hl0 1 rfl) ?_
  refine lv_iconst (v := 0) hx hb d_M_isDancer_1 (by decide) ?_
  refine lv_aload_n hx hb d_M_isDancer_2 rfl (lv_at hl0 0 rfl) ?_
  refine gget hx hb hw hown hK hG kd_M fa0 rfl 5 (by decide) rfl tw_1024 (fun _ h9 => h9) d_M_isDancer_3 ?_
  refine gtopq (fun o1 eo1 => ?_)
  replace h := h o1 eo1
  obtain ⟨y2, ey2, h⟩ := h
  subst ey2
  obtain ⟨f3, h⟩ := h
  refine ggetN hx hb hw hown hK hG kd_S f3 rfl 1 (by decide) rfl tw_943 (fun _ h9 => h9) d_M_isDancer_6 ?_
  refine lv_iconst (v := 1) hx hb d_M_isDancer_9 (by decide) ?_
  refine lv_isub hx hb d_M_isDancer_10 ?_
  -- call M_isIn
  refine gpi hK hG (va_runS (As := [.int a1, .int 0, .int ((sI S 39 y2) - 1)]) (rest := []) ⟨hx, hb, hml, hown, hw⟩ (m_M_isIn l x S _ a1 0 ((sI S 39 y2) - 1)  h) ⟨gcb hw tw_1059 tw_43 tw_1057 hd_M_isIn rfl rfl ⟨(Nat.le_of_ble_eq_true rfl), (Nat.le_of_ble_eq_true rfl)⟩, hw _ tw_1058⟩ (gpS hK hG) rfl rfl hl0.1 rfl (lv_room (Nat.le_of_ble_eq_true rfl)) d_M_isDancer_11 ⟨(Nat.le_of_ble_eq_true rfl), (Nat.le_of_ble_eq_true rfl)⟩) (fun r4 H locs h9 hG => ?_)
  replace h := h9
  clear h9
  obtain ⟨hb5, h⟩ := h
  exact gzret hx hb hr (gBo_n hb5) hlocks hK hG gle.rf ⟨h, rfl⟩ (Nat.le_of_ble_eq_true rfl) (Nat.le_of_ble_eq_true rfl) d_M_isDancer_14
def w_M_dance (post : Int32 → St → Prop) (S : St) (a0 : Nat) (a1 : Int32) (a2 : Int32) : Prop :=
  ∀ S1 : St, S1 = pI S 56 a0 0 → w_M_isDancer (fun (r2 : Int32) => ∃ J23 : Prop, (J23 → w_M_no (fun (r4 : Int32) (S5 : St) => post r4 S5) S1 a0 1) ∧ (r2 = 0 → J23) ∧ (¬ r2 = 0 → w_M_isIn (fun (r6 : Int32) => (r6 = 0 → J23) ∧ (¬ r6 = 0 → ∀ o7 : Option Nat, o7 = sQ S1 61 a0 → ∃ y8 : Nat, o7 = some y8 ∧ isA S1 7 y8 ∧ ∀ o10 : Option Nat, o10 = sQ S1 45 y8 → ∃ y11 : Nat, o10 = some y11 ∧ isA S1 10 y11 ∧ vp_in a1 (sN S1 y11) ∧ ∀ v14 : Int32, v14 = sR S1 y11 a1.toNatClampNeg → ∀ o16 : Option Nat, o16 = sQ S1 61 a0 → ∃ y17 : Nat, o16 = some y17 ∧ isA S1 7 y17 ∧ ∀ o19 : Option Nat, o19 = sQ S1 45 y17 → ∃ y20 : Nat, o19 = some y20 ∧ isA S1 10 y20 ∧ vp_in a1 (sN S1 y20) ∧ ∀ S23 : St, S23 = pR S1 y20 (a1.toNatClampNeg) a2 → ∀ o24 : Option Nat, o24 = sQ S23 61 a0 → ∃ y25 : Nat, o24 = some y25 ∧ isA S23 7 y25 ∧ ∀ o27 : Option Nat, o27 = sQ S23 46 y25 → ∃ y28 : Nat, o27 = some y28 ∧ isA S23 10 y28 ∧ vp_in a1 (sN S23 y28) ∧ ∀ S31 : St, S31 = pR S23 y28 (a1.toNatClampNeg) 0 → post v14 S31)) S1 a2 0 7)) S1 a0 a1
set_option maxHeartbeats 4000000 in
set_option maxRecDepth 100000 in
theorem m_M_dance (l : Launch) (x : Cx) (S : St) (post : Int32 → St → Prop) (a0 : Nat) (a1 : Int32) (a2 : Int32) (fa0 : isA S 8 a0) (h : w_M_dance post S a0 a1 a2) : Met l y_M_dance [.code y_M_dance c_M_dance 4 (some .int)] { frames := 2, cells := 0, slots := 0, locals := 43 } (va_Pc [.ref a0, .int a1, .int a2] (GW x S)) (va_Qi post (gB x S) (xA x)) 0 0 (xA x) := by
  refine gMet (by decide +kernel) (Nat.le_of_ble_eq_true rfl) ?_
  intro p e s m args below meth c hx hb hr hown hlocks hin hw hK H locs hG ls hlA hml
  have hown : s.vm.findClass "WaltzHallModel" = some m.cls := hown
  have hl0 : lv_has ls 4 [(0, .ref a0), (1, .int a1), (2, .int a2)] := hlA
  have leS : gle S S := gle.rf
  unfold w_M_dance at h
  refine lv_aload_n hx hb d_M_dance_0 rfl (lv_at hl0 0 rfl) ?_
  refine lv_iconst (v := 0) hx hb d_M_dance_1 (by decide) ?_
  refine gput (S' := pI S 56 a0 0) hx hb hw hown hK hG kd_M fa0 rfl 0 (by decide) (gChI fa0 rfl) tw_1017 (fun _ h9 => h9) rfl rfl rfl rfl (Nat.le_of_ble_eq_true rfl) d_M_dance_2 (fun S1 H locs eS1 hle1 hG => ?_)
  replace h := h S1 eS1
  have fa0 := gle_isA hle1 fa0
  have leS := leS.tr hle1
  refine lv_aload_n hx hb d_M_dance_5 rfl (lv_at hl0 0 rfl) ?_
  refine lv_iload_n hx hb d_M_dance_6 rfl (lv_at hl0 1 rfl) ?_
  -- call M_isDancer
  refine gpi hK hG (va_runV (As := [.int a1]) (rest := []) ⟨hx, hb, hml, hown, hw⟩ (m_M_isDancer l x S1 _ a0 a1 fa0 h) ⟨gcb hw tw_1096 tw_43 tw_1093 hd_M_isDancer rfl rfl ⟨(Nat.le_of_ble_eq_true rfl), (Nat.le_of_ble_eq_true rfl)⟩, hw _ tw_1095, hw _ tw_13⟩ (gpV hK hG kd_M fa0 rfl) rfl rfl hl0.1 rfl (lv_room (Nat.le_of_ble_eq_true rfl)) d_M_dance_7 ⟨(Nat.le_of_ble_eq_true rfl), (Nat.le_of_ble_eq_true rfl)⟩) (fun r2 H locs h9 hG => ?_)
  replace h := h9
  clear h9
  have leS1 : gle S1 S1 := gle.rf
  obtain ⟨J23, hJ23, h⟩ := h
  have k23 : ∀ (H : Heap) (locs : List Loc) (ls : Array Slot), GH x S1 s H locs → lv_has ls 4 [(0, .ref a0)] → J23 → W p l e { frames := 2, cells := 0, slots := 0, locals := 43 } s m args below meth c H locs 0 0 (MQ below (va_Qi post (gB x S) (xA x)) args s 0 0 (xA x)) (F0 m 23 ls []) := by
    intro  H locs ls hG hl3 hj
    replace h := hJ23 hj
    refine lv_aload_n hx hb d_M_dance_23 rfl (lv_at hl3 0 rfl) ?_
    refine lv_iconst (v := 1) hx hb d_M_dance_24 (by decide) ?_
    -- call M_no
    refine gci hK hG (va_runV (As := [.int 1]) (rest := []) ⟨hx, hb, hml, hown, hw⟩ (m_M_no l x S1 _ a0 1 fa0 h) ⟨gcb hw tw_1052 tw_43 tw_1049 hd_M_no rfl rfl ⟨(Nat.le_of_ble_eq_true rfl), (Nat.le_of_ble_eq_true rfl)⟩, hw _ tw_1051, hw _ tw_12⟩ (gpV hK hG kd_M fa0 rfl) rfl rfl hl3.1 rfl (lv_room (Nat.le_of_ble_eq_true rfl)) d_M_dance_25 ⟨(Nat.le_of_ble_eq_true rfl), (Nat.le_of_ble_eq_true rfl)⟩) (fun r4 S5 H locs h9 hle1 hG => ?_)
    replace h := h9
    clear h9
    have fa0 := gle_isA hle1 fa0
    have leS := leS.tr hle1
    have leS1 := leS1.tr hle1
    exact giret hx hb hr hlocks hK hG leS h (Nat.le_of_ble_eq_true rfl) (Nat.le_of_ble_eq_true rfl) d_M_dance_28
  refine lv_if_eq (tgt := 23) hx hb d_M_dance_10 (by decide) (fun hc33 => ?_) (fun hc33 => ?_)
  · replace h := h.1 hc33
    exact k23 H locs ls hG (lv_sub hl0 [0] rfl) h
  · replace h := h.2 hc33
    refine lv_iload_n hx hb d_M_dance_13 rfl (lv_at hl0 2 rfl) ?_
    refine lv_iconst (v := 0) hx hb d_M_dance_14 (by decide) ?_
    refine lv_bipush (v := 7) hx hb d_M_dance_15 (by decide) ?_
    -- call M_isIn
    refine gpi hK hG (va_runS (As := [.int a2, .int 0, .int 7]) (rest := []) ⟨hx, hb, hml, hown, hw⟩ (m_M_isIn l x S1 _ a2 0 7  h) ⟨gcb hw tw_1059 tw_43 tw_1057 hd_M_isIn rfl rfl ⟨(Nat.le_of_ble_eq_true rfl), (Nat.le_of_ble_eq_true rfl)⟩, hw _ tw_1058⟩ (gpS hK hG) rfl rfl hl0.1 rfl (lv_room (Nat.le_of_ble_eq_true rfl)) d_M_dance_17 ⟨(Nat.le_of_ble_eq_true rfl), (Nat.le_of_ble_eq_true rfl)⟩) (fun r6 H locs h9 hG => ?_)
    replace h := h9
    clear h9
    refine lv_if_ne (tgt := 29) hx hb d_M_dance_20 (by decide) (fun hc32 => ?_) (fun hc32 => ?_)
    · replace h := h.2 hc32
      refine lv_aload_n hx hb d_M_dance_29 rfl (lv_at hl0 0 rfl) ?_
      refine gget hx hb hw hown hK hG kd_M fa0 rfl 5 (by decide) rfl tw_1024 (fun _ h9 => h9) d_M_dance_30 ?_
      refine gtopq (fun o7 eo7 => ?_)
      replace h := h o7 eo7
      obtain ⟨y8, ey8, h⟩ := h
      subst ey8
      obtain ⟨f9, h⟩ := h
      refine ggetN hx hb hw hown hK hG kd_S f9 rfl 7 (by decide) rfl tw_955 (fun _ h9 => h9) d_M_dance_33 ?_
      refine gtopq (fun o10 eo10 => ?_)
      replace h := h o10 eo10
      refine lv_iload_n hx hb d_M_dance_36 rfl (lv_at hl0 1 rfl) ?_
      obtain ⟨y11, ey11, h⟩ := h
      subst ey11
      obtain ⟨f12, h⟩ := h
      obtain ⟨hi13, h⟩ := h
      refine giald hx hb hK hG f12 hi13 d_M_dance_37 ?_
      refine lv_topi (fun v14 ev14 => ?_)
      replace h := h v14 ev14
      refine lv_istore_n (i := 3) (lv' := [(3, .int v14), (0, .ref a0), (1, .int a1), (2, .int a2)]) hx hb d_M_dance_38 rfl hl0 (by decide) rfl (fun ls hl15 => ?_)
      refine lv_aload_n hx hb d_M_dance_39 rfl (lv_at hl15 1 rfl) ?_
      refine gget hx hb hw hown hK hG kd_M fa0 rfl 5 (by decide) rfl tw_1024 (fun _ h9 => h9) d_M_dance_40 ?_
      refine gtopq (fun o16 eo16 => ?_)
      replace h := h o16 eo16
      obtain ⟨y17, ey17, h⟩ := h
      subst ey17
      obtain ⟨f18, h⟩ := h
      refine ggetN hx hb hw hown hK hG kd_S f18 rfl 7 (by decide) rfl tw_955 (fun _ h9 => h9) d_M_dance_43 ?_
      refine gtopq (fun o19 eo19 => ?_)
      replace h := h o19 eo19
      refine lv_iload_n hx hb d_M_dance_46 rfl (lv_at hl15 2 rfl) ?_
      refine lv_iload_n hx hb d_M_dance_47 rfl (lv_at hl15 3 rfl) ?_
      obtain ⟨y20, ey20, h⟩ := h
      subst ey20
      obtain ⟨f21, h⟩ := h
      obtain ⟨hi22, h⟩ := h
      refine giast hx hb hK hG f21 hi22 d_M_dance_48 (fun S23 H locs eS23 hle1 hG => ?_)
      replace h := h S23 eS23
      have fa0 := gle_isA hle1 fa0
      have f9 := gle_isA hle1 f9
      have f12 := gle_isA hle1 f12
      have f18 := gle_isA hle1 f18
      have f21 := gle_isA hle1 f21
      have leS := leS.tr hle1
      have leS1 := leS1.tr hle1
      refine lv_aload_n hx hb d_M_dance_49 rfl (lv_at hl15 1 rfl) ?_
      refine gget hx hb hw hown hK hG kd_M fa0 rfl 5 (by decide) rfl tw_1024 (fun _ h9 => h9) d_M_dance_50 ?_
      refine gtopq (fun o24 eo24 => ?_)
      replace h := h o24 eo24
      obtain ⟨y25, ey25, h⟩ := h
      subst ey25
      obtain ⟨f26, h⟩ := h
      refine ggetN hx hb hw hown hK hG kd_S f26 rfl 8 (by decide) rfl tw_957 (fun _ h9 => h9) d_M_dance_53 ?_
      refine gtopq (fun o27 eo27 => ?_)
      replace h := h o27 eo27
      refine lv_iload_n hx hb d_M_dance_56 rfl (lv_at hl15 2 rfl) ?_
      refine lv_iconst (v := 0) hx hb d_M_dance_57 (by decide) ?_
      obtain ⟨y28, ey28, h⟩ := h
      subst ey28
      obtain ⟨f29, h⟩ := h
      obtain ⟨hi30, h⟩ := h
      refine giast hx hb hK hG f29 hi30 d_M_dance_58 (fun S31 H locs eS31 hle1 hG => ?_)
      replace h := h S31 eS31
      have fa0 := gle_isA hle1 fa0
      have f9 := gle_isA hle1 f9
      have f12 := gle_isA hle1 f12
      have f18 := gle_isA hle1 f18
      have f21 := gle_isA hle1 f21
      have f26 := gle_isA hle1 f26
      have f29 := gle_isA hle1 f29
      have leS := leS.tr hle1
      have leS1 := leS1.tr hle1
      refine lv_iload_n hx hb d_M_dance_59 rfl (lv_at hl15 0 rfl) ?_
      exact giret hx hb hr hlocks hK hG leS h (Nat.le_of_ble_eq_true rfl) (Nat.le_of_ble_eq_true rfl) d_M_dance_60
    · replace h := h.1 hc32
      exact k23 H locs ls hG (lv_sub hl0 [0] rfl) h
def w_M_pair (post : Int32 → St → Prop) (S : St) (a0 : Nat) (a1 : Int32) (a2 : Int32) : Prop :=
  ∀ S1 : St, S1 = pI S 56 a0 0 → w_M_isDancer (fun (r2 : Int32) => ∃ J21 : Prop, (J21 → w_M_no (fun (r4 : Int32) (S5 : St) => post r4 S5) S1 a0 1) ∧ (r2 = 0 → J21) ∧ (¬ r2 = 0 → w_M_isDancer (fun (r6 : Int32) => (r6 = 0 → J21) ∧ (¬ r6 = 0 → (a1 = a2 → w_M_no (fun (r59 : Int32) (S60 : St) => post r59 S60) S1 a0 2) ∧ (¬ a1 = a2 → ∀ o7 : Option Nat, o7 = sQ S1 61 a0 → ∃ y8 : Nat, o7 = some y8 ∧ isA S1 7 y8 ∧ ∀ o10 : Option Nat, o10 = sQ S1 47 y8 → ∃ y11 : Nat, o10 = some y11 ∧ isA S1 10 y11 ∧ vp_in a1 (sN S1 y11) ∧ ∃ J76 : Prop, (J76 → w_M_no (fun (r15 : Int32) (S16 : St) => post r15 S16) S1 a0 3) ∧ ((sR S1 y11 a1.toNatClampNeg) = (-1) → ∀ o17 : Option Nat, o17 = sQ S1 61 a0 → ∃ y18 : Nat, o17 = some y18 ∧ isA S1 7 y18 ∧ ∀ o20 : Option Nat, o20 = sQ S1 47 y18 → ∃ y21 : Nat, o20 = some y21 ∧ isA S1 10 y21 ∧ vp_in a2 (sN S1 y21) ∧ ((sR S1 y21 a2.toNatClampNeg) = (-1) → ∀ o24 : Option Nat, o24 = sQ S1 61 a0 → ∃ y25 : Nat, o24 = some y25 ∧ isA S1 7 y25 ∧ w_S_isBeside (fun (r27 : Int32) => (r27 = 0 → J76) ∧ (¬ r27 = 0 → ∀ o28 : Option Nat, o28 = sQ S1 61 a0 → ∃ y29 : Nat, o28 = some y29 ∧ isA S1 7 y29 ∧ ∀ o31 : Option Nat, o31 = sQ S1 47 y29 → ∃ y32 : Nat, o31 = some y32 ∧ isA S1 10 y32 ∧ vp_in a1 (sN S1 y32) ∧ ∀ S35 : St, S35 = pR S1 y32 (a1.toNatClampNeg) a2 → ∀ o36 : Option Nat, o36 = sQ S35 61 a0 → ∃ y37 : Nat, o36 = some y37 ∧ isA S35 7 y37 ∧ ∀ o39 : Option Nat, o39 = sQ S35 47 y37 → ∃ y40 : Nat, o39 = some y40 ∧ isA S35 10 y40 ∧ vp_in a2 (sN S35 y40) ∧ ∀ S43 : St, S43 = pR S35 y40 (a2.toNatClampNeg) a1 → ∀ o44 : Option Nat, o44 = sQ S43 61 a0 → ∃ y45 : Nat, o44 = some y45 ∧ isA S43 7 y45 ∧ ∀ o47 : Option Nat, o47 = sQ S43 48 y45 → ∃ y48 : Nat, o47 = some y48 ∧ isA S43 11 y48 ∧ vp_in a2 (sN S43 y48) ∧ ∀ S51 : St, S51 = pR S43 y48 (a2.toNatClampNeg) (vp_nar .boolean 1) → ∀ o52 : Option Nat, o52 = sQ S51 61 a0 → ∃ y53 : Nat, o52 = some y53 ∧ isA S51 7 y53 ∧ w_S_sum (fun (r55 : Int32) => post r55 S51) S51 y53 2)) S1 y25 a1 a2) ∧ (¬ (sR S1 y21 a2.toNatClampNeg) = (-1) → J76)) ∧ (¬ (sR S1 y11 a1.toNatClampNeg) = (-1) → J76)))) S1 a0 a2)) S1 a0 a1
set_option maxHeartbeats 4000000 in
set_option maxRecDepth 100000 in
theorem m_M_pair (l : Launch) (x : Cx) (S : St) (post : Int32 → St → Prop) (a0 : Nat) (a1 : Int32) (a2 : Int32) (fa0 : isA S 8 a0) (h : w_M_pair post S a0 a1 a2) : Met l y_M_pair [.code y_M_pair c_M_pair 3 (some .int)] { frames := 2, cells := 0, slots := 0, locals := 44 } (va_Pc [.ref a0, .int a1, .int a2] (GW x S)) (va_Qi post (gB x S) (xA x)) 0 0 (xA x) := by
  refine gMet (by decide +kernel) (Nat.le_of_ble_eq_true rfl) ?_
  intro p e s m args below meth c hx hb hr hown hlocks hin hw hK H locs hG ls hlA hml
  have hown : s.vm.findClass "WaltzHallModel" = some m.cls := hown
  have hl0 : lv_has ls 3 [(0, .ref a0), (1, .int a1), (2, .int a2)] := hlA
  have leS : gle S S := gle.rf
  unfold w_M_pair at h
  refine lv_aload_n hx hb d_M_pair_0 rfl (lv_at hl0 0 rfl) ?_
  refine lv_iconst (v := 0) hx hb d_M_pair_1 (by decide) ?_
  refine gput (S' := pI S 56 a0 0) hx hb hw hown hK hG kd_M fa0 rfl 0 (by decide) (gChI fa0 rfl) tw_1017 (fun _ h9 => h9) rfl rfl rfl rfl (Nat.le_of_ble_eq_true rfl) d_M_pair_2 (fun S1 H locs eS1 hle1 hG => ?_)
  replace h := h S1 eS1
  have fa0 := gle_isA hle1 fa0
  have leS := leS.tr hle1
  refine lv_aload_n hx hb d_M_pair_5 rfl (lv_at hl0 0 rfl) ?_
  refine lv_iload_n hx hb d_M_pair_6 rfl (lv_at hl0 1 rfl) ?_
  -- call M_isDancer
  refine gpi hK hG (va_runV (As := [.int a1]) (rest := []) ⟨hx, hb, hml, hown, hw⟩ (m_M_isDancer l x S1 _ a0 a1 fa0 h) ⟨gcb hw tw_1096 tw_43 tw_1093 hd_M_isDancer rfl rfl ⟨(Nat.le_of_ble_eq_true rfl), (Nat.le_of_ble_eq_true rfl)⟩, hw _ tw_1095, hw _ tw_13⟩ (gpV hK hG kd_M fa0 rfl) rfl rfl hl0.1 rfl (lv_room (Nat.le_of_ble_eq_true rfl)) d_M_pair_7 ⟨(Nat.le_of_ble_eq_true rfl), (Nat.le_of_ble_eq_true rfl)⟩) (fun r2 H locs h9 hG => ?_)
  replace h := h9
  clear h9
  have leS1 : gle S1 S1 := gle.rf
  obtain ⟨J21, hJ21, h⟩ := h
  have k21 : ∀ (H : Heap) (locs : List Loc) (ls : Array Slot), GH x S1 s H locs → lv_has ls 3 [(0, .ref a0)] → J21 → W p l e { frames := 2, cells := 0, slots := 0, locals := 44 } s m args below meth c H locs 0 0 (MQ below (va_Qi post (gB x S) (xA x)) args s 0 0 (xA x)) (F0 m 21 ls []) := by
    intro  H locs ls hG hl3 hj
    replace h := hJ21 hj
    refine lv_aload_n hx hb d_M_pair_21 rfl (lv_at hl3 0 rfl) ?_
    refine lv_iconst (v := 1) hx hb d_M_pair_22 (by decide) ?_
    -- call M_no
    refine gci hK hG (va_runV (As := [.int 1]) (rest := []) ⟨hx, hb, hml, hown, hw⟩ (m_M_no l x S1 _ a0 1 fa0 h) ⟨gcb hw tw_1052 tw_43 tw_1049 hd_M_no rfl rfl ⟨(Nat.le_of_ble_eq_true rfl), (Nat.le_of_ble_eq_true rfl)⟩, hw _ tw_1051, hw _ tw_12⟩ (gpV hK hG kd_M fa0 rfl) rfl rfl hl3.1 rfl (lv_room (Nat.le_of_ble_eq_true rfl)) d_M_pair_23 ⟨(Nat.le_of_ble_eq_true rfl), (Nat.le_of_ble_eq_true rfl)⟩) (fun r4 S5 H locs h9 hle1 hG => ?_)
    replace h := h9
    clear h9
    have fa0 := gle_isA hle1 fa0
    have leS := leS.tr hle1
    have leS1 := leS1.tr hle1
    exact giret hx hb hr hlocks hK hG leS h (Nat.le_of_ble_eq_true rfl) (Nat.le_of_ble_eq_true rfl) d_M_pair_26
  refine lv_if_eq (tgt := 21) hx hb d_M_pair_10 (by decide) (fun hc63 => ?_) (fun hc63 => ?_)
  · replace h := h.1 hc63
    exact k21 H locs ls hG (lv_sub hl0 [0] rfl) h
  · replace h := h.2 hc63
    refine lv_aload_n hx hb d_M_pair_13 rfl (lv_at hl0 0 rfl) ?_
    refine lv_iload_n hx hb d_M_pair_14 rfl (lv_at hl0 2 rfl) ?_
    -- call M_isDancer
    refine gpi hK hG (va_runV (As := [.int a2]) (rest := []) ⟨hx, hb, hml, hown, hw⟩ (m_M_isDancer l x S1 _ a0 a2 fa0 h) ⟨gcb hw tw_1096 tw_43 tw_1093 hd_M_isDancer rfl rfl ⟨(Nat.le_of_ble_eq_true rfl), (Nat.le_of_ble_eq_true rfl)⟩, hw _ tw_1095, hw _ tw_13⟩ (gpV hK hG kd_M fa0 rfl) rfl rfl hl0.1 rfl (lv_room (Nat.le_of_ble_eq_true rfl)) d_M_pair_15 ⟨(Nat.le_of_ble_eq_true rfl), (Nat.le_of_ble_eq_true rfl)⟩) (fun r6 H locs h9 hG => ?_)
    replace h := h9
    clear h9
    refine lv_if_ne (tgt := 27) hx hb d_M_pair_18 (by decide) (fun hc62 => ?_) (fun hc62 => ?_)
    · replace h := h.2 hc62
      refine lv_iload_n hx hb d_M_pair_27 rfl (lv_at hl0 1 rfl) ?_
      refine lv_iload_n hx hb d_M_pair_28 rfl (lv_at hl0 2 rfl) ?_
      refine lv_icmp_ne (tgt := 38) hx hb d_M_pair_29 (by decide) (fun hc61 => ?_) (fun hc61 => ?_)
      · replace h := h.2 hc61
        refine lv_aload_n hx hb d_M_pair_38 rfl (lv_at hl0 0 rfl) ?_
        refine gget hx hb hw hown hK hG kd_M fa0 rfl 5 (by decide) rfl tw_1024 (fun _ h9 => h9) d_M_pair_39 ?_
        refine gtopq (fun o7 eo7 => ?_)
        replace h := h o7 eo7
        obtain ⟨y8, ey8, h⟩ := h
        subst ey8
        obtain ⟨f9, h⟩ := h
        refine ggetN hx hb hw hown hK hG kd_S f9 rfl 9 (by decide) rfl tw_959 (fun _ h9 => h9) d_M_pair_42 ?_
        refine gtopq (fun o10 eo10 => ?_)
        replace h := h o10 eo10
        refine lv_iload_n hx hb d_M_pair_45 rfl (lv_at hl0 1 rfl) ?_
        obtain ⟨y11, ey11, h⟩ := h
        subst ey11
        obtain ⟨f12, h⟩ := h
        obtain ⟨hi13, h⟩ := h
        refine giald hx hb hK hG f12 hi13 d_M_pair_46 ?_
        refine lv_iconst (v := (-1)) hx hb d_M_pair_47 (by decide) ?_
        obtain ⟨J76, hJ76, h⟩ := h
        have k76 : ∀ (H : Heap) (locs : List Loc) (ls : Array Slot), GH x S1 s H locs → lv_has ls 3 [(0, .ref a0)] → J76 → W p l e { frames := 2, cells := 0, slots := 0, locals := 44 } s m args below meth c H locs 0 0 (MQ below (va_Qi post (gB x S) (xA x)) args s 0 0 (xA x)) (F0 m 76 ls []) := by
          intro  H locs ls hG hl14 hj
          replace h := hJ76 hj
          refine lv_aload_n hx hb d_M_pair_76 rfl (lv_at hl14 0 rfl) ?_
          refine lv_iconst (v := 3) hx hb d_M_pair_77 (by decide) ?_
          -- call M_no
          refine gci hK hG (va_runV (As := [.int 3]) (rest := []) ⟨hx, hb, hml, hown, hw⟩ (m_M_no l x S1 _ a0 3 fa0 h) ⟨gcb hw tw_1052 tw_43 tw_1049 hd_M_no rfl rfl ⟨(Nat.le_of_ble_eq_true rfl), (Nat.le_of_ble_eq_true rfl)⟩, hw _ tw_1051, hw _ tw_12⟩ (gpV hK hG kd_M fa0 rfl) rfl rfl hl14.1 rfl (lv_room (Nat.le_of_ble_eq_true rfl)) d_M_pair_78 ⟨(Nat.le_of_ble_eq_true rfl), (Nat.le_of_ble_eq_true rfl)⟩) (fun r15 S16 H locs h9 hle1 hG => ?_)
          replace h := h9
          clear h9
          have fa0 := gle_isA hle1 fa0
          have f9 := gle_isA hle1 f9
          have f12 := gle_isA hle1 f12
          have leS := leS.tr hle1
          have leS1 := leS1.tr hle1
          exact giret hx hb hr hlocks hK hG leS h (Nat.le_of_ble_eq_true rfl) (Nat.le_of_ble_eq_true rfl) d_M_pair_81
        refine lv_icmp_ne (tgt := 76) hx hb d_M_pair_48 (by decide) (fun hc58 => ?_) (fun hc58 => ?_)
        · replace h := h.2 hc58
          exact k76 H locs ls hG (lv_sub hl0 [0] rfl) h
        · replace h := h.1 hc58
          refine lv_aload_n hx hb d_M_pair_51 rfl (lv_at hl0 0 rfl) ?_
          refine gget hx hb hw hown hK hG kd_M fa0 rfl 5 (by decide) rfl tw_1024 (fun _ h9 => h9) d_M_pair_52 ?_
          refine gtopq (fun o17 eo17 => ?_)
          replace h := h o17 eo17
          obtain ⟨y18, ey18, h⟩ := h
          subst ey18
          obtain ⟨f19, h⟩ := h
          refine ggetN hx hb hw hown hK hG kd_S f19 rfl 9 (by decide) rfl tw_959 (fun _ h9 => h9) d_M_pair_55 ?_
          refine gtopq (fun o20 eo20 => ?_)
          replace h := h o20 eo20
          refine lv_iload_n hx hb d_M_pair_58 rfl (lv_at hl0 2 rfl) ?_
          obtain ⟨y21, ey21, h⟩ := h
          subst ey21
          obtain ⟨f22, h⟩ := h
          obtain ⟨hi23, h⟩ := h
          refine giald hx hb hK hG f22 hi23 d_M_pair_59 ?_
          refine lv_iconst (v := (-1)) hx hb d_M_pair_60 (by decide) ?_
          refine lv_icmp_ne (tgt := 76) hx hb d_M_pair_61 (by decide) (fun hc57 => ?_) (fun hc57 => ?_)
          · replace h := h.2 hc57
            exact k76 H locs ls hG (lv_sub hl0 [0] rfl) h
          · replace h := h.1 hc57
            refine lv_aload_n hx hb d_M_pair_64 rfl (lv_at hl0 0 rfl) ?_
            refine gget hx hb hw hown hK hG kd_M fa0 rfl 5 (by decide) rfl tw_1024 (fun _ h9 => h9) d_M_pair_65 ?_
            refine gtopq (fun o24 eo24 => ?_)
            replace h := h o24 eo24
            refine lv_iload_n hx hb d_M_pair_68 rfl (lv_at hl0 1 rfl) ?_
            refine lv_iload_n hx hb d_M_pair_69 rfl (lv_at hl0 2 rfl) ?_
            obtain ⟨y25, ey25, h⟩ := h
            subst ey25
            obtain ⟨f26, h⟩ := h
            -- call S_isBeside
            refine gpi hK hG (va_runV (As := [.int a1, .int a2]) (rest := []) ⟨hx, hb, hml, hown, hw⟩ (m_S_isBeside l x S1 _ y25 a1 a2 f26 h) ⟨gcb hw tw_1104 tw_44 tw_1101 hd_S_isBeside rfl rfl ⟨(Nat.le_of_ble_eq_true rfl), (Nat.le_of_ble_eq_true rfl)⟩, hw _ tw_1102, hw _ tw_1103⟩ (gpV hK hG kd_S f26 rfl) rfl rfl hl0.1 rfl (lv_room (Nat.le_of_ble_eq_true rfl)) d_M_pair_70 ⟨(Nat.le_of_ble_eq_true rfl), (Nat.le_of_ble_eq_true rfl)⟩) (fun r27 H locs h9 hG => ?_)
            replace h := h9
            clear h9
            refine lv_if_ne (tgt := 82) hx hb d_M_pair_73 (by decide) (fun hc56 => ?_) (fun hc56 => ?_)
            · replace h := h.2 hc56
              refine lv_aload_n hx hb d_M_pair_82 rfl (lv_at hl0 0 rfl) ?_
              refine gget hx hb hw hown hK hG kd_M fa0 rfl 5 (by decide) rfl tw_1024 (fun _ h9 => h9) d_M_pair_83 ?_
              refine gtopq (fun o28 eo28 => ?_)
              replace h := h o28 eo28
              obtain ⟨y29, ey29, h⟩ := h
              subst ey29
              obtain ⟨f30, h⟩ := h
              refine ggetN hx hb hw hown hK hG kd_S f30 rfl 9 (by decide) rfl tw_959 (fun _ h9 => h9) d_M_pair_86 ?_
              refine gtopq (fun o31 eo31 => ?_)
              replace h := h o31 eo31
              refine lv_iload_n hx hb d_M_pair_89 rfl (lv_at hl0 1 rfl) ?_
              refine lv_iload_n hx hb d_M_pair_90 rfl (lv_at hl0 2 rfl) ?_
              obtain ⟨y32, ey32, h⟩ := h
              subst ey32
              obtain ⟨f33, h⟩ := h
              obtain ⟨hi34, h⟩ := h
              refine giast hx hb hK hG f33 hi34 d_M_pair_91 (fun S35 H locs eS35 hle1 hG => ?_)
              replace h := h S35 eS35
              have fa0 := gle_isA hle1 fa0
              have f9 := gle_isA hle1 f9
              have f12 := gle_isA hle1 f12
              have f19 := gle_isA hle1 f19
              have f22 := gle_isA hle1 f22
              have f26 := gle_isA hle1 f26
              have f30 := gle_isA hle1 f30
              have f33 := gle_isA hle1 f33
              have leS := leS.tr hle1
              have leS1 := leS1.tr hle1
              refine lv_aload_n hx hb d_M_pair_92 rfl (lv_at hl0 0 rfl) ?_
              refine gget hx hb hw hown hK hG kd_M fa0 rfl 5 (by decide) rfl tw_1024 (fun _ h9 => h9) d_M_pair_93 ?_
              refine gtopq (fun o36 eo36 => ?_)
              replace h := h o36 eo36
              obtain ⟨y37, ey37, h⟩ := h
              subst ey37
              obtain ⟨f38, h⟩ := h
              refine ggetN hx hb hw hown hK hG kd_S f38 rfl 9 (by decide) rfl tw_959 (fun _ h9 => h9) d_M_pair_96 ?_
              refine gtopq (fun o39 eo39 => ?_)
              replace h := h o39 eo39
              refine lv_iload_n hx hb d_M_pair_99 rfl (lv_at hl0 2 rfl) ?_
              refine lv_iload_n hx hb d_M_pair_100 rfl (lv_at hl0 1 rfl) ?_
              obtain ⟨y40, ey40, h⟩ := h
              subst ey40
              obtain ⟨f41, h⟩ := h
              obtain ⟨hi42, h⟩ := h
              refine giast hx hb hK hG f41 hi42 d_M_pair_101 (fun S43 H locs eS43 hle1 hG => ?_)
              replace h := h S43 eS43
              have fa0 := gle_isA hle1 fa0
              have f9 := gle_isA hle1 f9
              have f12 := gle_isA hle1 f12
              have f19 := gle_isA hle1 f19
              have f22 := gle_isA hle1 f22
              have f26 := gle_isA hle1 f26
              have f30 := gle_isA hle1 f30
              have f33 := gle_isA hle1 f33
              have f38 := gle_isA hle1 f38
              have f41 := gle_isA hle1 f41
              have leS := leS.tr hle1
              have leS1 := leS1.tr hle1
              refine lv_aload_n hx hb d_M_pair_102 rfl (lv_at hl0 0 rfl) ?_
              refine gget hx hb hw hown hK hG kd_M fa0 rfl 5 (by decide) rfl tw_1024 (fun _ h9 => h9) d_M_pair_103 ?_
              refine gtopq (fun o44 eo44 => ?_)
              replace h := h o44 eo44
              obtain ⟨y45, ey45, h⟩ := h
              subst ey45
              obtain ⟨f46, h⟩ := h
              refine ggetN hx hb hw hown hK hG kd_S f46 rfl 10 (by decide) rfl tw_961 (fun _ h9 => h9) d_M_pair_106 ?_
              refine gtopq (fun o47 eo47 => ?_)
              replace h := h o47 eo47
              refine lv_iload_n hx hb d_M_pair_109 rfl (lv_at hl0 2 rfl) ?_
              refine lv_iconst (v := 1) hx hb d_M_pair_110 (by decide) ?_
              obtain ⟨y48, ey48, h⟩ := h
              subst ey48
              obtain ⟨f49, h⟩ := h
              obtain ⟨hi50, h⟩ := h
              refine gzast hx hb hK hG f49 hi50 d_M_pair_111 (fun S51 H locs eS51 hle1 hG => ?_)
              replace h := h S51 eS51
              have fa0 := gle_isA hle1 fa0
              have f9 := gle_isA hle1 f9
              have f12 := gle_isA hle1 f12
              have f19 := gle_isA hle1 f19
              have f22 := gle_isA hle1 f22
              have f26 := gle_isA hle1 f26
              have f30 := gle_isA hle1 f30
              have f33 := gle_isA hle1 f33
              have f38 := gle_isA hle1 f38
              have f41 := gle_isA hle1 f41
              have f46 := gle_isA hle1 f46
              have f49 := gle_isA hle1 f49
              have leS := leS.tr hle1
              have leS1 := leS1.tr hle1
              refine lv_aload_n hx hb d_M_pair_112 rfl (lv_at hl0 0 rfl) ?_
              refine gget hx hb hw hown hK hG kd_M fa0 rfl 5 (by decide) rfl tw_1024 (fun _ h9 => h9) d_M_pair_113 ?_
              refine gtopq (fun o52 eo52 => ?_)
              replace h := h o52 eo52
              refine lv_iconst (v := 2) hx hb d_M_pair_116 (by decide) ?_
              obtain ⟨y53, ey53, h⟩ := h
              subst ey53
              obtain ⟨f54, h⟩ := h
              -- call S_sum
              refine gpi hK hG (va_runV (As := [.int 2]) (rest := []) ⟨hx, hb, hml, hown, hw⟩ (m_S_sum l x S51 _ y53 2 f54 h) ⟨gcb hw tw_1109 tw_44 tw_1106 hd_S_sum rfl rfl ⟨(Nat.le_of_ble_eq_true rfl), (Nat.le_of_ble_eq_true rfl)⟩, hw _ tw_1107, hw _ tw_1108⟩ (gpV hK hG kd_S f54 rfl) rfl rfl hl0.1 rfl (lv_room (Nat.le_of_ble_eq_true rfl)) d_M_pair_117 ⟨(Nat.le_of_ble_eq_true rfl), (Nat.le_of_ble_eq_true rfl)⟩) (fun r55 H locs h9 hG => ?_)
              replace h := h9
              clear h9
              exact giret hx hb hr hlocks hK hG leS h (Nat.le_of_ble_eq_true rfl) (Nat.le_of_ble_eq_true rfl) d_M_pair_120
            · replace h := h.1 hc56
              exact k76 H locs ls hG (lv_sub hl0 [0] rfl) h
      · replace h := h.1 hc61
        refine lv_aload_n hx hb d_M_pair_32 rfl (lv_at hl0 0 rfl) ?_
        refine lv_iconst (v := 2) hx hb d_M_pair_33 (by decide) ?_
        -- call M_no
        refine gci hK hG (va_runV (As := [.int 2]) (rest := []) ⟨hx, hb, hml, hown, hw⟩ (m_M_no l x S1 _ a0 2 fa0 h) ⟨gcb hw tw_1052 tw_43 tw_1049 hd_M_no rfl rfl ⟨(Nat.le_of_ble_eq_true rfl), (Nat.le_of_ble_eq_true rfl)⟩, hw _ tw_1051, hw _ tw_12⟩ (gpV hK hG kd_M fa0 rfl) rfl rfl hl0.1 rfl (lv_room (Nat.le_of_ble_eq_true rfl)) d_M_pair_34 ⟨(Nat.le_of_ble_eq_true rfl), (Nat.le_of_ble_eq_true rfl)⟩) (fun r59 S60 H locs h9 hle1 hG => ?_)
        replace h := h9
        clear h9
        have fa0 := gle_isA hle1 fa0
        have leS := leS.tr hle1
        have leS1 := leS1.tr hle1
        exact giret hx hb hr hlocks hK hG leS h (Nat.le_of_ble_eq_true rfl) (Nat.le_of_ble_eq_true rfl) d_M_pair_37
    · replace h := h.1 hc62
      exact k21 H locs ls hG (lv_sub hl0 [0] rfl) h
def w_M_part (post : Int32 → St → Prop) (S : St) (a0 : Nat) (a1 : Int32) : Prop :=
  ∀ S1 : St, S1 = pI S 56 a0 0 → w_M_isDancer (fun (r2 : Int32) => (r2 = 0 → w_M_no (fun (r50 : Int32) (S51 : St) => post r50 S51) S1 a0 1) ∧ (¬ r2 = 0 → ∀ o3 : Option Nat, o3 = sQ S1 61 a0 → ∃ y4 : Nat, o3 = some y4 ∧ isA S1 7 y4 ∧ ∀ o6 : Option Nat, o6 = sQ S1 47 y4 → ∃ y7 : Nat, o6 = some y7 ∧ isA S1 10 y7 ∧ vp_in a1 (sN S1 y7) ∧ ∀ v10 : Int32, v10 = sR S1 y7 a1.toNatClampNeg → (v10 = (-1) → w_M_no (fun (r47 : Int32) (S48 : St) => post r47 S48) S1 a0 2) ∧ (¬ v10 = (-1) → ∀ (q12 : Nat) (S13 : St), q12 ∉ sL S1 → S13 = pNew S1 q12 10 2 → vp_in 0 (sN S13 q12) ∧ ∀ S16 : St, S16 = pR S13 q12 ((0 : Int32).toNatClampNeg) a1 → vp_in 1 (sN S16 q12) ∧ ∀ S18 : St, S18 = pR S16 q12 ((1 : Int32).toNatClampNeg) v10 → ∀ v21 : Int32, v21 = nI (sN S18 q12) → ∃ J63 : Nat → St → Int32 → Prop, (∃ n : Nat, J63 n S18 0) ∧ ∀ (n63 : Nat) (S_63 : St) (v6_63 : Int32), J63 n63 S_63 v6_63 → (v21 ≤ v6_63 → post v10 S_63) ∧ (¬ v21 ≤ v6_63 → vp_in v6_63 (sN S_63 q12) ∧ ∀ v26 : Int32, v26 = sR S_63 q12 v6_63.toNatClampNeg → ∀ o28 : Option Nat, o28 = sQ S_63 61 a0 → ∃ y29 : Nat, o28 = some y29 ∧ isA S_63 7 y29 ∧ ∀ o31 : Option Nat, o31 = sQ S_63 47 y29 → ∃ y32 : Nat, o31 = some y32 ∧ isA S_63 10 y32 ∧ vp_in v26 (sN S_63 y32) ∧ ∀ S35 : St, S35 = pR S_63 y32 (v26.toNatClampNeg) (-1) → ∀ o36 : Option Nat, o36 = sQ S35 61 a0 → ∃ y37 : Nat, o36 = some y37 ∧ isA S35 7 y37 ∧ ∀ o39 : Option Nat, o39 = sQ S35 48 y37 → ∃ y40 : Nat, o39 = some y40 ∧ isA S35 11 y40 ∧ vp_in v26 (sN S35 y40) ∧ ∀ S43 : St, S43 = pR S35 y40 (v26.toNatClampNeg) (vp_nar .boolean 0) → ∀ v44 : Int32, v44 = v6_63 + 1 → ∃ nx : Nat, nx < n63 ∧ J63 nx S43 v44)))) S1 a0 a1
set_option maxHeartbeats 4000000 in
set_option maxRecDepth 100000 in
theorem m_M_part (l : Launch) (x : Cx) (S : St) (post : Int32 → St → Prop) (a0 : Nat) (a1 : Int32) (fa0 : isA S 8 a0) (h : w_M_part post S a0 a1) : Met l y_M_part [.code y_M_part c_M_part 8 (some .int)] { frames := 2, cells := 1, slots := 2, locals := 43 } (va_Pc [.ref a0, .int a1] (GW x S)) (va_Qi post (gB x S) (xA x)) 1 2 (xA x) := by
  refine gMet (by decide +kernel) (Nat.le_of_ble_eq_true rfl) ?_
  intro p e s m args below meth c hx hb hr hown hlocks hin hw hK H locs hG ls hlA hml
  have hown : s.vm.findClass "WaltzHallModel" = some m.cls := hown
  have hl0 : lv_has ls 8 [(0, .ref a0), (1, .int a1)] := hlA
  have leS : gle S S := gle.rf
  unfold w_M_part at h
  refine lv_aload_n hx hb d_M_part_0 rfl (lv_at hl0 0 rfl) ?_
  refine lv_iconst (v := 0) hx hb d_M_part_1 (by decide) ?_
  refine gput (S' := pI S 56 a0 0) hx hb hw hown hK hG kd_M fa0 rfl 0 (by decide) (gChI fa0 rfl) tw_1017 (fun _ h9 => h9) rfl rfl rfl rfl (Nat.le_of_ble_eq_true rfl) d_M_part_2 (fun S1 H locs eS1 hle1 hG => ?_)
  replace h := h S1 eS1
  have fa0 := gle_isA hle1 fa0
  have leS := leS.tr hle1
  refine lv_aload_n hx hb d_M_part_5 rfl (lv_at hl0 0 rfl) ?_
  refine lv_iload_n hx hb d_M_part_6 rfl (lv_at hl0 1 rfl) ?_
  -- call M_isDancer
  refine gpi hK hG (va_runV (As := [.int a1]) (rest := []) ⟨hx, hb, hml, hown, hw⟩ (m_M_isDancer l x S1 _ a0 a1 fa0 h) ⟨gcb hw tw_1096 tw_43 tw_1093 hd_M_isDancer rfl rfl ⟨(Nat.le_of_ble_eq_true rfl), (Nat.le_of_ble_eq_true rfl)⟩, hw _ tw_1095, hw _ tw_13⟩ (gpV hK hG kd_M fa0 rfl) rfl rfl hl0.1 rfl (lv_room (Nat.le_of_ble_eq_true rfl)) d_M_part_7 ⟨(Nat.le_of_ble_eq_true rfl), (Nat.le_of_ble_eq_true rfl)⟩) (fun r2 H locs h9 hG => ?_)
  replace h := h9
  clear h9
  refine lv_if_ne (tgt := 19) hx hb d_M_part_10 (by decide) (fun hc52 => ?_) (fun hc52 => ?_)
  · replace h := h.2 hc52
    refine lv_aload_n hx hb d_M_part_19 rfl (lv_at hl0 0 rfl) ?_
    refine gget hx hb hw hown hK hG kd_M fa0 rfl 5 (by decide) rfl tw_1024 (fun _ h9 => h9) d_M_part_20 ?_
    refine gtopq (fun o3 eo3 => ?_)
    replace h := h o3 eo3
    obtain ⟨y4, ey4, h⟩ := h
    subst ey4
    obtain ⟨f5, h⟩ := h
    refine ggetN hx hb hw hown hK hG kd_S f5 rfl 9 (by decide) rfl tw_959 (fun _ h9 => h9) d_M_part_23 ?_
    refine gtopq (fun o6 eo6 => ?_)
    replace h := h o6 eo6
    refine lv_iload_n hx hb d_M_part_26 rfl (lv_at hl0 1 rfl) ?_
    obtain ⟨y7, ey7, h⟩ := h
    subst ey7
    obtain ⟨f8, h⟩ := h
    obtain ⟨hi9, h⟩ := h
    refine giald hx hb hK hG f8 hi9 d_M_part_27 ?_
    refine lv_topi (fun v10 ev10 => ?_)
    replace h := h v10 ev10
    refine lv_istore_n (i := 2) (lv' := [(2, .int v10), (0, .ref a0), (1, .int a1)]) hx hb d_M_part_28 rfl hl0 (by decide) rfl (fun ls hl11 => ?_)
    refine lv_iload_n hx hb d_M_part_29 rfl (lv_at hl11 0 rfl) ?_
    refine lv_iconst (v := (-1)) hx hb d_M_part_30 (by decide) ?_
    refine lv_icmp_ne (tgt := 40) hx hb d_M_part_31 (by decide) (fun hc49 => ?_) (fun hc49 => ?_)
    · replace h := h.2 hc49
      refine lv_iconst (v := 2) hx hb d_M_part_40 (by decide) ?_
      refine gnewa (atype := .int) (N' := 2) (k := 10) (by decide) 1 hx hb hw hK hG tw_760 rfl (fun _ _ => rfl) rfl rfl (fun _ => rfl) (by decide) (Nat.le_of_ble_eq_true rfl) (Nat.le_of_ble_eq_true rfl) (Nat.le_of_ble_eq_true rfl) d_M_part_41 (fun q12 S13 H hqq12 eS13 hle1 hG => ?_)
      replace h := h q12 S13 hqq12 eS13
      have fa0 := gle_isA hle1 fa0
      have f5 := gle_isA hle1 f5
      have f8 := gle_isA hle1 f8
      have leS := leS.tr hle1
      have f14 : isA S13 10 q12 := by rw [eS13]; exact isA_new
      refine lv_dup hx hb d_M_part_43 rfl ?_
      refine lv_iconst (v := 0) hx hb d_M_part_44 (by decide) ?_
      refine lv_iload_n hx hb d_M_part_45 rfl (lv_at hl11 2 rfl) ?_
      obtain ⟨hi15, h⟩ := h
      refine giast hx hb hK hG f14 hi15 d_M_part_46 (fun S16 H locs eS16 hle1 hG => ?_)
      replace h := h S16 eS16
      have fa0 := gle_isA hle1 fa0
      have f5 := gle_isA hle1 f5
      have f8 := gle_isA hle1 f8
      have f14 := gle_isA hle1 f14
      have leS := leS.tr hle1
      refine lv_dup hx hb d_M_part_47 rfl ?_
      refine lv_iconst (v := 1) hx hb d_M_part_48 (by decide) ?_
      refine lv_iload_n hx hb d_M_part_49 rfl (lv_at hl11 0 rfl) ?_
      obtain ⟨hi17, h⟩ := h
      refine giast hx hb hK hG f14 hi17 d_M_part_50 (fun S18 H locs eS18 hle1 hG => ?_)
      replace h := h S18 eS18
      have fa0 := gle_isA hle1 fa0
      have f5 := gle_isA hle1 f5
      have f8 := gle_isA hle1 f8
      have f14 := gle_isA hle1 f14
      have leS := leS.tr hle1
      refine lv_astore_n (i := 3) (lv' := [(3, .ref q12), (2, .int v10), (0, .ref a0), (1, .int a1)]) hx hb d_M_part_51 rfl hl11 (by decide) rfl (fun ls hl19 => ?_)
      refine lv_aload_n hx hb d_M_part_52 rfl (lv_at hl19 0 rfl) ?_
      refine lv_astore (lv' := [(4, .ref q12), (3, .ref q12), (2, .int v10), (0, .ref a0), (1, .int a1)]) hx hb d_M_part_53 hl19 (by decide) rfl (fun ls hl20 => ?_)
      refine lv_aload hx hb d_M_part_55 (lv_at hl20 0 rfl) ?_
      refine galen hx hb hK hG f14 rfl 1 rfl rfl d_M_part_57 ?_
      refine lv_topi (fun v21 ev21 => ?_)
      replace h := h v21 ev21
      refine lv_istore (lv' := [(5, .int v21), (4, .ref q12), (3, .ref q12), (2, .int v10), (0, .ref a0), (1, .int a1)]) hx hb d_M_part_58 hl20 (by decide) rfl (fun ls hl22 => ?_)
      refine lv_iconst (v := 0) hx hb d_M_part_60 (by decide) ?_
      refine lv_istore (lv' := [(6, .int 0), (5, .int v21), (4, .ref q12), (3, .ref q12), (2, .int v10), (0, .ref a0), (1, .int a1)]) hx hb d_M_part_61 hl22 (by decide) rfl (fun ls hl23 => ?_)
      have leS18 : gle S18 S18 := gle.rf
      obtain ⟨J63, ⟨n0_63, h0_63⟩, hJ63⟩ := h
      have k63 : ∀ (n63 : Nat) (S_63 : St) (v6_63 : Int32) (H : Heap) (locs : List Loc) (ls : Array Slot), gle S18 S_63 → GH x S_63 s H locs → lv_has ls 8 [(0, .ref a0), (2, .int v10), (4, .ref q12), (5, .int v21), (6, .int v6_63)] → J63 n63 S_63 v6_63 → W p l e { frames := 2, cells := 1, slots := 2, locals := 43 } s m args below meth c H locs 1 2 (MQ below (va_Qi post (gB x S) (xA x)) args s 1 2 (xA x)) (F0 m 63 ls []) := by
        intro n63
        induction n63 using Nat.strongRecOn with
        | _ n63 ih63 =>
          intro S_63 v6_63 H locs ls hle1 hG hl24 hj
          replace h := hJ63 n63 S_63 v6_63 hj
          have fa0 := gle_isA hle1 fa0
          have f5 := gle_isA hle1 f5
          have f8 := gle_isA hle1 f8
          have f14 := gle_isA hle1 f14
          have leS := leS.tr hle1
          have leS18 := leS18.tr hle1
          refine lv_iload hx hb d_M_part_63 (lv_at hl24 4 rfl) ?_
          refine lv_iload hx hb d_M_part_65 (lv_at hl24 3 rfl) ?_
          refine lv_icmp_ge (tgt := 105) hx hb d_M_part_67 (by decide) (fun hc46 => ?_) (fun hc46 => ?_)
          · replace h := h.1 hc46
            refine lv_iload_n hx hb d_M_part_105 rfl (lv_at hl24 1 rfl) ?_
            exact giret hx hb hr hlocks hK hG leS h (Nat.le_of_ble_eq_true rfl) (Nat.le_of_ble_eq_true rfl) d_M_part_106
          · replace h := h.2 hc46
            refine lv_aload hx hb d_M_part_70 (lv_at hl24 2 rfl) ?_
            refine lv_iload hx hb d_M_part_72 (lv_at hl24 4 rfl) ?_
            obtain ⟨hi25, h⟩ := h
            refine giald hx hb hK hG f14 hi25 d_M_part_74 ?_
            refine lv_topi (fun v26 ev26 => ?_)
            replace h := h v26 ev26
            refine lv_istore (lv' := [(7, .int v26), (0, .ref a0), (2, .int v10), (4, .ref q12), (5, .int v21), (6, .int v6_63)]) hx hb d_M_part_75 hl24 (by decide) rfl (fun ls hl27 => ?_)
            refine lv_aload_n hx hb d_M_part_77 rfl (lv_at hl27 1 rfl) ?_
            refine gget hx hb hw hown hK hG kd_M fa0 rfl 5 (by decide) rfl tw_1024 (fun _ h9 => h9) d_M_part_78 ?_
            refine gtopq (fun o28 eo28 => ?_)
            replace h := h o28 eo28
            obtain ⟨y29, ey29, h⟩ := h
            subst ey29
            obtain ⟨f30, h⟩ := h
            refine ggetN hx hb hw hown hK hG kd_S f30 rfl 9 (by decide) rfl tw_959 (fun _ h9 => h9) d_M_part_81 ?_
            refine gtopq (fun o31 eo31 => ?_)
            replace h := h o31 eo31
            refine lv_iload hx hb d_M_part_84 (lv_at hl27 0 rfl) ?_
            refine lv_iconst (v := (-1)) hx hb d_M_part_86 (by decide) ?_
            obtain ⟨y32, ey32, h⟩ := h
            subst ey32
            obtain ⟨f33, h⟩ := h
            obtain ⟨hi34, h⟩ := h
            refine giast hx hb hK hG f33 hi34 d_M_part_87 (fun S35 H locs eS35 hle1 hG => ?_)
            replace h := h S35 eS35
            have fa0 := gle_isA hle1 fa0
            have f5 := gle_isA hle1 f5
            have f8 := gle_isA hle1 f8
            have f14 := gle_isA hle1 f14
            have f30 := gle_isA hle1 f30
            have f33 := gle_isA hle1 f33
            have leS := leS.tr hle1
            have leS18 := leS18.tr hle1
            refine lv_aload_n hx hb d_M_part_88 rfl (lv_at hl27 1 rfl) ?_
            refine gget hx hb hw hown hK hG kd_M fa0 rfl 5 (by decide) rfl tw_1024 (fun _ h9 => h9) d_M_part_89 ?_
            refine gtopq (fun o36 eo36 => ?_)
            replace h := h o36 eo36
            obtain ⟨y37, ey37, h⟩ := h
            subst ey37
            obtain ⟨f38, h⟩ := h
            refine ggetN hx hb hw hown hK hG kd_S f38 rfl 10 (by decide) rfl tw_961 (fun _ h9 => h9) d_M_part_92 ?_
            refine gtopq (fun o39 eo39 => ?_)
            replace h := h o39 eo39
            refine lv_iload hx hb d_M_part_95 (lv_at hl27 0 rfl) ?_
            refine lv_iconst (v := 0) hx hb d_M_part_97 (by decide) ?_
            obtain ⟨y40, ey40, h⟩ := h
            subst ey40
            obtain ⟨f41, h⟩ := h
            obtain ⟨hi42, h⟩ := h
            refine gzast hx hb hK hG f41 hi42 d_M_part_98 (fun S43 H locs eS43 hle1 hG => ?_)
            replace h := h S43 eS43
            have fa0 := gle_isA hle1 fa0
            have f5 := gle_isA hle1 f5
            have f8 := gle_isA hle1 f8
            have f14 := gle_isA hle1 f14
            have f30 := gle_isA hle1 f30
            have f33 := gle_isA hle1 f33
            have f38 := gle_isA hle1 f38
            have f41 := gle_isA hle1 f41
            have leS := leS.tr hle1
            have leS18 := leS18.tr hle1
            obtain ⟨v44, ev44⟩ : ∃ z : Int32, z = v6_63 + 1 := ⟨_, rfl⟩
            replace h := h v44 ev44
            refine lv_iinc (v := v44) (lv' := [(6, .int v44), (7, .int v26), (0, .ref a0), (2, .int v10), (4, .ref q12), (5, .int v21)]) hx hb d_M_part_99 hl27 (k := 5) rfl (by rw [ev44]; rfl) (by decide) rfl (fun ls hl45 => ?_)
            refine lv_goto (tgt := 63) hx hb d_M_part_102 (by decide) ?_
            obtain ⟨nx, hnx, h⟩ := h
            exact ih63 nx hnx S43 v44 H locs ls leS18 hG (lv_sub hl45 [2, 3, 4, 5, 0] rfl) h
      exact k63 n0_63 S18 0 H locs ls gle.rf hG (lv_sub hl23 [5, 4, 2, 1, 0] rfl) h0_63
    · replace h := h.1 hc49
      refine lv_aload_n hx hb d_M_part_34 rfl (lv_at hl11 1 rfl) ?_
      refine lv_iconst (v := 2) hx hb d_M_part_35 (by decide) ?_
      -- call M_no
      refine gci hK hG (va_runV (As := [.int 2]) (rest := []) ⟨hx, hb, hml, hown, hw⟩ (m_M_no l x S1 _ a0 2 fa0 h) ⟨gcb hw tw_1052 tw_43 tw_1049 hd_M_no rfl rfl ⟨(Nat.le_of_ble_eq_true rfl), (Nat.le_of_ble_eq_true rfl)⟩, hw _ tw_1051, hw _ tw_12⟩ (gpV hK hG kd_M fa0 rfl) rfl rfl hl11.1 rfl (lv_room (Nat.le_of_ble_eq_true rfl)) d_M_part_36 ⟨(Nat.le_of_ble_eq_true rfl), (Nat.le_of_ble_eq_true rfl)⟩) (fun r47 S48 H locs h9 hle1 hG => ?_)
      replace h := h9
      clear h9
      have fa0 := gle_isA hle1 fa0
      have f5 := gle_isA hle1 f5
      have f8 := gle_isA hle1 f8
      have leS := leS.tr hle1
      exact giret hx hb hr hlocks hK hG leS h (Nat.le_of_ble_eq_true rfl) (Nat.le_of_ble_eq_true rfl) d_M_part_39
  · replace h := h.1 hc52
    refine lv_aload_n hx hb d_M_part_13 rfl (lv_at hl0 0 rfl) ?_
    refine lv_iconst (v := 1) hx hb d_M_part_14 (by decide) ?_
    -- call M_no
    refine gci hK hG (va_runV (As := [.int 1]) (rest := []) ⟨hx, hb, hml, hown, hw⟩ (m_M_no l x S1 _ a0 1 fa0 h) ⟨gcb hw tw_1052 tw_43 tw_1049 hd_M_no rfl rfl ⟨(Nat.le_of_ble_eq_true rfl), (Nat.le_of_ble_eq_true rfl)⟩, hw _ tw_1051, hw _ tw_12⟩ (gpV hK hG kd_M fa0 rfl) rfl rfl hl0.1 rfl (lv_room (Nat.le_of_ble_eq_true rfl)) d_M_part_15 ⟨(Nat.le_of_ble_eq_true rfl), (Nat.le_of_ble_eq_true rfl)⟩) (fun r50 S51 H locs h9 hle1 hG => ?_)
    replace h := h9
    clear h9
    have fa0 := gle_isA hle1 fa0
    have leS := leS.tr hle1
    exact giret hx hb hr hlocks hK hG leS h (Nat.le_of_ble_eq_true rfl) (Nat.le_of_ble_eq_true rfl) d_M_part_18
def w_M_wind (post : Int32 → St → Prop) (S : St) (a0 : Nat) (a1 : Int32) (a2 : Int32) : Prop :=
  ∀ S1 : St, S1 = pI S 56 a0 0 → w_M_isDancer (fun (r2 : Int32) => (r2 = 0 → w_M_no (fun (r31 : Int32) (S32 : St) => post r31 S32) S1 a0 1) ∧ (¬ r2 = 0 → w_M_isIn (fun (r3 : Int32) => (r3 = 0 → w_M_no (fun (r28 : Int32) (S29 : St) => post r28 S29) S1 a0 2) ∧ (¬ r3 = 0 → ∀ o4 : Option Nat, o4 = sQ S1 61 a0 → ∃ y5 : Nat, o4 = some y5 ∧ isA S1 7 y5 ∧ ∀ o7 : Option Nat, o7 = sQ S1 43 y5 → ∀ o8 : Option Nat, o8 = sQ S1 61 a0 → ∃ y9 : Nat, o8 = some y9 ∧ isA S1 7 y9 ∧ ∀ o11 : Option Nat, o11 = sQ S1 43 y9 → ∃ y12 : Nat, o11 = some y12 ∧ isA S1 10 y12 ∧ vp_in a1 (sN S1 y12) ∧ ∀ v15 : Int32, v15 = (if ((sR S1 y12 a1.toNatClampNeg) + a2) < 200 then ((sR S1 y12 a1.toNatClampNeg) + a2) else 200) → ∀ v16 : Int32, v16 = (if 0 < v15 then v15 else 0) → ∃ y17 : Nat, o7 = some y17 ∧ isA S1 10 y17 ∧ vp_in a1 (sN S1 y17) ∧ ∀ S20 : St, S20 = pR S1 y17 (a1.toNatClampNeg) v16 → ∀ o21 : Option Nat, o21 = sQ S20 61 a0 → ∃ y22 : Nat, o21 = some y22 ∧ isA S20 7 y22 ∧ ∀ o24 : Option Nat, o24 = sQ S20 43 y22 → ∃ y25 : Nat, o24 = some y25 ∧ isA S20 10 y25 ∧ vp_in a1 (sN S20 y25) ∧ post (sR S20 y25 a1.toNatClampNeg) S20)) S1 a2 (-200) 200)) S1 a0 a1
set_option maxHeartbeats 4000000 in
set_option maxRecDepth 100000 in
theorem m_M_wind (l : Launch) (x : Cx) (S : St) (post : Int32 → St → Prop) (a0 : Nat) (a1 : Int32) (a2 : Int32) (fa0 : isA S 8 a0) (h : w_M_wind post S a0 a1 a2) : Met l y_M_wind [.code y_M_wind c_M_wind 3 (some .int)] { frames := 2, cells := 0, slots := 0, locals := 43 } (va_Pc [.ref a0, .int a1, .int a2] (GW x S)) (va_Qi post (gB x S) (xA x)) 0 0 (xA x) := by
  refine gMet (by decide +kernel) (Nat.le_of_ble_eq_true rfl) ?_
  intro p e s m args below meth c hx hb hr hown hlocks hin hw hK H locs hG ls hlA hml
  have hown : s.vm.findClass "WaltzHallModel" = some m.cls := hown
  have hl0 : lv_has ls 3 [(0, .ref a0), (1, .int a1), (2, .int a2)] := hlA
  have leS : gle S S := gle.rf
  unfold w_M_wind at h
  refine lv_aload_n hx hb d_M_wind_0 rfl (lv_at hl0 0 rfl) ?_
  refine lv_iconst (v := 0) hx hb d_M_wind_1 (by decide) ?_
  refine gput (S' := pI S 56 a0 0) hx hb hw hown hK hG kd_M fa0 rfl 0 (by decide) (gChI fa0 rfl) tw_1017 (fun _ h9 => h9) rfl rfl rfl rfl (Nat.le_of_ble_eq_true rfl) d_M_wind_2 (fun S1 H locs eS1 hle1 hG => ?_)
  replace h := h S1 eS1
  have fa0 := gle_isA hle1 fa0
  have leS := leS.tr hle1
  refine lv_aload_n hx hb d_M_wind_5 rfl (lv_at hl0 0 rfl) ?_
  refine lv_iload_n hx hb d_M_wind_6 rfl (lv_at hl0 1 rfl) ?_
  -- call M_isDancer
  refine gpi hK hG (va_runV (As := [.int a1]) (rest := []) ⟨hx, hb, hml, hown, hw⟩ (m_M_isDancer l x S1 _ a0 a1 fa0 h) ⟨gcb hw tw_1096 tw_43 tw_1093 hd_M_isDancer rfl rfl ⟨(Nat.le_of_ble_eq_true rfl), (Nat.le_of_ble_eq_true rfl)⟩, hw _ tw_1095, hw _ tw_13⟩ (gpV hK hG kd_M fa0 rfl) rfl rfl hl0.1 rfl (lv_room (Nat.le_of_ble_eq_true rfl)) d_M_wind_7 ⟨(Nat.le_of_ble_eq_true rfl), (Nat.le_of_ble_eq_true rfl)⟩) (fun r2 H locs h9 hG => ?_)
  replace h := h9
  clear h9
  refine lv_if_ne (tgt := 19) hx hb d_M_wind_10 (by decide) (fun hc33 => ?_) (fun hc33 => ?_)
  · replace h := h.2 hc33
    refine lv_iload_n hx hb d_M_wind_19 rfl (lv_at hl0 2 rfl) ?_
    refine lv_sipush (v := (-200)) hx hb d_M_wind_20 (by decide) ?_
    refine lv_sipush (v := 200) hx hb d_M_wind_23 (by decide) ?_
    -- call M_isIn
    refine gpi hK hG (va_runS (As := [.int a2, .int (-200), .int 200]) (rest := []) ⟨hx, hb, hml, hown, hw⟩ (m_M_isIn l x S1 _ a2 (-200) 200  h) ⟨gcb hw tw_1059 tw_43 tw_1057 hd_M_isIn rfl rfl ⟨(Nat.le_of_ble_eq_true rfl), (Nat.le_of_ble_eq_true rfl)⟩, hw _ tw_1058⟩ (gpS hK hG) rfl rfl hl0.1 rfl (lv_room (Nat.le_of_ble_eq_true rfl)) d_M_wind_26 ⟨(Nat.le_of_ble_eq_true rfl), (Nat.le_of_ble_eq_true rfl)⟩) (fun r3 H locs h9 hG => ?_)
    replace h := h9
    clear h9
    refine lv_if_ne (tgt := 38) hx hb d_M_wind_29 (by decide) (fun hc30 => ?_) (fun hc30 => ?_)
    · replace h := h.2 hc30
      refine lv_aload_n hx hb d_M_wind_38 rfl (lv_at hl0 0 rfl) ?_
      refine gget hx hb hw hown hK hG kd_M fa0 rfl 5 (by decide) rfl tw_1024 (fun _ h9 => h9) d_M_wind_39 ?_
      refine gtopq (fun o4 eo4 => ?_)
      replace h := h o4 eo4
      obtain ⟨y5, ey5, h⟩ := h
      subst ey5
      obtain ⟨f6, h⟩ := h
      refine ggetN hx hb hw hown hK hG kd_S f6 rfl 5 (by decide) rfl tw_951 (fun _ h9 => h9) d_M_wind_42 ?_
      refine gtopq (fun o7 eo7 => ?_)
      replace h := h o7 eo7
      refine lv_iload_n hx hb d_M_wind_45 rfl (lv_at hl0 1 rfl) ?_
      refine lv_iconst (v := 0) hx hb d_M_wind_46 (by decide) ?_
      refine lv_sipush (v := 200) hx hb d_M_wind_47 (by decide) ?_
      refine lv_aload_n hx hb d_M_wind_50 rfl (lv_at hl0 0 rfl) ?_
      refine gget hx hb hw hown hK hG kd_M fa0 rfl 5 (by decide) rfl tw_1024 (fun _ h9 => h9) d_M_wind_51 ?_
      refine gtopq (fun o8 eo8 => ?_)
      replace h := h o8 eo8
      obtain ⟨y9, ey9, h⟩ := h
      subst ey9
      obtain ⟨f10, h⟩ := h
      refine ggetN hx hb hw hown hK hG kd_S f10 rfl 5 (by decide) rfl tw_951 (fun _ h9 => h9) d_M_wind_54 ?_
      refine gtopq (fun o11 eo11 => ?_)
      replace h := h o11 eo11
      refine lv_iload_n hx hb d_M_wind_57 rfl (lv_at hl0 1 rfl) ?_
      obtain ⟨y12, ey12, h⟩ := h
      subst ey12
      obtain ⟨f13, h⟩ := h
      obtain ⟨hi14, h⟩ := h
      refine giald hx hb hK hG f13 hi14 d_M_wind_58 ?_
      refine lv_iload_n hx hb d_M_wind_59 rfl (lv_at hl0 2 rfl) ?_
      refine lv_iadd hx hb d_M_wind_60 ?_
      refine va_mmin hx hb (hml.trans hl0.1.symm) hown (hw _ tw_1122) (hw _ tw_247) (hw _ tw_40) (hw _ tw_248) (Nat.le_of_ble_eq_true rfl) (by simp [gCat, gci1, gcr1, gcl1, gcd1]) (Nat.le_of_ble_eq_true rfl) (Nat.le_of_ble_eq_true rfl) d_M_wind_61 ?_
      refine lv_topi (fun v15 ev15 => ?_)
      replace h := h v15 ev15
      refine va_mmax hx hb (hml.trans hl0.1.symm) hown (hw _ tw_1123) (hw _ tw_215) (hw _ tw_40) (hw _ tw_216) (Nat.le_of_ble_eq_true rfl) (by simp [gCat, gci1, gcr1, gcl1, gcd1]) (Nat.le_of_ble_eq_true rfl) (Nat.le_of_ble_eq_true rfl) d_M_wind_64 ?_
      refine lv_topi (fun v16 ev16 => ?_)
      replace h := h v16 ev16
      obtain ⟨y17, ey17, h⟩ := h
      subst ey17
      obtain ⟨f18, h⟩ := h
      obtain ⟨hi19, h⟩ := h
      refine giast hx hb hK hG f18 hi19 d_M_wind_67 (fun S20 H locs eS20 hle1 hG => ?_)
      replace h := h S20 eS20
      have fa0 := gle_isA hle1 fa0
      have f6 := gle_isA hle1 f6
      have f10 := gle_isA hle1 f10
      have f13 := gle_isA hle1 f13
      have f18 := gle_isA hle1 f18
      have leS := leS.tr hle1
      refine lv_aload_n hx hb d_M_wind_68 rfl (lv_at hl0 0 rfl) ?_
      refine gget hx hb hw hown hK hG kd_M fa0 rfl 5 (by decide) rfl tw_1024 (fun _ h9 => h9) d_M_wind_69 ?_
      refine gtopq (fun o21 eo21 => ?_)
      replace h := h o21 eo21
      obtain ⟨y22, ey22, h⟩ := h
      subst ey22
      obtain ⟨f23, h⟩ := h
      refine ggetN hx hb hw hown hK hG kd_S f23 rfl 5 (by decide) rfl tw_951 (fun _ h9 => h9) d_M_wind_72 ?_
      refine gtopq (fun o24 eo24 => ?_)
      replace h := h o24 eo24
      refine lv_iload_n hx hb d_M_wind_75 rfl (lv_at hl0 1 rfl) ?_
      obtain ⟨y25, ey25, h⟩ := h
      subst ey25
      obtain ⟨f26, h⟩ := h
      obtain ⟨hi27, h⟩ := h
      refine giald hx hb hK hG f26 hi27 d_M_wind_76 ?_
      exact giret hx hb hr hlocks hK hG leS h (Nat.le_of_ble_eq_true rfl) (Nat.le_of_ble_eq_true rfl) d_M_wind_77
    · replace h := h.1 hc30
      refine lv_aload_n hx hb d_M_wind_32 rfl (lv_at hl0 0 rfl) ?_
      refine lv_iconst (v := 2) hx hb d_M_wind_33 (by decide) ?_
      -- call M_no
      refine gci hK hG (va_runV (As := [.int 2]) (rest := []) ⟨hx, hb, hml, hown, hw⟩ (m_M_no l x S1 _ a0 2 fa0 h) ⟨gcb hw tw_1052 tw_43 tw_1049 hd_M_no rfl rfl ⟨(Nat.le_of_ble_eq_true rfl), (Nat.le_of_ble_eq_true rfl)⟩, hw _ tw_1051, hw _ tw_12⟩ (gpV hK hG kd_M fa0 rfl) rfl rfl hl0.1 rfl (lv_room (Nat.le_of_ble_eq_true rfl)) d_M_wind_34 ⟨(Nat.le_of_ble_eq_true rfl), (Nat.le_of_ble_eq_true rfl)⟩) (fun r28 S29 H locs h9 hle1 hG => ?_)
      replace h := h9
      clear h9
      have fa0 := gle_isA hle1 fa0
      have leS := leS.tr hle1
      exact giret hx hb hr hlocks hK hG leS h (Nat.le_of_ble_eq_true rfl) (Nat.le_of_ble_eq_true rfl) d_M_wind_37
  · replace h := h.1 hc33
    refine lv_aload_n hx hb d_M_wind_13 rfl (lv_at hl0 0 rfl) ?_
    refine lv_iconst (v := 1) hx hb d_M_wind_14 (by decide) ?_
    -- call M_no
    refine gci hK hG (va_runV (As := [.int 1]) (rest := []) ⟨hx, hb, hml, hown, hw⟩ (m_M_no l x S1 _ a0 1 fa0 h) ⟨gcb hw tw_1052 tw_43 tw_1049 hd_M_no rfl rfl ⟨(Nat.le_of_ble_eq_true rfl), (Nat.le_of_ble_eq_true rfl)⟩, hw _ tw_1051, hw _ tw_12⟩ (gpV hK hG kd_M fa0 rfl) rfl rfl hl0.1 rfl (lv_room (Nat.le_of_ble_eq_true rfl)) d_M_wind_15 ⟨(Nat.le_of_ble_eq_true rfl), (Nat.le_of_ble_eq_true rfl)⟩) (fun r31 S32 H locs h9 hle1 hG => ?_)
    replace h := h9
    clear h9
    have fa0 := gle_isA hle1 fa0
    have leS := leS.tr hle1
    exact giret hx hb hr hlocks hK hG leS h (Nat.le_of_ble_eq_true rfl) (Nat.le_of_ble_eq_true rfl) d_M_wind_18
def w_M_dancerTold (post : Int32 → St → Prop) (S : St) (a0 : Nat) (a1 : Int32) (a2 : Int32) : Prop :=
  ∀ (q1 : Nat) (S2 : St), q1 ∉ sL S → S2 = pNew S q1 10 12 → ∀ o4 : Option Nat, o4 = sQ S2 61 a0 → ∃ y5 : Nat, o4 = some y5 ∧ isA S2 7 y5 ∧ ∀ o7 : Option Nat, o7 = sQ S2 40 y5 → ∃ y8 : Nat, o7 = some y8 ∧ isA S2 10 y8 ∧ vp_in a1 (sN S2 y8) ∧ vp_in 0 (sN S2 q1) ∧ ∀ S12 : St, S12 = pR S2 q1 ((0 : Int32).toNatClampNeg) (sR S2 y8 a1.toNatClampNeg) → ∀ o13 : Option Nat, o13 = sQ S12 61 a0 → ∃ y14 : Nat, o13 = some y14 ∧ isA S12 7 y14 ∧ ∀ o16 : Option Nat, o16 = sQ S12 41 y14 → ∃ y17 : Nat, o16 = some y17 ∧ isA S12 10 y17 ∧ vp_in a1 (sN S12 y17) ∧ vp_in 1 (sN S12 q1) ∧ ∀ S21 : St, S21 = pR S12 q1 ((1 : Int32).toNatClampNeg) (sR S12 y17 a1.toNatClampNeg) → ∀ o22 : Option Nat, o22 = sQ S21 61 a0 → ∃ y23 : Nat, o22 = some y23 ∧ isA S21 7 y23 ∧ ∀ o25 : Option Nat, o25 = sQ S21 42 y23 → ∃ y26 : Nat, o25 = some y26 ∧ isA S21 10 y26 ∧ vp_in a1 (sN S21 y26) ∧ vp_in 2 (sN S21 q1) ∧ ∀ S30 : St, S30 = pR S21 q1 ((2 : Int32).toNatClampNeg) (sR S21 y26 a1.toNatClampNeg) → ∀ o31 : Option Nat, o31 = sQ S30 61 a0 → ∃ y32 : Nat, o31 = some y32 ∧ isA S30 7 y32 ∧ ∀ o34 : Option Nat, o34 = sQ S30 43 y32 → ∃ y35 : Nat, o34 = some y35 ∧ isA S30 10 y35 ∧ vp_in a1 (sN S30 y35) ∧ vp_in 3 (sN S30 q1) ∧ ∀ S39 : St, S39 = pR S30 q1 ((3 : Int32).toNatClampNeg) (sR S30 y35 a1.toNatClampNeg) → ∀ o40 : Option Nat, o40 = sQ S39 61 a0 → ∃ y41 : Nat, o40 = some y41 ∧ isA S39 7 y41 ∧ ∀ o43 : Option Nat, o43 = sQ S39 44 y41 → ∃ y44 : Nat, o43 = some y44 ∧ isA S39 10 y44 ∧ vp_in a1 (sN S39 y44) ∧ vp_in 4 (sN S39 q1) ∧ ∀ S48 : St, S48 = pR S39 q1 ((4 : Int32).toNatClampNeg) (sR S39 y44 a1.toNatClampNeg) → ∀ o49 : Option Nat, o49 = sQ S48 61 a0 → ∃ y50 : Nat, o49 = some y50 ∧ isA S48 7 y50 ∧ ∀ o52 : Option Nat, o52 = sQ S48 45 y50 → ∃ y53 : Nat, o52 = some y53 ∧ isA S48 10 y53 ∧ vp_in a1 (sN S48 y53) ∧ vp_in 5 (sN S48 q1) ∧ ∀ S57 : St, S57 = pR S48 q1 ((5 : Int32).toNatClampNeg) (sR S48 y53 a1.toNatClampNeg) → ∀ o58 : Option Nat, o58 = sQ S57 61 a0 → ∃ y59 : Nat, o58 = some y59 ∧ isA S57 7 y59 ∧ ∀ o61 : Option Nat, o61 = sQ S57 46 y59 → ∃ y62 : Nat, o61 = some y62 ∧ isA S57 10 y62 ∧ vp_in a1 (sN S57 y62) ∧ vp_in 6 (sN S57 q1) ∧ ∀ S66 : St, S66 = pR S57 q1 ((6 : Int32).toNatClampNeg) (sR S57 y62 a1.toNatClampNeg) → ∀ o67 : Option Nat, o67 = sQ S66 61 a0 → ∃ y68 : Nat, o67 = some y68 ∧ isA S66 7 y68 ∧ ∀ o70 : Option Nat, o70 = sQ S66 47 y68 → ∃ y71 : Nat, o70 = some y71 ∧ isA S66 10 y71 ∧ vp_in a1 (sN S66 y71) ∧ vp_in 7 (sN S66 q1) ∧ ∀ S75 : St, S75 = pR S66 q1 ((7 : Int32).toNatClampNeg) (sR S66 y71 a1.toNatClampNeg) → ∀ o76 : Option Nat, o76 = sQ S75 61 a0 → ∃ y77 : Nat, o76 = some y77 ∧ isA S75 7 y77 ∧ ∀ o79 : Option Nat, o79 = sQ S75 48 y77 → ∃ y80 : Nat, o79 = some y80 ∧ isA S75 11 y80 ∧ vp_in a1 (sN S75 y80) ∧ ∃ J122 : Int32 → Prop, (∀ (k3_122 : Int32), J122 k3_122 → vp_in 8 (sN S75 q1) ∧ ∀ S85 : St, S85 = pR S75 q1 ((8 : Int32).toNatClampNeg) k3_122 → ∀ o86 : Option Nat, o86 = sQ S85 61 a0 → ∃ y87 : Nat, o86 = some y87 ∧ isA S85 7 y87 ∧ ∀ o89 : Option Nat, o89 = sQ S85 49 y87 → ∃ y90 : Nat, o89 = some y90 ∧ isA S85 10 y90 ∧ vp_in a1 (sN S85 y90) ∧ vp_in 9 (sN S85 q1) ∧ ∀ S94 : St, S94 = pR S85 q1 ((9 : Int32).toNatClampNeg) (sR S85 y90 a1.toNatClampNeg) → ∀ o95 : Option Nat, o95 = sQ S94 61 a0 → ∃ y96 : Nat, o95 = some y96 ∧ isA S94 7 y96 ∧ ∀ o98 : Option Nat, o98 = sQ S94 50 y96 → ∃ y99 : Nat, o98 = some y99 ∧ isA S94 10 y99 ∧ vp_in a1 (sN S94 y99) ∧ vp_in 10 (sN S94 q1) ∧ ∀ S103 : St, S103 = pR S94 q1 ((10 : Int32).toNatClampNeg) (sR S94 y99 a1.toNatClampNeg) → ∀ o104 : Option Nat, o104 = sQ S103 61 a0 → ∃ y105 : Nat, o104 = some y105 ∧ isA S103 7 y105 ∧ ∀ o107 : Option Nat, o107 = sQ S103 51 y105 → ∃ y108 : Nat, o107 = some y108 ∧ isA S103 10 y108 ∧ vp_in a1 (sN S103 y108) ∧ vp_in 11 (sN S103 q1) ∧ ∀ S112 : St, S112 = pR S103 q1 ((11 : Int32).toNatClampNeg) (sR S103 y108 a1.toNatClampNeg) → vp_in a2 (sN S112 q1) ∧ post (sR S112 q1 a2.toNatClampNeg) S112) ∧ ((sR S75 y80 a1.toNatClampNeg) = 0 → J122 0) ∧ (¬ (sR S75 y80 a1.toNatClampNeg) = 0 → J122 1)
set_option maxHeartbeats 4000000 in
set_option maxRecDepth 100000 in
theorem m_M_dancerTold (l : Launch) (x : Cx) (S : St) (post : Int32 → St → Prop) (a0 : Nat) (a1 : Int32) (a2 : Int32) (fa0 : isA S 8 a0) (h : w_M_dancerTold post S a0 a1 a2) : Met l y_M_dancerTold [.code y_M_dancerTold c_M_dancerTold 4 (some .int)] { frames := 0, cells := 1, slots := 12, locals := 0 } (va_Pc [.ref a0, .int a1, .int a2] (GW x S)) (va_Qi post (gB x S) (xA x)) 1 12 (xA x) := by
  refine gMet (by decide +kernel) (Nat.le_of_ble_eq_true rfl) ?_
  intro p e s m args below meth c hx hb hr hown hlocks hin hw hK H locs hG ls hlA hml
  have hown : s.vm.findClass "WaltzHallModel" = some m.cls := hown
  have hl0 : lv_has ls 4 [(0, .ref a0), (1, .int a1), (2, .int a2)] := hlA
  have leS : gle S S := gle.rf
  unfold w_M_dancerTold at h
  refine lv_bipush (v := 12) hx hb d_M_dancerTold_0 (by decide) ?_
  refine gnewa (atype := .int) (N' := 12) (k := 10) (by decide) 1 hx hb hw hK hG tw_760 rfl (fun _ _ => rfl) rfl rfl (fun _ => rfl) (by decide) (Nat.le_of_ble_eq_true rfl) (Nat.le_of_ble_eq_true rfl) (Nat.le_of_ble_eq_true rfl) d_M_dancerTold_2 (fun q1 S2 H hqq1 eS2 hle1 hG => ?_)
  replace h := h q1 S2 hqq1 eS2
  have fa0 := gle_isA hle1 fa0
  have leS := leS.tr hle1
  have f3 : isA S2 10 q1 := by rw [eS2]; exact isA_new
  refine lv_dup hx hb d_M_dancerTold_4 rfl ?_
  refine lv_iconst (v := 0) hx hb d_M_dancerTold_5 (by decide) ?_
  refine lv_aload_n hx hb d_M_dancerTold_6 rfl (lv_at hl0 0 rfl) ?_
  refine gget hx hb hw hown hK hG kd_M fa0 rfl 5 (by decide) rfl tw_1024 (fun _ h9 => h9) d_M_dancerTold_7 ?_
  refine gtopq (fun o4 eo4 => ?_)
  replace h := h o4 eo4
  obtain ⟨y5, ey5, h⟩ := h
  subst ey5
  obtain ⟨f6, h⟩ := h
  refine ggetN hx hb hw hown hK hG kd_S f6 rfl 2 (by decide) rfl tw_945 (fun _ h9 => h9) d_M_dancerTold_10 ?_
  refine gtopq (fun o7 eo7 => ?_)
  replace h := h o7 eo7
  refine lv_iload_n hx hb d_M_dancerTold_13 rfl (lv_at hl0 1 rfl) ?_
  obtain ⟨y8, ey8, h⟩ := h
  subst ey8
  obtain ⟨f9, h⟩ := h
  obtain ⟨hi10, h⟩ := h
  refine giald hx hb hK hG f9 hi10 d_M_dancerTold_14 ?_
  obtain ⟨hi11, h⟩ := h
  refine giast hx hb hK hG f3 hi11 d_M_dancerTold_15 (fun S12 H locs eS12 hle1 hG => ?_)
  replace h := h S12 eS12
  have fa0 := gle_isA hle1 fa0
  have f3 := gle_isA hle1 f3
  have f6 := gle_isA hle1 f6
  have f9 := gle_isA hle1 f9
  have leS := leS.tr hle1
  refine lv_dup hx hb d_M_dancerTold_16 rfl ?_
  refine lv_iconst (v := 1) hx hb d_M_dancerTold_17 (by decide) ?_
  refine lv_aload_n hx hb d_M_dancerTold_18 rfl (lv_at hl0 0 rfl) ?_
  refine gget hx hb hw hown hK hG kd_M fa0 rfl 5 (by decide) rfl tw_1024 (fun _ h9 => h9) d_M_dancerTold_19 ?_
  refine gtopq (fun o13 eo13 => ?_)
  replace h := h o13 eo13
  obtain ⟨y14, ey14, h⟩ := h
  subst ey14
  obtain ⟨f15, h⟩ := h
  refine ggetN hx hb hw hown hK hG kd_S f15 rfl 3 (by decide) rfl tw_947 (fun _ h9 => h9) d_M_dancerTold_22 ?_
  refine gtopq (fun o16 eo16 => ?_)
  replace h := h o16 eo16
  refine lv_iload_n hx hb d_M_dancerTold_25 rfl (lv_at hl0 1 rfl) ?_
  obtain ⟨y17, ey17, h⟩ := h
  subst ey17
  obtain ⟨f18, h⟩ := h
  obtain ⟨hi19, h⟩ := h
  refine giald hx hb hK hG f18 hi19 d_M_dancerTold_26 ?_
  obtain ⟨hi20, h⟩ := h
  refine giast hx hb hK hG f3 hi20 d_M_dancerTold_27 (fun S21 H locs eS21 hle1 hG => ?_)
  replace h := h S21 eS21
  have fa0 := gle_isA hle1 fa0
  have f3 := gle_isA hle1 f3
  have f6 := gle_isA hle1 f6
  have f9 := gle_isA hle1 f9
  have f15 := gle_isA hle1 f15
  have f18 := gle_isA hle1 f18
  have leS := leS.tr hle1
  refine lv_dup hx hb d_M_dancerTold_28 rfl ?_
  refine lv_iconst (v := 2) hx hb d_M_dancerTold_29 (by decide) ?_
  refine lv_aload_n hx hb d_M_dancerTold_30 rfl (lv_at hl0 0 rfl) ?_
  refine gget hx hb hw hown hK hG kd_M fa0 rfl 5 (by decide) rfl tw_1024 (fun _ h9 => h9) d_M_dancerTold_31 ?_
  refine gtopq (fun o22 eo22 => ?_)
  replace h := h o22 eo22
  obtain ⟨y23, ey23, h⟩ := h
  subst ey23
  obtain ⟨f24, h⟩ := h
  refine ggetN hx hb hw hown hK hG kd_S f24 rfl 4 (by decide) rfl tw_949 (fun _ h9 => h9) d_M_dancerTold_34 ?_
  refine gtopq (fun o25 eo25 => ?_)
  replace h := h o25 eo25
  refine lv_iload_n hx hb d_M_dancerTold_37 rfl (lv_at hl0 1 rfl) ?_
  obtain ⟨y26, ey26, h⟩ := h
  subst ey26
  obtain ⟨f27, h⟩ := h
  obtain ⟨hi28, h⟩ := h
  refine giald hx hb hK hG f27 hi28 d_M_dancerTold_38 ?_
  obtain ⟨hi29, h⟩ := h
  refine giast hx hb hK hG f3 hi29 d_M_dancerTold_39 (fun S30 H locs eS30 hle1 hG => ?_)
  replace h := h S30 eS30
  have fa0 := gle_isA hle1 fa0
  have f3 := gle_isA hle1 f3
  have f6 := gle_isA hle1 f6
  have f9 := gle_isA hle1 f9
  have f15 := gle_isA hle1 f15
  have f18 := gle_isA hle1 f18
  have f24 := gle_isA hle1 f24
  have f27 := gle_isA hle1 f27
  have leS := leS.tr hle1
  refine lv_dup hx hb d_M_dancerTold_40 rfl ?_
  refine lv_iconst (v := 3) hx hb d_M_dancerTold_41 (by decide) ?_
  refine lv_aload_n hx hb d_M_dancerTold_42 rfl (lv_at hl0 0 rfl) ?_
  refine gget hx hb hw hown hK hG kd_M fa0 rfl 5 (by decide) rfl tw_1024 (fun _ h9 => h9) d_M_dancerTold_43 ?_
  refine gtopq (fun o31 eo31 => ?_)
  replace h := h o31 eo31
  obtain ⟨y32, ey32, h⟩ := h
  subst ey32
  obtain ⟨f33, h⟩ := h
  refine ggetN hx hb hw hown hK hG kd_S f33 rfl 5 (by decide) rfl tw_951 (fun _ h9 => h9) d_M_dancerTold_46 ?_
  refine gtopq (fun o34 eo34 => ?_)
  replace h := h o34 eo34
  refine lv_iload_n hx hb d_M_dancerTold_49 rfl (lv_at hl0 1 rfl) ?_
  obtain ⟨y35, ey35, h⟩ := h
  subst ey35
  obtain ⟨f36, h⟩ := h
  obtain ⟨hi37, h⟩ := h
  refine giald hx hb hK hG f36 hi37 d_M_dancerTold_50 ?_
  obtain ⟨hi38, h⟩ := h
  refine giast hx hb hK hG f3 hi38 d_M_dancerTold_51 (fun S39 H locs eS39 hle1 hG => ?_)
  replace h := h S39 eS39
  have fa0 := gle_isA hle1 fa0
  have f3 := gle_isA hle1 f3
  have f6 := gle_isA hle1 f6
  have f9 := gle_isA hle1 f9
  have f15 := gle_isA hle1 f15
  have f18 := gle_isA hle1 f18
  have f24 := gle_isA hle1 f24
  have f27 := gle_isA hle1 f27
  have f33 := gle_isA hle1 f33
  have f36 := gle_isA hle1 f36
  have leS := leS.tr hle1
  refine lv_dup hx hb d_M_dancerTold_52 rfl ?_
  refine lv_iconst (v := 4) hx hb d_M_dancerTold_53 (by decide) ?_
  refine lv_aload_n hx hb d_M_dancerTold_54 rfl (lv_at hl0 0 rfl) ?_
  refine gget hx hb hw hown hK hG kd_M fa0 rfl 5 (by decide) rfl tw_1024 (fun _ h9 => h9) d_M_dancerTold_55 ?_
  refine gtopq (fun o40 eo40 => ?_)
  replace h := h o40 eo40
  obtain ⟨y41, ey41, h⟩ := h
  subst ey41
  obtain ⟨f42, h⟩ := h
  refine ggetN hx hb hw hown hK hG kd_S f42 rfl 6 (by decide) rfl tw_953 (fun _ h9 => h9) d_M_dancerTold_58 ?_
  refine gtopq (fun o43 eo43 => ?_)
  replace h := h o43 eo43
  refine lv_iload_n hx hb d_M_dancerTold_61 rfl (lv_at hl0 1 rfl) ?_
  obtain ⟨y44, ey44, h⟩ := h
  subst ey44
  obtain ⟨f45, h⟩ := h
  obtain ⟨hi46, h⟩ := h
  refine giald hx hb hK hG f45 hi46 d_M_dancerTold_62 ?_
  obtain ⟨hi47, h⟩ := h
  refine giast hx hb hK hG f3 hi47 d_M_dancerTold_63 (fun S48 H locs eS48 hle1 hG => ?_)
  replace h := h S48 eS48
  have fa0 := gle_isA hle1 fa0
  have f3 := gle_isA hle1 f3
  have f6 := gle_isA hle1 f6
  have f9 := gle_isA hle1 f9
  have f15 := gle_isA hle1 f15
  have f18 := gle_isA hle1 f18
  have f24 := gle_isA hle1 f24
  have f27 := gle_isA hle1 f27
  have f33 := gle_isA hle1 f33
  have f36 := gle_isA hle1 f36
  have f42 := gle_isA hle1 f42
  have f45 := gle_isA hle1 f45
  have leS := leS.tr hle1
  refine lv_dup hx hb d_M_dancerTold_64 rfl ?_
  refine lv_iconst (v := 5) hx hb d_M_dancerTold_65 (by decide) ?_
  refine lv_aload_n hx hb d_M_dancerTold_66 rfl (lv_at hl0 0 rfl) ?_
  refine gget hx hb hw hown hK hG kd_M fa0 rfl 5 (by decide) rfl tw_1024 (fun _ h9 => h9) d_M_dancerTold_67 ?_
  refine gtopq (fun o49 eo49 => ?_)
  replace h := h o49 eo49
  obtain ⟨y50, ey50, h⟩ := h
  subst ey50
  obtain ⟨f51, h⟩ := h
  refine ggetN hx hb hw hown hK hG kd_S f51 rfl 7 (by decide) rfl tw_955 (fun _ h9 => h9) d_M_dancerTold_70 ?_
  refine gtopq (fun o52 eo52 => ?_)
  replace h := h o52 eo52
  refine lv_iload_n hx hb d_M_dancerTold_73 rfl (lv_at hl0 1 rfl) ?_
  obtain ⟨y53, ey53, h⟩ := h
  subst ey53
  obtain ⟨f54, h⟩ := h
  obtain ⟨hi55, h⟩ := h
  refine giald hx hb hK hG f54 hi55 d_M_dancerTold_74 ?_
  obtain ⟨hi56, h⟩ := h
  refine giast hx hb hK hG f3 hi56 d_M_dancerTold_75 (fun S57 H locs eS57 hle1 hG => ?_)
  replace h := h S57 eS57
  have fa0 := gle_isA hle1 fa0
  have f3 := gle_isA hle1 f3
  have f6 := gle_isA hle1 f6
  have f9 := gle_isA hle1 f9
  have f15 := gle_isA hle1 f15
  have f18 := gle_isA hle1 f18
  have f24 := gle_isA hle1 f24
  have f27 := gle_isA hle1 f27
  have f33 := gle_isA hle1 f33
  have f36 := gle_isA hle1 f36
  have f42 := gle_isA hle1 f42
  have f45 := gle_isA hle1 f45
  have f51 := gle_isA hle1 f51
  have f54 := gle_isA hle1 f54
  have leS := leS.tr hle1
  refine lv_dup hx hb d_M_dancerTold_76 rfl ?_
  refine lv_bipush (v := 6) hx hb d_M_dancerTold_77 (by decide) ?_
  refine lv_aload_n hx hb d_M_dancerTold_79 rfl (lv_at hl0 0 rfl) ?_
  refine gget hx hb hw hown hK hG kd_M fa0 rfl 5 (by decide) rfl tw_1024 (fun _ h9 => h9) d_M_dancerTold_80 ?_
  refine gtopq (fun o58 eo58 => ?_)
  replace h := h o58 eo58
  obtain ⟨y59, ey59, h⟩ := h
  subst ey59
  obtain ⟨f60, h⟩ := h
  refine ggetN hx hb hw hown hK hG kd_S f60 rfl 8 (by decide) rfl tw_957 (fun _ h9 => h9) d_M_dancerTold_83 ?_
  refine gtopq (fun o61 eo61 => ?_)
  replace h := h o61 eo61
  refine lv_iload_n hx hb d_M_dancerTold_86 rfl (lv_at hl0 1 rfl) ?_
  obtain ⟨y62, ey62, h⟩ := h
  subst ey62
  obtain ⟨f63, h⟩ := h
  obtain ⟨hi64, h⟩ := h
  refine giald hx hb hK hG f63 hi64 d_M_dancerTold_87 ?_
  obtain ⟨hi65, h⟩ := h
  refine giast hx hb hK hG f3 hi65 d_M_dancerTold_88 (fun S66 H locs eS66 hle1 hG => ?_)
  replace h := h S66 eS66
  have fa0 := gle_isA hle1 fa0
  have f3 := gle_isA hle1 f3
  have f6 := gle_isA hle1 f6
  have f9 := gle_isA hle1 f9
  have f15 := gle_isA hle1 f15
  have f18 := gle_isA hle1 f18
  have f24 := gle_isA hle1 f24
  have f27 := gle_isA hle1 f27
  have f33 := gle_isA hle1 f33
  have f36 := gle_isA hle1 f36
  have f42 := gle_isA hle1 f42
  have f45 := gle_isA hle1 f45
  have f51 := gle_isA hle1 f51
  have f54 := gle_isA hle1 f54
  have f60 := gle_isA hle1 f60
  have f63 := gle_isA hle1 f63
  have leS := leS.tr hle1
  refine lv_dup hx hb d_M_dancerTold_89 rfl ?_
  refine lv_bipush (v := 7) hx hb d_M_dancerTold_90 (by decide) ?_
  refine lv_aload_n hx hb d_M_dancerTold_92 rfl (lv_at hl0 0 rfl) ?_
  refine gget hx hb hw hown hK hG kd_M fa0 rfl 5 (by decide) rfl tw_1024 (fun _ h9 => h9) d_M_dancerTold_93 ?_
  refine gtopq (fun o67 eo67 => ?_)
  replace h := h o67 eo67
  obtain ⟨y68, ey68, h⟩ := h
  subst ey68
  obtain ⟨f69, h⟩ := h
  refine ggetN hx hb hw hown hK hG kd_S f69 rfl 9 (by decide) rfl tw_959 (fun _ h9 => h9) d_M_dancerTold_96 ?_
  refine gtopq (fun o70 eo70 => ?_)
  replace h := h o70 eo70
  refine lv_iload_n hx hb d_M_dancerTold_99 rfl (lv_at hl0 1 rfl) ?_
  obtain ⟨y71, ey71, h⟩ := h
  subst ey71
  obtain ⟨f72, h⟩ := h
  obtain ⟨hi73, h⟩ := h
  refine giald hx hb hK hG f72 hi73 d_M_dancerTold_100 ?_
  obtain ⟨hi74, h⟩ := h
  refine giast hx hb hK hG f3 hi74 d_M_dancerTold_101 (fun S75 H locs eS75 hle1 hG => ?_)
  replace h := h S75 eS75
  have fa0 := gle_isA hle1 fa0
  have f3 := gle_isA hle1 f3
  have f6 := gle_isA hle1 f6
  have f9 := gle_isA hle1 f9
  have f15 := gle_isA hle1 f15
  have f18 := gle_isA hle1 f18
  have f24 := gle_isA hle1 f24
  have f27 := gle_isA hle1 f27
  have f33 := gle_isA hle1 f33
  have f36 := gle_isA hle1 f36
  have f42 := gle_isA hle1 f42
  have f45 := gle_isA hle1 f45
  have f51 := gle_isA hle1 f51
  have f54 := gle_isA hle1 f54
  have f60 := gle_isA hle1 f60
  have f63 := gle_isA hle1 f63
  have f69 := gle_isA hle1 f69
  have f72 := gle_isA hle1 f72
  have leS := leS.tr hle1
  refine lv_dup hx hb d_M_dancerTold_102 rfl ?_
  refine lv_bipush (v := 8) hx hb d_M_dancerTold_103 (by decide) ?_
  refine lv_aload_n hx hb d_M_dancerTold_105 rfl (lv_at hl0 0 rfl) ?_
  refine gget hx hb hw hown hK hG kd_M fa0 rfl 5 (by decide) rfl tw_1024 (fun _ h9 => h9) d_M_dancerTold_106 ?_
  refine gtopq (fun o76 eo76 => ?_)
  replace h := h o76 eo76
  obtain ⟨y77, ey77, h⟩ := h
  subst ey77
  obtain ⟨f78, h⟩ := h
  refine ggetN hx hb hw hown hK hG kd_S f78 rfl 10 (by decide) rfl tw_961 (fun _ h9 => h9) d_M_dancerTold_109 ?_
  refine gtopq (fun o79 eo79 => ?_)
  replace h := h o79 eo79
  refine lv_iload_n hx hb d_M_dancerTold_112 rfl (lv_at hl0 1 rfl) ?_
  obtain ⟨y80, ey80, h⟩ := h
  subst ey80
  obtain ⟨f81, h⟩ := h
  obtain ⟨hi82, h⟩ := h
  refine gzald hx hb hK hG f81 hi82 d_M_dancerTold_113 ?_
  have leS75 : gle S75 S75 := gle.rf
  obtain ⟨J122, hJ122, h⟩ := h
  have k122 : ∀ (k3_122 : Int32) (H : Heap) (locs : List Loc) (ls : Array Slot), GH x S75 s H locs → lv_has ls 4 [(0, .ref a0), (1, .int a1), (2, .int a2)] → J122 k3_122 → W p l e { frames := 0, cells := 1, slots := 12, locals := 0 } s m args below meth c H locs 1 12 (MQ below (va_Qi post (gB x S) (xA x)) args s 1 12 (xA x)) (F0 m 122 ls [.int k3_122, .int 8, .ref q1, .ref q1]) := by
    intro k3_122  H locs ls hG hl83 hj
    replace h := hJ122 k3_122 hj
    obtain ⟨hi84, h⟩ := h
    refine giast hx hb hK hG f3 hi84 d_M_dancerTold_122 (fun S85 H locs eS85 hle1 hG => ?_)
    replace h := h S85 eS85
    have fa0 := gle_isA hle1 fa0
    have f3 := gle_isA hle1 f3
    have f6 := gle_isA hle1 f6
    have f9 := gle_isA hle1 f9
    have f15 := gle_isA hle1 f15
    have f18 := gle_isA hle1 f18
    have f24 := gle_isA hle1 f24
    have f27 := gle_isA hle1 f27
    have f33 := gle_isA hle1 f33
    have f36 := gle_isA hle1 f36
    have f42 := gle_isA hle1 f42
    have f45 := gle_isA hle1 f45
    have f51 := gle_isA hle1 f51
    have f54 := gle_isA hle1 f54
    have f60 := gle_isA hle1 f60
    have f63 := gle_isA hle1 f63
    have f69 := gle_isA hle1 f69
    have f72 := gle_isA hle1 f72
    have f78 := gle_isA hle1 f78
    have f81 := gle_isA hle1 f81
    have leS := leS.tr hle1
    have leS75 := leS75.tr hle1
    refine lv_dup hx hb d_M_dancerTold_123 rfl ?_
    refine lv_bipush (v := 9) hx hb d_M_dancerTold_124 (by decide) ?_
    refine lv_aload_n hx hb d_M_dancerTold_126 rfl (lv_at hl83 0 rfl) ?_
    refine gget hx hb hw hown hK hG kd_M fa0 rfl 5 (by decide) rfl tw_1024 (fun _ h9 => h9) d_M_dancerTold_127 ?_
    refine gtopq (fun o86 eo86 => ?_)
    replace h := h o86 eo86
    obtain ⟨y87, ey87, h⟩ := h
    subst ey87
    obtain ⟨f88, h⟩ := h
    refine ggetN hx hb hw hown hK hG kd_S f88 rfl 11 (by decide) rfl tw_963 (fun _ h9 => h9) d_M_dancerTold_130 ?_
    refine gtopq (fun o89 eo89 => ?_)
    replace h := h o89 eo89
    refine lv_iload_n hx hb d_M_dancerTold_133 rfl (lv_at hl83 1 rfl) ?_
    obtain ⟨y90, ey90, h⟩ := h
    subst ey90
    obtain ⟨f91, h⟩ := h
    obtain ⟨hi92, h⟩ := h
    refine giald hx hb hK hG f91 hi92 d_M_dancerTold_134 ?_
    obtain ⟨hi93, h⟩ := h
    refine giast hx hb hK hG f3 hi93 d_M_dancerTold_135 (fun S94 H locs eS94 hle1 hG => ?_)
    replace h := h S94 eS94
    have fa0 := gle_isA hle1 fa0
    have f3 := gle_isA hle1 f3
    have f6 := gle_isA hle1 f6
    have f9 := gle_isA hle1 f9
    have f15 := gle_isA hle1 f15
    have f18 := gle_isA hle1 f18
    have f24 := gle_isA hle1 f24
    have f27 := gle_isA hle1 f27
    have f33 := gle_isA hle1 f33
    have f36 := gle_isA hle1 f36
    have f42 := gle_isA hle1 f42
    have f45 := gle_isA hle1 f45
    have f51 := gle_isA hle1 f51
    have f54 := gle_isA hle1 f54
    have f60 := gle_isA hle1 f60
    have f63 := gle_isA hle1 f63
    have f69 := gle_isA hle1 f69
    have f72 := gle_isA hle1 f72
    have f78 := gle_isA hle1 f78
    have f81 := gle_isA hle1 f81
    have f88 := gle_isA hle1 f88
    have f91 := gle_isA hle1 f91
    have leS := leS.tr hle1
    have leS75 := leS75.tr hle1
    refine lv_dup hx hb d_M_dancerTold_136 rfl ?_
    refine lv_bipush (v := 10) hx hb d_M_dancerTold_137 (by decide) ?_
    refine lv_aload_n hx hb d_M_dancerTold_139 rfl (lv_at hl83 0 rfl) ?_
    refine gget hx hb hw hown hK hG kd_M fa0 rfl 5 (by decide) rfl tw_1024 (fun _ h9 => h9) d_M_dancerTold_140 ?_
    refine gtopq (fun o95 eo95 => ?_)
    replace h := h o95 eo95
    obtain ⟨y96, ey96, h⟩ := h
    subst ey96
    obtain ⟨f97, h⟩ := h
    refine ggetN hx hb hw hown hK hG kd_S f97 rfl 12 (by decide) rfl tw_965 (fun _ h9 => h9) d_M_dancerTold_143 ?_
    refine gtopq (fun o98 eo98 => ?_)
    replace h := h o98 eo98
    refine lv_iload_n hx hb d_M_dancerTold_146 rfl (lv_at hl83 1 rfl) ?_
    obtain ⟨y99, ey99, h⟩ := h
    subst ey99
    obtain ⟨f100, h⟩ := h
    obtain ⟨hi101, h⟩ := h
    refine giald hx hb hK hG f100 hi101 d_M_dancerTold_147 ?_
    obtain ⟨hi102, h⟩ := h
    refine giast hx hb hK hG f3 hi102 d_M_dancerTold_148 (fun S103 H locs eS103 hle1 hG => ?_)
    replace h := h S103 eS103
    have fa0 := gle_isA hle1 fa0
    have f3 := gle_isA hle1 f3
    have f6 := gle_isA hle1 f6
    have f9 := gle_isA hle1 f9
    have f15 := gle_isA hle1 f15
    have f18 := gle_isA hle1 f18
    have f24 := gle_isA hle1 f24
    have f27 := gle_isA hle1 f27
    have f33 := gle_isA hle1 f33
    have f36 := gle_isA hle1 f36
    have f42 := gle_isA hle1 f42
    have f45 := gle_isA hle1 f45
    have f51 := gle_isA hle1 f51
    have f54 := gle_isA hle1 f54
    have f60 := gle_isA hle1 f60
    have f63 := gle_isA hle1 f63
    have f69 := gle_isA hle1 f69
    have f72 := gle_isA hle1 f72
    have f78 := gle_isA hle1 f78
    have f81 := gle_isA hle1 f81
    have f88 := gle_isA hle1 f88
    have f91 := gle_isA hle1 f91
    have f97 := gle_isA hle1 f97
    have f100 := gle_isA hle1 f100
    have leS := leS.tr hle1
    have leS75 := leS75.tr hle1
    refine lv_dup hx hb d_M_dancerTold_149 rfl ?_
    refine lv_bipush (v := 11) hx hb d_M_dancerTold_150 (by decide) ?_
    refine lv_aload_n hx hb d_M_dancerTold_152 rfl (lv_at hl83 0 rfl) ?_
    refine gget hx hb hw hown hK hG kd_M fa0 rfl 5 (by decide) rfl tw_1024 (fun _ h9 => h9) d_M_dancerTold_153 ?_
    refine gtopq (fun o104 eo104 => ?_)
    replace h := h o104 eo104
    obtain ⟨y105, ey105, h⟩ := h
    subst ey105
    obtain ⟨f106, h⟩ := h
    refine ggetN hx hb hw hown hK hG kd_S f106 rfl 13 (by decide) rfl tw_967 (fun _ h9 => h9) d_M_dancerTold_156 ?_
    refine gtopq (fun o107 eo107 => ?_)
    replace h := h o107 eo107
    refine lv_iload_n hx hb d_M_dancerTold_159 rfl (lv_at hl83 1 rfl) ?_
    obtain ⟨y108, ey108, h⟩ := h
    subst ey108
    obtain ⟨f109, h⟩ := h
    obtain ⟨hi110, h⟩ := h
    refine giald hx hb hK hG f109 hi110 d_M_dancerTold_160 ?_
    obtain ⟨hi111, h⟩ := h
    refine giast hx hb hK hG f3 hi111 d_M_dancerTold_161 (fun S112 H locs eS112 hle1 hG => ?_)
    replace h := h S112 eS112
    have fa0 := gle_isA hle1 fa0
    have f3 := gle_isA hle1 f3
    have f6 := gle_isA hle1 f6
    have f9 := gle_isA hle1 f9
    have f15 := gle_isA hle1 f15
    have f18 := gle_isA hle1 f18
    have f24 := gle_isA hle1 f24
    have f27 := gle_isA hle1 f27
    have f33 := gle_isA hle1 f33
    have f36 := gle_isA hle1 f36
    have f42 := gle_isA hle1 f42
    have f45 := gle_isA hle1 f45
    have f51 := gle_isA hle1 f51
    have f54 := gle_isA hle1 f54
    have f60 := gle_isA hle1 f60
    have f63 := gle_isA hle1 f63
    have f69 := gle_isA hle1 f69
    have f72 := gle_isA hle1 f72
    have f78 := gle_isA hle1 f78
    have f81 := gle_isA hle1 f81
    have f88 := gle_isA hle1 f88
    have f91 := gle_isA hle1 f91
    have f97 := gle_isA hle1 f97
    have f100 := gle_isA hle1 f100
    have f106 := gle_isA hle1 f106
    have f109 := gle_isA hle1 f109
    have leS := leS.tr hle1
    have leS75 := leS75.tr hle1
    refine lv_astore_n (i := 3) (lv' := [(3, .ref q1), (0, .ref a0), (1, .int a1), (2, .int a2)]) hx hb d_M_dancerTold_162 rfl hl83 (by decide) rfl (fun ls hl113 => ?_)
    refine lv_aload_n hx hb d_M_dancerTold_163 rfl (lv_at hl113 0 rfl) ?_
    refine lv_iload_n hx hb d_M_dancerTold_164 rfl (lv_at hl113 3 rfl) ?_
    obtain ⟨hi114, h⟩ := h
    refine giald hx hb hK hG f3 hi114 d_M_dancerTold_165 ?_
    exact giret hx hb hr hlocks hK hG leS h (Nat.le_of_ble_eq_true rfl) (Nat.le_of_ble_eq_true rfl) d_M_dancerTold_166
  refine lv_if_eq (tgt := 121) hx hb d_M_dancerTold_114 (by decide) (fun hc115 => ?_) (fun hc115 => ?_)
  · replace h := h.1 hc115
    refine lv_iconst (v := 0) hx hb d_M_dancerTold_121 (by decide) ?_
    exact k122 0 H locs ls hG (lv_sub hl0 [0, 1, 2] rfl) h
  · replace h := h.2 hc115
    refine lv_iconst (v := 1) hx hb d_M_dancerTold_117 (by decide) ?_
    refine lv_goto (tgt := 122) hx hb d_M_dancerTold_118 (by decide) ?_
    exact k122 1 H locs ls hG (lv_sub hl0 [0, 1, 2] rfl) h
def w_M_dancer (post : Int32 → St → Prop) (S : St) (a0 : Nat) (a1 : Int32) (a2 : Int32) : Prop :=
  ∀ S1 : St, S1 = pI S 56 a0 0 → w_M_isDancer (fun (r2 : Int32) => ∃ J32 : Prop, (J32 → w_M_no (fun (r4 : Int32) (S5 : St) => post r4 S5) S1 a0 1) ∧ (r2 = 0 → J32) ∧ (¬ r2 = 0 → w_M_isIn (fun (r6 : Int32) => (r6 = 0 → J32) ∧ (¬ r6 = 0 → w_M_dancerTold (fun (r7 : Int32) (S8 : St) => post r7 S8) S1 a0 a1 a2)) S1 a2 0 11)) S1 a0 a1
set_option maxHeartbeats 4000000 in
set_option maxRecDepth 100000 in
theorem m_M_dancer (l : Launch) (x : Cx) (S : St) (post : Int32 → St → Prop) (a0 : Nat) (a1 : Int32) (a2 : Int32) (fa0 : isA S 8 a0) (h : w_M_dancer post S a0 a1 a2) : Met l y_M_dancer [.code y_M_dancer c_M_dancer 3 (some .int)] { frames := 2, cells := 1, slots := 12, locals := 43 } (va_Pc [.ref a0, .int a1, .int a2] (GW x S)) (va_Qi post (gB x S) (xA x)) 1 12 (xA x) := by
  refine gMet (by decide +kernel) (Nat.le_of_ble_eq_true rfl) ?_
  intro p e s m args below meth c hx hb hr hown hlocks hin hw hK H locs hG ls hlA hml
  have hown : s.vm.findClass "WaltzHallModel" = some m.cls := hown
  have hl0 : lv_has ls 3 [(0, .ref a0), (1, .int a1), (2, .int a2)] := hlA
  have leS : gle S S := gle.rf
  unfold w_M_dancer at h
  refine lv_aload_n hx hb d_M_dancer_0 rfl (lv_at hl0 0 rfl) ?_
  refine lv_iconst (v := 0) hx hb d_M_dancer_1 (by decide) ?_
  refine gput (S' := pI S 56 a0 0) hx hb hw hown hK hG kd_M fa0 rfl 0 (by decide) (gChI fa0 rfl) tw_1017 (fun _ h9 => h9) rfl rfl rfl rfl (Nat.le_of_ble_eq_true rfl) d_M_dancer_2 (fun S1 H locs eS1 hle1 hG => ?_)
  replace h := h S1 eS1
  have fa0 := gle_isA hle1 fa0
  have leS := leS.tr hle1
  refine lv_aload_n hx hb d_M_dancer_5 rfl (lv_at hl0 0 rfl) ?_
  refine lv_iload_n hx hb d_M_dancer_6 rfl (lv_at hl0 1 rfl) ?_
  -- call M_isDancer
  refine gpi hK hG (va_runV (As := [.int a1]) (rest := []) ⟨hx, hb, hml, hown, hw⟩ (m_M_isDancer l x S1 _ a0 a1 fa0 h) ⟨gcb hw tw_1096 tw_43 tw_1093 hd_M_isDancer rfl rfl ⟨(Nat.le_of_ble_eq_true rfl), (Nat.le_of_ble_eq_true rfl)⟩, hw _ tw_1095, hw _ tw_13⟩ (gpV hK hG kd_M fa0 rfl) rfl rfl hl0.1 rfl (lv_room (Nat.le_of_ble_eq_true rfl)) d_M_dancer_7 ⟨(Nat.le_of_ble_eq_true rfl), (Nat.le_of_ble_eq_true rfl)⟩) (fun r2 H locs h9 hG => ?_)
  replace h := h9
  clear h9
  have leS1 : gle S1 S1 := gle.rf
  obtain ⟨J32, hJ32, h⟩ := h
  have k32 : ∀ (H : Heap) (locs : List Loc) (ls : Array Slot), GH x S1 s H locs → lv_has ls 3 [(0, .ref a0)] → J32 → W p l e { frames := 2, cells := 1, slots := 12, locals := 43 } s m args below meth c H locs 0 0 (MQ below (va_Qi post (gB x S) (xA x)) args s 1 12 (xA x)) (F0 m 32 ls []) := by
    intro  H locs ls hG hl3 hj
    replace h := hJ32 hj
    refine lv_aload_n hx hb d_M_dancer_32 rfl (lv_at hl3 0 rfl) ?_
    refine lv_iconst (v := 1) hx hb d_M_dancer_33 (by decide) ?_
    -- call M_no
    refine gci hK hG (va_runV (As := [.int 1]) (rest := []) ⟨hx, hb, hml, hown, hw⟩ (m_M_no l x S1 _ a0 1 fa0 h) ⟨gcb hw tw_1052 tw_43 tw_1049 hd_M_no rfl rfl ⟨(Nat.le_of_ble_eq_true rfl), (Nat.le_of_ble_eq_true rfl)⟩, hw _ tw_1051, hw _ tw_12⟩ (gpV hK hG kd_M fa0 rfl) rfl rfl hl3.1 rfl (lv_room (Nat.le_of_ble_eq_true rfl)) d_M_dancer_34 ⟨(Nat.le_of_ble_eq_true rfl), (Nat.le_of_ble_eq_true rfl)⟩) (fun r4 S5 H locs h9 hle1 hG => ?_)
    replace h := h9
    clear h9
    have fa0 := gle_isA hle1 fa0
    have leS := leS.tr hle1
    have leS1 := leS1.tr hle1
    exact giret hx hb hr hlocks hK hG leS h (Nat.le_of_ble_eq_true rfl) (Nat.le_of_ble_eq_true rfl) d_M_dancer_37
  refine lv_if_eq (tgt := 32) hx hb d_M_dancer_10 (by decide) (fun hc10 => ?_) (fun hc10 => ?_)
  · replace h := h.1 hc10
    exact k32 H locs ls hG (lv_sub hl0 [0] rfl) h
  · replace h := h.2 hc10
    refine lv_iload_n hx hb d_M_dancer_13 rfl (lv_at hl0 2 rfl) ?_
    refine lv_iconst (v := 0) hx hb d_M_dancer_14 (by decide) ?_
    refine lv_bipush (v := 11) hx hb d_M_dancer_15 (by decide) ?_
    -- call M_isIn
    refine gpi hK hG (va_runS (As := [.int a2, .int 0, .int 11]) (rest := []) ⟨hx, hb, hml, hown, hw⟩ (m_M_isIn l x S1 _ a2 0 11  h) ⟨gcb hw tw_1059 tw_43 tw_1057 hd_M_isIn rfl rfl ⟨(Nat.le_of_ble_eq_true rfl), (Nat.le_of_ble_eq_true rfl)⟩, hw _ tw_1058⟩ (gpS hK hG) rfl rfl hl0.1 rfl (lv_room (Nat.le_of_ble_eq_true rfl)) d_M_dancer_17 ⟨(Nat.le_of_ble_eq_true rfl), (Nat.le_of_ble_eq_true rfl)⟩) (fun r6 H locs h9 hG => ?_)
    replace h := h9
    clear h9
    refine lv_if_eq (tgt := 32) hx hb d_M_dancer_20 (by decide) (fun hc9 => ?_) (fun hc9 => ?_)
    · replace h := h.1 hc9
      exact k32 H locs ls hG (lv_sub hl0 [0] rfl) h
    · replace h := h.2 hc9
      refine lv_aload_n hx hb d_M_dancer_23 rfl (lv_at hl0 0 rfl) ?_
      refine lv_iload_n hx hb d_M_dancer_24 rfl (lv_at hl0 1 rfl) ?_
      refine lv_iload_n hx hb d_M_dancer_25 rfl (lv_at hl0 2 rfl) ?_
      -- call M_dancerTold
      refine gci hK hG (va_runV (As := [.int a1, .int a2]) (rest := []) ⟨hx, hb, hml, hown, hw⟩ (m_M_dancerTold l x S1 _ a0 a1 a2 fa0 h) ⟨gcb hw tw_1131 tw_43 tw_1128 hd_M_dancerTold rfl rfl ⟨(Nat.le_of_ble_eq_true rfl), (Nat.le_of_ble_eq_true rfl)⟩, hw _ tw_1130, hw _ tw_15⟩ (gpV hK hG kd_M fa0 rfl) rfl rfl hl0.1 rfl (lv_room (Nat.le_of_ble_eq_true rfl)) d_M_dancer_26 ⟨(Nat.le_of_ble_eq_true rfl), (Nat.le_of_ble_eq_true rfl)⟩) (fun r7 S8 H locs h9 hle1 hG => ?_)
      replace h := h9
      clear h9
      have fa0 := gle_isA hle1 fa0
      have leS := leS.tr hle1
      have leS1 := leS1.tr hle1
      refine lv_goto (tgt := 37) hx hb d_M_dancer_29 (by decide) ?_
      exact giret hx hb hr hlocks hK hG leS h (Nat.le_of_ble_eq_true rfl) (Nat.le_of_ble_eq_true rfl) d_M_dancer_37
def w_M_at (post : Int32 → St → Prop) (S : St) (a0 : Nat) (a1 : Int32) (a2 : Int32) : Prop :=
  ∀ S1 : St, S1 = pI S 56 a0 0 → w_M_isIn (fun (r2 : Int32) => ∃ J37 : Prop, (J37 → w_M_no (fun (r4 : Int32) (S5 : St) => post r4 S5) S1 a0 1) ∧ (r2 = 0 → J37) ∧ (¬ r2 = 0 → w_M_isIn (fun (r6 : Int32) => (r6 = 0 → J37) ∧ (¬ r6 = 0 → ∀ o7 : Option Nat, o7 = sQ S1 61 a0 → ∃ y8 : Nat, o7 = some y8 ∧ isA S1 7 y8 ∧ w_S_at (fun (r10 : Int32) => post r10 S1) S1 y8 a1 a2)) S1 a2 0 15)) S1 a1 0 15
set_option maxHeartbeats 4000000 in
set_option maxRecDepth 100000 in
theorem m_M_at (l : Launch) (x : Cx) (S : St) (post : Int32 → St → Prop) (a0 : Nat) (a1 : Int32) (a2 : Int32) (fa0 : isA S 8 a0) (h : w_M_at post S a0 a1 a2) : Met l y_M_at [.code y_M_at c_M_at 3 (some .int)] { frames := 1, cells := 0, slots := 0, locals := 24 } (va_Pc [.ref a0, .int a1, .int a2] (GW x S)) (va_Qi post (gB x S) (xA x)) 0 0 (xA x) := by
  refine gMet (by decide +kernel) (Nat.le_of_ble_eq_true rfl) ?_
  intro p e s m args below meth c hx hb hr hown hlocks hin hw hK H locs hG ls hlA hml
  have hown : s.vm.findClass "WaltzHallModel" = some m.cls := hown
  have hl0 : lv_has ls 3 [(0, .ref a0), (1, .int a1), (2, .int a2)] := hlA
  have leS : gle S S := gle.rf
  unfold w_M_at at h
  refine lv_aload_n hx hb d_M_at_0 rfl (lv_at hl0 0 rfl) ?_
  refine lv_iconst (v := 0) hx hb d_M_at_1 (by decide) ?_
  refine gput (S' := pI S 56 a0 0) hx hb hw hown hK hG kd_M fa0 rfl 0 (by decide) (gChI fa0 rfl) tw_1017 (fun _ h9 => h9) rfl rfl rfl rfl (Nat.le_of_ble_eq_true rfl) d_M_at_2 (fun S1 H locs eS1 hle1 hG => ?_)
  replace h := h S1 eS1
  have fa0 := gle_isA hle1 fa0
  have leS := leS.tr hle1
  refine lv_iload_n hx hb d_M_at_5 rfl (lv_at hl0 1 rfl) ?_
  refine lv_iconst (v := 0) hx hb d_M_at_6 (by decide) ?_
  refine lv_bipush (v := 15) hx hb d_M_at_7 (by decide) ?_
  -- call M_isIn
  refine gpi hK hG (va_runS (As := [.int a1, .int 0, .int 15]) (rest := []) ⟨hx, hb, hml, hown, hw⟩ (m_M_isIn l x S1 _ a1 0 15  h) ⟨gcb hw tw_1059 tw_43 tw_1057 hd_M_isIn rfl rfl ⟨(Nat.le_of_ble_eq_true rfl), (Nat.le_of_ble_eq_true rfl)⟩, hw _ tw_1058⟩ (gpS hK hG) rfl rfl hl0.1 rfl (lv_room (Nat.le_of_ble_eq_true rfl)) d_M_at_9 ⟨(Nat.le_of_ble_eq_true rfl), (Nat.le_of_ble_eq_true rfl)⟩) (fun r2 H locs h9 hG => ?_)
  replace h := h9
  clear h9
  have leS1 : gle S1 S1 := gle.rf
  obtain ⟨J37, hJ37, h⟩ := h
  have k37 : ∀ (H : Heap) (locs : List Loc) (ls : Array Slot), GH x S1 s H locs → lv_has ls 3 [(0, .ref a0)] → J37 → W p l e { frames := 1, cells := 0, slots := 0, locals := 24 } s m args below meth c H locs 0 0 (MQ below (va_Qi post (gB x S) (xA x)) args s 0 0 (xA x)) (F0 m 37 ls []) := by
    intro  H locs ls hG hl3 hj
    replace h := hJ37 hj
    refine lv_aload_n hx hb d_M_at_37 rfl (lv_at hl3 0 rfl) ?_
    refine lv_iconst (v := 1) hx hb d_M_at_38 (by decide) ?_
    -- call M_no
    refine gci hK hG (va_runV (As := [.int 1]) (rest := []) ⟨hx, hb, hml, hown, hw⟩ (m_M_no l x S1 _ a0 1 fa0 h) ⟨gcb hw tw_1052 tw_43 tw_1049 hd_M_no rfl rfl ⟨(Nat.le_of_ble_eq_true rfl), (Nat.le_of_ble_eq_true rfl)⟩, hw _ tw_1051, hw _ tw_12⟩ (gpV hK hG kd_M fa0 rfl) rfl rfl hl3.1 rfl (lv_room (Nat.le_of_ble_eq_true rfl)) d_M_at_39 ⟨(Nat.le_of_ble_eq_true rfl), (Nat.le_of_ble_eq_true rfl)⟩) (fun r4 S5 H locs h9 hle1 hG => ?_)
    replace h := h9
    clear h9
    have fa0 := gle_isA hle1 fa0
    have leS := leS.tr hle1
    have leS1 := leS1.tr hle1
    exact giret hx hb hr hlocks hK hG leS h (Nat.le_of_ble_eq_true rfl) (Nat.le_of_ble_eq_true rfl) d_M_at_42
  refine lv_if_eq (tgt := 37) hx hb d_M_at_12 (by decide) (fun hc12 => ?_) (fun hc12 => ?_)
  · replace h := h.1 hc12
    exact k37 H locs ls hG (lv_sub hl0 [0] rfl) h
  · replace h := h.2 hc12
    refine lv_iload_n hx hb d_M_at_15 rfl (lv_at hl0 2 rfl) ?_
    refine lv_iconst (v := 0) hx hb d_M_at_16 (by decide) ?_
    refine lv_bipush (v := 15) hx hb d_M_at_17 (by decide) ?_
    -- call M_isIn
    refine gpi hK hG (va_runS (As := [.int a2, .int 0, .int 15]) (rest := []) ⟨hx, hb, hml, hown, hw⟩ (m_M_isIn l x S1 _ a2 0 15  h) ⟨gcb hw tw_1059 tw_43 tw_1057 hd_M_isIn rfl rfl ⟨(Nat.le_of_ble_eq_true rfl), (Nat.le_of_ble_eq_true rfl)⟩, hw _ tw_1058⟩ (gpS hK hG) rfl rfl hl0.1 rfl (lv_room (Nat.le_of_ble_eq_true rfl)) d_M_at_19 ⟨(Nat.le_of_ble_eq_true rfl), (Nat.le_of_ble_eq_true rfl)⟩) (fun r6 H locs h9 hG => ?_)
    replace h := h9
    clear h9
    refine lv_if_eq (tgt := 37) hx hb d_M_at_22 (by decide) (fun hc11 => ?_) (fun hc11 => ?_)
    · replace h := h.1 hc11
      exact k37 H locs ls hG (lv_sub hl0 [0] rfl) h
    · replace h := h.2 hc11
      refine lv_aload_n hx hb d_M_at_25 rfl (lv_at hl0 0 rfl) ?_
      refine gget hx hb hw hown hK hG kd_M fa0 rfl 5 (by decide) rfl tw_1024 (fun _ h9 => h9) d_M_at_26 ?_
      refine gtopq (fun o7 eo7 => ?_)
      replace h := h o7 eo7
      refine lv_iload_n hx hb d_M_at_29 rfl (lv_at hl0 1 rfl) ?_
      refine lv_iload_n hx hb d_M_at_30 rfl (lv_at hl0 2 rfl) ?_
      obtain ⟨y8, ey8, h⟩ := h
      subst ey8
      obtain ⟨f9, h⟩ := h
      -- call S_at
      refine gpi hK hG (va_runV (As := [.int a1, .int a2]) (rest := []) ⟨hx, hb, hml, hown, hw⟩ (m_S_at l x S1 _ y8 a1 a2 f9 h) ⟨gcb hw tw_1088 tw_44 tw_1085 hd_S_at rfl rfl ⟨(Nat.le_of_ble_eq_true rfl), (Nat.le_of_ble_eq_true rfl)⟩, hw _ tw_1086, hw _ tw_1087⟩ (gpV hK hG kd_S f9 rfl) rfl rfl hl0.1 rfl (lv_room (Nat.le_of_ble_eq_true rfl)) d_M_at_31 ⟨(Nat.le_of_ble_eq_true rfl), (Nat.le_of_ble_eq_true rfl)⟩) (fun r10 H locs h9 hG => ?_)
      replace h := h9
      clear h9
      refine lv_goto (tgt := 42) hx hb d_M_at_34 (by decide) ?_
      exact giret hx hb hr hlocks hK hG leS h (Nat.le_of_ble_eq_true rfl) (Nat.le_of_ble_eq_true rfl) d_M_at_42
def w_M_addWinder (post : Int32 → St → Prop) (S : St) (a0 : Nat) (a1 : Int32) (a2 : Int32) (a3 : Int32) : Prop :=
  ∀ S1 : St, S1 = pI S 56 a0 0 → w_M_isIn (fun (r2 : Int32) => ∃ J35 : Prop, (J35 → w_M_no (fun (r4 : Int32) (S5 : St) => post r4 S5) S1 a0 1) ∧ (r2 = 0 → J35) ∧ (¬ r2 = 0 → w_M_isIn (fun (r6 : Int32) => (r6 = 0 → J35) ∧ (¬ r6 = 0 → w_M_isIn (fun (r7 : Int32) => (r7 = 0 → J35) ∧ (¬ r7 = 0 → ∀ o8 : Option Nat, o8 = sQ S1 61 a0 → ∃ y9 : Nat, o8 = some y9 ∧ isA S1 7 y9 ∧ ((sI S1 52 y9) = 3 → w_M_no (fun (r45 : Int32) (S46 : St) => post r45 S46) S1 a0 2) ∧ (¬ (sI S1 52 y9) = 3 → ∀ (q11 : Nat) (S12 : St), q11 ∉ sL S1 → S12 = pNew S1 q11 10 6 → vp_in 0 (sN S12 q11) ∧ ∀ S15 : St, S15 = pR S12 q11 ((0 : Int32).toNatClampNeg) a1 → vp_in 1 (sN S15 q11) ∧ ∀ S17 : St, S17 = pR S15 q11 ((1 : Int32).toNatClampNeg) a2 → vp_in 2 (sN S17 q11) ∧ ∀ S19 : St, S19 = pR S17 q11 ((2 : Int32).toNatClampNeg) a3 → vp_in 3 (sN S19 q11) ∧ ∀ S21 : St, S21 = pR S19 q11 ((3 : Int32).toNatClampNeg) 0 → vp_in 4 (sN S21 q11) ∧ ∀ S23 : St, S23 = pR S21 q11 ((4 : Int32).toNatClampNeg) 0 → vp_in 5 (sN S23 q11) ∧ ∀ S25 : St, S25 = pR S23 q11 ((5 : Int32).toNatClampNeg) 0 → ∀ o27 : Option Nat, o27 = sQ S25 61 a0 → ∃ y28 : Nat, o27 = some y28 ∧ isA S25 7 y28 ∧ ∀ o30 : Option Nat, o30 = sQ S25 53 y28 → ∀ o31 : Option Nat, o31 = sQ S25 61 a0 → ∃ y32 : Nat, o31 = some y32 ∧ isA S25 7 y32 ∧ ∃ y34 : Nat, o30 = some y34 ∧ isA S25 10 y34 ∧ (¬ (0 : Int32) < 0 ∧ ¬ (6 * (sI S25 52 y32)) < 0 ∧ ¬ (6 : Int32) < 0 ∧ (0 : Int32).toNatClampNeg + (6 : Int32).toNatClampNeg ≤ sN S25 q11 ∧ (6 * (sI S25 52 y32)).toNatClampNeg + (6 : Int32).toNatClampNeg ≤ sN S25 y34 ∧ ∀ z, z < (6 : Int32).toNatClampNeg → fits .int (.int (sR S25 q11 ((0 : Int32).toNatClampNeg + z))) = true) ∧ ∀ S37 : St, S37 = pRow S25 y34 (va_cpy (sR S25 q11) (sR S25 y34) ((0 : Int32).toNatClampNeg) ((6 * (sI S25 52 y32)).toNatClampNeg) ((6 : Int32).toNatClampNeg)) → ∀ o38 : Option Nat, o38 = sQ S37 61 a0 → ∃ y39 : Nat, o38 = some y39 ∧ isA S37 7 y39 ∧ ∀ S41 : St, S41 = pI S37 52 y39 ((sI S37 52 y39) + 1) → ∀ o42 : Option Nat, o42 = sQ S41 61 a0 → ∃ y43 : Nat, o42 = some y43 ∧ isA S41 7 y43 ∧ post ((sI S41 52 y43) - 1) S41))) S1 a3 1 100)) S1 a2 0 15)) S1 a1 0 15
set_option maxHeartbeats 4000000 in
set_option maxRecDepth 100000 in
theorem m_M_addWinder (l : Launch) (x : Cx) (S : St) (post : Int32 → St → Prop) (a0 : Nat) (a1 : Int32) (a2 : Int32) (a3 : Int32) (fa0 : isA S 8 a0) (h : w_M_addWinder post S a0 a1 a2 a3) : Met l y_M_addWinder [.code y_M_addWinder c_M_addWinder 5 (some .int)] { frames := 1, cells := 1, slots := 6, locals := 48 } (va_Pc [.ref a0, .int a1, .int a2, .int a3] (GW x S)) (va_Qi post (gB x S) (xA x)) 1 6 (xA x) := by
  refine gMet (by decide +kernel) (Nat.le_of_ble_eq_true rfl) ?_
  intro p e s m args below meth c hx hb hr hown hlocks hin hw hK H locs hG ls hlA hml
  have hown : s.vm.findClass "WaltzHallModel" = some m.cls := hown
  have hl0 : lv_has ls 5 [(0, .ref a0), (1, .int a1), (2, .int a2), (3, .int a3)] := hlA
  have leS : gle S S := gle.rf
  unfold w_M_addWinder at h
  refine lv_aload_n hx hb d_M_addWinder_0 rfl (lv_at hl0 0 rfl) ?_
  refine lv_iconst (v := 0) hx hb d_M_addWinder_1 (by decide) ?_
  refine gput (S' := pI S 56 a0 0) hx hb hw hown hK hG kd_M fa0 rfl 0 (by decide) (gChI fa0 rfl) tw_1017 (fun _ h9 => h9) rfl rfl rfl rfl (Nat.le_of_ble_eq_true rfl) d_M_addWinder_2 (fun S1 H locs eS1 hle1 hG => ?_)
  replace h := h S1 eS1
  have fa0 := gle_isA hle1 fa0
  have leS := leS.tr hle1
  refine lv_iload_n hx hb d_M_addWinder_5 rfl (lv_at hl0 1 rfl) ?_
  refine lv_iconst (v := 0) hx hb d_M_addWinder_6 (by decide) ?_
  refine lv_bipush (v := 15) hx hb d_M_addWinder_7 (by decide) ?_
  -- call M_isIn
  refine gpi hK hG (va_runS (As := [.int a1, .int 0, .int 15]) (rest := []) ⟨hx, hb, hml, hown, hw⟩ (m_M_isIn l x S1 _ a1 0 15  h) ⟨gcb hw tw_1059 tw_43 tw_1057 hd_M_isIn rfl rfl ⟨(Nat.le_of_ble_eq_true rfl), (Nat.le_of_ble_eq_true rfl)⟩, hw _ tw_1058⟩ (gpS hK hG) rfl rfl hl0.1 rfl (lv_room (Nat.le_of_ble_eq_true rfl)) d_M_addWinder_9 ⟨(Nat.le_of_ble_eq_true rfl), (Nat.le_of_ble_eq_true rfl)⟩) (fun r2 H locs h9 hG => ?_)
  replace h := h9
  clear h9
  have leS1 : gle S1 S1 := gle.rf
  obtain ⟨J35, hJ35, h⟩ := h
  have k35 : ∀ (H : Heap) (locs : List Loc) (ls : Array Slot), GH x S1 s H locs → lv_has ls 5 [(0, .ref a0)] → J35 → W p l e { frames := 1, cells := 1, slots := 6, locals := 48 } s m args below meth c H locs 0 0 (MQ below (va_Qi post (gB x S) (xA x)) args s 1 6 (xA x)) (F0 m 35 ls []) := by
    intro  H locs ls hG hl3 hj
    replace h := hJ35 hj
    refine lv_aload_n hx hb d_M_addWinder_35 rfl (lv_at hl3 0 rfl) ?_
    refine lv_iconst (v := 1) hx hb d_M_addWinder_36 (by decide) ?_
    -- call M_no
    refine gci hK hG (va_runV (As := [.int 1]) (rest := []) ⟨hx, hb, hml, hown, hw⟩ (m_M_no l x S1 _ a0 1 fa0 h) ⟨gcb hw tw_1052 tw_43 tw_1049 hd_M_no rfl rfl ⟨(Nat.le_of_ble_eq_true rfl), (Nat.le_of_ble_eq_true rfl)⟩, hw _ tw_1051, hw _ tw_12⟩ (gpV hK hG kd_M fa0 rfl) rfl rfl hl3.1 rfl (lv_room (Nat.le_of_ble_eq_true rfl)) d_M_addWinder_37 ⟨(Nat.le_of_ble_eq_true rfl), (Nat.le_of_ble_eq_true rfl)⟩) (fun r4 S5 H locs h9 hle1 hG => ?_)
    replace h := h9
    clear h9
    have fa0 := gle_isA hle1 fa0
    have leS := leS.tr hle1
    have leS1 := leS1.tr hle1
    exact giret hx hb hr hlocks hK hG leS h (Nat.le_of_ble_eq_true rfl) (Nat.le_of_ble_eq_true rfl) d_M_addWinder_40
  refine lv_if_eq (tgt := 35) hx hb d_M_addWinder_12 (by decide) (fun hc50 => ?_) (fun hc50 => ?_)
  · replace h := h.1 hc50
    exact k35 H locs ls hG (lv_sub hl0 [0] rfl) h
  · replace h := h.2 hc50
    refine lv_iload_n hx hb d_M_addWinder_15 rfl (lv_at hl0 2 rfl) ?_
    refine lv_iconst (v := 0) hx hb d_M_addWinder_16 (by decide) ?_
    refine lv_bipush (v := 15) hx hb d_M_addWinder_17 (by decide) ?_
    -- call M_isIn
    refine gpi hK hG (va_runS (As := [.int a2, .int 0, .int 15]) (rest := []) ⟨hx, hb, hml, hown, hw⟩ (m_M_isIn l x S1 _ a2 0 15  h) ⟨gcb hw tw_1059 tw_43 tw_1057 hd_M_isIn rfl rfl ⟨(Nat.le_of_ble_eq_true rfl), (Nat.le_of_ble_eq_true rfl)⟩, hw _ tw_1058⟩ (gpS hK hG) rfl rfl hl0.1 rfl (lv_room (Nat.le_of_ble_eq_true rfl)) d_M_addWinder_19 ⟨(Nat.le_of_ble_eq_true rfl), (Nat.le_of_ble_eq_true rfl)⟩) (fun r6 H locs h9 hG => ?_)
    replace h := h9
    clear h9
    refine lv_if_eq (tgt := 35) hx hb d_M_addWinder_22 (by decide) (fun hc49 => ?_) (fun hc49 => ?_)
    · replace h := h.1 hc49
      exact k35 H locs ls hG (lv_sub hl0 [0] rfl) h
    · replace h := h.2 hc49
      refine lv_iload_n hx hb d_M_addWinder_25 rfl (lv_at hl0 3 rfl) ?_
      refine lv_iconst (v := 1) hx hb d_M_addWinder_26 (by decide) ?_
      refine lv_bipush (v := 100) hx hb d_M_addWinder_27 (by decide) ?_
      -- call M_isIn
      refine gpi hK hG (va_runS (As := [.int a3, .int 1, .int 100]) (rest := []) ⟨hx, hb, hml, hown, hw⟩ (m_M_isIn l x S1 _ a3 1 100  h) ⟨gcb hw tw_1059 tw_43 tw_1057 hd_M_isIn rfl rfl ⟨(Nat.le_of_ble_eq_true rfl), (Nat.le_of_ble_eq_true rfl)⟩, hw _ tw_1058⟩ (gpS hK hG) rfl rfl hl0.1 rfl (lv_room (Nat.le_of_ble_eq_true rfl)) d_M_addWinder_29 ⟨(Nat.le_of_ble_eq_true rfl), (Nat.le_of_ble_eq_true rfl)⟩) (fun r7 H locs h9 hG => ?_)
      replace h := h9
      clear h9
      refine lv_if_ne (tgt := 41) hx hb d_M_addWinder_32 (by decide) (fun hc48 => ?_) (fun hc48 => ?_)
      · replace h := h.2 hc48
        refine lv_aload_n hx hb d_M_addWinder_41 rfl (lv_at hl0 0 rfl) ?_
        refine gget hx hb hw hown hK hG kd_M fa0 rfl 5 (by decide) rfl tw_1024 (fun _ h9 => h9) d_M_addWinder_42 ?_
        refine gtopq (fun o8 eo8 => ?_)
        replace h := h o8 eo8
        obtain ⟨y9, ey9, h⟩ := h
        subst ey9
        obtain ⟨f10, h⟩ := h
        refine ggetN hx hb hw hown hK hG kd_S f10 rfl 14 (by decide) rfl tw_969 (fun _ h9 => h9) d_M_addWinder_45 ?_
        refine lv_iconst (v := 3) hx hb d_M_addWinder_48 (by decide) ?_
        refine lv_icmp_ne (tgt := 58) hx hb d_M_addWinder_49 (by decide) (fun hc47 => ?_) (fun hc47 => ?_)
        · replace h := h.2 hc47
          refine lv_bipush (v := 6) hx hb d_M_addWinder_58 (by decide) ?_
          refine gnewa (atype := .int) (N' := 6) (k := 10) (by decide) 1 hx hb hw hK hG tw_760 rfl (fun _ _ => rfl) rfl rfl (fun _ => rfl) (by decide) (Nat.le_of_ble_eq_true rfl) (Nat.le_of_ble_eq_true rfl) (Nat.le_of_ble_eq_true rfl) d_M_addWinder_60 (fun q11 S12 H hqq11 eS12 hle1 hG => ?_)
          replace h := h q11 S12 hqq11 eS12
          have fa0 := gle_isA hle1 fa0
          have f10 := gle_isA hle1 f10
          have leS := leS.tr hle1
          have leS1 := leS1.tr hle1
          have f13 : isA S12 10 q11 := by rw [eS12]; exact isA_new
          refine lv_dup hx hb d_M_addWinder_62 rfl ?_
          refine lv_iconst (v := 0) hx hb d_M_addWinder_63 (by decide) ?_
          refine lv_iload_n hx hb d_M_addWinder_64 rfl (lv_at hl0 1 rfl) ?_
          obtain ⟨hi14, h⟩ := h
          refine giast hx hb hK hG f13 hi14 d_M_addWinder_65 (fun S15 H locs eS15 hle1 hG => ?_)
          replace h := h S15 eS15
          have fa0 := gle_isA hle1 fa0
          have f10 := gle_isA hle1 f10
          have f13 := gle_isA hle1 f13
          have leS := leS.tr hle1
          have leS1 := leS1.tr hle1
          refine lv_dup hx hb d_M_addWinder_66 rfl ?_
          refine lv_iconst (v := 1) hx hb d_M_addWinder_67 (by decide) ?_
          refine lv_iload_n hx hb d_M_addWinder_68 rfl (lv_at hl0 2 rfl) ?_
          obtain ⟨hi16, h⟩ := h
          refine giast hx hb hK hG f13 hi16 d_M_addWinder_69 (fun S17 H locs eS17 hle1 hG => ?_)
          replace h := h S17 eS17
          have fa0 := gle_isA hle1 fa0
          have f10 := gle_isA hle1 f10
          have f13 := gle_isA hle1 f13
          have leS := leS.tr hle1
          have leS1 := leS1.tr hle1
          refine lv_dup hx hb d_M_addWinder_70 rfl ?_
          refine lv_iconst (v := 2) hx hb d_M_addWinder_71 (by decide) ?_
          refine lv_iload_n hx hb d_M_addWinder_72 rfl (lv_at hl0 3 rfl) ?_
          obtain ⟨hi18, h⟩ := h
          refine giast hx hb hK hG f13 hi18 d_M_addWinder_73 (fun S19 H locs eS19 hle1 hG => ?_)
          replace h := h S19 eS19
          have fa0 := gle_isA hle1 fa0
          have f10 := gle_isA hle1 f10
          have f13 := gle_isA hle1 f13
          have leS := leS.tr hle1
          have leS1 := leS1.tr hle1
          refine lv_dup hx hb d_M_addWinder_74 rfl ?_
          refine lv_iconst (v := 3) hx hb d_M_addWinder_75 (by decide) ?_
          refine lv_iconst (v := 0) hx hb d_M_addWinder_76 (by decide) ?_
          obtain ⟨hi20, h⟩ := h
          refine giast hx hb hK hG f13 hi20 d_M_addWinder_77 (fun S21 H locs eS21 hle1 hG => ?_)
          replace h := h S21 eS21
          have fa0 := gle_isA hle1 fa0
          have f10 := gle_isA hle1 f10
          have f13 := gle_isA hle1 f13
          have leS := leS.tr hle1
          have leS1 := leS1.tr hle1
          refine lv_dup hx hb d_M_addWinder_78 rfl ?_
          refine lv_iconst (v := 4) hx hb d_M_addWinder_79 (by decide) ?_
          refine lv_iconst (v := 0) hx hb d_M_addWinder_80 (by decide) ?_
          obtain ⟨hi22, h⟩ := h
          refine giast hx hb hK hG f13 hi22 d_M_addWinder_81 (fun S23 H locs eS23 hle1 hG => ?_)
          replace h := h S23 eS23
          have fa0 := gle_isA hle1 fa0
          have f10 := gle_isA hle1 f10
          have f13 := gle_isA hle1 f13
          have leS := leS.tr hle1
          have leS1 := leS1.tr hle1
          refine lv_dup hx hb d_M_addWinder_82 rfl ?_
          refine lv_iconst (v := 5) hx hb d_M_addWinder_83 (by decide) ?_
          refine lv_iconst (v := 0) hx hb d_M_addWinder_84 (by decide) ?_
          obtain ⟨hi24, h⟩ := h
          refine giast hx hb hK hG f13 hi24 d_M_addWinder_85 (fun S25 H locs eS25 hle1 hG => ?_)
          replace h := h S25 eS25
          have fa0 := gle_isA hle1 fa0
          have f10 := gle_isA hle1 f10
          have f13 := gle_isA hle1 f13
          have leS := leS.tr hle1
          have leS1 := leS1.tr hle1
          refine lv_astore (lv' := [(4, .ref q11), (0, .ref a0), (1, .int a1), (2, .int a2), (3, .int a3)]) hx hb d_M_addWinder_86 hl0 (by decide) rfl (fun ls hl26 => ?_)
          refine lv_aload hx hb d_M_addWinder_88 (lv_at hl26 0 rfl) ?_
          refine lv_iconst (v := 0) hx hb d_M_addWinder_90 (by decide) ?_
          refine lv_aload_n hx hb d_M_addWinder_91 rfl (lv_at hl26 1 rfl) ?_
          refine gget hx hb hw hown hK hG kd_M fa0 rfl 5 (by decide) rfl tw_1024 (fun _ h9 => h9) d_M_addWinder_92 ?_
          refine gtopq (fun o27 eo27 => ?_)
          replace h := h o27 eo27
          obtain ⟨y28, ey28, h⟩ := h
          subst ey28
          obtain ⟨f29, h⟩ := h
          refine ggetN hx hb hw hown hK hG kd_S f29 rfl 15 (by decide) rfl tw_971 (fun _ h9 => h9) d_M_addWinder_95 ?_
          refine gtopq (fun o30 eo30 => ?_)
          replace h := h o30 eo30
          refine lv_bipush (v := 6) hx hb d_M_addWinder_98 (by decide) ?_
          refine lv_aload_n hx hb d_M_addWinder_100 rfl (lv_at hl26 1 rfl) ?_
          refine gget hx hb hw hown hK hG kd_M fa0 rfl 5 (by decide) rfl tw_1024 (fun _ h9 => h9) d_M_addWinder_101 ?_
          refine gtopq (fun o31 eo31 => ?_)
          replace h := h o31 eo31
          obtain ⟨y32, ey32, h⟩ := h
          subst ey32
          obtain ⟨f33, h⟩ := h
          refine ggetN hx hb hw hown hK hG kd_S f33 rfl 14 (by decide) rfl tw_969 (fun _ h9 => h9) d_M_addWinder_104 ?_
          refine lv_imul hx hb d_M_addWinder_107 ?_
          refine lv_bipush (v := 6) hx hb d_M_addWinder_108 (by decide) ?_
          obtain ⟨y34, ey34, h⟩ := h
          subst ey34
          obtain ⟨f35, h⟩ := h
          obtain ⟨⟨hc361, hc362, hc363, hc364, hc365, hc366⟩, h⟩ := h
          refine gcopy 1 hx hb hw (hml.trans hl26.1.symm) hown hK hG tw_1068 tw_251 tw_250 tw_42 f13 f35 (fun _ _ _ _ _ _ => rfl) rfl rfl hc361 hc362 hc363 hc364 hc365 hc366 (Nat.le_of_ble_eq_true rfl) (Nat.le_of_ble_eq_true rfl) d_M_addWinder_110 (fun S37 H locs eS37 hle1 hG => ?_)
          replace h := h S37 eS37
          have fa0 := gle_isA hle1 fa0
          have f10 := gle_isA hle1 f10
          have f13 := gle_isA hle1 f13
          have f29 := gle_isA hle1 f29
          have f33 := gle_isA hle1 f33
          have f35 := gle_isA hle1 f35
          have leS := leS.tr hle1
          have leS1 := leS1.tr hle1
          refine lv_aload_n hx hb d_M_addWinder_113 rfl (lv_at hl26 1 rfl) ?_
          refine gget hx hb hw hown hK hG kd_M fa0 rfl 5 (by decide) rfl tw_1024 (fun _ h9 => h9) d_M_addWinder_114 ?_
          refine gtopq (fun o38 eo38 => ?_)
          replace h := h o38 eo38
          refine lv_dup hx hb d_M_addWinder_117 (gCat _) ?_
          obtain ⟨y39, ey39, h⟩ := h
          subst ey39
          obtain ⟨f40, h⟩ := h
          refine ggetN hx hb hw hown hK hG kd_S f40 rfl 14 (by decide) rfl tw_969 (fun _ h9 => h9) d_M_addWinder_118 ?_
          refine lv_iconst (v := 1) hx hb d_M_addWinder_121 (by decide) ?_
          refine lv_iadd hx hb d_M_addWinder_122 ?_
          refine gputN (S' := pI S37 52 y39 ((sI S37 52 y39) + 1)) hx hb hw hown hK hG kd_S f40 rfl 14 (by decide) (gChI f40 rfl) tw_969 (fun _ h9 => h9) rfl rfl rfl rfl (Nat.le_of_ble_eq_true rfl) d_M_addWinder_123 (fun S41 H locs eS41 hle1 hG => ?_)
          replace h := h S41 eS41
          have fa0 := gle_isA hle1 fa0
          have f10 := gle_isA hle1 f10
          have f13 := gle_isA hle1 f13
          have f29 := gle_isA hle1 f29
          have f33 := gle_isA hle1 f33
          have f35 := gle_isA hle1 f35
          have f40 := gle_isA hle1 f40
          have leS := leS.tr hle1
          have leS1 := leS1.tr hle1
          refine lv_aload_n hx hb d_M_addWinder_126 rfl (lv_at hl26 1 rfl) ?_
          refine gget hx hb hw hown hK hG kd_M fa0 rfl 5 (by decide) rfl tw_1024 (fun _ h9 => h9) d_M_addWinder_127 ?_
          refine gtopq (fun o42 eo42 => ?_)
          replace h := h o42 eo42
          obtain ⟨y43, ey43, h⟩ := h
          subst ey43
          obtain ⟨f44, h⟩ := h
          refine ggetN hx hb hw hown hK hG kd_S f44 rfl 14 (by decide) rfl tw_969 (fun _ h9 => h9) d_M_addWinder_130 ?_
          refine lv_iconst (v := 1) hx hb d_M_addWinder_133 (by decide) ?_
          refine lv_isub hx hb d_M_addWinder_134 ?_
          exact giret hx hb hr hlocks hK hG leS h (Nat.le_of_ble_eq_true rfl) (Nat.le_of_ble_eq_true rfl) d_M_addWinder_135
        · replace h := h.1 hc47
          refine lv_aload_n hx hb d_M_addWinder_52 rfl (lv_at hl0 0 rfl) ?_
          refine lv_iconst (v := 2) hx hb d_M_addWinder_53 (by decide) ?_
          -- call M_no
          refine gci hK hG (va_runV (As := [.int 2]) (rest := []) ⟨hx, hb, hml, hown, hw⟩ (m_M_no l x S1 _ a0 2 fa0 h) ⟨gcb hw tw_1052 tw_43 tw_1049 hd_M_no rfl rfl ⟨(Nat.le_of_ble_eq_true rfl), (Nat.le_of_ble_eq_true rfl)⟩, hw _ tw_1051, hw _ tw_12⟩ (gpV hK hG kd_M fa0 rfl) rfl rfl hl0.1 rfl (lv_room (Nat.le_of_ble_eq_true rfl)) d_M_addWinder_54 ⟨(Nat.le_of_ble_eq_true rfl), (Nat.le_of_ble_eq_true rfl)⟩) (fun r45 S46 H locs h9 hle1 hG => ?_)
          replace h := h9
          clear h9
          have fa0 := gle_isA hle1 fa0
          have f10 := gle_isA hle1 f10
          have leS := leS.tr hle1
          have leS1 := leS1.tr hle1
          exact giret hx hb hr hlocks hK hG leS h (Nat.le_of_ble_eq_true rfl) (Nat.le_of_ble_eq_true rfl) d_M_addWinder_57
      · replace h := h.1 hc48
        exact k35 H locs ls hG (lv_sub hl0 [0] rfl) h
def w_M_isWinder (post : Int32 → Prop) (S : St) (a0 : Nat) (a1 : Int32) : Prop :=
  ∀ o1 : Option Nat, o1 = sQ S 61 a0 → ∃ y2 : Nat, o1 = some y2 ∧ isA S 7 y2 ∧ w_M_isIn (fun (r4 : Int32) => gBo r4 ∧ post r4) S a1 0 ((sI S 52 y2) - 1)
set_option maxHeartbeats 4000000 in
set_option maxRecDepth 100000 in
theorem m_M_isWinder (l : Launch) (x : Cx) (S : St) (post : Int32 → Prop) (a0 : Nat) (a1 : Int32) (fa0 : isA S 8 a0) (h : w_M_isWinder post S a0 a1) : Met l y_M_isWinder [.code y_M_isWinder c_M_isWinder 2 (some .boolean)] { frames := 1, cells := 0, slots := 0, locals := 22 } (va_Pc [.ref a0, .int a1] (GW x S)) (va_Qi (gPu post S) (gB x S) (xA x)) 0 0 (xA x) := by
  refine gMet (by decide +kernel) (Nat.le_of_ble_eq_true rfl) ?_
  intro p e s m args below meth c hx hb hr hown hlocks hin hw hK H locs hG ls hlA hml
  have hown : s.vm.findClass "WaltzHallModel" = some m.cls := hown
  have hl0 : lv_has ls 2 [(0, .ref a0), (1, .int a1)] := hlA
  unfold w_M_isWinder at h
  refine lv_iload_n hx hb d_M_isWinder_0 rfl (lv_at hl0 1 rfl) ?_
  refine lv_iconst (v := 0) hx hb d_M_isWinder_1 (by decide) ?_
  refine lv_aload_n hx hb d_M_isWinder_2 rfl (lv_at hl0 0 rfl) ?_
  refine gget hx hb hw hown hK hG kd_M fa0 rfl 5 (by decide) rfl tw_1024 (fun _ h9 => h9) d_M_isWinder_3 ?_
  refine gtopq (fun o1 eo1 => ?_)
  replace h := h o1 eo1
  obtain ⟨y2, ey2, h⟩ := h
  subst ey2
  obtain ⟨f3, h⟩ := h
  refine ggetN hx hb hw hown hK hG kd_S f3 rfl 14 (by decide) rfl tw_969 (fun _ h9 => h9) d_M_isWinder_6 ?_
  refine lv_iconst (v := 1) hx hb d_M_isWinder_9 (by decide) ?_
  refine lv_isub hx hb d_M_isWinder_10 ?_
  -- call M_isIn
  refine gpi hK hG (va_runS (As := [.int a1, .int 0, .int ((sI S 52 y2) - 1)]) (rest := []) ⟨hx, hb, hml, hown, hw⟩ (m_M_isIn l x S _ a1 0 ((sI S 52 y2) - 1)  h) ⟨gcb hw tw_1059 tw_43 tw_1057 hd_M_isIn rfl rfl ⟨(Nat.le_of_ble_eq_true rfl), (Nat.le_of_ble_eq_true rfl)⟩, hw _ tw_1058⟩ (gpS hK hG) rfl rfl hl0.1 rfl (lv_room (Nat.le_of_ble_eq_true rfl)) d_M_isWinder_11 ⟨(Nat.le_of_ble_eq_true rfl), (Nat.le_of_ble_eq_true rfl)⟩) (fun r4 H locs h9 hG => ?_)
  replace h := h9
  clear h9
  obtain ⟨hb5, h⟩ := h
  exact gzret hx hb hr (gBo_n hb5) hlocks hK hG gle.rf ⟨h, rfl⟩ (Nat.le_of_ble_eq_true rfl) (Nat.le_of_ble_eq_true rfl) d_M_isWinder_14
def w_M_call (post : Int32 → St → Prop) (S : St) (a0 : Nat) (a1 : Int32) (a2 : Int32) : Prop :=
  ∀ S1 : St, S1 = pI S 56 a0 0 → w_M_isWinder (fun (r2 : Int32) => ∃ J21 : Prop, (J21 → w_M_no (fun (r4 : Int32) (S5 : St) => post r4 S5) S1 a0 1) ∧ (r2 = 0 → J21) ∧ (¬ r2 = 0 → w_M_isDancer (fun (r6 : Int32) => (r6 = 0 → J21) ∧ (¬ r6 = 0 → ∀ o7 : Option Nat, o7 = sQ S1 61 a0 → ∃ y8 : Nat, o7 = some y8 ∧ isA S1 7 y8 ∧ ∀ o10 : Option Nat, o10 = sQ S1 53 y8 → ∃ y11 : Nat, o10 = some y11 ∧ isA S1 10 y11 ∧ vp_in ((6 * a1) + 3) (sN S1 y11) ∧ ∀ v14 : Int32, v14 = sR S1 y11 ((6 * a1) + 3).toNatClampNeg → (v14 = 8 → w_M_no (fun (r33 : Int32) (S34 : St) => post r33 S34) S1 a0 2) ∧ (¬ v14 = 8 → ∀ o16 : Option Nat, o16 = sQ S1 61 a0 → ∃ y17 : Nat, o16 = some y17 ∧ isA S1 7 y17 ∧ ∀ o19 : Option Nat, o19 = sQ S1 54 y17 → ∃ y20 : Nat, o19 = some y20 ∧ isA S1 10 y20 ∧ vp_in ((8 * a1) + v14) (sN S1 y20) ∧ ∀ S23 : St, S23 = pR S1 y20 (((8 * a1) + v14).toNatClampNeg) a2 → ∀ o24 : Option Nat, o24 = sQ S23 61 a0 → ∃ y25 : Nat, o24 = some y25 ∧ isA S23 7 y25 ∧ ∀ o27 : Option Nat, o27 = sQ S23 53 y25 → ∃ y28 : Nat, o27 = some y28 ∧ isA S23 10 y28 ∧ vp_in ((6 * a1) + 3) (sN S23 y28) ∧ vp_in ((6 * a1) + 3) (sN S23 y28) ∧ ∀ S32 : St, S32 = pR S23 y28 (((6 * a1) + 3).toNatClampNeg) ((sR S23 y28 ((6 * a1) + 3).toNatClampNeg) + 1) → post (v14 + 1) S32))) S1 a0 a2)) S1 a0 a1
set_option maxHeartbeats 4000000 in
set_option maxRecDepth 100000 in
theorem m_M_call (l : Launch) (x : Cx) (S : St) (post : Int32 → St → Prop) (a0 : Nat) (a1 : Int32) (a2 : Int32) (fa0 : isA S 8 a0) (h : w_M_call post S a0 a1 a2) : Met l y_M_call [.code y_M_call c_M_call 4 (some .int)] { frames := 2, cells := 0, slots := 0, locals := 43 } (va_Pc [.ref a0, .int a1, .int a2] (GW x S)) (va_Qi post (gB x S) (xA x)) 0 0 (xA x) := by
  refine gMet (by decide +kernel) (Nat.le_of_ble_eq_true rfl) ?_
  intro p e s m args below meth c hx hb hr hown hlocks hin hw hK H locs hG ls hlA hml
  have hown : s.vm.findClass "WaltzHallModel" = some m.cls := hown
  have hl0 : lv_has ls 4 [(0, .ref a0), (1, .int a1), (2, .int a2)] := hlA
  have leS : gle S S := gle.rf
  unfold w_M_call at h
  refine lv_aload_n hx hb d_M_call_0 rfl (lv_at hl0 0 rfl) ?_
  refine lv_iconst (v := 0) hx hb d_M_call_1 (by decide) ?_
  refine gput (S' := pI S 56 a0 0) hx hb hw hown hK hG kd_M fa0 rfl 0 (by decide) (gChI fa0 rfl) tw_1017 (fun _ h9 => h9) rfl rfl rfl rfl (Nat.le_of_ble_eq_true rfl) d_M_call_2 (fun S1 H locs eS1 hle1 hG => ?_)
  replace h := h S1 eS1
  have fa0 := gle_isA hle1 fa0
  have leS := leS.tr hle1
  refine lv_aload_n hx hb d_M_call_5 rfl (lv_at hl0 0 rfl) ?_
  refine lv_iload_n hx hb d_M_call_6 rfl (lv_at hl0 1 rfl) ?_
  -- call M_isWinder
  refine gpi hK hG (va_runV (As := [.int a1]) (rest := []) ⟨hx, hb, hml, hown, hw⟩ (m_M_isWinder l x S1 _ a0 a1 fa0 h) ⟨gcb hw tw_1147 tw_43 tw_1144 hd_M_isWinder rfl rfl ⟨(Nat.le_of_ble_eq_true rfl), (Nat.le_of_ble_eq_true rfl)⟩, hw _ tw_1146, hw _ tw_16⟩ (gpV hK hG kd_M fa0 rfl) rfl rfl hl0.1 rfl (lv_room (Nat.le_of_ble_eq_true rfl)) d_M_call_7 ⟨(Nat.le_of_ble_eq_true rfl), (Nat.le_of_ble_eq_true rfl)⟩) (fun r2 H locs h9 hG => ?_)
  replace h := h9
  clear h9
  have leS1 : gle S1 S1 := gle.rf
  obtain ⟨J21, hJ21, h⟩ := h
  have k21 : ∀ (H : Heap) (locs : List Loc) (ls : Array Slot), GH x S1 s H locs → lv_has ls 4 [(0, .ref a0)] → J21 → W p l e { frames := 2, cells := 0, slots := 0, locals := 43 } s m args below meth c H locs 0 0 (MQ below (va_Qi post (gB x S) (xA x)) args s 0 0 (xA x)) (F0 m 21 ls []) := by
    intro  H locs ls hG hl3 hj
    replace h := hJ21 hj
    refine lv_aload_n hx hb d_M_call_21 rfl (lv_at hl3 0 rfl) ?_
    refine lv_iconst (v := 1) hx hb d_M_call_22 (by decide) ?_
    -- call M_no
    refine gci hK hG (va_runV (As := [.int 1]) (rest := []) ⟨hx, hb, hml, hown, hw⟩ (m_M_no l x S1 _ a0 1 fa0 h) ⟨gcb hw tw_1052 tw_43 tw_1049 hd_M_no rfl rfl ⟨(Nat.le_of_ble_eq_true rfl), (Nat.le_of_ble_eq_true rfl)⟩, hw _ tw_1051, hw _ tw_12⟩ (gpV hK hG kd_M fa0 rfl) rfl rfl hl3.1 rfl (lv_room (Nat.le_of_ble_eq_true rfl)) d_M_call_23 ⟨(Nat.le_of_ble_eq_true rfl), (Nat.le_of_ble_eq_true rfl)⟩) (fun r4 S5 H locs h9 hle1 hG => ?_)
    replace h := h9
    clear h9
    have fa0 := gle_isA hle1 fa0
    have leS := leS.tr hle1
    have leS1 := leS1.tr hle1
    exact giret hx hb hr hlocks hK hG leS h (Nat.le_of_ble_eq_true rfl) (Nat.le_of_ble_eq_true rfl) d_M_call_26
  refine lv_if_eq (tgt := 21) hx hb d_M_call_10 (by decide) (fun hc37 => ?_) (fun hc37 => ?_)
  · replace h := h.1 hc37
    exact k21 H locs ls hG (lv_sub hl0 [0] rfl) h
  · replace h := h.2 hc37
    refine lv_aload_n hx hb d_M_call_13 rfl (lv_at hl0 0 rfl) ?_
    refine lv_iload_n hx hb d_M_call_14 rfl (lv_at hl0 2 rfl) ?_
    -- call M_isDancer
    refine gpi hK hG (va_runV (As := [.int a2]) (rest := []) ⟨hx, hb, hml, hown, hw⟩ (m_M_isDancer l x S1 _ a0 a2 fa0 h) ⟨gcb hw tw_1096 tw_43 tw_1093 hd_M_isDancer rfl rfl ⟨(Nat.le_of_ble_eq_true rfl), (Nat.le_of_ble_eq_true rfl)⟩, hw _ tw_1095, hw _ tw_13⟩ (gpV hK hG kd_M fa0 rfl) rfl rfl hl0.1 rfl (lv_room (Nat.le_of_ble_eq_true rfl)) d_M_call_15 ⟨(Nat.le_of_ble_eq_true rfl), (Nat.le_of_ble_eq_true rfl)⟩) (fun r6 H locs h9 hG => ?_)
    replace h := h9
    clear h9
    refine lv_if_ne (tgt := 27) hx hb d_M_call_18 (by decide) (fun hc36 => ?_) (fun hc36 => ?_)
    · replace h := h.2 hc36
      refine lv_aload_n hx hb d_M_call_27 rfl (lv_at hl0 0 rfl) ?_
      refine gget hx hb hw hown hK hG kd_M fa0 rfl 5 (by decide) rfl tw_1024 (fun _ h9 => h9) d_M_call_28 ?_
      refine gtopq (fun o7 eo7 => ?_)
      replace h := h o7 eo7
      obtain ⟨y8, ey8, h⟩ := h
      subst ey8
      obtain ⟨f9, h⟩ := h
      refine ggetN hx hb hw hown hK hG kd_S f9 rfl 15 (by decide) rfl tw_971 (fun _ h9 => h9) d_M_call_31 ?_
      refine gtopq (fun o10 eo10 => ?_)
      replace h := h o10 eo10
      refine lv_bipush (v := 6) hx hb d_M_call_34 (by decide) ?_
      refine lv_iload_n hx hb d_M_call_36 rfl (lv_at hl0 1 rfl) ?_
      refine lv_imul hx hb d_M_call_37 ?_
      refine lv_iconst (v := 3) hx hb d_M_call_38 (by decide) ?_
      refine lv_iadd hx hb d_M_call_39 ?_
      obtain ⟨y11, ey11, h⟩ := h
      subst ey11
      obtain ⟨f12, h⟩ := h
      obtain ⟨hi13, h⟩ := h
      refine giald hx hb hK hG f12 hi13 d_M_call_40 ?_
      refine lv_topi (fun v14 ev14 => ?_)
      replace h := h v14 ev14
      refine lv_istore_n (i := 3) (lv' := [(3, .int v14), (0, .ref a0), (1, .int a1), (2, .int a2)]) hx hb d_M_call_41 rfl hl0 (by decide) rfl (fun ls hl15 => ?_)
      refine lv_iload_n hx hb d_M_call_42 rfl (lv_at hl15 0 rfl) ?_
      refine lv_bipush (v := 8) hx hb d_M_call_43 (by decide) ?_
      refine lv_icmp_ne (tgt := 54) hx hb d_M_call_45 (by decide) (fun hc35 => ?_) (fun hc35 => ?_)
      · replace h := h.2 hc35
        refine lv_aload_n hx hb d_M_call_54 rfl (lv_at hl15 1 rfl) ?_
        refine gget hx hb hw hown hK hG kd_M fa0 rfl 5 (by decide) rfl tw_1024 (fun _ h9 => h9) d_M_call_55 ?_
        refine gtopq (fun o16 eo16 => ?_)
        replace h := h o16 eo16
        obtain ⟨y17, ey17, h⟩ := h
        subst ey17
        obtain ⟨f18, h⟩ := h
        refine ggetN hx hb hw hown hK hG kd_S f18 rfl 16 (by decide) rfl tw_973 (fun _ h9 => h9) d_M_call_58 ?_
        refine gtopq (fun o19 eo19 => ?_)
        replace h := h o19 eo19
        refine lv_bipush (v := 8) hx hb d_M_call_61 (by decide) ?_
        refine lv_iload_n hx hb d_M_call_63 rfl (lv_at hl15 2 rfl) ?_
        refine lv_imul hx hb d_M_call_64 ?_
        refine lv_iload_n hx hb d_M_call_65 rfl (lv_at hl15 0 rfl) ?_
        refine lv_iadd hx hb d_M_call_66 ?_
        refine lv_iload_n hx hb d_M_call_67 rfl (lv_at hl15 3 rfl) ?_
        obtain ⟨y20, ey20, h⟩ := h
        subst ey20
        obtain ⟨f21, h⟩ := h
        obtain ⟨hi22, h⟩ := h
        refine giast hx hb hK hG f21 hi22 d_M_call_68 (fun S23 H locs eS23 hle1 hG => ?_)
        replace h := h S23 eS23
        have fa0 := gle_isA hle1 fa0
        have f9 := gle_isA hle1 f9
        have f12 := gle_isA hle1 f12
        have f18 := gle_isA hle1 f18
        have f21 := gle_isA hle1 f21
        have leS := leS.tr hle1
        have leS1 := leS1.tr hle1
        refine lv_aload_n hx hb d_M_call_69 rfl (lv_at hl15 1 rfl) ?_
        refine gget hx hb hw hown hK hG kd_M fa0 rfl 5 (by decide) rfl tw_1024 (fun _ h9 => h9) d_M_call_70 ?_
        refine gtopq (fun o24 eo24 => ?_)
        replace h := h o24 eo24
        obtain ⟨y25, ey25, h⟩ := h
        subst ey25
        obtain ⟨f26, h⟩ := h
        refine ggetN hx hb hw hown hK hG kd_S f26 rfl 15 (by decide) rfl tw_971 (fun _ h9 => h9) d_M_call_73 ?_
        refine gtopq (fun o27 eo27 => ?_)
        replace h := h o27 eo27
        refine lv_bipush (v := 6) hx hb d_M_call_76 (by decide) ?_
        refine lv_iload_n hx hb d_M_call_78 rfl (lv_at hl15 2 rfl) ?_
        refine lv_imul hx hb d_M_call_79 ?_
        refine lv_iconst (v := 3) hx hb d_M_call_80 (by decide) ?_
        refine lv_iadd hx hb d_M_call_81 ?_
        refine lv_dup2_11 hx hb d_M_call_82 rfl (gCat _) ?_
        obtain ⟨y28, ey28, h⟩ := h
        subst ey28
        obtain ⟨f29, h⟩ := h
        obtain ⟨hi30, h⟩ := h
        refine giald hx hb hK hG f29 hi30 d_M_call_83 ?_
        refine lv_iconst (v := 1) hx hb d_M_call_84 (by decide) ?_
        refine lv_iadd hx hb d_M_call_85 ?_
        obtain ⟨hi31, h⟩ := h
        refine giast hx hb hK hG f29 hi31 d_M_call_86 (fun S32 H locs eS32 hle1 hG => ?_)
        replace h := h S32 eS32
        have fa0 := gle_isA hle1 fa0
        have f9 := gle_isA hle1 f9
        have f12 := gle_isA hle1 f12
        have f18 := gle_isA hle1 f18
        have f21 := gle_isA hle1 f21
        have f26 := gle_isA hle1 f26
        have f29 := gle_isA hle1 f29
        have leS := leS.tr hle1
        have leS1 := leS1.tr hle1
        refine lv_iload_n hx hb d_M_call_87 rfl (lv_at hl15 0 rfl) ?_
        refine lv_iconst (v := 1) hx hb d_M_call_88 (by decide) ?_
        refine lv_iadd hx hb d_M_call_89 ?_
        exact giret hx hb hr hlocks hK hG leS h (Nat.le_of_ble_eq_true rfl) (Nat.le_of_ble_eq_true rfl) d_M_call_90
      · replace h := h.1 hc35
        refine lv_aload_n hx hb d_M_call_48 rfl (lv_at hl15 1 rfl) ?_
        refine lv_iconst (v := 2) hx hb d_M_call_49 (by decide) ?_
        -- call M_no
        refine gci hK hG (va_runV (As := [.int 2]) (rest := []) ⟨hx, hb, hml, hown, hw⟩ (m_M_no l x S1 _ a0 2 fa0 h) ⟨gcb hw tw_1052 tw_43 tw_1049 hd_M_no rfl rfl ⟨(Nat.le_of_ble_eq_true rfl), (Nat.le_of_ble_eq_true rfl)⟩, hw _ tw_1051, hw _ tw_12⟩ (gpV hK hG kd_M fa0 rfl) rfl rfl hl15.1 rfl (lv_room (Nat.le_of_ble_eq_true rfl)) d_M_call_50 ⟨(Nat.le_of_ble_eq_true rfl), (Nat.le_of_ble_eq_true rfl)⟩) (fun r33 S34 H locs h9 hle1 hG => ?_)
        replace h := h9
        clear h9
        have fa0 := gle_isA hle1 fa0
        have f9 := gle_isA hle1 f9
        have f12 := gle_isA hle1 f12
        have leS := leS.tr hle1
        have leS1 := leS1.tr hle1
        exact giret hx hb hr hlocks hK hG leS h (Nat.le_of_ble_eq_true rfl) (Nat.le_of_ble_eq_true rfl) d_M_call_53
    · replace h := h.1 hc36
      exact k21 H locs ls hG (lv_sub hl0 [0] rfl) h
def w_M_winderTold (post : Int32 → Prop) (S : St) (a0 : Nat) (a1 : Int32) (a2 : Int32) : Prop :=
  ∀ v1 : Int32, v1 = 6 * a1 → (a2 = 4 → ∀ o10 : Option Nat, o10 = sQ S 61 a0 → ∃ y11 : Nat, o10 = some y11 ∧ isA S 7 y11 ∧ ∀ o13 : Option Nat, o13 = sQ S 53 y11 → ∃ y14 : Nat, o13 = some y14 ∧ isA S 10 y14 ∧ vp_in (v1 + 3) (sN S y14) ∧ ((sR S y14 (v1 + 3).toNatClampNeg) = 0 → post (-1)) ∧ (¬ (sR S y14 (v1 + 3).toNatClampNeg) = 0 → ∀ o17 : Option Nat, o17 = sQ S 61 a0 → ∃ y18 : Nat, o17 = some y18 ∧ isA S 7 y18 ∧ ∀ o20 : Option Nat, o20 = sQ S 54 y18 → ∀ o21 : Option Nat, o21 = sQ S 61 a0 → ∃ y22 : Nat, o21 = some y22 ∧ isA S 7 y22 ∧ ∀ o24 : Option Nat, o24 = sQ S 53 y22 → ∃ y25 : Nat, o24 = some y25 ∧ isA S 10 y25 ∧ vp_in (v1 + 4) (sN S y25) ∧ ∃ y28 : Nat, o20 = some y28 ∧ isA S 10 y28 ∧ vp_in ((8 * a1) + (sR S y25 (v1 + 4).toNatClampNeg)) (sN S y28) ∧ post (sR S y28 ((8 * a1) + (sR S y25 (v1 + 4).toNatClampNeg)).toNatClampNeg))) ∧ (¬ a2 = 4 → ∀ o3 : Option Nat, o3 = sQ S 61 a0 → ∃ y4 : Nat, o3 = some y4 ∧ isA S 7 y4 ∧ ∀ o6 : Option Nat, o6 = sQ S 53 y4 → ∃ y7 : Nat, o6 = some y7 ∧ isA S 10 y7 ∧ vp_in (v1 + a2) (sN S y7) ∧ post (sR S y7 (v1 + a2).toNatClampNeg))
set_option maxHeartbeats 4000000 in
set_option maxRecDepth 100000 in
theorem m_M_winderTold (l : Launch) (x : Cx) (S : St) (post : Int32 → Prop) (a0 : Nat) (a1 : Int32) (a2 : Int32) (fa0 : isA S 8 a0) (h : w_M_winderTold post S a0 a1 a2) : Met l y_M_winderTold [.code y_M_winderTold c_M_winderTold 4 (some .int)] { frames := 0, cells := 0, slots := 0, locals := 0 } (va_Pc [.ref a0, .int a1, .int a2] (GW x S)) (va_Qi (gPu post S) (gB x S) (xA x)) 0 0 (xA x) := by
  refine gMet (by decide +kernel) (Nat.le_of_ble_eq_true rfl) ?_
  intro p e s m args below meth c hx hb hr hown hlocks hin hw hK H locs hG ls hlA hml
  have hown : s.vm.findClass "WaltzHallModel" = some m.cls := hown
  have hl0 : lv_has ls 4 [(0, .ref a0), (1, .int a1), (2, .int a2)] := hlA
  unfold w_M_winderTold at h
  refine lv_bipush (v := 6) hx hb d_M_winderTold_0 (by decide) ?_
  refine lv_iload_n hx hb d_M_winderTold_2 rfl (lv_at hl0 1 rfl) ?_
  refine lv_imul hx hb d_M_winderTold_3 ?_
  refine lv_topi (fun v1 ev1 => ?_)
  replace h := h v1 ev1
  refine lv_istore_n (i := 3) (lv' := [(3, .int v1), (0, .ref a0), (1, .int a1), (2, .int a2)]) hx hb d_M_winderTold_4 rfl hl0 (by decide) rfl (fun ls hl2 => ?_)
  refine lv_iload_n hx hb d_M_winderTold_5 rfl (lv_at hl2 3 rfl) ?_
  refine lv_iconst (v := 4) hx hb d_M_winderTold_6 (by decide) ?_
  refine lv_icmp_ne (tgt := 53) hx hb d_M_winderTold_7 (by decide) (fun hc32 => ?_) (fun hc32 => ?_)
  · replace h := h.2 hc32
    refine lv_aload_n hx hb d_M_winderTold_53 rfl (lv_at hl2 1 rfl) ?_
    refine gget hx hb hw hown hK hG kd_M fa0 rfl 5 (by decide) rfl tw_1024 (fun _ h9 => h9) d_M_winderTold_54 ?_
    refine gtopq (fun o3 eo3 => ?_)
    replace h := h o3 eo3
    obtain ⟨y4, ey4, h⟩ := h
    subst ey4
    obtain ⟨f5, h⟩ := h
    refine ggetN hx hb hw hown hK hG kd_S f5 rfl 15 (by decide) rfl tw_971 (fun _ h9 => h9) d_M_winderTold_57 ?_
    refine gtopq (fun o6 eo6 => ?_)
    replace h := h o6 eo6
    refine lv_iload_n hx hb d_M_winderTold_60 rfl (lv_at hl2 0 rfl) ?_
    refine lv_iload_n hx hb d_M_winderTold_61 rfl (lv_at hl2 3 rfl) ?_
    refine lv_iadd hx hb d_M_winderTold_62 ?_
    obtain ⟨y7, ey7, h⟩ := h
    subst ey7
    obtain ⟨f8, h⟩ := h
    obtain ⟨hi9, h⟩ := h
    refine giald hx hb hK hG f8 hi9 d_M_winderTold_63 ?_
    exact giret hx hb hr hlocks hK hG gle.rf ⟨h, rfl⟩ (Nat.le_of_ble_eq_true rfl) (Nat.le_of_ble_eq_true rfl) d_M_winderTold_64
  · replace h := h.1 hc32
    refine lv_aload_n hx hb d_M_winderTold_10 rfl (lv_at hl2 1 rfl) ?_
    refine gget hx hb hw hown hK hG kd_M fa0 rfl 5 (by decide) rfl tw_1024 (fun _ h9 => h9) d_M_winderTold_11 ?_
    refine gtopq (fun o10 eo10 => ?_)
    replace h := h o10 eo10
    obtain ⟨y11, ey11, h⟩ := h
    subst ey11
    obtain ⟨f12, h⟩ := h
    refine ggetN hx hb hw hown hK hG kd_S f12 rfl 15 (by decide) rfl tw_971 (fun _ h9 => h9) d_M_winderTold_14 ?_
    refine gtopq (fun o13 eo13 => ?_)
    replace h := h o13 eo13
    refine lv_iload_n hx hb d_M_winderTold_17 rfl (lv_at hl2 0 rfl) ?_
    refine lv_iconst (v := 3) hx hb d_M_winderTold_18 (by decide) ?_
    refine lv_iadd hx hb d_M_winderTold_19 ?_
    obtain ⟨y14, ey14, h⟩ := h
    subst ey14
    obtain ⟨f15, h⟩ := h
    obtain ⟨hi16, h⟩ := h
    refine giald hx hb hK hG f15 hi16 d_M_winderTold_20 ?_
    refine lv_if_ne (tgt := 28) hx hb d_M_winderTold_21 (by decide) (fun hc31 => ?_) (fun hc31 => ?_)
    · replace h := h.2 hc31
      refine lv_aload_n hx hb d_M_winderTold_28 rfl (lv_at hl2 1 rfl) ?_
      refine gget hx hb hw hown hK hG kd_M fa0 rfl 5 (by decide) rfl tw_1024 (fun _ h9 => h9) d_M_winderTold_29 ?_
      refine gtopq (fun o17 eo17 => ?_)
      replace h := h o17 eo17
      obtain ⟨y18, ey18, h⟩ := h
      subst ey18
      obtain ⟨f19, h⟩ := h
      refine ggetN hx hb hw hown hK hG kd_S f19 rfl 16 (by decide) rfl tw_973 (fun _ h9 => h9) d_M_winderTold_32 ?_
      refine gtopq (fun o20 eo20 => ?_)
      replace h := h o20 eo20
      refine lv_bipush (v := 8) hx hb d_M_winderTold_35 (by decide) ?_
      refine lv_iload_n hx hb d_M_winderTold_37 rfl (lv_at hl2 2 rfl) ?_
      refine lv_imul hx hb d_M_winderTold_38 ?_
      refine lv_aload_n hx hb d_M_winderTold_39 rfl (lv_at hl2 1 rfl) ?_
      refine gget hx hb hw hown hK hG kd_M fa0 rfl 5 (by decide) rfl tw_1024 (fun _ h9 => h9) d_M_winderTold_40 ?_
      refine gtopq (fun o21 eo21 => ?_)
      replace h := h o21 eo21
      obtain ⟨y22, ey22, h⟩ := h
      subst ey22
      obtain ⟨f23, h⟩ := h
      refine ggetN hx hb hw hown hK hG kd_S f23 rfl 15 (by decide) rfl tw_971 (fun _ h9 => h9) d_M_winderTold_43 ?_
      refine gtopq (fun o24 eo24 => ?_)
      replace h := h o24 eo24
      refine lv_iload_n hx hb d_M_winderTold_46 rfl (lv_at hl2 0 rfl) ?_
      refine lv_iconst (v := 4) hx hb d_M_winderTold_47 (by decide) ?_
      refine lv_iadd hx hb d_M_winderTold_48 ?_
      obtain ⟨y25, ey25, h⟩ := h
      subst ey25
      obtain ⟨f26, h⟩ := h
      obtain ⟨hi27, h⟩ := h
      refine giald hx hb hK hG f26 hi27 d_M_winderTold_49 ?_
      refine lv_iadd hx hb d_M_winderTold_50 ?_
      obtain ⟨y28, ey28, h⟩ := h
      subst ey28
      obtain ⟨f29, h⟩ := h
      obtain ⟨hi30, h⟩ := h
      refine giald hx hb hK hG f29 hi30 d_M_winderTold_51 ?_
      exact giret hx hb hr hlocks hK hG gle.rf ⟨h, rfl⟩ (Nat.le_of_ble_eq_true rfl) (Nat.le_of_ble_eq_true rfl) d_M_winderTold_52
    · replace h := h.1 hc31
      refine lv_iconst (v := (-1)) hx hb d_M_winderTold_24 (by decide) ?_
      refine lv_goto (tgt := 52) hx hb d_M_winderTold_25 (by decide) ?_
      exact giret hx hb hr hlocks hK hG gle.rf ⟨h, rfl⟩ (Nat.le_of_ble_eq_true rfl) (Nat.le_of_ble_eq_true rfl) d_M_winderTold_52
def w_M_winder (post : Int32 → St → Prop) (S : St) (a0 : Nat) (a1 : Int32) (a2 : Int32) : Prop :=
  ∀ S1 : St, S1 = pI S 56 a0 0 → w_M_isWinder (fun (r2 : Int32) => ∃ J31 : Prop, (J31 → w_M_no (fun (r4 : Int32) (S5 : St) => post r4 S5) S1 a0 1) ∧ (r2 = 0 → J31) ∧ (¬ r2 = 0 → w_M_isIn (fun (r6 : Int32) => (r6 = 0 → J31) ∧ (¬ r6 = 0 → w_M_winderTold (fun (r7 : Int32) => post r7 S1) S1 a0 a1 a2)) S1 a2 0 5)) S1 a0 a1
set_option maxHeartbeats 4000000 in
set_option maxRecDepth 100000 in
theorem m_M_winder (l : Launch) (x : Cx) (S : St) (post : Int32 → St → Prop) (a0 : Nat) (a1 : Int32) (a2 : Int32) (fa0 : isA S 8 a0) (h : w_M_winder post S a0 a1 a2) : Met l y_M_winder [.code y_M_winder c_M_winder 3 (some .int)] { frames := 2, cells := 0, slots := 0, locals := 43 } (va_Pc [.ref a0, .int a1, .int a2] (GW x S)) (va_Qi post (gB x S) (xA x)) 0 0 (xA x) := by
  refine gMet (by decide +kernel) (Nat.le_of_ble_eq_true rfl) ?_
  intro p e s m args below meth c hx hb hr hown hlocks hin hw hK H locs hG ls hlA hml
  have hown : s.vm.findClass "WaltzHallModel" = some m.cls := hown
  have hl0 : lv_has ls 3 [(0, .ref a0), (1, .int a1), (2, .int a2)] := hlA
  have leS : gle S S := gle.rf
  unfold w_M_winder at h
  refine lv_aload_n hx hb d_M_winder_0 rfl (lv_at hl0 0 rfl) ?_
  refine lv_iconst (v := 0) hx hb d_M_winder_1 (by decide) ?_
  refine gput (S' := pI S 56 a0 0) hx hb hw hown hK hG kd_M fa0 rfl 0 (by decide) (gChI fa0 rfl) tw_1017 (fun _ h9 => h9) rfl rfl rfl rfl (Nat.le_of_ble_eq_true rfl) d_M_winder_2 (fun S1 H locs eS1 hle1 hG => ?_)
  replace h := h S1 eS1
  have fa0 := gle_isA hle1 fa0
  have leS := leS.tr hle1
  refine lv_aload_n hx hb d_M_winder_5 rfl (lv_at hl0 0 rfl) ?_
  refine lv_iload_n hx hb d_M_winder_6 rfl (lv_at hl0 1 rfl) ?_
  -- call M_isWinder
  refine gpi hK hG (va_runV (As := [.int a1]) (rest := []) ⟨hx, hb, hml, hown, hw⟩ (m_M_isWinder l x S1 _ a0 a1 fa0 h) ⟨gcb hw tw_1147 tw_43 tw_1144 hd_M_isWinder rfl rfl ⟨(Nat.le_of_ble_eq_true rfl), (Nat.le_of_ble_eq_true rfl)⟩, hw _ tw_1146, hw _ tw_16⟩ (gpV hK hG kd_M fa0 rfl) rfl rfl hl0.1 rfl (lv_room (Nat.le_of_ble_eq_true rfl)) d_M_winder_7 ⟨(Nat.le_of_ble_eq_true rfl), (Nat.le_of_ble_eq_true rfl)⟩) (fun r2 H locs h9 hG => ?_)
  replace h := h9
  clear h9
  have leS1 : gle S1 S1 := gle.rf
  obtain ⟨J31, hJ31, h⟩ := h
  have k31 : ∀ (H : Heap) (locs : List Loc) (ls : Array Slot), GH x S1 s H locs → lv_has ls 3 [(0, .ref a0)] → J31 → W p l e { frames := 2, cells := 0, slots := 0, locals := 43 } s m args below meth c H locs 0 0 (MQ below (va_Qi post (gB x S) (xA x)) args s 0 0 (xA x)) (F0 m 31 ls []) := by
    intro  H locs ls hG hl3 hj
    replace h := hJ31 hj
    refine lv_aload_n hx hb d_M_winder_31 rfl (lv_at hl3 0 rfl) ?_
    refine lv_iconst (v := 1) hx hb d_M_winder_32 (by decide) ?_
    -- call M_no
    refine gci hK hG (va_runV (As := [.int 1]) (rest := []) ⟨hx, hb, hml, hown, hw⟩ (m_M_no l x S1 _ a0 1 fa0 h) ⟨gcb hw tw_1052 tw_43 tw_1049 hd_M_no rfl rfl ⟨(Nat.le_of_ble_eq_true rfl), (Nat.le_of_ble_eq_true rfl)⟩, hw _ tw_1051, hw _ tw_12⟩ (gpV hK hG kd_M fa0 rfl) rfl rfl hl3.1 rfl (lv_room (Nat.le_of_ble_eq_true rfl)) d_M_winder_33 ⟨(Nat.le_of_ble_eq_true rfl), (Nat.le_of_ble_eq_true rfl)⟩) (fun r4 S5 H locs h9 hle1 hG => ?_)
    replace h := h9
    clear h9
    have fa0 := gle_isA hle1 fa0
    have leS := leS.tr hle1
    have leS1 := leS1.tr hle1
    exact giret hx hb hr hlocks hK hG leS h (Nat.le_of_ble_eq_true rfl) (Nat.le_of_ble_eq_true rfl) d_M_winder_36
  refine lv_if_eq (tgt := 31) hx hb d_M_winder_10 (by decide) (fun hc9 => ?_) (fun hc9 => ?_)
  · replace h := h.1 hc9
    exact k31 H locs ls hG (lv_sub hl0 [0] rfl) h
  · replace h := h.2 hc9
    refine lv_iload_n hx hb d_M_winder_13 rfl (lv_at hl0 2 rfl) ?_
    refine lv_iconst (v := 0) hx hb d_M_winder_14 (by decide) ?_
    refine lv_iconst (v := 5) hx hb d_M_winder_15 (by decide) ?_
    -- call M_isIn
    refine gpi hK hG (va_runS (As := [.int a2, .int 0, .int 5]) (rest := []) ⟨hx, hb, hml, hown, hw⟩ (m_M_isIn l x S1 _ a2 0 5  h) ⟨gcb hw tw_1059 tw_43 tw_1057 hd_M_isIn rfl rfl ⟨(Nat.le_of_ble_eq_true rfl), (Nat.le_of_ble_eq_true rfl)⟩, hw _ tw_1058⟩ (gpS hK hG) rfl rfl hl0.1 rfl (lv_room (Nat.le_of_ble_eq_true rfl)) d_M_winder_16 ⟨(Nat.le_of_ble_eq_true rfl), (Nat.le_of_ble_eq_true rfl)⟩) (fun r6 H locs h9 hG => ?_)
    replace h := h9
    clear h9
    refine lv_if_eq (tgt := 31) hx hb d_M_winder_19 (by decide) (fun hc8 => ?_) (fun hc8 => ?_)
    · replace h := h.1 hc8
      exact k31 H locs ls hG (lv_sub hl0 [0] rfl) h
    · replace h := h.2 hc8
      refine lv_aload_n hx hb d_M_winder_22 rfl (lv_at hl0 0 rfl) ?_
      refine lv_iload_n hx hb d_M_winder_23 rfl (lv_at hl0 1 rfl) ?_
      refine lv_iload_n hx hb d_M_winder_24 rfl (lv_at hl0 2 rfl) ?_
      -- call M_winderTold
      refine gpi hK hG (va_runV (As := [.int a1, .int a2]) (rest := []) ⟨hx, hb, hml, hown, hw⟩ (m_M_winderTold l x S1 _ a0 a1 a2 fa0 h) ⟨gcb hw tw_1155 tw_43 tw_1152 hd_M_winderTold rfl rfl ⟨(Nat.le_of_ble_eq_true rfl), (Nat.le_of_ble_eq_true rfl)⟩, hw _ tw_1154, hw _ tw_17⟩ (gpV hK hG kd_M fa0 rfl) rfl rfl hl0.1 rfl (lv_room (Nat.le_of_ble_eq_true rfl)) d_M_winder_25 ⟨(Nat.le_of_ble_eq_true rfl), (Nat.le_of_ble_eq_true rfl)⟩) (fun r7 H locs h9 hG => ?_)
      replace h := h9
      clear h9
      refine lv_goto (tgt := 36) hx hb d_M_winder_28 (by decide) ?_
      exact giret hx hb hr hlocks hK hG leS h (Nat.le_of_ble_eq_true rfl) (Nat.le_of_ble_eq_true rfl) d_M_winder_36
def w_M_pass (post : Int32 → St → Prop) (S : St) (a0 : Nat) (a1 : Int32) : Prop :=
  ∀ S1 : St, S1 = pI S 56 a0 0 → w_M_isIn (fun (r2 : Int32) => (r2 = 0 → w_M_no (fun (r16 : Int32) (S17 : St) => post r16 S17) S1 a0 1) ∧ (¬ r2 = 0 → ∃ J26 : Nat → St → Int32 → Int32 → Prop, (∃ n : Nat, J26 n S1 0 0) ∧ ∀ (n26 : Nat) (S_26 : St) (v2_26 : Int32) (v3_26 : Int32), J26 n26 S_26 v2_26 v3_26 → (a1 ≤ v3_26 → post v2_26 S_26) ∧ (¬ a1 ≤ v3_26 → ∀ o6 : Option Nat, o6 = sQ S_26 61 a0 → ∃ y7 : Nat, o6 = some y7 ∧ isA S_26 7 y7 ∧ w_S_pass (fun (r9 : Int32) (S10 : St) => ∀ v11 : Int32, v11 = v2_26 + r9 → ∀ v13 : Int32, v13 = v3_26 + 1 → ∃ nx : Nat, nx < n26 ∧ J26 nx S10 v11 v13) S_26 y7))) S1 a1 1 200
set_option maxHeartbeats 4000000 in
set_option maxRecDepth 100000 in
theorem m_M_pass (l : Launch) (x : Cx) (S : St) (post : Int32 → St → Prop) (a0 : Nat) (a1 : Int32) (fa0 : isA S 8 a0) (h : w_M_pass post S a0 a1) : Met l y_M_pass [.code y_M_pass c_M_pass 4 (some .int)] { frames := 4, cells := 0, slots := 0, locals := 101 } (va_Pc [.ref a0, .int a1] (GW x S)) (va_Qi post (gB x S) (xA x)) 0 0 (xA x) := by
  refine gMet (by decide +kernel) (Nat.le_of_ble_eq_true rfl) ?_
  intro p e s m args below meth c hx hb hr hown hlocks hin hw hK H locs hG ls hlA hml
  have hown : s.vm.findClass "WaltzHallModel" = some m.cls := hown
  have hl0 : lv_has ls 4 [(0, .ref a0), (1, .int a1)] := hlA
  have leS : gle S S := gle.rf
  unfold w_M_pass at h
  refine lv_aload_n hx hb d_M_pass_0 rfl (lv_at hl0 0 rfl) ?_
  refine lv_iconst (v := 0) hx hb d_M_pass_1 (by decide) ?_
  refine gput (S' := pI S 56 a0 0) hx hb hw hown hK hG kd_M fa0 rfl 0 (by decide) (gChI fa0 rfl) tw_1017 (fun _ h9 => h9) rfl rfl rfl rfl (Nat.le_of_ble_eq_true rfl) d_M_pass_2 (fun S1 H locs eS1 hle1 hG => ?_)
  replace h := h S1 eS1
  have fa0 := gle_isA hle1 fa0
  have leS := leS.tr hle1
  refine lv_iload_n hx hb d_M_pass_5 rfl (lv_at hl0 1 rfl) ?_
  refine lv_iconst (v := 1) hx hb d_M_pass_6 (by decide) ?_
  refine lv_sipush (v := 200) hx hb d_M_pass_7 (by decide) ?_
  -- call M_isIn
  refine gpi hK hG (va_runS (As := [.int a1, .int 1, .int 200]) (rest := []) ⟨hx, hb, hml, hown, hw⟩ (m_M_isIn l x S1 _ a1 1 200  h) ⟨gcb hw tw_1059 tw_43 tw_1057 hd_M_isIn rfl rfl ⟨(Nat.le_of_ble_eq_true rfl), (Nat.le_of_ble_eq_true rfl)⟩, hw _ tw_1058⟩ (gpS hK hG) rfl rfl hl0.1 rfl (lv_room (Nat.le_of_ble_eq_true rfl)) d_M_pass_10 ⟨(Nat.le_of_ble_eq_true rfl), (Nat.le_of_ble_eq_true rfl)⟩) (fun r2 H locs h9 hG => ?_)
  replace h := h9
  clear h9
  refine lv_if_ne (tgt := 22) hx hb d_M_pass_13 (by decide) (fun hc18 => ?_) (fun hc18 => ?_)
  · replace h := h.2 hc18
    refine lv_iconst (v := 0) hx hb d_M_pass_22 (by decide) ?_
    refine lv_istore_n (i := 2) (lv' := [(2, .int 0), (0, .ref a0), (1, .int a1)]) hx hb d_M_pass_23 rfl hl0 (by decide) rfl (fun ls hl3 => ?_)
    refine lv_iconst (v := 0) hx hb d_M_pass_24 (by decide) ?_
    refine lv_istore_n (i := 3) (lv' := [(3, .int 0), (2, .int 0), (0, .ref a0), (1, .int a1)]) hx hb d_M_pass_25 rfl hl3 (by decide) rfl (fun ls hl4 => ?_)
    have leS1 : gle S1 S1 := gle.rf
    obtain ⟨J26, ⟨n0_26, h0_26⟩, hJ26⟩ := h
    have k26 : ∀ (n26 : Nat) (S_26 : St) (v2_26 : Int32) (v3_26 : Int32) (H : Heap) (locs : List Loc) (ls : Array Slot), gle S1 S_26 → GH x S_26 s H locs → lv_has ls 4 [(0, .ref a0), (1, .int a1), (2, .int v2_26), (3, .int v3_26)] → J26 n26 S_26 v2_26 v3_26 → W p l e { frames := 4, cells := 0, slots := 0, locals := 101 } s m args below meth c H locs 0 0 (MQ below (va_Qi post (gB x S) (xA x)) args s 0 0 (xA x)) (F0 m 26 ls []) := by
      intro n26
      induction n26 using Nat.strongRecOn with
      | _ n26 ih26 =>
        intro S_26 v2_26 v3_26 H locs ls hle1 hG hl5 hj
        replace h := hJ26 n26 S_26 v2_26 v3_26 hj
        have fa0 := gle_isA hle1 fa0
        have leS := leS.tr hle1
        have leS1 := leS1.tr hle1
        refine lv_iload_n hx hb d_M_pass_26 rfl (lv_at hl5 3 rfl) ?_
        refine lv_iload_n hx hb d_M_pass_27 rfl (lv_at hl5 1 rfl) ?_
        refine lv_icmp_ge (tgt := 47) hx hb d_M_pass_28 (by decide) (fun hc15 => ?_) (fun hc15 => ?_)
        · replace h := h.1 hc15
          refine lv_iload_n hx hb d_M_pass_47 rfl (lv_at hl5 2 rfl) ?_
          exact giret hx hb hr hlocks hK hG leS h (Nat.le_of_ble_eq_true rfl) (Nat.le_of_ble_eq_true rfl) d_M_pass_48
        · replace h := h.2 hc15
          refine lv_iload_n hx hb d_M_pass_31 rfl (lv_at hl5 2 rfl) ?_
          refine lv_aload_n hx hb d_M_pass_32 rfl (lv_at hl5 0 rfl) ?_
          refine gget hx hb hw hown hK hG kd_M fa0 rfl 5 (by decide) rfl tw_1024 (fun _ h9 => h9) d_M_pass_33 ?_
          refine gtopq (fun o6 eo6 => ?_)
          replace h := h o6 eo6
          obtain ⟨y7, ey7, h⟩ := h
          subst ey7
          obtain ⟨f8, h⟩ := h
          -- call S_pass
          refine gci hK hG (va_runV (As := []) (rest := [.int v2_26]) ⟨hx, hb, hml, hown, hw⟩ (m_S_pass l x S_26 _ y7 f8 h) ⟨gcb hw tw_1163 tw_44 tw_1160 hd_S_pass rfl rfl ⟨(Nat.le_of_ble_eq_true rfl), (Nat.le_of_ble_eq_true rfl)⟩, hw _ tw_1161, hw _ tw_1162⟩ (gpV hK hG kd_S f8 rfl) rfl rfl hl5.1 rfl (lv_room (Nat.le_of_ble_eq_true rfl)) d_M_pass_36 ⟨(Nat.le_of_ble_eq_true rfl), (Nat.le_of_ble_eq_true rfl)⟩) (fun r9 S10 H locs h9 hle1 hG => ?_)
          replace h := h9
          clear h9
          have fa0 := gle_isA hle1 fa0
          have f8 := gle_isA hle1 f8
          have leS := leS.tr hle1
          have leS1 := leS1.tr hle1
          refine lv_iadd hx hb d_M_pass_39 ?_
          refine lv_topi (fun v11 ev11 => ?_)
          replace h := h v11 ev11
          refine lv_istore_n (i := 2) (lv' := [(2, .int v11), (0, .ref a0), (1, .int a1), (3, .int v3_26)]) hx hb d_M_pass_40 rfl hl5 (by decide) rfl (fun ls hl12 => ?_)
          obtain ⟨v13, ev13⟩ : ∃ z : Int32, z = v3_26 + 1 := ⟨_, rfl⟩
          replace h := h v13 ev13
          refine lv_iinc (v := v13) (lv' := [(3, .int v13), (2, .int v11), (0, .ref a0), (1, .int a1)]) hx hb d_M_pass_41 hl12 (k := 3) rfl (by rw [ev13]; rfl) (by decide) rfl (fun ls hl14 => ?_)
          refine lv_goto (tgt := 26) hx hb d_M_pass_44 (by decide) ?_
          obtain ⟨nx, hnx, h⟩ := h
          exact ih26 nx hnx S10 v11 v13 H locs ls leS1 hG (lv_sub hl14 [2, 3, 1, 0] rfl) h
    exact k26 n0_26 S1 0 0 H locs ls gle.rf hG (lv_sub hl4 [2, 3, 1, 0] rfl) h0_26
  · replace h := h.1 hc18
    refine lv_aload_n hx hb d_M_pass_16 rfl (lv_at hl0 0 rfl) ?_
    refine lv_iconst (v := 1) hx hb d_M_pass_17 (by decide) ?_
    -- call M_no
    refine gci hK hG (va_runV (As := [.int 1]) (rest := []) ⟨hx, hb, hml, hown, hw⟩ (m_M_no l x S1 _ a0 1 fa0 h) ⟨gcb hw tw_1052 tw_43 tw_1049 hd_M_no rfl rfl ⟨(Nat.le_of_ble_eq_true rfl), (Nat.le_of_ble_eq_true rfl)⟩, hw _ tw_1051, hw _ tw_12⟩ (gpV hK hG kd_M fa0 rfl) rfl rfl hl0.1 rfl (lv_room (Nat.le_of_ble_eq_true rfl)) d_M_pass_18 ⟨(Nat.le_of_ble_eq_true rfl), (Nat.le_of_ble_eq_true rfl)⟩) (fun r16 S17 H locs h9 hle1 hG => ?_)
    replace h := h9
    clear h9
    have fa0 := gle_isA hle1 fa0
    have leS := leS.tr hle1
    exact giret hx hb hr hlocks hK hG leS h (Nat.le_of_ble_eq_true rfl) (Nat.le_of_ble_eq_true rfl) d_M_pass_21
def w_M_counted (post : Int32 → Prop) (S : St) (a0 : Nat) (a1 : Int32) : Prop :=
  (a1 = 0 → ∀ o13 : Option Nat, o13 = sQ S 61 a0 → ∃ y14 : Nat, o13 = some y14 ∧ isA S 7 y14 ∧ post (sI S 38 y14)) ∧ (¬ a1 = 0 → (a1 = 1 → ∀ o9 : Option Nat, o9 = sQ S 61 a0 → ∃ y10 : Nat, o9 = some y10 ∧ isA S 7 y10 ∧ post (sI S 39 y10)) ∧ (¬ a1 = 1 → (a1 = 3 → ∀ o5 : Option Nat, o5 = sQ S 61 a0 → ∃ y6 : Nat, o5 = some y6 ∧ isA S 7 y6 ∧ post (sI S 52 y6)) ∧ (¬ a1 = 3 → ∀ o1 : Option Nat, o1 = sQ S 61 a0 → ∃ y2 : Nat, o1 = some y2 ∧ isA S 7 y2 ∧ w_S_sum (fun (r4 : Int32) => post r4) S y2 a1)))
set_option maxHeartbeats 4000000 in
set_option maxRecDepth 100000 in
theorem m_M_counted (l : Launch) (x : Cx) (S : St) (post : Int32 → Prop) (a0 : Nat) (a1 : Int32) (fa0 : isA S 8 a0) (h : w_M_counted post S a0 a1) : Met l y_M_counted [.code y_M_counted c_M_counted 2 (some .int)] { frames := 2, cells := 0, slots := 0, locals := 44 } (va_Pc [.ref a0, .int a1] (GW x S)) (va_Qi (gPu post S) (gB x S) (xA x)) 0 0 (xA x) := by
  refine gMet (by decide +kernel) (Nat.le_of_ble_eq_true rfl) ?_
  intro p e s m args below meth c hx hb hr hown hlocks hin hw hK H locs hG ls hlA hml
  have hown : s.vm.findClass "WaltzHallModel" = some m.cls := hown
  have hl0 : lv_has ls 2 [(0, .ref a0), (1, .int a1)] := hlA
  unfold w_M_counted at h
  refine lv_iload_n hx hb d_M_counted_0 rfl (lv_at hl0 1 rfl) ?_
  refine lv_if_ne (tgt := 14) hx hb d_M_counted_1 (by decide) (fun hc16 => ?_) (fun hc16 => ?_)
  · replace h := h.2 hc16
    refine lv_iload_n hx hb d_M_counted_14 rfl (lv_at hl0 1 rfl) ?_
    refine lv_iconst (v := 1) hx hb d_M_counted_15 (by decide) ?_
    refine lv_icmp_ne (tgt := 29) hx hb d_M_counted_16 (by decide) (fun hc12 => ?_) (fun hc12 => ?_)
    · replace h := h.2 hc12
      refine lv_iload_n hx hb d_M_counted_29 rfl (lv_at hl0 1 rfl) ?_
      refine lv_iconst (v := 3) hx hb d_M_counted_30 (by decide) ?_
      refine lv_icmp_ne (tgt := 44) hx hb d_M_counted_31 (by decide) (fun hc8 => ?_) (fun hc8 => ?_)
      · replace h := h.2 hc8
        refine lv_aload_n hx hb d_M_counted_44 rfl (lv_at hl0 0 rfl) ?_
        refine gget hx hb hw hown hK hG kd_M fa0 rfl 5 (by decide) rfl tw_1024 (fun _ h9 => h9) d_M_counted_45 ?_
        refine gtopq (fun o1 eo1 => ?_)
        replace h := h o1 eo1
        refine lv_iload_n hx hb d_M_counted_48 rfl (lv_at hl0 1 rfl) ?_
        obtain ⟨y2, ey2, h⟩ := h
        subst ey2
        obtain ⟨f3, h⟩ := h
        -- call S_sum
        refine gpi hK hG (va_runV (As := [.int a1]) (rest := []) ⟨hx, hb, hml, hown, hw⟩ (m_S_sum l x S _ y2 a1 f3 h) ⟨gcb hw tw_1109 tw_44 tw_1106 hd_S_sum rfl rfl ⟨(Nat.le_of_ble_eq_true rfl), (Nat.le_of_ble_eq_true rfl)⟩, hw _ tw_1107, hw _ tw_1108⟩ (gpV hK hG kd_S f3 rfl) rfl rfl hl0.1 rfl (lv_room (Nat.le_of_ble_eq_true rfl)) d_M_counted_49 ⟨(Nat.le_of_ble_eq_true rfl), (Nat.le_of_ble_eq_true rfl)⟩) (fun r4 H locs h9 hG => ?_)
        replace h := h9
        clear h9
        exact giret hx hb hr hlocks hK hG gle.rf ⟨h, rfl⟩ (Nat.le_of_ble_eq_true rfl) (Nat.le_of_ble_eq_true rfl) d_M_counted_52
      · replace h := h.1 hc8
        refine lv_aload_n hx hb d_M_counted_34 rfl (lv_at hl0 0 rfl) ?_
        refine gget hx hb hw hown hK hG kd_M fa0 rfl 5 (by decide) rfl tw_1024 (fun _ h9 => h9) d_M_counted_35 ?_
        refine gtopq (fun o5 eo5 => ?_)
        replace h := h o5 eo5
        obtain ⟨y6, ey6, h⟩ := h
        subst ey6
        obtain ⟨f7, h⟩ := h
        refine ggetN hx hb hw hown hK hG kd_S f7 rfl 14 (by decide) rfl tw_969 (fun _ h9 => h9) d_M_counted_38 ?_
        refine lv_goto (tgt := 52) hx hb d_M_counted_41 (by decide) ?_
        exact giret hx hb hr hlocks hK hG gle.rf ⟨h, rfl⟩ (Nat.le_of_ble_eq_true rfl) (Nat.le_of_ble_eq_true rfl) d_M_counted_52
    · replace h := h.1 hc12
      refine lv_aload_n hx hb d_M_counted_19 rfl (lv_at hl0 0 rfl) ?_
      refine gget hx hb hw hown hK hG kd_M fa0 rfl 5 (by decide) rfl tw_1024 (fun _ h9 => h9) d_M_counted_20 ?_
      refine gtopq (fun o9 eo9 => ?_)
      replace h := h o9 eo9
      obtain ⟨y10, ey10, h⟩ := h
      subst ey10
      obtain ⟨f11, h⟩ := h
      refine ggetN hx hb hw hown hK hG kd_S f11 rfl 1 (by decide) rfl tw_943 (fun _ h9 => h9) d_M_counted_23 ?_
      refine lv_goto (tgt := 52) hx hb d_M_counted_26 (by decide) ?_
      exact giret hx hb hr hlocks hK hG gle.rf ⟨h, rfl⟩ (Nat.le_of_ble_eq_true rfl) (Nat.le_of_ble_eq_true rfl) d_M_counted_52
  · replace h := h.1 hc16
    refine lv_aload_n hx hb d_M_counted_4 rfl (lv_at hl0 0 rfl) ?_
    refine gget hx hb hw hown hK hG kd_M fa0 rfl 5 (by decide) rfl tw_1024 (fun _ h9 => h9) d_M_counted_5 ?_
    refine gtopq (fun o13 eo13 => ?_)
    replace h := h o13 eo13
    obtain ⟨y14, ey14, h⟩ := h
    subst ey14
    obtain ⟨f15, h⟩ := h
    refine ggetN hx hb hw hown hK hG kd_S f15 rfl 0 (by decide) rfl tw_941 (fun _ h9 => h9) d_M_counted_8 ?_
    refine lv_goto (tgt := 52) hx hb d_M_counted_11 (by decide) ?_
    exact giret hx hb hr hlocks hK hG gle.rf ⟨h, rfl⟩ (Nat.le_of_ble_eq_true rfl) (Nat.le_of_ble_eq_true rfl) d_M_counted_52
def w_M_count (post : Int32 → St → Prop) (S : St) (a0 : Nat) (a1 : Int32) : Prop :=
  ∀ S1 : St, S1 = pI S 56 a0 0 → w_M_isIn (fun (r2 : Int32) => (r2 = 0 → w_M_no (fun (r3 : Int32) (S4 : St) => post r3 S4) S1 a0 1) ∧ (¬ r2 = 0 → w_M_counted (fun (r5 : Int32) => post r5 S1) S1 a0 a1)) S1 a1 0 8
set_option maxHeartbeats 4000000 in
set_option maxRecDepth 100000 in
theorem m_M_count (l : Launch) (x : Cx) (S : St) (post : Int32 → St → Prop) (a0 : Nat) (a1 : Int32) (fa0 : isA S 8 a0) (h : w_M_count post S a0 a1) : Met l y_M_count [.code y_M_count c_M_count 2 (some .int)] { frames := 3, cells := 0, slots := 0, locals := 65 } (va_Pc [.ref a0, .int a1] (GW x S)) (va_Qi post (gB x S) (xA x)) 0 0 (xA x) := by
  refine gMet (by decide +kernel) (Nat.le_of_ble_eq_true rfl) ?_
  intro p e s m args below meth c hx hb hr hown hlocks hin hw hK H locs hG ls hlA hml
  have hown : s.vm.findClass "WaltzHallModel" = some m.cls := hown
  have hl0 : lv_has ls 2 [(0, .ref a0), (1, .int a1)] := hlA
  have leS : gle S S := gle.rf
  unfold w_M_count at h
  refine lv_aload_n hx hb d_M_count_0 rfl (lv_at hl0 0 rfl) ?_
  refine lv_iconst (v := 0) hx hb d_M_count_1 (by decide) ?_
  refine gput (S' := pI S 56 a0 0) hx hb hw hown hK hG kd_M fa0 rfl 0 (by decide) (gChI fa0 rfl) tw_1017 (fun _ h9 => h9) rfl rfl rfl rfl (Nat.le_of_ble_eq_true rfl) d_M_count_2 (fun S1 H locs eS1 hle1 hG => ?_)
  replace h := h S1 eS1
  have fa0 := gle_isA hle1 fa0
  have leS := leS.tr hle1
  refine lv_iload_n hx hb d_M_count_5 rfl (lv_at hl0 1 rfl) ?_
  refine lv_iconst (v := 0) hx hb d_M_count_6 (by decide) ?_
  refine lv_bipush (v := 8) hx hb d_M_count_7 (by decide) ?_
  -- call M_isIn
  refine gpi hK hG (va_runS (As := [.int a1, .int 0, .int 8]) (rest := []) ⟨hx, hb, hml, hown, hw⟩ (m_M_isIn l x S1 _ a1 0 8  h) ⟨gcb hw tw_1059 tw_43 tw_1057 hd_M_isIn rfl rfl ⟨(Nat.le_of_ble_eq_true rfl), (Nat.le_of_ble_eq_true rfl)⟩, hw _ tw_1058⟩ (gpS hK hG) rfl rfl hl0.1 rfl (lv_room (Nat.le_of_ble_eq_true rfl)) d_M_count_9 ⟨(Nat.le_of_ble_eq_true rfl), (Nat.le_of_ble_eq_true rfl)⟩) (fun r2 H locs h9 hG => ?_)
  replace h := h9
  clear h9
  refine lv_if_eq (tgt := 23) hx hb d_M_count_12 (by decide) (fun hc6 => ?_) (fun hc6 => ?_)
  · replace h := h.1 hc6
    refine lv_aload_n hx hb d_M_count_23 rfl (lv_at hl0 0 rfl) ?_
    refine lv_iconst (v := 1) hx hb d_M_count_24 (by decide) ?_
    -- call M_no
    refine gci hK hG (va_runV (As := [.int 1]) (rest := []) ⟨hx, hb, hml, hown, hw⟩ (m_M_no l x S1 _ a0 1 fa0 h) ⟨gcb hw tw_1052 tw_43 tw_1049 hd_M_no rfl rfl ⟨(Nat.le_of_ble_eq_true rfl), (Nat.le_of_ble_eq_true rfl)⟩, hw _ tw_1051, hw _ tw_12⟩ (gpV hK hG kd_M fa0 rfl) rfl rfl hl0.1 rfl (lv_room (Nat.le_of_ble_eq_true rfl)) d_M_count_25 ⟨(Nat.le_of_ble_eq_true rfl), (Nat.le_of_ble_eq_true rfl)⟩) (fun r3 S4 H locs h9 hle1 hG => ?_)
    replace h := h9
    clear h9
    have fa0 := gle_isA hle1 fa0
    have leS := leS.tr hle1
    exact giret hx hb hr hlocks hK hG leS h (Nat.le_of_ble_eq_true rfl) (Nat.le_of_ble_eq_true rfl) d_M_count_28
  · replace h := h.2 hc6
    refine lv_aload_n hx hb d_M_count_15 rfl (lv_at hl0 0 rfl) ?_
    refine lv_iload_n hx hb d_M_count_16 rfl (lv_at hl0 1 rfl) ?_
    -- call M_counted
    refine gpi hK hG (va_runV (As := [.int a1]) (rest := []) ⟨hx, hb, hml, hown, hw⟩ (m_M_counted l x S1 _ a0 a1 fa0 h) ⟨gcb hw tw_1209 tw_43 tw_1206 hd_M_counted rfl rfl ⟨(Nat.le_of_ble_eq_true rfl), (Nat.le_of_ble_eq_true rfl)⟩, hw _ tw_1208, hw _ tw_25⟩ (gpV hK hG kd_M fa0 rfl) rfl rfl hl0.1 rfl (lv_room (Nat.le_of_ble_eq_true rfl)) d_M_count_17 ⟨(Nat.le_of_ble_eq_true rfl), (Nat.le_of_ble_eq_true rfl)⟩) (fun r5 H locs h9 hG => ?_)
    replace h := h9
    clear h9
    refine lv_goto (tgt := 28) hx hb d_M_count_20 (by decide) ?_
    exact giret hx hb hr hlocks hK hG leS h (Nat.le_of_ble_eq_true rfl) (Nat.le_of_ble_eq_true rfl) d_M_count_28
def w_M_foresee (post : Int32 → St → Prop) (S : St) (a0 : Nat) (a1 : Int32) (a2 : Int32) (a3 : Int32) : Prop :=
  ∀ S1 : St, S1 = pI S 56 a0 0 → w_M_isDancer (fun (r2 : Int32) => ∃ J22 : Prop, (J22 → w_M_no (fun (r4 : Int32) (S5 : St) => post r4 S5) S1 a0 1) ∧ (r2 = 0 → J22) ∧ (¬ r2 = 0 → w_M_isIn (fun (r6 : Int32) => (r6 = 0 → J22) ∧ (¬ r6 = 0 → w_M_isIn (fun (r7 : Int32) => (r7 = 0 → w_M_no (fun (r80 : Int32) (S81 : St) => post r80 S81) S1 a0 2) ∧ (¬ r7 = 0 → ∀ o8 : Option Nat, o8 = sQ S1 62 a0 → ∀ o9 : Option Nat, o9 = sQ S1 61 a0 → ∃ y10 : Nat, o8 = some y10 ∧ isA S1 7 y10 ∧ w_S_become (fun (S12 : St) => ∃ J59 : Nat → St → Int32 → Prop, (∃ n : Nat, J59 n S12 0) ∧ ∀ (n59 : Nat) (S_59 : St) (v4_59 : Int32), J59 n59 S_59 v4_59 → (a2 ≤ v4_59 → ∀ (q15 : Nat) (S16 : St), q15 ∉ sL S_59 → S16 = pNew S_59 q15 10 5 → ∀ o18 : Option Nat, o18 = sQ S16 62 a0 → ∃ y19 : Nat, o18 = some y19 ∧ isA S16 7 y19 ∧ ∀ o21 : Option Nat, o21 = sQ S16 40 y19 → ∃ y22 : Nat, o21 = some y22 ∧ isA S16 10 y22 ∧ vp_in a1 (sN S16 y22) ∧ vp_in 0 (sN S16 q15) ∧ ∀ S26 : St, S26 = pR S16 q15 ((0 : Int32).toNatClampNeg) (sR S16 y22 a1.toNatClampNeg) → ∀ o27 : Option Nat, o27 = sQ S26 62 a0 → ∃ y28 : Nat, o27 = some y28 ∧ isA S26 7 y28 ∧ ∀ o30 : Option Nat, o30 = sQ S26 41 y28 → ∃ y31 : Nat, o30 = some y31 ∧ isA S26 10 y31 ∧ vp_in a1 (sN S26 y31) ∧ vp_in 1 (sN S26 q15) ∧ ∀ S35 : St, S35 = pR S26 q15 ((1 : Int32).toNatClampNeg) (sR S26 y31 a1.toNatClampNeg) → ∀ o36 : Option Nat, o36 = sQ S35 62 a0 → ∃ y37 : Nat, o36 = some y37 ∧ isA S35 7 y37 ∧ ∀ o39 : Option Nat, o39 = sQ S35 42 y37 → ∃ y40 : Nat, o39 = some y40 ∧ isA S35 10 y40 ∧ vp_in a1 (sN S35 y40) ∧ vp_in 2 (sN S35 q15) ∧ ∀ S44 : St, S44 = pR S35 q15 ((2 : Int32).toNatClampNeg) (sR S35 y40 a1.toNatClampNeg) → ∀ o45 : Option Nat, o45 = sQ S44 62 a0 → ∃ y46 : Nat, o45 = some y46 ∧ isA S44 7 y46 ∧ ∀ o48 : Option Nat, o48 = sQ S44 43 y46 → ∃ y49 : Nat, o48 = some y49 ∧ isA S44 10 y49 ∧ vp_in a1 (sN S44 y49) ∧ vp_in 3 (sN S44 q15) ∧ ∀ S53 : St, S53 = pR S44 q15 ((3 : Int32).toNatClampNeg) (sR S44 y49 a1.toNatClampNeg) → ∀ o54 : Option Nat, o54 = sQ S53 62 a0 → ∃ y55 : Nat, o54 = some y55 ∧ isA S53 7 y55 ∧ ∀ o57 : Option Nat, o57 = sQ S53 51 y55 → ∃ y58 : Nat, o57 = some y58 ∧ isA S53 10 y58 ∧ vp_in a1 (sN S53 y58) ∧ ∀ o61 : Option Nat, o61 = sQ S53 61 a0 → ∃ y62 : Nat, o61 = some y62 ∧ isA S53 7 y62 ∧ ∀ o64 : Option Nat, o64 = sQ S53 51 y62 → ∃ y65 : Nat, o64 = some y65 ∧ isA S53 10 y65 ∧ vp_in a1 (sN S53 y65) ∧ vp_in 4 (sN S53 q15) ∧ ∀ S69 : St, S69 = pR S53 q15 ((4 : Int32).toNatClampNeg) ((sR S53 y58 a1.toNatClampNeg) - (sR S53 y65 a1.toNatClampNeg)) → vp_in a3 (sN S69 q15) ∧ post (sR S69 q15 a3.toNatClampNeg) S69) ∧ (¬ a2 ≤ v4_59 → ∀ o72 : Option Nat, o72 = sQ S_59 62 a0 → ∃ y73 : Nat, o72 = some y73 ∧ isA S_59 7 y73 ∧ w_S_pass (fun (r75 : Int32) (S76 : St) => ∀ v77 : Int32, v77 = v4_59 + 1 → ∃ nx : Nat, nx < n59 ∧ J59 nx S76 v77) S_59 y73)) S1 y10 o9)) S1 a2 1 200)) S1 a3 0 4)) S1 a0 a1
set_option maxHeartbeats 4000000 in
set_option maxRecDepth 100000 in
theorem m_M_foresee (l : Launch) (x : Cx) (S : St) (post : Int32 → St → Prop) (a0 : Nat) (a1 : Int32) (a2 : Int32) (a3 : Int32) (fa0 : isA S 8 a0) (h : w_M_foresee post S a0 a1 a2 a3) : Met l y_M_foresee [.code y_M_foresee c_M_foresee 5 (some .int)] { frames := 4, cells := 1, slots := 5, locals := 101 } (va_Pc [.ref a0, .int a1, .int a2, .int a3] (GW x S)) (va_Qi post (gB x S) (xA x)) 1 5 (xA x) := by
  refine gMet (by decide +kernel) (Nat.le_of_ble_eq_true rfl) ?_
  intro p e s m args below meth c hx hb hr hown hlocks hin hw hK H locs hG ls hlA hml
  have hown : s.vm.findClass "WaltzHallModel" = some m.cls := hown
  have hl0 : lv_has ls 5 [(0, .ref a0), (1, .int a1), (2, .int a2), (3, .int a3)] := hlA
  have leS : gle S S := gle.rf
  unfold w_M_foresee at h
  refine lv_aload_n hx hb d_M_foresee_0 rfl (lv_at hl0 0 rfl) ?_
  refine lv_iconst (v := 0) hx hb d_M_foresee_1 (by decide) ?_
  refine gput (S' := pI S 56 a0 0) hx hb hw hown hK hG kd_M fa0 rfl 0 (by decide) (gChI fa0 rfl) tw_1017 (fun _ h9 => h9) rfl rfl rfl rfl (Nat.le_of_ble_eq_true rfl) d_M_foresee_2 (fun S1 H locs eS1 hle1 hG => ?_)
  replace h := h S1 eS1
  have fa0 := gle_isA hle1 fa0
  have leS := leS.tr hle1
  refine lv_aload_n hx hb d_M_foresee_5 rfl (lv_at hl0 0 rfl) ?_
  refine lv_iload_n hx hb d_M_foresee_6 rfl (lv_at hl0 1 rfl) ?_
  -- call M_isDancer
  refine gpi hK hG (va_runV (As := [.int a1]) (rest := []) ⟨hx, hb, hml, hown, hw⟩ (m_M_isDancer l x S1 _ a0 a1 fa0 h) ⟨gcb hw tw_1096 tw_43 tw_1093 hd_M_isDancer rfl rfl ⟨(Nat.le_of_ble_eq_true rfl), (Nat.le_of_ble_eq_true rfl)⟩, hw _ tw_1095, hw _ tw_13⟩ (gpV hK hG kd_M fa0 rfl) rfl rfl hl0.1 rfl (lv_room (Nat.le_of_ble_eq_true rfl)) d_M_foresee_7 ⟨(Nat.le_of_ble_eq_true rfl), (Nat.le_of_ble_eq_true rfl)⟩) (fun r2 H locs h9 hG => ?_)
  replace h := h9
  clear h9
  have leS1 : gle S1 S1 := gle.rf
  obtain ⟨J22, hJ22, h⟩ := h
  have k22 : ∀ (H : Heap) (locs : List Loc) (ls : Array Slot), GH x S1 s H locs → lv_has ls 5 [(0, .ref a0)] → J22 → W p l e { frames := 4, cells := 1, slots := 5, locals := 101 } s m args below meth c H locs 0 0 (MQ below (va_Qi post (gB x S) (xA x)) args s 1 5 (xA x)) (F0 m 22 ls []) := by
    intro  H locs ls hG hl3 hj
    replace h := hJ22 hj
    refine lv_aload_n hx hb d_M_foresee_22 rfl (lv_at hl3 0 rfl) ?_
    refine lv_iconst (v := 1) hx hb d_M_foresee_23 (by decide) ?_
    -- call M_no
    refine gci hK hG (va_runV (As := [.int 1]) (rest := []) ⟨hx, hb, hml, hown, hw⟩ (m_M_no l x S1 _ a0 1 fa0 h) ⟨gcb hw tw_1052 tw_43 tw_1049 hd_M_no rfl rfl ⟨(Nat.le_of_ble_eq_true rfl), (Nat.le_of_ble_eq_true rfl)⟩, hw _ tw_1051, hw _ tw_12⟩ (gpV hK hG kd_M fa0 rfl) rfl rfl hl3.1 rfl (lv_room (Nat.le_of_ble_eq_true rfl)) d_M_foresee_24 ⟨(Nat.le_of_ble_eq_true rfl), (Nat.le_of_ble_eq_true rfl)⟩) (fun r4 S5 H locs h9 hle1 hG => ?_)
    replace h := h9
    clear h9
    have fa0 := gle_isA hle1 fa0
    have leS := leS.tr hle1
    have leS1 := leS1.tr hle1
    exact giret hx hb hr hlocks hK hG leS h (Nat.le_of_ble_eq_true rfl) (Nat.le_of_ble_eq_true rfl) d_M_foresee_27
  refine lv_if_eq (tgt := 22) hx hb d_M_foresee_10 (by decide) (fun hc84 => ?_) (fun hc84 => ?_)
  · replace h := h.1 hc84
    exact k22 H locs ls hG (lv_sub hl0 [0] rfl) h
  · replace h := h.2 hc84
    refine lv_iload_n hx hb d_M_foresee_13 rfl (lv_at hl0 3 rfl) ?_
    refine lv_iconst (v := 0) hx hb d_M_foresee_14 (by decide) ?_
    refine lv_iconst (v := 4) hx hb d_M_foresee_15 (by decide) ?_
    -- call M_isIn
    refine gpi hK hG (va_runS (As := [.int a3, .int 0, .int 4]) (rest := []) ⟨hx, hb, hml, hown, hw⟩ (m_M_isIn l x S1 _ a3 0 4  h) ⟨gcb hw tw_1059 tw_43 tw_1057 hd_M_isIn rfl rfl ⟨(Nat.le_of_ble_eq_true rfl), (Nat.le_of_ble_eq_true rfl)⟩, hw _ tw_1058⟩ (gpS hK hG) rfl rfl hl0.1 rfl (lv_room (Nat.le_of_ble_eq_true rfl)) d_M_foresee_16 ⟨(Nat.le_of_ble_eq_true rfl), (Nat.le_of_ble_eq_true rfl)⟩) (fun r6 H locs h9 hG => ?_)
    replace h := h9
    clear h9
    refine lv_if_ne (tgt := 28) hx hb d_M_foresee_19 (by decide) (fun hc83 => ?_) (fun hc83 => ?_)
    · replace h := h.2 hc83
      refine lv_iload_n hx hb d_M_foresee_28 rfl (lv_at hl0 2 rfl) ?_
      refine lv_iconst (v := 1) hx hb d_M_foresee_29 (by decide) ?_
      refine lv_sipush (v := 200) hx hb d_M_foresee_30 (by decide) ?_
      -- call M_isIn
      refine gpi hK hG (va_runS (As := [.int a2, .int 1, .int 200]) (rest := []) ⟨hx, hb, hml, hown, hw⟩ (m_M_isIn l x S1 _ a2 1 200  h) ⟨gcb hw tw_1059 tw_43 tw_1057 hd_M_isIn rfl rfl ⟨(Nat.le_of_ble_eq_true rfl), (Nat.le_of_ble_eq_true rfl)⟩, hw _ tw_1058⟩ (gpS hK hG) rfl rfl hl0.1 rfl (lv_room (Nat.le_of_ble_eq_true rfl)) d_M_foresee_33 ⟨(Nat.le_of_ble_eq_true rfl), (Nat.le_of_ble_eq_true rfl)⟩) (fun r7 H locs h9 hG => ?_)
      replace h := h9
      clear h9
      refine lv_if_ne (tgt := 45) hx hb d_M_foresee_36 (by decide) (fun hc82 => ?_) (fun hc82 => ?_)
      · replace h := h.2 hc82
        refine lv_aload_n hx hb d_M_foresee_45 rfl (lv_at hl0 0 rfl) ?_
        refine gget hx hb hw hown hK hG kd_M fa0 rfl 6 (by decide) rfl tw_1025 (fun _ h9 => h9) d_M_foresee_46 ?_
        refine gtopq (fun o8 eo8 => ?_)
        replace h := h o8 eo8
        refine lv_aload_n hx hb d_M_foresee_49 rfl (lv_at hl0 0 rfl) ?_
        refine gget hx hb hw hown hK hG kd_M fa0 rfl 5 (by decide) rfl tw_1024 (fun _ h9 => h9) d_M_foresee_50 ?_
        refine gtopq (fun o9 eo9 => ?_)
        replace h := h o9 eo9
        obtain ⟨y10, ey10, h⟩ := h
        subst ey10
        obtain ⟨f11, h⟩ := h
        -- call S_become
        refine gcv hK hG (va_runV (As := [va_rf o9]) (rest := []) ⟨hx, hb, hml, hown, hw⟩ (m_S_become l x S1 _ y10 o9 f11 h) ⟨gcb hw tw_1217 tw_44 tw_1214 hd_S_become rfl rfl ⟨(Nat.le_of_ble_eq_true rfl), (Nat.le_of_ble_eq_true rfl)⟩, hw _ tw_1215, hw _ tw_1216⟩ (gpV hK hG kd_S f11 rfl) rfl rfl hl0.1 rfl (lv_room (Nat.le_of_ble_eq_true rfl)) d_M_foresee_53 ⟨(Nat.le_of_ble_eq_true rfl), (Nat.le_of_ble_eq_true rfl)⟩) (fun S12 H locs h9 hle1 hG => ?_)
        replace h := h9
        clear h9
        have fa0 := gle_isA hle1 fa0
        have f11 := gle_isA hle1 f11
        have leS := leS.tr hle1
        have leS1 := leS1.tr hle1
        refine lv_iconst (v := 0) hx hb d_M_foresee_56 (by decide) ?_
        refine lv_istore (lv' := [(4, .int 0), (0, .ref a0), (1, .int a1), (2, .int a2), (3, .int a3)]) hx hb d_M_foresee_57 hl0 (by decide) rfl (fun ls hl13 => ?_)
        have leS12 : gle S12 S12 := gle.rf
        obtain ⟨J59, ⟨n0_59, h0_59⟩, hJ59⟩ := h
        have k59 : ∀ (n59 : Nat) (S_59 : St) (v4_59 : Int32) (H : Heap) (locs : List Loc) (ls : Array Slot), gle S12 S_59 → GH x S_59 s H locs → lv_has ls 5 [(0, .ref a0), (1, .int a1), (2, .int a2), (3, .int a3), (4, .int v4_59)] → J59 n59 S_59 v4_59 → W p l e { frames := 4, cells := 1, slots := 5, locals := 101 } s m args below meth c H locs 0 0 (MQ below (va_Qi post (gB x S) (xA x)) args s 1 5 (xA x)) (F0 m 59 ls []) := by
          intro n59
          induction n59 using Nat.strongRecOn with
          | _ n59 ih59 =>
            intro S_59 v4_59 H locs ls hle1 hG hl14 hj
            replace h := hJ59 n59 S_59 v4_59 hj
            have fa0 := gle_isA hle1 fa0
            have f11 := gle_isA hle1 f11
            have leS := leS.tr hle1
            have leS1 := leS1.tr hle1
            have leS12 := leS12.tr hle1
            refine lv_iload hx hb d_M_foresee_59 (lv_at hl14 4 rfl) ?_
            refine lv_iload_n hx hb d_M_foresee_61 rfl (lv_at hl14 2 rfl) ?_
            refine lv_icmp_ge (tgt := 79) hx hb d_M_foresee_62 (by decide) (fun hc79 => ?_) (fun hc79 => ?_)
            · replace h := h.1 hc79
              refine lv_iconst (v := 5) hx hb d_M_foresee_79 (by decide) ?_
              refine gnewa (atype := .int) (N' := 5) (k := 10) (by decide) 1 hx hb hw hK hG tw_760 rfl (fun _ _ => rfl) rfl rfl (fun _ => rfl) (by decide) (Nat.le_of_ble_eq_true rfl) (Nat.le_of_ble_eq_true rfl) (Nat.le_of_ble_eq_true rfl) d_M_foresee_80 (fun q15 S16 H hqq15 eS16 hle1 hG => ?_)
              replace h := h q15 S16 hqq15 eS16
              have fa0 := gle_isA hle1 fa0
              have f11 := gle_isA hle1 f11
              have leS := leS.tr hle1
              have leS1 := leS1.tr hle1
              have leS12 := leS12.tr hle1
              have f17 : isA S16 10 q15 := by rw [eS16]; exact isA_new
              refine lv_dup hx hb d_M_foresee_82 rfl ?_
              refine lv_iconst (v := 0) hx hb d_M_foresee_83 (by decide) ?_
              refine lv_aload_n hx hb d_M_foresee_84 rfl (lv_at hl14 0 rfl) ?_
              refine gget hx hb hw hown hK hG kd_M fa0 rfl 6 (by decide) rfl tw_1025 (fun _ h9 => h9) d_M_foresee_85 ?_
              refine gtopq (fun o18 eo18 => ?_)
              replace h := h o18 eo18
              obtain ⟨y19, ey19, h⟩ := h
              subst ey19
              obtain ⟨f20, h⟩ := h
              refine ggetN hx hb hw hown hK hG kd_S f20 rfl 2 (by decide) rfl tw_945 (fun _ h9 => h9) d_M_foresee_88 ?_
              refine gtopq (fun o21 eo21 => ?_)
              replace h := h o21 eo21
              refine lv_iload_n hx hb d_M_foresee_91 rfl (lv_at hl14 1 rfl) ?_
              obtain ⟨y22, ey22, h⟩ := h
              subst ey22
              obtain ⟨f23, h⟩ := h
              obtain ⟨hi24, h⟩ := h
              refine giald hx hb hK hG f23 hi24 d_M_foresee_92 ?_
              obtain ⟨hi25, h⟩ := h
              refine giast hx hb hK hG f17 hi25 d_M_foresee_93 (fun S26 H locs eS26 hle1 hG => ?_)
              replace h := h S26 eS26
              have fa0 := gle_isA hle1 fa0
              have f11 := gle_isA hle1 f11
              have f17 := gle_isA hle1 f17
              have f20 := gle_isA hle1 f20
              have f23 := gle_isA hle1 f23
              have leS := leS.tr hle1
              have leS1 := leS1.tr hle1
              have leS12 := leS12.tr hle1
              refine lv_dup hx hb d_M_foresee_94 rfl ?_
              refine lv_iconst (v := 1) hx hb d_M_foresee_95 (by decide) ?_
              refine lv_aload_n hx hb d_M_foresee_96 rfl (lv_at hl14 0 rfl) ?_
              refine gget hx hb hw hown hK hG kd_M fa0 rfl 6 (by decide) rfl tw_1025 (fun _ h9 => h9) d_M_foresee_97 ?_
              refine gtopq (fun o27 eo27 => ?_)
              replace h := h o27 eo27
              obtain ⟨y28, ey28, h⟩ := h
              subst ey28
              obtain ⟨f29, h⟩ := h
              refine ggetN hx hb hw hown hK hG kd_S f29 rfl 3 (by decide) rfl tw_947 (fun _ h9 => h9) d_M_foresee_100 ?_
              refine gtopq (fun o30 eo30 => ?_)
              replace h := h o30 eo30
              refine lv_iload_n hx hb d_M_foresee_103 rfl (lv_at hl14 1 rfl) ?_
              obtain ⟨y31, ey31, h⟩ := h
              subst ey31
              obtain ⟨f32, h⟩ := h
              obtain ⟨hi33, h⟩ := h
              refine giald hx hb hK hG f32 hi33 d_M_foresee_104 ?_
              obtain ⟨hi34, h⟩ := h
              refine giast hx hb hK hG f17 hi34 d_M_foresee_105 (fun S35 H locs eS35 hle1 hG => ?_)
              replace h := h S35 eS35
              have fa0 := gle_isA hle1 fa0
              have f11 := gle_isA hle1 f11
              have f17 := gle_isA hle1 f17
              have f20 := gle_isA hle1 f20
              have f23 := gle_isA hle1 f23
              have f29 := gle_isA hle1 f29
              have f32 := gle_isA hle1 f32
              have leS := leS.tr hle1
              have leS1 := leS1.tr hle1
              have leS12 := leS12.tr hle1
              refine lv_dup hx hb d_M_foresee_106 rfl ?_
              refine lv_iconst (v := 2) hx hb d_M_foresee_107 (by decide) ?_
              refine lv_aload_n hx hb d_M_foresee_108 rfl (lv_at hl14 0 rfl) ?_
              refine gget hx hb hw hown hK hG kd_M fa0 rfl 6 (by decide) rfl tw_1025 (fun _ h9 => h9) d_M_foresee_109 ?_
              refine gtopq (fun o36 eo36 => ?_)
              replace h := h o36 eo36
              obtain ⟨y37, ey37, h⟩ := h
              subst ey37
              obtain ⟨f38, h⟩ := h
              refine ggetN hx hb hw hown hK hG kd_S f38 rfl 4 (by decide) rfl tw_949 (fun _ h9 => h9) d_M_foresee_112 ?_
              refine gtopq (fun o39 eo39 => ?_)
              replace h := h o39 eo39
              refine lv_iload_n hx hb d_M_foresee_115 rfl (lv_at hl14 1 rfl) ?_
              obtain ⟨y40, ey40, h⟩ := h
              subst ey40
              obtain ⟨f41, h⟩ := h
              obtain ⟨hi42, h⟩ := h
              refine giald hx hb hK hG f41 hi42 d_M_foresee_116 ?_
              obtain ⟨hi43, h⟩ := h
              refine giast hx hb hK hG f17 hi43 d_M_foresee_117 (fun S44 H locs eS44 hle1 hG => ?_)
              replace h := h S44 eS44
              have fa0 := gle_isA hle1 fa0
              have f11 := gle_isA hle1 f11
              have f17 := gle_isA hle1 f17
              have f20 := gle_isA hle1 f20
              have f23 := gle_isA hle1 f23
              have f29 := gle_isA hle1 f29
              have f32 := gle_isA hle1 f32
              have f38 := gle_isA hle1 f38
              have f41 := gle_isA hle1 f41
              have leS := leS.tr hle1
              have leS1 := leS1.tr hle1
              have leS12 := leS12.tr hle1
              refine lv_dup hx hb d_M_foresee_118 rfl ?_
              refine lv_iconst (v := 3) hx hb d_M_foresee_119 (by decide) ?_
              refine lv_aload_n hx hb d_M_foresee_120 rfl (lv_at hl14 0 rfl) ?_
              refine gget hx hb hw hown hK hG kd_M fa0 rfl 6 (by decide) rfl tw_1025 (fun _ h9 => h9) d_M_foresee_121 ?_
              refine gtopq (fun o45 eo45 => ?_)
              replace h := h o45 eo45
              obtain ⟨y46, ey46, h⟩ := h
              subst ey46
              obtain ⟨f47, h⟩ := h
              refine ggetN hx hb hw hown hK hG kd_S f47 rfl 5 (by decide) rfl tw_951 (fun _ h9 => h9) d_M_foresee_124 ?_
              refine gtopq (fun o48 eo48 => ?_)
              replace h := h o48 eo48
              refine lv_iload_n hx hb d_M_foresee_127 rfl (lv_at hl14 1 rfl) ?_
              obtain ⟨y49, ey49, h⟩ := h
              subst ey49
              obtain ⟨f50, h⟩ := h
              obtain ⟨hi51, h⟩ := h
              refine giald hx hb hK hG f50 hi51 d_M_foresee_128 ?_
              obtain ⟨hi52, h⟩ := h
              refine giast hx hb hK hG f17 hi52 d_M_foresee_129 (fun S53 H locs eS53 hle1 hG => ?_)
              replace h := h S53 eS53
              have fa0 := gle_isA hle1 fa0
              have f11 := gle_isA hle1 f11
              have f17 := gle_isA hle1 f17
              have f20 := gle_isA hle1 f20
              have f23 := gle_isA hle1 f23
              have f29 := gle_isA hle1 f29
              have f32 := gle_isA hle1 f32
              have f38 := gle_isA hle1 f38
              have f41 := gle_isA hle1 f41
              have f47 := gle_isA hle1 f47
              have f50 := gle_isA hle1 f50
              have leS := leS.tr hle1
              have leS1 := leS1.tr hle1
              have leS12 := leS12.tr hle1
              refine lv_dup hx hb d_M_foresee_130 rfl ?_
              refine lv_iconst (v := 4) hx hb d_M_foresee_131 (by decide) ?_
              refine lv_aload_n hx hb d_M_foresee_132 rfl (lv_at hl14 0 rfl) ?_
              refine gget hx hb hw hown hK hG kd_M fa0 rfl 6 (by decide) rfl tw_1025 (fun _ h9 => h9) d_M_foresee_133 ?_
              refine gtopq (fun o54 eo54 => ?_)
              replace h := h o54 eo54
              obtain ⟨y55, ey55, h⟩ := h
              subst ey55
              obtain ⟨f56, h⟩ := h
              refine ggetN hx hb hw hown hK hG kd_S f56 rfl 13 (by decide) rfl tw_967 (fun _ h9 => h9) d_M_foresee_136 ?_
              refine gtopq (fun o57 eo57 => ?_)
              replace h := h o57 eo57
              refine lv_iload_n hx hb d_M_foresee_139 rfl (lv_at hl14 1 rfl) ?_
              obtain ⟨y58, ey58, h⟩ := h
              subst ey58
              obtain ⟨f59, h⟩ := h
              obtain ⟨hi60, h⟩ := h
              refine giald hx hb hK hG f59 hi60 d_M_foresee_140 ?_
              refine lv_aload_n hx hb d_M_foresee_141 rfl (lv_at hl14 0 rfl) ?_
              refine gget hx hb hw hown hK hG kd_M fa0 rfl 5 (by decide) rfl tw_1024 (fun _ h9 => h9) d_M_foresee_142 ?_
              refine gtopq (fun o61 eo61 => ?_)
              replace h := h o61 eo61
              obtain ⟨y62, ey62, h⟩ := h
              subst ey62
              obtain ⟨f63, h⟩ := h
              refine ggetN hx hb hw hown hK hG kd_S f63 rfl 13 (by decide) rfl tw_967 (fun _ h9 => h9) d_M_foresee_145 ?_
              refine gtopq (fun o64 eo64 => ?_)
              replace h := h o64 eo64
              refine lv_iload_n hx hb d_M_foresee_148 rfl (lv_at hl14 1 rfl) ?_
              obtain ⟨y65, ey65, h⟩ := h
              subst ey65
              obtain ⟨f66, h⟩ := h
              obtain ⟨hi67, h⟩ := h
              refine giald hx hb hK hG f66 hi67 d_M_foresee_149 ?_
              refine lv_isub hx hb d_M_foresee_150 ?_
              obtain ⟨hi68, h⟩ := h
              refine giast hx hb hK hG f17 hi68 d_M_foresee_151 (fun S69 H locs eS69 hle1 hG => ?_)
              replace h := h S69 eS69
              have fa0 := gle_isA hle1 fa0
              have f11 := gle_isA hle1 f11
              have f17 := gle_isA hle1 f17
              have f20 := gle_isA hle1 f20
              have f23 := gle_isA hle1 f23
              have f29 := gle_isA hle1 f29
              have f32 := gle_isA hle1 f32
              have f38 := gle_isA hle1 f38
              have f41 := gle_isA hle1 f41
              have f47 := gle_isA hle1 f47
              have f50 := gle_isA hle1 f50
              have f56 := gle_isA hle1 f56
              have f59 := gle_isA hle1 f59
              have f63 := gle_isA hle1 f63
              have f66 := gle_isA hle1 f66
              have leS := leS.tr hle1
              have leS1 := leS1.tr hle1
              have leS12 := leS12.tr hle1
              refine lv_astore (lv' := [(4, .ref q15), (0, .ref a0), (1, .int a1), (2, .int a2), (3, .int a3)]) hx hb d_M_foresee_152 hl14 (by decide) rfl (fun ls hl70 => ?_)
              refine lv_aload hx hb d_M_foresee_154 (lv_at hl70 0 rfl) ?_
              refine lv_iload_n hx hb d_M_foresee_156 rfl (lv_at hl70 4 rfl) ?_
              obtain ⟨hi71, h⟩ := h
              refine giald hx hb hK hG f17 hi71 d_M_foresee_157 ?_
              exact giret hx hb hr hlocks hK hG leS h (Nat.le_of_ble_eq_true rfl) (Nat.le_of_ble_eq_true rfl) d_M_foresee_158
            · replace h := h.2 hc79
              refine lv_aload_n hx hb d_M_foresee_65 rfl (lv_at hl14 0 rfl) ?_
              refine gget hx hb hw hown hK hG kd_M fa0 rfl 6 (by decide) rfl tw_1025 (fun _ h9 => h9) d_M_foresee_66 ?_
              refine gtopq (fun o72 eo72 => ?_)
              replace h := h o72 eo72
              obtain ⟨y73, ey73, h⟩ := h
              subst ey73
              obtain ⟨f74, h⟩ := h
              -- call S_pass
              refine gci hK hG (va_runV (As := []) (rest := []) ⟨hx, hb, hml, hown, hw⟩ (m_S_pass l x S_59 _ y73 f74 h) ⟨gcb hw tw_1163 tw_44 tw_1160 hd_S_pass rfl rfl ⟨(Nat.le_of_ble_eq_true rfl), (Nat.le_of_ble_eq_true rfl)⟩, hw _ tw_1161, hw _ tw_1162⟩ (gpV hK hG kd_S f74 rfl) rfl rfl hl14.1 rfl (lv_room (Nat.le_of_ble_eq_true rfl)) d_M_foresee_69 ⟨(Nat.le_of_ble_eq_true rfl), (Nat.le_of_ble_eq_true rfl)⟩) (fun r75 S76 H locs h9 hle1 hG => ?_)
              replace h := h9
              clear h9
              have fa0 := gle_isA hle1 fa0
              have f11 := gle_isA hle1 f11
              have f74 := gle_isA hle1 f74
              have leS := leS.tr hle1
              have leS1 := leS1.tr hle1
              have leS12 := leS12.tr hle1
              refine lv_pop hx hb d_M_foresee_72 rfl ?_
              obtain ⟨v77, ev77⟩ : ∃ z : Int32, z = v4_59 + 1 := ⟨_, rfl⟩
              replace h := h v77 ev77
              refine lv_iinc (v := v77) (lv' := [(4, .int v77), (0, .ref a0), (1, .int a1), (2, .int a2), (3, .int a3)]) hx hb d_M_foresee_73 hl14 (k := 4) rfl (by rw [ev77]; rfl) (by decide) rfl (fun ls hl78 => ?_)
              refine lv_goto (tgt := 59) hx hb d_M_foresee_76 (by decide) ?_
              obtain ⟨nx, hnx, h⟩ := h
              exact ih59 nx hnx S76 v77 H locs ls leS12 hG (lv_sub hl78 [1, 2, 3, 4, 0] rfl) h
        exact k59 n0_59 S12 0 H locs ls gle.rf hG (lv_sub hl13 [1, 2, 3, 4, 0] rfl) h0_59
      · replace h := h.1 hc82
        refine lv_aload_n hx hb d_M_foresee_39 rfl (lv_at hl0 0 rfl) ?_
        refine lv_iconst (v := 2) hx hb d_M_foresee_40 (by decide) ?_
        -- call M_no
        refine gci hK hG (va_runV (As := [.int 2]) (rest := []) ⟨hx, hb, hml, hown, hw⟩ (m_M_no l x S1 _ a0 2 fa0 h) ⟨gcb hw tw_1052 tw_43 tw_1049 hd_M_no rfl rfl ⟨(Nat.le_of_ble_eq_true rfl), (Nat.le_of_ble_eq_true rfl)⟩, hw _ tw_1051, hw _ tw_12⟩ (gpV hK hG kd_M fa0 rfl) rfl rfl hl0.1 rfl (lv_room (Nat.le_of_ble_eq_true rfl)) d_M_foresee_41 ⟨(Nat.le_of_ble_eq_true rfl), (Nat.le_of_ble_eq_true rfl)⟩) (fun r80 S81 H locs h9 hle1 hG => ?_)
        replace h := h9
        clear h9
        have fa0 := gle_isA hle1 fa0
        have leS := leS.tr hle1
        have leS1 := leS1.tr hle1
        exact giret hx hb hr hlocks hK hG leS h (Nat.le_of_ble_eq_true rfl) (Nat.le_of_ble_eq_true rfl) d_M_foresee_44
    · replace h := h.1 hc83
      exact k22 H locs ls hG (lv_sub hl0 [0] rfl) h
def w_M_firstToStop (post : Int32 → St → Prop) (S : St) (a0 : Nat) (a1 : Int32) : Prop :=
  ∀ S1 : St, S1 = pI S 56 a0 0 → w_M_isIn (fun (r2 : Int32) => (r2 = 0 → w_M_no (fun (r41 : Int32) (S42 : St) => post r41 S42) S1 a0 1) ∧ (¬ r2 = 0 → ∀ o3 : Option Nat, o3 = sQ S1 62 a0 → ∀ o4 : Option Nat, o4 = sQ S1 61 a0 → ∃ y5 : Nat, o3 = some y5 ∧ isA S1 7 y5 ∧ w_S_become (fun (S7 : St) => ∃ J37 : Nat → St → Int32 → Int32 → Prop, (∃ n : Nat, J37 n S7 (-1) 0) ∧ ∀ (n37 : Nat) (S_37 : St) (v2_37 : Int32) (v3_37 : Int32), J37 n37 S_37 v2_37 v3_37 → (a1 ≤ v3_37 → post v2_37 S_37) ∧ (¬ a1 ≤ v3_37 → (v2_37 = (-1) → ∀ o11 : Option Nat, o11 = sQ S_37 62 a0 → ∃ y12 : Nat, o11 = some y12 ∧ isA S_37 7 y12 ∧ w_S_pass (fun (r14 : Int32) (S15 : St) => ∀ o16 : Option Nat, o16 = sQ S15 61 a0 → ∃ y17 : Nat, o16 = some y17 ∧ isA S15 7 y17 ∧ ∀ v19 : Int32, v19 = (sI S15 39 y17) - 1 → ∃ J66 : Nat → Int32 → Int32 → Prop, (∃ n : Nat, J66 n v2_37 v19) ∧ ∀ (n66 : Nat) (v2_66 : Int32) (v4_66 : Int32), J66 n66 v2_66 v4_66 → (v4_66 < 0 → ∀ v22 : Int32, v22 = v3_37 + 1 → ∃ nx : Nat, nx < n37 ∧ J37 nx S15 v2_66 v22) ∧ (¬ v4_66 < 0 → ∀ o24 : Option Nat, o24 = sQ S15 62 a0 → ∃ y25 : Nat, o24 = some y25 ∧ isA S15 7 y25 ∧ w_S_isTired (fun (r27 : Int32) => ∃ J98 : Int32 → Prop, (∀ (v2_98 : Int32), J98 v2_98 → ∀ v29 : Int32, v29 = v4_66 + (-1) → ∃ nx : Nat, nx < n66 ∧ J66 nx v2_98 v29) ∧ (r27 = 0 → J98 v2_66) ∧ (¬ r27 = 0 → ∀ o31 : Option Nat, o31 = sQ S15 61 a0 → ∃ y32 : Nat, o31 = some y32 ∧ isA S15 7 y32 ∧ w_S_isTired (fun (r34 : Int32) => (r34 = 0 → J98 v4_66) ∧ (¬ r34 = 0 → J98 v2_66)) S15 y32 v4_66)) S15 y25 v4_66)) S_37 y12) ∧ (¬ v2_37 = (-1) → post v2_37 S_37))) S1 y5 o4)) S1 a1 1 200
set_option maxHeartbeats 4000000 in
set_option maxRecDepth 100000 in
theorem m_M_firstToStop (l : Launch) (x : Cx) (S : St) (post : Int32 → St → Prop) (a0 : Nat) (a1 : Int32) (fa0 : isA S 8 a0) (h : w_M_firstToStop post S a0 a1) : Met l y_M_firstToStop [.code y_M_firstToStop c_M_firstToStop 5 (some .int)] { frames := 4, cells := 0, slots := 0, locals := 101 } (va_Pc [.ref a0, .int a1] (GW x S)) (va_Qi post (gB x S) (xA x)) 0 0 (xA x) := by
  refine gMet (by decide +kernel) (Nat.le_of_ble_eq_true rfl) ?_
  intro p e s m args below meth c hx hb hr hown hlocks hin hw hK H locs hG ls hlA hml
  have hown : s.vm.findClass "WaltzHallModel" = some m.cls := hown
  have hl0 : lv_has ls 5 [(0, .ref a0), (1, .int a1)] := hlA
  have leS : gle S S := gle.rf
  unfold w_M_firstToStop at h
  refine lv_aload_n hx hb d_M_firstToStop_0 rfl (lv_at hl0 0 rfl) ?_
  refine lv_iconst (v := 0) hx hb d_M_firstToStop_1 (by decide) ?_
  refine gput (S' := pI S 56 a0 0) hx hb hw hown hK hG kd_M fa0 rfl 0 (by decide) (gChI fa0 rfl) tw_1017 (fun _ h9 => h9) rfl rfl rfl rfl (Nat.le_of_ble_eq_true rfl) d_M_firstToStop_2 (fun S1 H locs eS1 hle1 hG => ?_)
  replace h := h S1 eS1
  have fa0 := gle_isA hle1 fa0
  have leS := leS.tr hle1
  refine lv_iload_n hx hb d_M_firstToStop_5 rfl (lv_at hl0 1 rfl) ?_
  refine lv_iconst (v := 1) hx hb d_M_firstToStop_6 (by decide) ?_
  refine lv_sipush (v := 200) hx hb d_M_firstToStop_7 (by decide) ?_
  -- call M_isIn
  refine gpi hK hG (va_runS (As := [.int a1, .int 1, .int 200]) (rest := []) ⟨hx, hb, hml, hown, hw⟩ (m_M_isIn l x S1 _ a1 1 200  h) ⟨gcb hw tw_1059 tw_43 tw_1057 hd_M_isIn rfl rfl ⟨(Nat.le_of_ble_eq_true rfl), (Nat.le_of_ble_eq_true rfl)⟩, hw _ tw_1058⟩ (gpS hK hG) rfl rfl hl0.1 rfl (lv_room (Nat.le_of_ble_eq_true rfl)) d_M_firstToStop_10 ⟨(Nat.le_of_ble_eq_true rfl), (Nat.le_of_ble_eq_true rfl)⟩) (fun r2 H locs h9 hG => ?_)
  replace h := h9
  clear h9
  refine lv_if_ne (tgt := 22) hx hb d_M_firstToStop_13 (by decide) (fun hc43 => ?_) (fun hc43 => ?_)
  · replace h := h.2 hc43
    refine lv_aload_n hx hb d_M_firstToStop_22 rfl (lv_at hl0 0 rfl) ?_
    refine gget hx hb hw hown hK hG kd_M fa0 rfl 6 (by decide) rfl tw_1025 (fun _ h9 => h9) d_M_firstToStop_23 ?_
    refine gtopq (fun o3 eo3 => ?_)
    replace h := h o3 eo3
    refine lv_aload_n hx hb d_M_firstToStop_26 rfl (lv_at hl0 0 rfl) ?_
    refine gget hx hb hw hown hK hG kd_M fa0 rfl 5 (by decide) rfl tw_1024 (fun _ h9 => h9) d_M_firstToStop_27 ?_
    refine gtopq (fun o4 eo4 => ?_)
    replace h := h o4 eo4
    obtain ⟨y5, ey5, h⟩ := h
    subst ey5
    obtain ⟨f6, h⟩ := h
    -- call S_become
    refine gcv hK hG (va_runV (As := [va_rf o4]) (rest := []) ⟨hx, hb, hml, hown, hw⟩ (m_S_become l x S1 _ y5 o4 f6 h) ⟨gcb hw tw_1217 tw_44 tw_1214 hd_S_become rfl rfl ⟨(Nat.le_of_ble_eq_true rfl), (Nat.le_of_ble_eq_true rfl)⟩, hw _ tw_1215, hw _ tw_1216⟩ (gpV hK hG kd_S f6 rfl) rfl rfl hl0.1 rfl (lv_room (Nat.le_of_ble_eq_true rfl)) d_M_firstToStop_30 ⟨(Nat.le_of_ble_eq_true rfl), (Nat.le_of_ble_eq_true rfl)⟩) (fun S7 H locs h9 hle1 hG => ?_)
    replace h := h9
    clear h9
    have fa0 := gle_isA hle1 fa0
    have f6 := gle_isA hle1 f6
    have leS := leS.tr hle1
    refine lv_iconst (v := (-1)) hx hb d_M_firstToStop_33 (by decide) ?_
    refine lv_istore_n (i := 2) (lv' := [(2, .int (-1)), (0, .ref a0), (1, .int a1)]) hx hb d_M_firstToStop_34 rfl hl0 (by decide) rfl (fun ls hl8 => ?_)
    refine lv_iconst (v := 0) hx hb d_M_firstToStop_35 (by decide) ?_
    refine lv_istore_n (i := 3) (lv' := [(3, .int 0), (2, .int (-1)), (0, .ref a0), (1, .int a1)]) hx hb d_M_firstToStop_36 rfl hl8 (by decide) rfl (fun ls hl9 => ?_)
    have leS7 : gle S7 S7 := gle.rf
    obtain ⟨J37, ⟨n0_37, h0_37⟩, hJ37⟩ := h
    have k37 : ∀ (n37 : Nat) (S_37 : St) (v2_37 : Int32) (v3_37 : Int32) (H : Heap) (locs : List Loc) (ls : Array Slot), gle S7 S_37 → GH x S_37 s H locs → lv_has ls 5 [(0, .ref a0), (1, .int a1), (2, .int v2_37), (3, .int v3_37)] → J37 n37 S_37 v2_37 v3_37 → W p l e { frames := 4, cells := 0, slots := 0, locals := 101 } s m args below meth c H locs 0 0 (MQ below (va_Qi post (gB x S) (xA x)) args s 0 0 (xA x)) (F0 m 37 ls []) := by
      intro n37
      induction n37 using Nat.strongRecOn with
      | _ n37 ih37 =>
        intro S_37 v2_37 v3_37 H locs ls hle1 hG hl10 hj
        replace h := hJ37 n37 S_37 v2_37 v3_37 hj
        have fa0 := gle_isA hle1 fa0
        have f6 := gle_isA hle1 f6
        have leS := leS.tr hle1
        have leS7 := leS7.tr hle1
        refine lv_iload_n hx hb d_M_firstToStop_37 rfl (lv_at hl10 3 rfl) ?_
        refine lv_iload_n hx hb d_M_firstToStop_38 rfl (lv_at hl10 1 rfl) ?_
        refine lv_icmp_ge (tgt := 110) hx hb d_M_firstToStop_39 (by decide) (fun hc40 => ?_) (fun hc40 => ?_)
        · replace h := h.1 hc40
          refine lv_iload_n hx hb d_M_firstToStop_110 rfl (lv_at hl10 2 rfl) ?_
          exact giret hx hb hr hlocks hK hG leS h (Nat.le_of_ble_eq_true rfl) (Nat.le_of_ble_eq_true rfl) d_M_firstToStop_111
        · replace h := h.2 hc40
          refine lv_iload_n hx hb d_M_firstToStop_42 rfl (lv_at hl10 2 rfl) ?_
          refine lv_iconst (v := (-1)) hx hb d_M_firstToStop_43 (by decide) ?_
          refine lv_icmp_ne (tgt := 110) hx hb d_M_firstToStop_44 (by decide) (fun hc39 => ?_) (fun hc39 => ?_)
          · replace h := h.2 hc39
            refine lv_iload_n hx hb d_M_firstToStop_110 rfl (lv_at hl10 2 rfl) ?_
            exact giret hx hb hr hlocks hK hG leS h (Nat.le_of_ble_eq_true rfl) (Nat.le_of_ble_eq_true rfl) d_M_firstToStop_111
          · replace h := h.1 hc39
            refine lv_aload_n hx hb d_M_firstToStop_47 rfl (lv_at hl10 0 rfl) ?_
            refine gget hx hb hw hown hK hG kd_M fa0 rfl 6 (by decide) rfl tw_1025 (fun _ h9 => h9) d_M_firstToStop_48 ?_
            refine gtopq (fun o11 eo11 => ?_)
            replace h := h o11 eo11
            obtain ⟨y12, ey12, h⟩ := h
            subst ey12
            obtain ⟨f13, h⟩ := h
            -- call S_pass
            refine gci hK hG (va_runV (As := []) (rest := []) ⟨hx, hb, hml, hown, hw⟩ (m_S_pass l x S_37 _ y12 f13 h) ⟨gcb hw tw_1163 tw_44 tw_1160 hd_S_pass rfl rfl ⟨(Nat.le_of_ble_eq_true rfl), (Nat.le_of_ble_eq_true rfl)⟩, hw _ tw_1161, hw _ tw_1162⟩ (gpV hK hG kd_S f13 rfl) rfl rfl hl10.1 rfl (lv_room (Nat.le_of_ble_eq_true rfl)) d_M_firstToStop_51 ⟨(Nat.le_of_ble_eq_true rfl), (Nat.le_of_ble_eq_true rfl)⟩) (fun r14 S15 H locs h9 hle1 hG => ?_)
            replace h := h9
            clear h9
            have fa0 := gle_isA hle1 fa0
            have f6 := gle_isA hle1 f6
            have f13 := gle_isA hle1 f13
            have leS := leS.tr hle1
            have leS7 := leS7.tr hle1
            refine lv_pop hx hb d_M_firstToStop_54 rfl ?_
            refine lv_aload_n hx hb d_M_firstToStop_55 rfl (lv_at hl10 0 rfl) ?_
            refine gget hx hb hw hown hK hG kd_M fa0 rfl 5 (by decide) rfl tw_1024 (fun _ h9 => h9) d_M_firstToStop_56 ?_
            refine gtopq (fun o16 eo16 => ?_)
            replace h := h o16 eo16
            obtain ⟨y17, ey17, h⟩ := h
            subst ey17
            obtain ⟨f18, h⟩ := h
            refine ggetN hx hb hw hown hK hG kd_S f18 rfl 1 (by decide) rfl tw_943 (fun _ h9 => h9) d_M_firstToStop_59 ?_
            refine lv_iconst (v := 1) hx hb d_M_firstToStop_62 (by decide) ?_
            refine lv_isub hx hb d_M_firstToStop_63 ?_
            refine lv_topi (fun v19 ev19 => ?_)
            replace h := h v19 ev19
            refine lv_istore (lv' := [(4, .int v19), (0, .ref a0), (1, .int a1), (2, .int v2_37), (3, .int v3_37)]) hx hb d_M_firstToStop_64 hl10 (by decide) rfl (fun ls hl20 => ?_)
            have leS15 : gle S15 S15 := gle.rf
            obtain ⟨J66, ⟨n0_66, h0_66⟩, hJ66⟩ := h
            have k66 : ∀ (n66 : Nat) (v2_66 : Int32) (v4_66 : Int32) (H : Heap) (locs : List Loc) (ls : Array Slot), GH x S15 s H locs → lv_has ls 5 [(0, .ref a0), (1, .int a1), (2, .int v2_66), (3, .int v3_37), (4, .int v4_66)] → J66 n66 v2_66 v4_66 → W p l e { frames := 4, cells := 0, slots := 0, locals := 101 } s m args below meth c H locs 0 0 (MQ below (va_Qi post (gB x S) (xA x)) args s 0 0 (xA x)) (F0 m 66 ls []) := by
              intro n66
              induction n66 using Nat.strongRecOn with
              | _ n66 ih66 =>
                intro v2_66 v4_66 H locs ls hG hl21 hj
                replace h := hJ66 n66 v2_66 v4_66 hj
                refine lv_iload hx hb d_M_firstToStop_66 (lv_at hl21 4 rfl) ?_
                refine lv_if_lt (tgt := 104) hx hb d_M_firstToStop_68 (by decide) (fun hc38 => ?_) (fun hc38 => ?_)
                · replace h := h.1 hc38
                  obtain ⟨v22, ev22⟩ : ∃ z : Int32, z = v3_37 + 1 := ⟨_, rfl⟩
                  replace h := h v22 ev22
                  refine lv_iinc (v := v22) (lv' := [(3, .int v22), (0, .ref a0), (1, .int a1), (2, .int v2_66), (4, .int v4_66)]) hx hb d_M_firstToStop_104 hl21 (k := 3) rfl (by rw [ev22]; rfl) (by decide) rfl (fun ls hl23 => ?_)
                  refine lv_goto (tgt := 37) hx hb d_M_firstToStop_107 (by decide) ?_
                  obtain ⟨nx, hnx, h⟩ := h
                  exact ih37 nx hnx S15 v2_66 v22 H locs ls leS7 hG (lv_sub hl23 [1, 2, 3, 0] rfl) h
                · replace h := h.2 hc38
                  refine lv_aload_n hx hb d_M_firstToStop_71 rfl (lv_at hl21 0 rfl) ?_
                  refine gget hx hb hw hown hK hG kd_M fa0 rfl 6 (by decide) rfl tw_1025 (fun _ h9 => h9) d_M_firstToStop_72 ?_
                  refine gtopq (fun o24 eo24 => ?_)
                  replace h := h o24 eo24
                  refine lv_iload hx hb d_M_firstToStop_75 (lv_at hl21 4 rfl) ?_
                  obtain ⟨y25, ey25, h⟩ := h
                  subst ey25
                  obtain ⟨f26, h⟩ := h
                  -- call S_isTired
                  refine gpi hK hG (va_runVN (As := [.int v4_66]) (rest := []) ⟨hx, hb, hml, hown, hw⟩ (m_S_isTired l x S15 _ y25 v4_66 f26 h) ⟨gcn hw tw_1113 tw_44 tw_1227 hd_S_isTired rfl rfl ⟨(Nat.le_of_ble_eq_true rfl), (Nat.le_of_ble_eq_true rfl)⟩, hw _ tw_1112, hw _ tw_14⟩ (gpV hK hG kd_S f26 rfl) rfl rfl hl21.1 rfl (lv_room (Nat.le_of_ble_eq_true rfl)) d_M_firstToStop_77 ⟨(Nat.le_of_ble_eq_true rfl), (Nat.le_of_ble_eq_true rfl)⟩) (fun r27 H locs h9 hG => ?_)
                  replace h := h9
                  clear h9
                  obtain ⟨J98, hJ98, h⟩ := h
                  have k98 : ∀ (v2_98 : Int32) (H : Heap) (locs : List Loc) (ls : Array Slot), GH x S15 s H locs → lv_has ls 5 [(0, .ref a0), (1, .int a1), (2, .int v2_98), (3, .int v3_37), (4, .int v4_66)] → J98 v2_98 → W p l e { frames := 4, cells := 0, slots := 0, locals := 101 } s m args below meth c H locs 0 0 (MQ below (va_Qi post (gB x S) (xA x)) args s 0 0 (xA x)) (F0 m 98 ls []) := by
                    intro v2_98  H locs ls hG hl28 hj
                    replace h := hJ98 v2_98 hj
                    obtain ⟨v29, ev29⟩ : ∃ z : Int32, z = v4_66 + (-1) := ⟨_, rfl⟩
                    replace h := h v29 ev29
                    refine lv_iinc (v := v29) (lv' := [(4, .int v29), (0, .ref a0), (1, .int a1), (2, .int v2_98), (3, .int v3_37)]) hx hb d_M_firstToStop_98 hl28 (k := 4) rfl (by rw [ev29]; rfl) (by decide) rfl (fun ls hl30 => ?_)
                    refine lv_goto (tgt := 66) hx hb d_M_firstToStop_101 (by decide) ?_
                    obtain ⟨nx, hnx, h⟩ := h
                    exact ih66 nx hnx v2_98 v29 H locs ls hG (lv_sub hl30 [1, 2, 3, 4, 0] rfl) h
                  refine lv_if_eq (tgt := 98) hx hb d_M_firstToStop_80 (by decide) (fun hc37 => ?_) (fun hc37 => ?_)
                  · replace h := h.1 hc37
                    exact k98 v2_66 H locs ls hG (lv_sub hl21 [0, 1, 2, 3, 4] rfl) h
                  · replace h := h.2 hc37
                    refine lv_aload_n hx hb d_M_firstToStop_83 rfl (lv_at hl21 0 rfl) ?_
                    refine gget hx hb hw hown hK hG kd_M fa0 rfl 5 (by decide) rfl tw_1024 (fun _ h9 => h9) d_M_firstToStop_84 ?_
                    refine gtopq (fun o31 eo31 => ?_)
                    replace h := h o31 eo31
                    refine lv_iload hx hb d_M_firstToStop_87 (lv_at hl21 4 rfl) ?_
                    obtain ⟨y32, ey32, h⟩ := h
                    subst ey32
                    obtain ⟨f33, h⟩ := h
                    -- call S_isTired
                    refine gpi hK hG (va_runVN (As := [.int v4_66]) (rest := []) ⟨hx, hb, hml, hown, hw⟩ (m_S_isTired l x S15 _ y32 v4_66 f33 h) ⟨gcn hw tw_1113 tw_44 tw_1227 hd_S_isTired rfl rfl ⟨(Nat.le_of_ble_eq_true rfl), (Nat.le_of_ble_eq_true rfl)⟩, hw _ tw_1112, hw _ tw_14⟩ (gpV hK hG kd_S f33 rfl) rfl rfl hl21.1 rfl (lv_room (Nat.le_of_ble_eq_true rfl)) d_M_firstToStop_89 ⟨(Nat.le_of_ble_eq_true rfl), (Nat.le_of_ble_eq_true rfl)⟩) (fun r34 H locs h9 hG => ?_)
                    replace h := h9
                    clear h9
                    refine lv_if_ne (tgt := 98) hx hb d_M_firstToStop_92 (by decide) (fun hc36 => ?_) (fun hc36 => ?_)
                    · replace h := h.2 hc36
                      exact k98 v2_66 H locs ls hG (lv_sub hl21 [0, 1, 2, 3, 4] rfl) h
                    · replace h := h.1 hc36
                      refine lv_iload hx hb d_M_firstToStop_95 (lv_at hl21 4 rfl) ?_
                      refine lv_istore_n (i := 2) (lv' := [(2, .int v4_66), (0, .ref a0), (1, .int a1), (3, .int v3_37), (4, .int v4_66)]) hx hb d_M_firstToStop_97 rfl hl21 (by decide) rfl (fun ls hl35 => ?_)
                      exact k98 v4_66 H locs ls hG (lv_sub hl35 [1, 2, 0, 3, 4] rfl) h
            exact k66 n0_66 v2_37 v19 H locs ls hG (lv_sub hl20 [1, 2, 3, 4, 0] rfl) h0_66
    exact k37 n0_37 S7 (-1) 0 H locs ls gle.rf hG (lv_sub hl9 [2, 3, 1, 0] rfl) h0_37
  · replace h := h.1 hc43
    refine lv_aload_n hx hb d_M_firstToStop_16 rfl (lv_at hl0 0 rfl) ?_
    refine lv_iconst (v := 1) hx hb d_M_firstToStop_17 (by decide) ?_
    -- call M_no
    refine gci hK hG (va_runV (As := [.int 1]) (rest := []) ⟨hx, hb, hml, hown, hw⟩ (m_M_no l x S1 _ a0 1 fa0 h) ⟨gcb hw tw_1052 tw_43 tw_1049 hd_M_no rfl rfl ⟨(Nat.le_of_ble_eq_true rfl), (Nat.le_of_ble_eq_true rfl)⟩, hw _ tw_1051, hw _ tw_12⟩ (gpV hK hG kd_M fa0 rfl) rfl rfl hl0.1 rfl (lv_room (Nat.le_of_ble_eq_true rfl)) d_M_firstToStop_18 ⟨(Nat.le_of_ble_eq_true rfl), (Nat.le_of_ble_eq_true rfl)⟩) (fun r41 S42 H locs h9 hle1 hG => ?_)
    replace h := h9
    clear h9
    have fa0 := gle_isA hle1 fa0
    have leS := leS.tr hle1
    exact giret hx hb hr hlocks hK hG leS h (Nat.le_of_ble_eq_true rfl) (Nat.le_of_ble_eq_true rfl) d_M_firstToStop_21
def w_M_meet (post : Int32 → St → Prop) (S : St) (a0 : Nat) (a1 : Int32) (a2 : Int32) (a3 : Int32) : Prop :=
  ∀ S1 : St, S1 = pI S 56 a0 0 → w_M_isDancer (fun (r2 : Int32) => ∃ J21 : Prop, (J21 → w_M_no (fun (r4 : Int32) (S5 : St) => post r4 S5) S1 a0 1) ∧ (r2 = 0 → J21) ∧ (¬ r2 = 0 → w_M_isDancer (fun (r6 : Int32) => (r6 = 0 → J21) ∧ (¬ r6 = 0 → ∃ J43 : Prop, (J43 → w_M_no (fun (r8 : Int32) (S9 : St) => post r8 S9) S1 a0 2) ∧ (a1 = a2 → J43) ∧ (¬ a1 = a2 → w_M_isIn (fun (r10 : Int32) => (r10 = 0 → J43) ∧ (¬ r10 = 0 → ∀ o11 : Option Nat, o11 = sQ S1 62 a0 → ∀ o12 : Option Nat, o12 = sQ S1 61 a0 → ∃ y13 : Nat, o11 = some y13 ∧ isA S1 7 y13 ∧ w_S_become (fun (S15 : St) => ∃ J63 : Nat → St → Int32 → Prop, (∃ n : Nat, J63 n S15 0) ∧ ∀ (n63 : Nat) (S_63 : St) (v4_63 : Int32), J63 n63 S_63 v4_63 → ∀ o18 : Option Nat, o18 = sQ S_63 62 a0 → ∃ y19 : Nat, o18 = some y19 ∧ isA S_63 7 y19 ∧ w_S_isBeside (fun (r21 : Int32) => ∃ J95 : Prop, (J95 → ∀ o23 : Option Nat, o23 = sQ S_63 62 a0 → ∃ y24 : Nat, o23 = some y24 ∧ isA S_63 7 y24 ∧ w_S_isBeside (fun (r26 : Int32) => (r26 = 0 → post (-1) S_63) ∧ (¬ r26 = 0 → post v4_63 S_63)) S_63 y24 a1 a2) ∧ (r21 = 0 → (a3 ≤ v4_63 → J95) ∧ (¬ a3 ≤ v4_63 → ∀ o28 : Option Nat, o28 = sQ S_63 62 a0 → ∃ y29 : Nat, o28 = some y29 ∧ isA S_63 7 y29 ∧ w_S_pass (fun (r31 : Int32) (S32 : St) => ∀ v33 : Int32, v33 = v4_63 + 1 → ∃ nx : Nat, nx < n63 ∧ J63 nx S32 v33) S_63 y29)) ∧ (¬ r21 = 0 → J95)) S_63 y19 a1 a2) S1 y13 o12)) S1 a3 1 200))) S1 a0 a2)) S1 a0 a1
set_option maxHeartbeats 4000000 in
set_option maxRecDepth 100000 in
theorem m_M_meet (l : Launch) (x : Cx) (S : St) (post : Int32 → St → Prop) (a0 : Nat) (a1 : Int32) (a2 : Int32) (a3 : Int32) (fa0 : isA S 8 a0) (h : w_M_meet post S a0 a1 a2 a3) : Met l y_M_meet [.code y_M_meet c_M_meet 5 (some .int)] { frames := 4, cells := 0, slots := 0, locals := 101 } (va_Pc [.ref a0, .int a1, .int a2, .int a3] (GW x S)) (va_Qi post (gB x S) (xA x)) 0 0 (xA x) := by
  refine gMet (by decide +kernel) (Nat.le_of_ble_eq_true rfl) ?_
  intro p e s m args below meth c hx hb hr hown hlocks hin hw hK H locs hG ls hlA hml
  have hown : s.vm.findClass "WaltzHallModel" = some m.cls := hown
  have hl0 : lv_has ls 5 [(0, .ref a0), (1, .int a1), (2, .int a2), (3, .int a3)] := hlA
  have leS : gle S S := gle.rf
  unfold w_M_meet at h
  refine lv_aload_n hx hb d_M_meet_0 rfl (lv_at hl0 0 rfl) ?_
  refine lv_iconst (v := 0) hx hb d_M_meet_1 (by decide) ?_
  refine gput (S' := pI S 56 a0 0) hx hb hw hown hK hG kd_M fa0 rfl 0 (by decide) (gChI fa0 rfl) tw_1017 (fun _ h9 => h9) rfl rfl rfl rfl (Nat.le_of_ble_eq_true rfl) d_M_meet_2 (fun S1 H locs eS1 hle1 hG => ?_)
  replace h := h S1 eS1
  have fa0 := gle_isA hle1 fa0
  have leS := leS.tr hle1
  refine lv_aload_n hx hb d_M_meet_5 rfl (lv_at hl0 0 rfl) ?_
  refine lv_iload_n hx hb d_M_meet_6 rfl (lv_at hl0 1 rfl) ?_
  -- call M_isDancer
  refine gpi hK hG (va_runV (As := [.int a1]) (rest := []) ⟨hx, hb, hml, hown, hw⟩ (m_M_isDancer l x S1 _ a0 a1 fa0 h) ⟨gcb hw tw_1096 tw_43 tw_1093 hd_M_isDancer rfl rfl ⟨(Nat.le_of_ble_eq_true rfl), (Nat.le_of_ble_eq_true rfl)⟩, hw _ tw_1095, hw _ tw_13⟩ (gpV hK hG kd_M fa0 rfl) rfl rfl hl0.1 rfl (lv_room (Nat.le_of_ble_eq_true rfl)) d_M_meet_7 ⟨(Nat.le_of_ble_eq_true rfl), (Nat.le_of_ble_eq_true rfl)⟩) (fun r2 H locs h9 hG => ?_)
  replace h := h9
  clear h9
  have leS1 : gle S1 S1 := gle.rf
  obtain ⟨J21, hJ21, h⟩ := h
  have k21 : ∀ (H : Heap) (locs : List Loc) (ls : Array Slot), GH x S1 s H locs → lv_has ls 5 [(0, .ref a0)] → J21 → W p l e { frames := 4, cells := 0, slots := 0, locals := 101 } s m args below meth c H locs 0 0 (MQ below (va_Qi post (gB x S) (xA x)) args s 0 0 (xA x)) (F0 m 21 ls []) := by
    intro  H locs ls hG hl3 hj
    replace h := hJ21 hj
    refine lv_aload_n hx hb d_M_meet_21 rfl (lv_at hl3 0 rfl) ?_
    refine lv_iconst (v := 1) hx hb d_M_meet_22 (by decide) ?_
    -- call M_no
    refine gci hK hG (va_runV (As := [.int 1]) (rest := []) ⟨hx, hb, hml, hown, hw⟩ (m_M_no l x S1 _ a0 1 fa0 h) ⟨gcb hw tw_1052 tw_43 tw_1049 hd_M_no rfl rfl ⟨(Nat.le_of_ble_eq_true rfl), (Nat.le_of_ble_eq_true rfl)⟩, hw _ tw_1051, hw _ tw_12⟩ (gpV hK hG kd_M fa0 rfl) rfl rfl hl3.1 rfl (lv_room (Nat.le_of_ble_eq_true rfl)) d_M_meet_23 ⟨(Nat.le_of_ble_eq_true rfl), (Nat.le_of_ble_eq_true rfl)⟩) (fun r4 S5 H locs h9 hle1 hG => ?_)
    replace h := h9
    clear h9
    have fa0 := gle_isA hle1 fa0
    have leS := leS.tr hle1
    have leS1 := leS1.tr hle1
    exact giret hx hb hr hlocks hK hG leS h (Nat.le_of_ble_eq_true rfl) (Nat.le_of_ble_eq_true rfl) d_M_meet_26
  refine lv_if_eq (tgt := 21) hx hb d_M_meet_10 (by decide) (fun hc40 => ?_) (fun hc40 => ?_)
  · replace h := h.1 hc40
    exact k21 H locs ls hG (lv_sub hl0 [0] rfl) h
  · replace h := h.2 hc40
    refine lv_aload_n hx hb d_M_meet_13 rfl (lv_at hl0 0 rfl) ?_
    refine lv_iload_n hx hb d_M_meet_14 rfl (lv_at hl0 2 rfl) ?_
    -- call M_isDancer
    refine gpi hK hG (va_runV (As := [.int a2]) (rest := []) ⟨hx, hb, hml, hown, hw⟩ (m_M_isDancer l x S1 _ a0 a2 fa0 h) ⟨gcb hw tw_1096 tw_43 tw_1093 hd_M_isDancer rfl rfl ⟨(Nat.le_of_ble_eq_true rfl), (Nat.le_of_ble_eq_true rfl)⟩, hw _ tw_1095, hw _ tw_13⟩ (gpV hK hG kd_M fa0 rfl) rfl rfl hl0.1 rfl (lv_room (Nat.le_of_ble_eq_true rfl)) d_M_meet_15 ⟨(Nat.le_of_ble_eq_true rfl), (Nat.le_of_ble_eq_true rfl)⟩) (fun r6 H locs h9 hG => ?_)
    replace h := h9
    clear h9
    refine lv_if_ne (tgt := 27) hx hb d_M_meet_18 (by decide) (fun hc39 => ?_) (fun hc39 => ?_)
    · replace h := h.2 hc39
      refine lv_iload_n hx hb d_M_meet_27 rfl (lv_at hl0 1 rfl) ?_
      refine lv_iload_n hx hb d_M_meet_28 rfl (lv_at hl0 2 rfl) ?_
      obtain ⟨J43, hJ43, h⟩ := h
      have k43 : ∀ (H : Heap) (locs : List Loc) (ls : Array Slot), GH x S1 s H locs → lv_has ls 5 [(0, .ref a0)] → J43 → W p l e { frames := 4, cells := 0, slots := 0, locals := 101 } s m args below meth c H locs 0 0 (MQ below (va_Qi post (gB x S) (xA x)) args s 0 0 (xA x)) (F0 m 43 ls []) := by
        intro  H locs ls hG hl7 hj
        replace h := hJ43 hj
        refine lv_aload_n hx hb d_M_meet_43 rfl (lv_at hl7 0 rfl) ?_
        refine lv_iconst (v := 2) hx hb d_M_meet_44 (by decide) ?_
        -- call M_no
        refine gci hK hG (va_runV (As := [.int 2]) (rest := []) ⟨hx, hb, hml, hown, hw⟩ (m_M_no l x S1 _ a0 2 fa0 h) ⟨gcb hw tw_1052 tw_43 tw_1049 hd_M_no rfl rfl ⟨(Nat.le_of_ble_eq_true rfl), (Nat.le_of_ble_eq_true rfl)⟩, hw _ tw_1051, hw _ tw_12⟩ (gpV hK hG kd_M fa0 rfl) rfl rfl hl7.1 rfl (lv_room (Nat.le_of_ble_eq_true rfl)) d_M_meet_45 ⟨(Nat.le_of_ble_eq_true rfl), (Nat.le_of_ble_eq_true rfl)⟩) (fun r8 S9 H locs h9 hle1 hG => ?_)
        replace h := h9
        clear h9
        have fa0 := gle_isA hle1 fa0
        have leS := leS.tr hle1
        have leS1 := leS1.tr hle1
        exact giret hx hb hr hlocks hK hG leS h (Nat.le_of_ble_eq_true rfl) (Nat.le_of_ble_eq_true rfl) d_M_meet_48
      refine lv_icmp_eq (tgt := 43) hx hb d_M_meet_29 (by decide) (fun hc38 => ?_) (fun hc38 => ?_)
      · replace h := h.1 hc38
        exact k43 H locs ls hG (lv_sub hl0 [0] rfl) h
      · replace h := h.2 hc38
        refine lv_iload_n hx hb d_M_meet_32 rfl (lv_at hl0 3 rfl) ?_
        refine lv_iconst (v := 1) hx hb d_M_meet_33 (by decide) ?_
        refine lv_sipush (v := 200) hx hb d_M_meet_34 (by decide) ?_
        -- call M_isIn
        refine gpi hK hG (va_runS (As := [.int a3, .int 1, .int 200]) (rest := []) ⟨hx, hb, hml, hown, hw⟩ (m_M_isIn l x S1 _ a3 1 200  h) ⟨gcb hw tw_1059 tw_43 tw_1057 hd_M_isIn rfl rfl ⟨(Nat.le_of_ble_eq_true rfl), (Nat.le_of_ble_eq_true rfl)⟩, hw _ tw_1058⟩ (gpS hK hG) rfl rfl hl0.1 rfl (lv_room (Nat.le_of_ble_eq_true rfl)) d_M_meet_37 ⟨(Nat.le_of_ble_eq_true rfl), (Nat.le_of_ble_eq_true rfl)⟩) (fun r10 H locs h9 hG => ?_)
        replace h := h9
        clear h9
        refine lv_if_ne (tgt := 49) hx hb d_M_meet_40 (by decide) (fun hc37 => ?_) (fun hc37 => ?_)
        · replace h := h.2 hc37
          refine lv_aload_n hx hb d_M_meet_49 rfl (lv_at hl0 0 rfl) ?_
          refine gget hx hb hw hown hK hG kd_M fa0 rfl 6 (by decide) rfl tw_1025 (fun _ h9 => h9) d_M_meet_50 ?_
          refine gtopq (fun o11 eo11 => ?_)
          replace h := h o11 eo11
          refine lv_aload_n hx hb d_M_meet_53 rfl (lv_at hl0 0 rfl) ?_
          refine gget hx hb hw hown hK hG kd_M fa0 rfl 5 (by decide) rfl tw_1024 (fun _ h9 => h9) d_M_meet_54 ?_
          refine gtopq (fun o12 eo12 => ?_)
          replace h := h o12 eo12
          obtain ⟨y13, ey13, h⟩ := h
          subst ey13
          obtain ⟨f14, h⟩ := h
          -- call S_become
          refine gcv hK hG (va_runV (As := [va_rf o12]) (rest := []) ⟨hx, hb, hml, hown, hw⟩ (m_S_become l x S1 _ y13 o12 f14 h) ⟨gcb hw tw_1217 tw_44 tw_1214 hd_S_become rfl rfl ⟨(Nat.le_of_ble_eq_true rfl), (Nat.le_of_ble_eq_true rfl)⟩, hw _ tw_1215, hw _ tw_1216⟩ (gpV hK hG kd_S f14 rfl) rfl rfl hl0.1 rfl (lv_room (Nat.le_of_ble_eq_true rfl)) d_M_meet_57 ⟨(Nat.le_of_ble_eq_true rfl), (Nat.le_of_ble_eq_true rfl)⟩) (fun S15 H locs h9 hle1 hG => ?_)
          replace h := h9
          clear h9
          have fa0 := gle_isA hle1 fa0
          have f14 := gle_isA hle1 f14
          have leS := leS.tr hle1
          have leS1 := leS1.tr hle1
          refine lv_iconst (v := 0) hx hb d_M_meet_60 (by decide) ?_
          refine lv_istore (lv' := [(4, .int 0), (0, .ref a0), (1, .int a1), (2, .int a2), (3, .int a3)]) hx hb d_M_meet_61 hl0 (by decide) rfl (fun ls hl16 => ?_)
          have leS15 : gle S15 S15 := gle.rf
          obtain ⟨J63, ⟨n0_63, h0_63⟩, hJ63⟩ := h
          have k63 : ∀ (n63 : Nat) (S_63 : St) (v4_63 : Int32) (H : Heap) (locs : List Loc) (ls : Array Slot), gle S15 S_63 → GH x S_63 s H locs → lv_has ls 5 [(0, .ref a0), (1, .int a1), (2, .int a2), (3, .int a3), (4, .int v4_63)] → J63 n63 S_63 v4_63 → W p l e { frames := 4, cells := 0, slots := 0, locals := 101 } s m args below meth c H locs 0 0 (MQ below (va_Qi post (gB x S) (xA x)) args s 0 0 (xA x)) (F0 m 63 ls []) := by
            intro n63
            induction n63 using Nat.strongRecOn with
            | _ n63 ih63 =>
              intro S_63 v4_63 H locs ls hle1 hG hl17 hj
              replace h := hJ63 n63 S_63 v4_63 hj
              have fa0 := gle_isA hle1 fa0
              have f14 := gle_isA hle1 f14
              have leS := leS.tr hle1
              have leS1 := leS1.tr hle1
              have leS15 := leS15.tr hle1
              refine lv_aload_n hx hb d_M_meet_63 rfl (lv_at hl17 0 rfl) ?_
              refine gget hx hb hw hown hK hG kd_M fa0 rfl 6 (by decide) rfl tw_1025 (fun _ h9 => h9) d_M_meet_64 ?_
              refine gtopq (fun o18 eo18 => ?_)
              replace h := h o18 eo18
              refine lv_iload_n hx hb d_M_meet_67 rfl (lv_at hl17 1 rfl) ?_
              refine lv_iload_n hx hb d_M_meet_68 rfl (lv_at hl17 2 rfl) ?_
              obtain ⟨y19, ey19, h⟩ := h
              subst ey19
              obtain ⟨f20, h⟩ := h
              -- call S_isBeside
              refine gpi hK hG (va_runV (As := [.int a1, .int a2]) (rest := []) ⟨hx, hb, hml, hown, hw⟩ (m_S_isBeside l x S_63 _ y19 a1 a2 f20 h) ⟨gcb hw tw_1104 tw_44 tw_1101 hd_S_isBeside rfl rfl ⟨(Nat.le_of_ble_eq_true rfl), (Nat.le_of_ble_eq_true rfl)⟩, hw _ tw_1102, hw _ tw_1103⟩ (gpV hK hG kd_S f20 rfl) rfl rfl hl17.1 rfl (lv_room (Nat.le_of_ble_eq_true rfl)) d_M_meet_69 ⟨(Nat.le_of_ble_eq_true rfl), (Nat.le_of_ble_eq_true rfl)⟩) (fun r21 H locs h9 hG => ?_)
              replace h := h9
              clear h9
              have leS_63 : gle S_63 S_63 := gle.rf
              obtain ⟨J95, hJ95, h⟩ := h
              have k95 : ∀ (H : Heap) (locs : List Loc) (ls : Array Slot), GH x S_63 s H locs → lv_has ls 5 [(0, .ref a0), (1, .int a1), (2, .int a2), (4, .int v4_63)] → J95 → W p l e { frames := 4, cells := 0, slots := 0, locals := 101 } s m args below meth c H locs 0 0 (MQ below (va_Qi post (gB x S) (xA x)) args s 0 0 (xA x)) (F0 m 95 ls []) := by
                intro  H locs ls hG hl22 hj
                replace h := hJ95 hj
                refine lv_aload_n hx hb d_M_meet_95 rfl (lv_at hl22 0 rfl) ?_
                refine gget hx hb hw hown hK hG kd_M fa0 rfl 6 (by decide) rfl tw_1025 (fun _ h9 => h9) d_M_meet_96 ?_
                refine gtopq (fun o23 eo23 => ?_)
                replace h := h o23 eo23
                refine lv_iload_n hx hb d_M_meet_99 rfl (lv_at hl22 1 rfl) ?_
                refine lv_iload_n hx hb d_M_meet_100 rfl (lv_at hl22 2 rfl) ?_
                obtain ⟨y24, ey24, h⟩ := h
                subst ey24
                obtain ⟨f25, h⟩ := h
                -- call S_isBeside
                refine gpi hK hG (va_runV (As := [.int a1, .int a2]) (rest := []) ⟨hx, hb, hml, hown, hw⟩ (m_S_isBeside l x S_63 _ y24 a1 a2 f25 h) ⟨gcb hw tw_1104 tw_44 tw_1101 hd_S_isBeside rfl rfl ⟨(Nat.le_of_ble_eq_true rfl), (Nat.le_of_ble_eq_true rfl)⟩, hw _ tw_1102, hw _ tw_1103⟩ (gpV hK hG kd_S f25 rfl) rfl rfl hl22.1 rfl (lv_room (Nat.le_of_ble_eq_true rfl)) d_M_meet_101 ⟨(Nat.le_of_ble_eq_true rfl), (Nat.le_of_ble_eq_true rfl)⟩) (fun r26 H locs h9 hG => ?_)
                replace h := h9
                clear h9
                refine lv_if_eq (tgt := 112) hx hb d_M_meet_104 (by decide) (fun hc27 => ?_) (fun hc27 => ?_)
                · replace h := h.1 hc27
                  refine lv_iconst (v := (-1)) hx hb d_M_meet_112 (by decide) ?_
                  exact giret hx hb hr hlocks hK hG leS h (Nat.le_of_ble_eq_true rfl) (Nat.le_of_ble_eq_true rfl) d_M_meet_113
                · replace h := h.2 hc27
                  refine lv_iload hx hb d_M_meet_107 (lv_at hl22 3 rfl) ?_
                  refine lv_goto (tgt := 113) hx hb d_M_meet_109 (by decide) ?_
                  exact giret hx hb hr hlocks hK hG leS h (Nat.le_of_ble_eq_true rfl) (Nat.le_of_ble_eq_true rfl) d_M_meet_113
              refine lv_if_ne (tgt := 95) hx hb d_M_meet_72 (by decide) (fun hc36 => ?_) (fun hc36 => ?_)
              · replace h := h.2 hc36
                exact k95 H locs ls hG (lv_sub hl17 [0, 1, 2, 4] rfl) h
              · replace h := h.1 hc36
                refine lv_iload hx hb d_M_meet_75 (lv_at hl17 4 rfl) ?_
                refine lv_iload_n hx hb d_M_meet_77 rfl (lv_at hl17 3 rfl) ?_
                refine lv_icmp_ge (tgt := 95) hx hb d_M_meet_78 (by decide) (fun hc35 => ?_) (fun hc35 => ?_)
                · replace h := h.1 hc35
                  exact k95 H locs ls hG (lv_sub hl17 [0, 1, 2, 4] rfl) h
                · replace h := h.2 hc35
                  refine lv_aload_n hx hb d_M_meet_81 rfl (lv_at hl17 0 rfl) ?_
                  refine gget hx hb hw hown hK hG kd_M fa0 rfl 6 (by decide) rfl tw_1025 (fun _ h9 => h9) d_M_meet_82 ?_
                  refine gtopq (fun o28 eo28 => ?_)
                  replace h := h o28 eo28
                  obtain ⟨y29, ey29, h⟩ := h
                  subst ey29
                  obtain ⟨f30, h⟩ := h
                  -- call S_pass
                  refine gci hK hG (va_runV (As := []) (rest := []) ⟨hx, hb, hml, hown, hw⟩ (m_S_pass l x S_63 _ y29 f30 h) ⟨gcb hw tw_1163 tw_44 tw_1160 hd_S_pass rfl rfl ⟨(Nat.le_of_ble_eq_true rfl), (Nat.le_of_ble_eq_true rfl)⟩, hw _ tw_1161, hw _ tw_1162⟩ (gpV hK hG kd_S f30 rfl) rfl rfl hl17.1 rfl (lv_room (Nat.le_of_ble_eq_true rfl)) d_M_meet_85 ⟨(Nat.le_of_ble_eq_true rfl), (Nat.le_of_ble_eq_true rfl)⟩) (fun r31 S32 H locs h9 hle1 hG => ?_)
                  replace h := h9
                  clear h9
                  have fa0 := gle_isA hle1 fa0
                  have f14 := gle_isA hle1 f14
                  have f20 := gle_isA hle1 f20
                  have f30 := gle_isA hle1 f30
                  have leS := leS.tr hle1
                  have leS1 := leS1.tr hle1
                  have leS15 := leS15.tr hle1
                  have leS_63 := leS_63.tr hle1
                  refine lv_pop hx hb d_M_meet_88 rfl ?_
                  obtain ⟨v33, ev33⟩ : ∃ z : Int32, z = v4_63 + 1 := ⟨_, rfl⟩
                  replace h := h v33 ev33
                  refine lv_iinc (v := v33) (lv' := [(4, .int v33), (0, .ref a0), (1, .int a1), (2, .int a2), (3, .int a3)]) hx hb d_M_meet_89 hl17 (k := 4) rfl (by rw [ev33]; rfl) (by decide) rfl (fun ls hl34 => ?_)
                  refine lv_goto (tgt := 63) hx hb d_M_meet_92 (by decide) ?_
                  obtain ⟨nx, hnx, h⟩ := h
                  exact ih63 nx hnx S32 v33 H locs ls leS15 hG (lv_sub hl34 [1, 2, 3, 4, 0] rfl) h
          exact k63 n0_63 S15 0 H locs ls gle.rf hG (lv_sub hl16 [1, 2, 3, 4, 0] rfl) h0_63
        · replace h := h.1 hc37
          exact k43 H locs ls hG (lv_sub hl0 [0] rfl) h
    · replace h := h.1 hc39
      exact k21 H locs ls hG (lv_sub hl0 [0] rfl) h
def w_M_digest (post : Int64 → St → Prop) (S : St) (a0 : Nat) : Prop :=
  ∀ S1 : St, S1 = pI S 56 a0 0 → ∃ J11 : Nat → Int64 → Int32 → Prop, (∃ n : Nat, J11 n 521 0) ∧ ∀ (n11 : Nat) (v1_11 : Int64) (v3_11 : Int32), J11 n11 v1_11 v3_11 → (9 ≤ v3_11 → ∃ J38 : Nat → Int64 → Int32 → Prop, (∃ n : Nat, J38 n v1_11 0) ∧ ∀ (n38 : Nat) (v1_38 : Int64) (v3_38 : Int32), J38 n38 v1_38 v3_38 → (8 ≤ v3_38 → ∃ J106 : Nat → St → Int64 → Int32 → Nat → Nat → Prop, (∃ n : Nat, J106 n S1 v1_38 0 0 0) ∧ ∀ (n106 : Nat) (S_106 : St) (v1_106 : Int64) (v3_106 : Int32) (kc_106 ks_106 : Nat), J106 n106 S_106 v1_106 v3_106 kc_106 ks_106 → (kc_106 ≤ 256 ∧ ks_106 ≤ 2048) ∧ ∀ o9 : Option Nat, o9 = sQ S_106 61 a0 → ∃ y10 : Nat, o9 = some y10 ∧ isA S_106 7 y10 ∧ ((sI S_106 39 y10) ≤ v3_106 → ∃ J156 : Nat → Int64 → Int32 → Prop, (∃ n : Nat, J156 n v1_106 0) ∧ ∀ (n156 : Nat) (v1_156 : Int64) (v3_156 : Int32), J156 n156 v1_156 v3_156 → ∀ o14 : Option Nat, o14 = sQ S_106 61 a0 → ∃ y15 : Nat, o14 = some y15 ∧ isA S_106 7 y15 ∧ ((sI S_106 52 y15) ≤ v3_156 → post v1_156 S_106) ∧ (¬ (sI S_106 52 y15) ≤ v3_156 → ∃ J170 : Nat → Int64 → Int32 → Prop, (∃ n : Nat, J170 n v1_156 0) ∧ ∀ (n170 : Nat) (v1_170 : Int64) (v4_170 : Int32), J170 n170 v1_170 v4_170 → (6 ≤ v4_170 → ∀ v19 : Int32, v19 = v3_156 + 1 → ∃ nx : Nat, nx < n156 ∧ J156 nx v1_170 v19) ∧ (¬ 6 ≤ v4_170 → w_M_winderTold (fun (r21 : Int32) => ∀ v22 : Int64, v22 = (v1_170 * 31) + (r21.toInt64) → ∀ v24 : Int32, v24 = v4_170 + 1 → ∃ nx : Nat, nx < n170 ∧ J170 nx v22 v24) S_106 a0 v3_156 v4_170))) ∧ (¬ (sI S_106 39 y10) ≤ v3_106 → ∃ J120 : Nat → St → Int64 → Int32 → Nat → Nat → Prop, (∃ n : Nat, J120 n S_106 v1_106 0 kc_106 ks_106) ∧ ∀ (n120 : Nat) (S_120 : St) (v1_120 : Int64) (v4_120 : Int32) (kc_120 ks_120 : Nat), J120 n120 S_120 v1_120 v4_120 kc_120 ks_120 → (kc_120 ≤ 256 ∧ ks_120 ≤ 2048) ∧ (12 ≤ v4_120 → ∀ v30 : Int32, v30 = v3_106 + 1 → ∃ nx : Nat, nx < n106 ∧ J106 nx S_120 v1_120 v30 kc_120 ks_120) ∧ (¬ 12 ≤ v4_120 → (kc_120 + 1 ≤ 256 ∧ ks_120 + 12 ≤ 2048) ∧ w_M_dancerTold (fun (r32 : Int32) (S33 : St) => ∀ v35 : Int64, v35 = (v1_120 * 31) + (r32.toInt64) → ∀ v37 : Int32, v37 = v4_120 + 1 → ∃ nx : Nat, nx < n120 ∧ J120 nx S33 v35 v37 (kc_120 + 1) (ks_120 + 12)) S_120 a0 v3_106 v4_120))) ∧ (¬ 8 ≤ v3_38 → ∀ o41 : Option Nat, o41 = sQ S1 60 a0 → ∃ y42 : Nat, o41 = some y42 ∧ isA S1 10 y42 ∧ vp_in v3_38 (sN S1 y42) ∧ ∀ v45 : Int64, v45 = (v1_38 * 31) + ((sR S1 y42 v3_38.toNatClampNeg).toInt64) → ∃ J61 : Nat → Int64 → Int32 → Prop, (∃ n : Nat, J61 n v45 0) ∧ ∀ (n61 : Nat) (v1_61 : Int64) (v4_61 : Int32), J61 n61 v1_61 v4_61 → ∀ o49 : Option Nat, o49 = sQ S1 60 a0 → ∃ y50 : Nat, o49 = some y50 ∧ isA S1 10 y50 ∧ vp_in v3_38 (sN S1 y50) ∧ ((sR S1 y50 v3_38.toNatClampNeg) ≤ v4_61 → ∀ v53 : Int32, v53 = v3_38 + 1 → ∃ nx : Nat, nx < n38 ∧ J38 nx v1_61 v53) ∧ (¬ (sR S1 y50 v3_38.toNatClampNeg) ≤ v4_61 → ∀ o55 : Option Nat, o55 = sQ S1 59 a0 → ∃ y56 : Nat, o55 = some y56 ∧ isA S1 10 y56 ∧ vp_in ((24 * v3_38) + v4_61) (sN S1 y56) ∧ ∀ v59 : Int64, v59 = (v1_61 * 31) + ((sR S1 y56 ((24 * v3_38) + v4_61).toNatClampNeg).toInt64) → ∀ v61 : Int32, v61 = v4_61 + 1 → ∃ nx : Nat, nx < n61 ∧ J61 nx v59 v61))) ∧ (¬ 9 ≤ v3_11 → w_M_counted (fun (r65 : Int32) => ∀ v66 : Int64, v66 = (v1_11 * 31) + (r65.toInt64) → ∀ v68 : Int32, v68 = v3_11 + 1 → ∃ nx : Nat, nx < n11 ∧ J11 nx v66 v68) S1 a0 v3_11)
set_option maxHeartbeats 4000000 in
set_option maxRecDepth 100000 in
theorem m_M_digest (l : Launch) (x : Cx) (S : St) (post : Int64 → St → Prop) (a0 : Nat) (fa0 : isA S 8 a0) (h : w_M_digest post S a0) : Met l y_M_digest [.code y_M_digest c_M_digest 5 (some .long)] { frames := 3, cells := 256, slots := 2048, locals := 65 } (va_Pc [.ref a0] (GW x S)) (va_Ql post (gB x S) (xA x)) 256 2048 (xA x) := by
  refine gMet (by decide +kernel) (Nat.le_of_ble_eq_true rfl) ?_
  intro p e s m args below meth c hx hb hr hown hlocks hin hw hK H locs hG ls hlA hml
  have hown : s.vm.findClass "WaltzHallModel" = some m.cls := hown
  have hl0 : lv_has ls 5 [(0, .ref a0)] := hlA
  have leS : gle S S := gle.rf
  unfold w_M_digest at h
  refine lv_aload_n hx hb d_M_digest_0 rfl (lv_at hl0 0 rfl) ?_
  refine lv_iconst (v := 0) hx hb d_M_digest_1 (by decide) ?_
  refine gput (S' := pI S 56 a0 0) hx hb hw hown hK hG kd_M fa0 rfl 0 (by decide) (gChI fa0 rfl) tw_1017 (fun _ h9 => h9) rfl rfl rfl rfl (Nat.le_of_ble_eq_true rfl) d_M_digest_2 (fun S1 H locs eS1 hle1 hG => ?_)
  replace h := h S1 eS1
  have fa0 := gle_isA hle1 fa0
  have leS := leS.tr hle1
  refine lv_ldc2 hx hb hown (hw _ tw_1240) d_M_digest_5 ?_
  refine lv_lstore_n (i := 1) (lv' := [(1, .long 521), (0, .ref a0)]) hx hb d_M_digest_8 rfl hl0 (by decide) rfl (fun ls hl2 => ?_)
  refine lv_iconst (v := 0) hx hb d_M_digest_9 (by decide) ?_
  refine lv_istore_n (i := 3) (lv' := [(3, .int 0), (1, .long 521), (0, .ref a0)]) hx hb d_M_digest_10 rfl hl2 (by decide) rfl (fun ls hl3 => ?_)
  have leS1 : gle S1 S1 := gle.rf
  obtain ⟨J11, ⟨n0_11, h0_11⟩, hJ11⟩ := h
  have k11 : ∀ (n11 : Nat) (v1_11 : Int64) (v3_11 : Int32) (H : Heap) (locs : List Loc) (ls : Array Slot), GH x S1 s H locs → lv_has ls 5 [(0, .ref a0), (1, .long v1_11), (3, .int v3_11)] → J11 n11 v1_11 v3_11 → W p l e { frames := 3, cells := 256, slots := 2048, locals := 65 } s m args below meth c H locs 0 0 (MQ below (va_Ql post (gB x S) (xA x)) args s 256 2048 (xA x)) (F0 m 11 ls []) := by
    intro n11
    induction n11 using Nat.strongRecOn with
    | _ n11 ih11 =>
      intro v1_11 v3_11 H locs ls hG hl4 hj
      replace h := hJ11 n11 v1_11 v3_11 hj
      refine lv_iload_n hx hb d_M_digest_11 rfl (lv_at hl4 2 rfl) ?_
      refine lv_bipush (v := 9) hx hb d_M_digest_12 (by decide) ?_
      refine lv_icmp_ge (tgt := 36) hx hb d_M_digest_14 (by decide) (fun hc70 => ?_) (fun hc70 => ?_)
      · replace h := h.1 hc70
        refine lv_iconst (v := 0) hx hb d_M_digest_36 (by decide) ?_
        refine lv_istore_n (i := 3) (lv' := [(3, .int 0), (0, .ref a0), (1, .long v1_11)]) hx hb d_M_digest_37 rfl hl4 (by decide) rfl (fun ls hl5 => ?_)
        obtain ⟨J38, ⟨n0_38, h0_38⟩, hJ38⟩ := h
        have k38 : ∀ (n38 : Nat) (v1_38 : Int64) (v3_38 : Int32) (H : Heap) (locs : List Loc) (ls : Array Slot), GH x S1 s H locs → lv_has ls 5 [(0, .ref a0), (1, .long v1_38), (3, .int v3_38)] → J38 n38 v1_38 v3_38 → W p l e { frames := 3, cells := 256, slots := 2048, locals := 65 } s m args below meth c H locs 0 0 (MQ below (va_Ql post (gB x S) (xA x)) args s 256 2048 (xA x)) (F0 m 38 ls []) := by
          intro n38
          induction n38 using Nat.strongRecOn with
          | _ n38 ih38 =>
            intro v1_38 v3_38 H locs ls hG hl6 hj
            replace h := hJ38 n38 v1_38 v3_38 hj
            refine lv_iload_n hx hb d_M_digest_38 rfl (lv_at hl6 2 rfl) ?_
            refine lv_bipush (v := 8) hx hb d_M_digest_39 (by decide) ?_
            refine lv_icmp_ge (tgt := 104) hx hb d_M_digest_41 (by decide) (fun hc64 => ?_) (fun hc64 => ?_)
            · replace h := h.1 hc64
              refine lv_iconst (v := 0) hx hb d_M_digest_104 (by decide) ?_
              refine lv_istore_n (i := 3) (lv' := [(3, .int 0), (0, .ref a0), (1, .long v1_38)]) hx hb d_M_digest_105 rfl hl6 (by decide) rfl (fun ls hl7 => ?_)
              obtain ⟨J106, ⟨n0_106, h0_106⟩, hJ106⟩ := h
              have k106 : ∀ (n106 : Nat) (S_106 : St) (v1_106 : Int64) (v3_106 : Int32) (kc_106 ks_106 : Nat) (H : Heap) (locs : List Loc) (ls : Array Slot), gle S1 S_106 → GH x S_106 s H locs → lv_has ls 5 [(0, .ref a0), (1, .long v1_106), (3, .int v3_106)] → J106 n106 S_106 v1_106 v3_106 kc_106 ks_106 → W p l e { frames := 3, cells := 256, slots := 2048, locals := 65 } s m args below meth c H locs kc_106 ks_106 (MQ below (va_Ql post (gB x S) (xA x)) args s 256 2048 (xA x)) (F0 m 106 ls []) := by
                intro n106
                induction n106 using Nat.strongRecOn with
                | _ n106 ih106 =>
                  intro S_106 v1_106 v3_106 kc_106 ks_106 H locs ls hle1 hG hl8 hj
                  replace h := hJ106 n106 S_106 v1_106 v3_106 kc_106 ks_106 hj
                  obtain ⟨⟨hk106, hkb106⟩, h⟩ := h
                  have fa0 := gle_isA hle1 fa0
                  have leS := leS.tr hle1
                  have leS1 := leS1.tr hle1
                  refine lv_iload_n hx hb d_M_digest_106 rfl (lv_at hl8 2 rfl) ?_
                  refine lv_aload_n hx hb d_M_digest_107 rfl (lv_at hl8 0 rfl) ?_
                  refine gget hx hb hw hown hK hG kd_M fa0 rfl 5 (by decide) rfl tw_1024 (fun _ h9 => h9) d_M_digest_108 ?_
                  refine gtopq (fun o9 eo9 => ?_)
                  replace h := h o9 eo9
                  obtain ⟨y10, ey10, h⟩ := h
                  subst ey10
                  obtain ⟨f11, h⟩ := h
                  refine ggetN hx hb hw hown hK hG kd_S f11 rfl 1 (by decide) rfl tw_943 (fun _ h9 => h9) d_M_digest_111 ?_
                  refine lv_icmp_ge (tgt := 154) hx hb d_M_digest_114 (by decide) (fun hc40 => ?_) (fun hc40 => ?_)
                  · replace h := h.1 hc40
                    refine lv_iconst (v := 0) hx hb d_M_digest_154 (by decide) ?_
                    refine lv_istore_n (i := 3) (lv' := [(3, .int 0), (0, .ref a0), (1, .long v1_106)]) hx hb d_M_digest_155 rfl hl8 (by decide) rfl (fun ls hl12 => ?_)
                    have leS_106 : gle S_106 S_106 := gle.rf
                    obtain ⟨J156, ⟨n0_156, h0_156⟩, hJ156⟩ := h
                    have k156 : ∀ (n156 : Nat) (v1_156 : Int64) (v3_156 : Int32) (H : Heap) (locs : List Loc) (ls : Array Slot), GH x S_106 s H locs → lv_has ls 5 [(0, .ref a0), (1, .long v1_156), (3, .int v3_156)] → J156 n156 v1_156 v3_156 → W p l e { frames := 3, cells := 256, slots := 2048, locals := 65 } s m args below meth c H locs kc_106 ks_106 (MQ below (va_Ql post (gB x S) (xA x)) args s 256 2048 (xA x)) (F0 m 156 ls []) := by
                      intro n156
                      induction n156 using Nat.strongRecOn with
                      | _ n156 ih156 =>
                        intro v1_156 v3_156 H locs ls hG hl13 hj
                        replace h := hJ156 n156 v1_156 v3_156 hj
                        refine lv_iload_n hx hb d_M_digest_156 rfl (lv_at hl13 2 rfl) ?_
                        refine lv_aload_n hx hb d_M_digest_157 rfl (lv_at hl13 0 rfl) ?_
                        refine gget hx hb hw hown hK hG kd_M fa0 rfl 5 (by decide) rfl tw_1024 (fun _ h9 => h9) d_M_digest_158 ?_
                        refine gtopq (fun o14 eo14 => ?_)
                        replace h := h o14 eo14
                        obtain ⟨y15, ey15, h⟩ := h
                        subst ey15
                        obtain ⟨f16, h⟩ := h
                        refine ggetN hx hb hw hown hK hG kd_S f16 rfl 14 (by decide) rfl tw_969 (fun _ h9 => h9) d_M_digest_161 ?_
                        refine lv_icmp_ge (tgt := 204) hx hb d_M_digest_164 (by decide) (fun hc27 => ?_) (fun hc27 => ?_)
                        · replace h := h.1 hc27
                          refine lv_lload_n hx hb d_M_digest_204 rfl (lv_at hl13 1 rfl) ?_
                          exact glret hx hb hr hlocks hK hG leS h (by omega) (by omega) d_M_digest_205
                        · replace h := h.2 hc27
                          refine lv_iconst (v := 0) hx hb d_M_digest_167 (by decide) ?_
                          refine lv_istore (lv' := [(4, .int 0), (0, .ref a0), (1, .long v1_156), (3, .int v3_156)]) hx hb d_M_digest_168 hl13 (by decide) rfl (fun ls hl17 => ?_)
                          obtain ⟨J170, ⟨n0_170, h0_170⟩, hJ170⟩ := h
                          have k170 : ∀ (n170 : Nat) (v1_170 : Int64) (v4_170 : Int32) (H : Heap) (locs : List Loc) (ls : Array Slot), GH x S_106 s H locs → lv_has ls 5 [(0, .ref a0), (1, .long v1_170), (3, .int v3_156), (4, .int v4_170)] → J170 n170 v1_170 v4_170 → W p l e { frames := 3, cells := 256, slots := 2048, locals := 65 } s m args below meth c H locs kc_106 ks_106 (MQ below (va_Ql post (gB x S) (xA x)) args s 256 2048 (xA x)) (F0 m 170 ls []) := by
                            intro n170
                            induction n170 using Nat.strongRecOn with
                            | _ n170 ih170 =>
                              intro v1_170 v4_170 H locs ls hG hl18 hj
                              replace h := hJ170 n170 v1_170 v4_170 hj
                              refine lv_iload hx hb d_M_digest_170 (lv_at hl18 3 rfl) ?_
                              refine lv_bipush (v := 6) hx hb d_M_digest_172 (by decide) ?_
                              refine lv_icmp_ge (tgt := 198) hx hb d_M_digest_174 (by decide) (fun hc26 => ?_) (fun hc26 => ?_)
                              · replace h := h.1 hc26
                                obtain ⟨v19, ev19⟩ : ∃ z : Int32, z = v3_156 + 1 := ⟨_, rfl⟩
                                replace h := h v19 ev19
                                refine lv_iinc (v := v19) (lv' := [(3, .int v19), (0, .ref a0), (1, .long v1_170), (4, .int v4_170)]) hx hb d_M_digest_198 hl18 (k := 2) rfl (by rw [ev19]; rfl) (by decide) rfl (fun ls hl20 => ?_)
                                refine lv_goto (tgt := 156) hx hb d_M_digest_201 (by decide) ?_
                                obtain ⟨nx, hnx, h⟩ := h
                                exact ih156 nx hnx v1_170 v19 H locs ls hG (lv_sub hl20 [1, 2, 0] rfl) h
                              · replace h := h.2 hc26
                                refine lv_lload_n hx hb d_M_digest_177 rfl (lv_at hl18 1 rfl) ?_
                                refine lv_ldc2 hx hb hown (hw _ tw_1241) d_M_digest_178 ?_
                                refine lv_lmul hx hb d_M_digest_181 ?_
                                refine lv_aload_n hx hb d_M_digest_182 rfl (lv_at hl18 0 rfl) ?_
                                refine lv_iload_n hx hb d_M_digest_183 rfl (lv_at hl18 2 rfl) ?_
                                refine lv_iload hx hb d_M_digest_184 (lv_at hl18 3 rfl) ?_
                                -- call M_winderTold
                                refine gpi hK hG (va_runV (As := [.int v3_156, .int v4_170]) (rest := [.long (v1_170 * 31)]) ⟨hx, hb, hml, hown, hw⟩ (m_M_winderTold l x S_106 _ a0 v3_156 v4_170 fa0 h) ⟨gcb hw tw_1155 tw_43 tw_1152 hd_M_winderTold rfl rfl ⟨(Nat.le_of_ble_eq_true rfl), (Nat.le_of_ble_eq_true rfl)⟩, hw _ tw_1154, hw _ tw_17⟩ (gpV hK hG kd_M fa0 rfl) rfl rfl hl18.1 rfl (lv_room (Nat.le_of_ble_eq_true rfl)) d_M_digest_186 ⟨(by show _ ≤ (256 : Nat); omega), (by show _ ≤ (2048 : Nat); omega)⟩) (fun r21 H locs h9 hG => ?_)
                                replace h := h9
                                clear h9
                                refine lv_i2l hx hb d_M_digest_189 rfl ?_
                                refine lv_ladd hx hb d_M_digest_190 ?_
                                refine lv_topl (fun v22 ev22 => ?_)
                                replace h := h v22 ev22
                                refine lv_lstore_n (i := 1) (lv' := [(1, .long v22), (0, .ref a0), (3, .int v3_156), (4, .int v4_170)]) hx hb d_M_digest_191 rfl hl18 (by decide) rfl (fun ls hl23 => ?_)
                                obtain ⟨v24, ev24⟩ : ∃ z : Int32, z = v4_170 + 1 := ⟨_, rfl⟩
                                replace h := h v24 ev24
                                refine lv_iinc (v := v24) (lv' := [(4, .int v24), (1, .long v22), (0, .ref a0), (3, .int v3_156)]) hx hb d_M_digest_192 hl23 (k := 3) rfl (by rw [ev24]; rfl) (by decide) rfl (fun ls hl25 => ?_)
                                refine lv_goto (tgt := 170) hx hb d_M_digest_195 (by decide) ?_
                                obtain ⟨nx, hnx, h⟩ := h
                                exact ih170 nx hnx v22 v24 H locs ls hG (lv_sub hl25 [2, 1, 3, 0] rfl) h
                          exact k170 n0_170 v1_156 0 H locs ls hG (lv_sub hl17 [1, 2, 3, 0] rfl) h0_170
                    exact k156 n0_156 v1_106 0 H locs ls hG (lv_sub hl12 [1, 2, 0] rfl) h0_156
                  · replace h := h.2 hc40
                    refine lv_iconst (v := 0) hx hb d_M_digest_117 (by decide) ?_
                    refine lv_istore (lv' := [(4, .int 0), (0, .ref a0), (1, .long v1_106), (3, .int v3_106)]) hx hb d_M_digest_118 hl8 (by decide) rfl (fun ls hl28 => ?_)
                    have leS_106 : gle S_106 S_106 := gle.rf
                    obtain ⟨J120, ⟨n0_120, h0_120⟩, hJ120⟩ := h
                    have k120 : ∀ (n120 : Nat) (S_120 : St) (v1_120 : Int64) (v4_120 : Int32) (kc_120 ks_120 : Nat) (H : Heap) (locs : List Loc) (ls : Array Slot), gle S_106 S_120 → GH x S_120 s H locs → lv_has ls 5 [(0, .ref a0), (1, .long v1_120), (3, .int v3_106), (4, .int v4_120)] → J120 n120 S_120 v1_120 v4_120 kc_120 ks_120 → W p l e { frames := 3, cells := 256, slots := 2048, locals := 65 } s m args below meth c H locs kc_120 ks_120 (MQ below (va_Ql post (gB x S) (xA x)) args s 256 2048 (xA x)) (F0 m 120 ls []) := by
                      intro n120
                      induction n120 using Nat.strongRecOn with
                      | _ n120 ih120 =>
                        intro S_120 v1_120 v4_120 kc_120 ks_120 H locs ls hle1 hG hl29 hj
                        replace h := hJ120 n120 S_120 v1_120 v4_120 kc_120 ks_120 hj
                        obtain ⟨⟨hk120, hkb120⟩, h⟩ := h
                        have fa0 := gle_isA hle1 fa0
                        have f11 := gle_isA hle1 f11
                        have leS := leS.tr hle1
                        have leS1 := leS1.tr hle1
                        have leS_106 := leS_106.tr hle1
                        refine lv_iload hx hb d_M_digest_120 (lv_at hl29 3 rfl) ?_
                        refine lv_bipush (v := 12) hx hb d_M_digest_122 (by decide) ?_
                        refine lv_icmp_ge (tgt := 148) hx hb d_M_digest_124 (by decide) (fun hc39 => ?_) (fun hc39 => ?_)
                        · replace h := h.1 hc39
                          obtain ⟨v30, ev30⟩ : ∃ z : Int32, z = v3_106 + 1 := ⟨_, rfl⟩
                          replace h := h v30 ev30
                          refine lv_iinc (v := v30) (lv' := [(3, .int v30), (0, .ref a0), (1, .long v1_120), (4, .int v4_120)]) hx hb d_M_digest_148 hl29 (k := 2) rfl (by rw [ev30]; rfl) (by decide) rfl (fun ls hl31 => ?_)
                          refine lv_goto (tgt := 106) hx hb d_M_digest_151 (by decide) ?_
                          obtain ⟨nx, hnx, h⟩ := h
                          exact ih106 nx hnx S_120 v1_120 v30 kc_120 ks_120 H locs ls leS1 hG (lv_sub hl31 [1, 2, 0] rfl) h
                        · replace h := h.2 hc39
                          refine lv_lload_n hx hb d_M_digest_127 rfl (lv_at hl29 1 rfl) ?_
                          refine lv_ldc2 hx hb hown (hw _ tw_1241) d_M_digest_128 ?_
                          refine lv_lmul hx hb d_M_digest_131 ?_
                          refine lv_aload_n hx hb d_M_digest_132 rfl (lv_at hl29 0 rfl) ?_
                          refine lv_iload_n hx hb d_M_digest_133 rfl (lv_at hl29 2 rfl) ?_
                          refine lv_iload hx hb d_M_digest_134 (lv_at hl29 3 rfl) ?_
                          obtain ⟨⟨hk34, hk34b⟩, h⟩ := h
                          -- call M_dancerTold
                          refine gci hK hG (va_runV (As := [.int v3_106, .int v4_120]) (rest := [.long (v1_120 * 31)]) ⟨hx, hb, hml, hown, hw⟩ (m_M_dancerTold l x S_120 _ a0 v3_106 v4_120 fa0 h) ⟨gcb hw tw_1131 tw_43 tw_1128 hd_M_dancerTold rfl rfl ⟨(Nat.le_of_ble_eq_true rfl), (Nat.le_of_ble_eq_true rfl)⟩, hw _ tw_1130, hw _ tw_15⟩ (gpV hK hG kd_M fa0 rfl) rfl rfl hl29.1 rfl (lv_room (Nat.le_of_ble_eq_true rfl)) d_M_digest_136 ⟨(by show _ ≤ (256 : Nat); omega), (by show _ ≤ (2048 : Nat); omega)⟩) (fun r32 S33 H locs h9 hle1 hG => ?_)
                          replace h := h9
                          clear h9
                          have fa0 := gle_isA hle1 fa0
                          have f11 := gle_isA hle1 f11
                          have leS := leS.tr hle1
                          have leS1 := leS1.tr hle1
                          have leS_106 := leS_106.tr hle1
                          refine lv_i2l hx hb d_M_digest_139 rfl ?_
                          refine lv_ladd hx hb d_M_digest_140 ?_
                          refine lv_topl (fun v35 ev35 => ?_)
                          replace h := h v35 ev35
                          refine lv_lstore_n (i := 1) (lv' := [(1, .long v35), (0, .ref a0), (3, .int v3_106), (4, .int v4_120)]) hx hb d_M_digest_141 rfl hl29 (by decide) rfl (fun ls hl36 => ?_)
                          obtain ⟨v37, ev37⟩ : ∃ z : Int32, z = v4_120 + 1 := ⟨_, rfl⟩
                          replace h := h v37 ev37
                          refine lv_iinc (v := v37) (lv' := [(4, .int v37), (1, .long v35), (0, .ref a0), (3, .int v3_106)]) hx hb d_M_digest_142 hl36 (k := 3) rfl (by rw [ev37]; rfl) (by decide) rfl (fun ls hl38 => ?_)
                          refine lv_goto (tgt := 120) hx hb d_M_digest_145 (by decide) ?_
                          obtain ⟨nx, hnx, h⟩ := h
                          exact ih120 nx hnx S33 v35 v37 (kc_120 + 1) (ks_120 + 12) H locs ls leS_106 hG (lv_sub hl38 [2, 1, 3, 0] rfl) h
                    exact k120 n0_120 S_106 v1_106 0 kc_106 ks_106 H locs ls gle.rf hG (lv_sub hl28 [1, 2, 3, 0] rfl) h0_120
              exact k106 n0_106 S1 v1_38 0 0 0 H locs ls gle.rf hG (lv_sub hl7 [1, 2, 0] rfl) h0_106
            · replace h := h.2 hc64
              refine lv_lload_n hx hb d_M_digest_44 rfl (lv_at hl6 1 rfl) ?_
              refine lv_ldc2 hx hb hown (hw _ tw_1241) d_M_digest_45 ?_
              refine lv_lmul hx hb d_M_digest_48 ?_
              refine lv_aload_n hx hb d_M_digest_49 rfl (lv_at hl6 0 rfl) ?_
              refine gget hx hb hw hown hK hG kd_M fa0 rfl 4 (by decide) rfl tw_1022 (fun _ h9 => h9) d_M_digest_50 ?_
              refine gtopq (fun o41 eo41 => ?_)
              replace h := h o41 eo41
              refine lv_iload_n hx hb d_M_digest_53 rfl (lv_at hl6 2 rfl) ?_
              obtain ⟨y42, ey42, h⟩ := h
              subst ey42
              obtain ⟨f43, h⟩ := h
              obtain ⟨hi44, h⟩ := h
              refine giald hx hb hK hG f43 hi44 d_M_digest_54 ?_
              refine lv_i2l hx hb d_M_digest_55 rfl ?_
              refine lv_ladd hx hb d_M_digest_56 ?_
              refine lv_topl (fun v45 ev45 => ?_)
              replace h := h v45 ev45
              refine lv_lstore_n (i := 1) (lv' := [(1, .long v45), (0, .ref a0), (3, .int v3_38)]) hx hb d_M_digest_57 rfl hl6 (by decide) rfl (fun ls hl46 => ?_)
              refine lv_iconst (v := 0) hx hb d_M_digest_58 (by decide) ?_
              refine lv_istore (lv' := [(4, .int 0), (1, .long v45), (0, .ref a0), (3, .int v3_38)]) hx hb d_M_digest_59 hl46 (by decide) rfl (fun ls hl47 => ?_)
              obtain ⟨J61, ⟨n0_61, h0_61⟩, hJ61⟩ := h
              have k61 : ∀ (n61 : Nat) (v1_61 : Int64) (v4_61 : Int32) (H : Heap) (locs : List Loc) (ls : Array Slot), GH x S1 s H locs → lv_has ls 5 [(0, .ref a0), (1, .long v1_61), (3, .int v3_38), (4, .int v4_61)] → J61 n61 v1_61 v4_61 → W p l e { frames := 3, cells := 256, slots := 2048, locals := 65 } s m args below meth c H locs 0 0 (MQ below (va_Ql post (gB x S) (xA x)) args s 256 2048 (xA x)) (F0 m 61 ls []) := by
                intro n61
                induction n61 using Nat.strongRecOn with
                | _ n61 ih61 =>
                  intro v1_61 v4_61 H locs ls hG hl48 hj
                  replace h := hJ61 n61 v1_61 v4_61 hj
                  refine lv_iload hx hb d_M_digest_61 (lv_at hl48 3 rfl) ?_
                  refine lv_aload_n hx hb d_M_digest_63 rfl (lv_at hl48 0 rfl) ?_
                  refine gget hx hb hw hown hK hG kd_M fa0 rfl 4 (by decide) rfl tw_1022 (fun _ h9 => h9) d_M_digest_64 ?_
                  refine gtopq (fun o49 eo49 => ?_)
                  replace h := h o49 eo49
                  refine lv_iload_n hx hb d_M_digest_67 rfl (lv_at hl48 2 rfl) ?_
                  obtain ⟨y50, ey50, h⟩ := h
                  subst ey50
                  obtain ⟨f51, h⟩ := h
                  obtain ⟨hi52, h⟩ := h
                  refine giald hx hb hK hG f51 hi52 d_M_digest_68 ?_
                  refine lv_icmp_ge (tgt := 98) hx hb d_M_digest_69 (by decide) (fun hc63 => ?_) (fun hc63 => ?_)
                  · replace h := h.1 hc63
                    obtain ⟨v53, ev53⟩ : ∃ z : Int32, z = v3_38 + 1 := ⟨_, rfl⟩
                    replace h := h v53 ev53
                    refine lv_iinc (v := v53) (lv' := [(3, .int v53), (0, .ref a0), (1, .long v1_61), (4, .int v4_61)]) hx hb d_M_digest_98 hl48 (k := 2) rfl (by rw [ev53]; rfl) (by decide) rfl (fun ls hl54 => ?_)
                    refine lv_goto (tgt := 38) hx hb d_M_digest_101 (by decide) ?_
                    obtain ⟨nx, hnx, h⟩ := h
                    exact ih38 nx hnx v1_61 v53 H locs ls hG (lv_sub hl54 [1, 2, 0] rfl) h
                  · replace h := h.2 hc63
                    refine lv_lload_n hx hb d_M_digest_72 rfl (lv_at hl48 1 rfl) ?_
                    refine lv_ldc2 hx hb hown (hw _ tw_1241) d_M_digest_73 ?_
                    refine lv_lmul hx hb d_M_digest_76 ?_
                    refine lv_aload_n hx hb d_M_digest_77 rfl (lv_at hl48 0 rfl) ?_
                    refine gget hx hb hw hown hK hG kd_M fa0 rfl 3 (by decide) rfl tw_1020 (fun _ h9 => h9) d_M_digest_78 ?_
                    refine gtopq (fun o55 eo55 => ?_)
                    replace h := h o55 eo55
                    refine lv_bipush (v := 24) hx hb d_M_digest_81 (by decide) ?_
                    refine lv_iload_n hx hb d_M_digest_83 rfl (lv_at hl48 2 rfl) ?_
                    refine lv_imul hx hb d_M_digest_84 ?_
                    refine lv_iload hx hb d_M_digest_85 (lv_at hl48 3 rfl) ?_
                    refine lv_iadd hx hb d_M_digest_87 ?_
                    obtain ⟨y56, ey56, h⟩ := h
                    subst ey56
                    obtain ⟨f57, h⟩ := h
                    obtain ⟨hi58, h⟩ := h
                    refine giald hx hb hK hG f57 hi58 d_M_digest_88 ?_
                    refine lv_i2l hx hb d_M_digest_89 rfl ?_
                    refine lv_ladd hx hb d_M_digest_90 ?_
                    refine lv_topl (fun v59 ev59 => ?_)
                    replace h := h v59 ev59
                    refine lv_lstore_n (i := 1) (lv' := [(1, .long v59), (0, .ref a0), (3, .int v3_38), (4, .int v4_61)]) hx hb d_M_digest_91 rfl hl48 (by decide) rfl (fun ls hl60 => ?_)
                    obtain ⟨v61, ev61⟩ : ∃ z : Int32, z = v4_61 + 1 := ⟨_, rfl⟩
                    replace h := h v61 ev61
                    refine lv_iinc (v := v61) (lv' := [(4, .int v61), (1, .long v59), (0, .ref a0), (3, .int v3_38)]) hx hb d_M_digest_92 hl60 (k := 3) rfl (by rw [ev61]; rfl) (by decide) rfl (fun ls hl62 => ?_)
                    refine lv_goto (tgt := 61) hx hb d_M_digest_95 (by decide) ?_
                    obtain ⟨nx, hnx, h⟩ := h
                    exact ih61 nx hnx v59 v61 H locs ls hG (lv_sub hl62 [2, 1, 3, 0] rfl) h
              exact k61 n0_61 v45 0 H locs ls hG (lv_sub hl47 [2, 1, 3, 0] rfl) h0_61
        exact k38 n0_38 v1_11 0 H locs ls hG (lv_sub hl5 [1, 2, 0] rfl) h0_38
      · replace h := h.2 hc70
        refine lv_lload_n hx hb d_M_digest_17 rfl (lv_at hl4 1 rfl) ?_
        refine lv_ldc2 hx hb hown (hw _ tw_1241) d_M_digest_18 ?_
        refine lv_lmul hx hb d_M_digest_21 ?_
        refine lv_aload_n hx hb d_M_digest_22 rfl (lv_at hl4 0 rfl) ?_
        refine lv_iload_n hx hb d_M_digest_23 rfl (lv_at hl4 2 rfl) ?_
        -- call M_counted
        refine gpi hK hG (va_runV (As := [.int v3_11]) (rest := [.long (v1_11 * 31)]) ⟨hx, hb, hml, hown, hw⟩ (m_M_counted l x S1 _ a0 v3_11 fa0 h) ⟨gcb hw tw_1209 tw_43 tw_1206 hd_M_counted rfl rfl ⟨(Nat.le_of_ble_eq_true rfl), (Nat.le_of_ble_eq_true rfl)⟩, hw _ tw_1208, hw _ tw_25⟩ (gpV hK hG kd_M fa0 rfl) rfl rfl hl4.1 rfl (lv_room (Nat.le_of_ble_eq_true rfl)) d_M_digest_24 ⟨(Nat.le_of_ble_eq_true rfl), (Nat.le_of_ble_eq_true rfl)⟩) (fun r65 H locs h9 hG => ?_)
        replace h := h9
        clear h9
        refine lv_i2l hx hb d_M_digest_27 rfl ?_
        refine lv_ladd hx hb d_M_digest_28 ?_
        refine lv_topl (fun v66 ev66 => ?_)
        replace h := h v66 ev66
        refine lv_lstore_n (i := 1) (lv' := [(1, .long v66), (0, .ref a0), (3, .int v3_11)]) hx hb d_M_digest_29 rfl hl4 (by decide) rfl (fun ls hl67 => ?_)
        obtain ⟨v68, ev68⟩ : ∃ z : Int32, z = v3_11 + 1 := ⟨_, rfl⟩
        replace h := h v68 ev68
        refine lv_iinc (v := v68) (lv' := [(3, .int v68), (1, .long v66), (0, .ref a0)]) hx hb d_M_digest_30 hl67 (k := 2) rfl (by rw [ev68]; rfl) (by decide) rfl (fun ls hl69 => ?_)
        refine lv_goto (tgt := 11) hx hb d_M_digest_33 (by decide) ?_
        obtain ⟨nx, hnx, h⟩ := h
        exact ih11 nx hnx v66 v68 H locs ls hG (lv_sub hl69 [2, 1, 0] rfl) h
  exact k11 n0_11 521 0 H locs ls hG (lv_sub hl3 [2, 1, 0] rfl) h0_11
def w_H_tension (post : UInt64 → Prop) (S : St) (a0 : Nat) : Prop :=
  ∀ o1 : Option Nat, o1 = sQ S 36 a0 → ∃ y2 : Nat, o1 = some y2 ∧ isA S 3 y2 ∧ ∀ o4 : Option Nat, o4 = sQ S 21 y2 → ∃ y5 : Nat, o4 = some y5 ∧ isA S 0 y5 ∧ w_AL_size (fun (r7 : Int32) => (r7 = 0 → post (FP.dconst0)) ∧ (¬ r7 = 0 → ∀ o9 : Option Nat, o9 = sQ S 36 a0 → ∃ y10 : Nat, o9 = some y10 ∧ isA S 3 y10 ∧ w_F_sumOfTold (fun (r12 : Int32) => vf_n64 (FP.ddiv (FP.i2d r12) (FP.i2d r7)) ∧ post (FP.ddiv (FP.i2d r12) (FP.i2d r7))) S y10 3)) S y5
set_option maxHeartbeats 4000000 in
set_option maxRecDepth 100000 in
theorem m_H_tension (l : Launch) (x : Cx) (S : St) (post : UInt64 → Prop) (a0 : Nat) (fa0 : isA S 6 a0) (h : w_H_tension post S a0) : Met l y_H_tension [.code y_H_tension c_H_tension 2 (some .double)] { frames := 4, cells := 0, slots := 0, locals := 87 } (va_Pc [.ref a0] (GW x S)) (va_Qd (gPu post S) (gB x S) (xA x)) 0 0 (xA x) := by
  refine gMet (by decide +kernel) (Nat.le_of_ble_eq_true rfl) ?_
  intro p e s m args below meth c hx hb hr hown hlocks hin hw hK H locs hG ls hlA hml
  have hown : s.vm.findClass "WaltzHall" = some m.cls := hown
  have hl0 : lv_has ls 2 [(0, .ref a0)] := hlA
  unfold w_H_tension at h
  refine lv_aload_n hx hb d_H_tension_0 rfl (lv_at hl0 0 rfl) ?_
  refine gget hx hb hw hown hK hG kd_H fa0 rfl 3 (by decide) rfl tw_264 (fun _ h9 => h9) d_H_tension_1 ?_
  refine gtopq (fun o1 eo1 => ?_)
  replace h := h o1 eo1
  obtain ⟨y2, ey2, h⟩ := h
  subst ey2
  obtain ⟨f3, h⟩ := h
  refine gget hx hb hw hown hK hG kd_F f3 rfl 0 (by decide) rfl tw_184 (fun _ h9 => h9) d_H_tension_4 ?_
  refine gtopq (fun o4 eo4 => ?_)
  replace h := h o4 eo4
  obtain ⟨y5, ey5, h⟩ := h
  subst ey5
  obtain ⟨f6, h⟩ := h
  -- call AL_size
  refine gpi hK hG (va_runV (As := []) (rest := []) ⟨hx, hb, hml, hown, hw⟩ (m_AL_size l x S _ y5 f6 h) ⟨gcb hw tw_284 tw_32 tw_281 hd_AL_size rfl rfl ⟨(Nat.le_of_ble_eq_true rfl), (Nat.le_of_ble_eq_true rfl)⟩, hw _ tw_282, hw _ tw_283⟩ (gpV hK hG kd_AL f6 rfl) rfl rfl hl0.1 rfl (lv_room (Nat.le_of_ble_eq_true rfl)) d_H_tension_7 ⟨(Nat.le_of_ble_eq_true rfl), (Nat.le_of_ble_eq_true rfl)⟩) (fun r7 H locs h9 hG => ?_)
  replace h := h9
  clear h9
  refine lv_istore_n (i := 1) (lv' := [(1, .int r7), (0, .ref a0)]) hx hb d_H_tension_10 rfl hl0 (by decide) rfl (fun ls hl8 => ?_)
  refine lv_iload_n hx hb d_H_tension_11 rfl (lv_at hl8 0 rfl) ?_
  refine lv_if_ne (tgt := 19) hx hb d_H_tension_12 (by decide) (fun hc14 => ?_) (fun hc14 => ?_)
  · replace h := h.2 hc14
    refine lv_aload_n hx hb d_H_tension_19 rfl (lv_at hl8 1 rfl) ?_
    refine gget hx hb hw hown hK hG kd_H fa0 rfl 3 (by decide) rfl tw_264 (fun _ h9 => h9) d_H_tension_20 ?_
    refine gtopq (fun o9 eo9 => ?_)
    replace h := h o9 eo9
    refine lv_iconst (v := 3) hx hb d_H_tension_23 (by decide) ?_
    obtain ⟨y10, ey10, h⟩ := h
    subst ey10
    obtain ⟨f11, h⟩ := h
    -- call F_sumOfTold
    refine gpi hK hG (va_runV (As := [.int 3]) (rest := []) ⟨hx, hb, hml, hown, hw⟩ (m_F_sumOfTold l x S _ y10 3 f11 h) ⟨gcb hw tw_288 tw_38 tw_285 hd_F_sumOfTold rfl rfl ⟨(Nat.le_of_ble_eq_true rfl), (Nat.le_of_ble_eq_true rfl)⟩, hw _ tw_286, hw _ tw_287⟩ (gpV hK hG kd_F f11 rfl) rfl rfl hl8.1 rfl (lv_room (Nat.le_of_ble_eq_true rfl)) d_H_tension_24 ⟨(Nat.le_of_ble_eq_true rfl), (Nat.le_of_ble_eq_true rfl)⟩) (fun r12 H locs h9 hG => ?_)
    replace h := h9
    clear h9
    refine lv_i2d hx hb d_H_tension_27 ?_
    refine lv_iload_n hx hb d_H_tension_28 rfl (lv_at hl8 0 rfl) ?_
    refine lv_i2d hx hb d_H_tension_29 ?_
    obtain ⟨hz13, h⟩ := h
    refine lv_ddiv hx hb d_H_tension_30 hz13 ?_
    exact gdret hx hb hr hlocks hK hG gle.rf ⟨h, rfl⟩ (Nat.le_of_ble_eq_true rfl) (Nat.le_of_ble_eq_true rfl) d_H_tension_31
  · replace h := h.1 hc14
    refine lv_dconst0 hx hb d_H_tension_15 ?_
    refine lv_goto (tgt := 31) hx hb d_H_tension_16 (by decide) ?_
    exact gdret hx hb hr hlocks hK hG gle.rf ⟨h, rfl⟩ (Nat.le_of_ble_eq_true rfl) (Nat.le_of_ble_eq_true rfl) d_H_tension_31
def w_M_tension (post : UInt64 → St → Prop) (S : St) (a0 : Nat) : Prop :=
  ∀ S1 : St, S1 = pI S 56 a0 0 → ∀ o2 : Option Nat, o2 = sQ S1 61 a0 → ∃ y3 : Nat, o2 = some y3 ∧ isA S1 7 y3 ∧ ((sI S1 39 y3) = 0 → post (FP.dconst0) S1) ∧ (¬ (sI S1 39 y3) = 0 → ∀ o5 : Option Nat, o5 = sQ S1 61 a0 → ∃ y6 : Nat, o5 = some y6 ∧ isA S1 7 y6 ∧ w_S_sum (fun (r8 : Int32) => ∀ o9 : Option Nat, o9 = sQ S1 61 a0 → ∃ y10 : Nat, o9 = some y10 ∧ isA S1 7 y10 ∧ vf_n64 (FP.ddiv (FP.i2d r8) (FP.i2d (sI S1 39 y10))) ∧ post (FP.ddiv (FP.i2d r8) (FP.i2d (sI S1 39 y10))) S1) S1 y6 5)
set_option maxHeartbeats 4000000 in
set_option maxRecDepth 100000 in
theorem m_M_tension (l : Launch) (x : Cx) (S : St) (post : UInt64 → St → Prop) (a0 : Nat) (fa0 : isA S 8 a0) (h : w_M_tension post S a0) : Met l y_M_tension [.code y_M_tension c_M_tension 1 (some .double)] { frames := 2, cells := 0, slots := 0, locals := 44 } (va_Pc [.ref a0] (GW x S)) (va_Qd post (gB x S) (xA x)) 0 0 (xA x) := by
  refine gMet (by decide +kernel) (Nat.le_of_ble_eq_true rfl) ?_
  intro p e s m args below meth c hx hb hr hown hlocks hin hw hK H locs hG ls hlA hml
  have hown : s.vm.findClass "WaltzHallModel" = some m.cls := hown
  have hl0 : lv_has ls 1 [(0, .ref a0)] := hlA
  have leS : gle S S := gle.rf
  unfold w_M_tension at h
  refine lv_aload_n hx hb d_M_tension_0 rfl (lv_at hl0 0 rfl) ?_
  refine lv_iconst (v := 0) hx hb d_M_tension_1 (by decide) ?_
  refine gput (S' := pI S 56 a0 0) hx hb hw hown hK hG kd_M fa0 rfl 0 (by decide) (gChI fa0 rfl) tw_1017 (fun _ h9 => h9) rfl rfl rfl rfl (Nat.le_of_ble_eq_true rfl) d_M_tension_2 (fun S1 H locs eS1 hle1 hG => ?_)
  replace h := h S1 eS1
  have fa0 := gle_isA hle1 fa0
  have leS := leS.tr hle1
  refine lv_aload_n hx hb d_M_tension_5 rfl (lv_at hl0 0 rfl) ?_
  refine gget hx hb hw hown hK hG kd_M fa0 rfl 5 (by decide) rfl tw_1024 (fun _ h9 => h9) d_M_tension_6 ?_
  refine gtopq (fun o2 eo2 => ?_)
  replace h := h o2 eo2
  obtain ⟨y3, ey3, h⟩ := h
  subst ey3
  obtain ⟨f4, h⟩ := h
  refine ggetN hx hb hw hown hK hG kd_S f4 rfl 1 (by decide) rfl tw_943 (fun _ h9 => h9) d_M_tension_9 ?_
  refine lv_if_ne (tgt := 19) hx hb d_M_tension_12 (by decide) (fun hc13 => ?_) (fun hc13 => ?_)
  · replace h := h.2 hc13
    refine lv_aload_n hx hb d_M_tension_19 rfl (lv_at hl0 0 rfl) ?_
    refine gget hx hb hw hown hK hG kd_M fa0 rfl 5 (by decide) rfl tw_1024 (fun _ h9 => h9) d_M_tension_20 ?_
    refine gtopq (fun o5 eo5 => ?_)
    replace h := h o5 eo5
    refine lv_iconst (v := 5) hx hb d_M_tension_23 (by decide) ?_
    obtain ⟨y6, ey6, h⟩ := h
    subst ey6
    obtain ⟨f7, h⟩ := h
    -- call S_sum
    refine gpi hK hG (va_runV (As := [.int 5]) (rest := []) ⟨hx, hb, hml, hown, hw⟩ (m_S_sum l x S1 _ y6 5 f7 h) ⟨gcb hw tw_1109 tw_44 tw_1106 hd_S_sum rfl rfl ⟨(Nat.le_of_ble_eq_true rfl), (Nat.le_of_ble_eq_true rfl)⟩, hw _ tw_1107, hw _ tw_1108⟩ (gpV hK hG kd_S f7 rfl) rfl rfl hl0.1 rfl (lv_room (Nat.le_of_ble_eq_true rfl)) d_M_tension_24 ⟨(Nat.le_of_ble_eq_true rfl), (Nat.le_of_ble_eq_true rfl)⟩) (fun r8 H locs h9 hG => ?_)
    replace h := h9
    clear h9
    refine lv_i2d hx hb d_M_tension_27 ?_
    refine lv_aload_n hx hb d_M_tension_28 rfl (lv_at hl0 0 rfl) ?_
    refine gget hx hb hw hown hK hG kd_M fa0 rfl 5 (by decide) rfl tw_1024 (fun _ h9 => h9) d_M_tension_29 ?_
    refine gtopq (fun o9 eo9 => ?_)
    replace h := h o9 eo9
    obtain ⟨y10, ey10, h⟩ := h
    subst ey10
    obtain ⟨f11, h⟩ := h
    refine ggetN hx hb hw hown hK hG kd_S f11 rfl 1 (by decide) rfl tw_943 (fun _ h9 => h9) d_M_tension_32 ?_
    refine lv_i2d hx hb d_M_tension_35 ?_
    obtain ⟨hz12, h⟩ := h
    refine lv_ddiv hx hb d_M_tension_36 hz12 ?_
    exact gdret hx hb hr hlocks hK hG leS h (Nat.le_of_ble_eq_true rfl) (Nat.le_of_ble_eq_true rfl) d_M_tension_37
  · replace h := h.1 hc13
    refine lv_dconst0 hx hb d_M_tension_15 ?_
    refine lv_goto (tgt := 37) hx hb d_M_tension_16 (by decide) ?_
    exact gdret hx hb hr hlocks hK hG leS h (Nat.le_of_ble_eq_true rfl) (Nat.le_of_ble_eq_true rfl) d_M_tension_37
