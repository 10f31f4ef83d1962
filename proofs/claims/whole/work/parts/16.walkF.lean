section GX16
variable {p : Program} {l : Launch} {e : Env} {R : Room} {s : State} {m : MethodId} {args : Array Value} {below : List Frame} {meth : Method} {c : Code} {H : Heap} {locs : List Loc} {cells slots : Nat} {Q : State → Prop}
variable {cc : ByteArray} {pc index : Nat} {ls : Array Slot} {rest : List Value} {x : Cx} {S : St} {own host : String}
theorem gsDxN (hx : p.tables.exec = Jvm.exec) (hb : c.code = cc) (hw : ∀ w ∈ gG, w.before args s = true) (hown : s.vm.findClass own = some m.cls) (hK : GK x s) (hG : GH x S s H locs) (hlink : (Cond.fieldLinkNest own index "WaltzHallModel" "DX" "[I" host) ∈ gG) (hdg : decode cc pc = .ok (.getstatic index, 3))
    (kk : W p l e R s m args below meth c H locs cells slots Q (F0 m (pc + 3) ls (.ref (xDx x) :: rest))) : W p l e R s m args below meth c H locs cells slots Q (F0 m pc ls rest) := va_getsN hx hb hK.2.2.2.2.1.1 hG.2.2.1 hown (hw _ hlink) (fun _ h => h) hdg kk
theorem gsDyN (hx : p.tables.exec = Jvm.exec) (hb : c.code = cc) (hw : ∀ w ∈ gG, w.before args s = true) (hown : s.vm.findClass own = some m.cls) (hK : GK x s) (hG : GH x S s H locs) (hlink : (Cond.fieldLinkNest own index "WaltzHallModel" "DY" "[I" host) ∈ gG) (hdg : decode cc pc = .ok (.getstatic index, 3))
    (kk : W p l e R s m args below meth c H locs cells slots Q (F0 m (pc + 3) ls (.ref (xDy x) :: rest))) : W p l e R s m args below meth c H locs cells slots Q (F0 m pc ls rest) := va_getsN hx hb hK.2.2.2.2.2.1.1 hG.2.2.1 hown (hw _ hlink) (fun _ h => h) hdg kk
end GX16
theorem tw_14 : (Cond.selects "WaltzHallModel$State" (⟨"WaltzHallModel$State", "isTired", "(I)Z"⟩ : MethodName) (⟨"WaltzHallModel$State", "isTired", "(I)Z"⟩ : MethodName)) ∈ gG := gmm 14 (by decide +kernel) (by decide +kernel)
theorem tw_18 : (Cond.selects "WaltzHallModel$State" (⟨"WaltzHallModel$State", "isResting", "(I)Z"⟩ : MethodName) (⟨"WaltzHallModel$State", "isResting", "(I)Z"⟩ : MethodName)) ∈ gG := gmm 18 (by decide +kernel) (by decide +kernel)
theorem tw_19 : (Cond.selects "WaltzHallModel$State" (⟨"WaltzHallModel$State", "act", "(I)V"⟩ : MethodName) (⟨"WaltzHallModel$State", "act", "(I)V"⟩ : MethodName)) ∈ gG := gmm 19 (by decide +kernel) (by decide +kernel)
theorem tw_20 : (Cond.selects "WaltzHallModel$State" (⟨"WaltzHallModel$State", "isFree", "(IIII)Z"⟩ : MethodName) (⟨"WaltzHallModel$State", "isFree", "(IIII)Z"⟩ : MethodName)) ∈ gG := gmm 20 (by decide +kernel) (by decide +kernel)
theorem tw_21 : (Cond.selects "WaltzHallModel$State" (⟨"WaltzHallModel$State", "bump", "(IIII)V"⟩ : MethodName) (⟨"WaltzHallModel$State", "bump", "(IIII)V"⟩ : MethodName)) ∈ gG := gmm 21 (by decide +kernel) (by decide +kernel)
theorem tw_22 : (Cond.selects "WaltzHallModel$State" (⟨"WaltzHallModel$State", "hit", "(I)V"⟩ : MethodName) (⟨"WaltzHallModel$State", "hit", "(I)V"⟩ : MethodName)) ∈ gG := gmm 22 (by decide +kernel) (by decide +kernel)
theorem tw_23 : (Cond.selects "WaltzHallModel$State" (⟨"WaltzHallModel$State", "finish", "(IIII)V"⟩ : MethodName) (⟨"WaltzHallModel$State", "finish", "(IIII)V"⟩ : MethodName)) ∈ gG := gmm 23 (by decide +kernel) (by decide +kernel)
theorem tw_24 : (Cond.selects "WaltzHallModel$State" (⟨"WaltzHallModel$State", "go", "(I)V"⟩ : MethodName) (⟨"WaltzHallModel$State", "go", "(I)V"⟩ : MethodName)) ∈ gG := gmm 24 (by decide +kernel) (by decide +kernel)
theorem tw_26 : (Cond.selects "WaltzHallModel$State" (⟨"WaltzHallModel$State", "copy", "([I[I)V"⟩ : MethodName) (⟨"WaltzHallModel$State", "copy", "([I[I)V"⟩ : MethodName)) ∈ gG := gmm 26 (by decide +kernel) (by decide +kernel)
theorem tw_42 : (Jvm.Cond.initialized "java/lang/System") ∈ gG := gmm 42 (by decide +kernel) (by decide +kernel)
theorem tw_43 : (Jvm.Cond.initialized "WaltzHallModel") ∈ gG := gmm 43 (by decide +kernel) (by decide +kernel)
theorem tw_44 : (Jvm.Cond.initialized "WaltzHallModel$State") ∈ gG := gmm 44 (by decide +kernel) (by decide +kernel)
theorem tw_54 : (Jvm.Cond.initialized "java/lang/Integer") ∈ gG := gmm 54 (by decide +kernel) (by decide +kernel)
theorem tw_250 : (Jvm.Cond.static ({ cls := "java/lang/System", name := "arraycopy", desc := "(Ljava/lang/Object;ILjava/lang/Object;II)V" } : Jvm.MethodName)) ∈ gG := gmm 250 (by decide +kernel) (by decide +kernel)
theorem tw_251 : (Jvm.Cond.native ({ cls := "java/lang/System", name := "arraycopy", desc := "(Ljava/lang/Object;ILjava/lang/Object;II)V" } : Jvm.MethodName)) ∈ gG := gmm 251 (by decide +kernel) (by decide +kernel)
theorem tw_940 : (Jvm.Cond.fieldLink "WaltzHallModel$State" (65 : Nat) "WaltzHallModel$State" "beat" "I") ∈ gG := gmm 940 (by decide +kernel) (by decide +kernel)
theorem tw_942 : (Jvm.Cond.fieldLink "WaltzHallModel$State" (69 : Nat) "WaltzHallModel$State" "dancers" "I") ∈ gG := gmm 942 (by decide +kernel) (by decide +kernel)
theorem tw_944 : (Jvm.Cond.fieldLink "WaltzHallModel$State" (15 : Nat) "WaltzHallModel$State" "x" "[I") ∈ gG := gmm 944 (by decide +kernel) (by decide +kernel)
theorem tw_946 : (Jvm.Cond.fieldLink "WaltzHallModel$State" (19 : Nat) "WaltzHallModel$State" "y" "[I") ∈ gG := gmm 946 (by decide +kernel) (by decide +kernel)
theorem tw_948 : (Jvm.Cond.fieldLink "WaltzHallModel$State" (22 : Nat) "WaltzHallModel$State" "face" "[I") ∈ gG := gmm 948 (by decide +kernel) (by decide +kernel)
theorem tw_950 : (Jvm.Cond.fieldLink "WaltzHallModel$State" (25 : Nat) "WaltzHallModel$State" "spring" "[I") ∈ gG := gmm 950 (by decide +kernel) (by decide +kernel)
theorem tw_952 : (Jvm.Cond.fieldLink "WaltzHallModel$State" (28 : Nat) "WaltzHallModel$State" "cost" "[I") ∈ gG := gmm 952 (by decide +kernel) (by decide +kernel)
theorem tw_954 : (Jvm.Cond.fieldLink "WaltzHallModel$State" (31 : Nat) "WaltzHallModel$State" "dance" "[I") ∈ gG := gmm 954 (by decide +kernel) (by decide +kernel)
theorem tw_956 : (Jvm.Cond.fieldLink "WaltzHallModel$State" (34 : Nat) "WaltzHallModel$State" "place" "[I") ∈ gG := gmm 956 (by decide +kernel) (by decide +kernel)
theorem tw_958 : (Jvm.Cond.fieldLink "WaltzHallModel$State" (37 : Nat) "WaltzHallModel$State" "partner" "[I") ∈ gG := gmm 958 (by decide +kernel) (by decide +kernel)
theorem tw_960 : (Jvm.Cond.fieldLink "WaltzHallModel$State" (40 : Nat) "WaltzHallModel$State" "follows" "[Z") ∈ gG := gmm 960 (by decide +kernel) (by decide +kernel)
theorem tw_962 : (Jvm.Cond.fieldLink "WaltzHallModel$State" (44 : Nat) "WaltzHallModel$State" "dizzy" "[I") ∈ gG := gmm 962 (by decide +kernel) (by decide +kernel)
theorem tw_964 : (Jvm.Cond.fieldLink "WaltzHallModel$State" (47 : Nat) "WaltzHallModel$State" "done" "[I") ∈ gG := gmm 964 (by decide +kernel) (by decide +kernel)
theorem tw_966 : (Jvm.Cond.fieldLink "WaltzHallModel$State" (50 : Nat) "WaltzHallModel$State" "bumps" "[I") ∈ gG := gmm 966 (by decide +kernel) (by decide +kernel)
theorem tw_968 : (Jvm.Cond.fieldLink "WaltzHallModel$State" (72 : Nat) "WaltzHallModel$State" "winders" "I") ∈ gG := gmm 968 (by decide +kernel) (by decide +kernel)
theorem tw_970 : (Jvm.Cond.fieldLink "WaltzHallModel$State" (53 : Nat) "WaltzHallModel$State" "winder" "[I") ∈ gG := gmm 970 (by decide +kernel) (by decide +kernel)
theorem tw_972 : (Jvm.Cond.fieldLink "WaltzHallModel$State" (56 : Nat) "WaltzHallModel$State" "round" "[I") ∈ gG := gmm 972 (by decide +kernel) (by decide +kernel)
theorem tw_974 : (Jvm.Cond.fieldLink "WaltzHallModel$State" (3 : Nat) "WaltzHallModel$State" "this$0" "LWaltzHallModel;") ∈ gG := gmm 974 (by decide +kernel) (by decide +kernel)
theorem tw_1021 : (Jvm.Cond.fieldLinkNest "WaltzHallModel$State" (106 : Nat) "WaltzHallModel" "figures" "[I" "WaltzHallModel") ∈ gG := gmm 1021 (by decide +kernel) (by decide +kernel)
theorem tw_1023 : (Jvm.Cond.fieldLinkNest "WaltzHallModel$State" (109 : Nat) "WaltzHallModel" "lengths" "[I" "WaltzHallModel") ∈ gG := gmm 1023 (by decide +kernel) (by decide +kernel)
theorem tw_1058 : (Jvm.Cond.static ({ cls := "WaltzHallModel", name := "isIn", desc := "(III)Z" } : Jvm.MethodName)) ∈ gG := gmm 1058 (by decide +kernel) (by decide +kernel)
theorem tw_1059 : (Jvm.Cond.code ({ cls := "WaltzHallModel", name := "isIn", desc := "(III)Z" } : Jvm.MethodName) prog_8_method_4_code (3 : Nat) (Option.some Jvm.ClassFile.FieldType.boolean)) ∈ gG := gmm 1059 (by decide +kernel) (by decide +kernel)
theorem tw_1086 : (Jvm.Cond.instanceMethod ({ cls := "WaltzHallModel$State", name := "at", desc := "(II)I" } : Jvm.MethodName)) ∈ gG := gmm 1086 (by decide +kernel) (by decide +kernel)
theorem tw_1087 : (Jvm.Cond.selects "WaltzHallModel$State" ({ cls := "WaltzHallModel$State", name := "at", desc := "(II)I" } : Jvm.MethodName) ({ cls := "WaltzHallModel$State", name := "at", desc := "(II)I" } : Jvm.MethodName)) ∈ gG := gmm 1087 (by decide +kernel) (by decide +kernel)
theorem tw_1088 : (Jvm.Cond.code ({ cls := "WaltzHallModel$State", name := "at", desc := "(II)I" } : Jvm.MethodName) prog_9_method_4_code (5 : Nat) (Option.some Jvm.ClassFile.FieldType.int)) ∈ gG := gmm 1088 (by decide +kernel) (by decide +kernel)
theorem tw_1105 : (Jvm.Cond.methodLink "WaltzHallModel$State" (79 : Nat) ({ cls := "java/lang/Math", name := "abs", desc := "(I)I" } : Jvm.MethodName)) ∈ gG := gmm 1105 (by decide +kernel) (by decide +kernel)
theorem tw_1107 : (Jvm.Cond.instanceMethod ({ cls := "WaltzHallModel$State", name := "sum", desc := "(I)I" } : Jvm.MethodName)) ∈ gG := gmm 1107 (by decide +kernel) (by decide +kernel)
theorem tw_1108 : (Jvm.Cond.selects "WaltzHallModel$State" ({ cls := "WaltzHallModel$State", name := "sum", desc := "(I)I" } : Jvm.MethodName) ({ cls := "WaltzHallModel$State", name := "sum", desc := "(I)I" } : Jvm.MethodName)) ∈ gG := gmm 1108 (by decide +kernel) (by decide +kernel)
theorem tw_1109 : (Jvm.Cond.code ({ cls := "WaltzHallModel$State", name := "sum", desc := "(I)I" } : Jvm.MethodName) prog_9_method_15_code (4 : Nat) (Option.some Jvm.ClassFile.FieldType.int)) ∈ gG := gmm 1109 (by decide +kernel) (by decide +kernel)
theorem tw_1110 : (Jvm.Cond.methodLink "WaltzHallModel$State" (85 : Nat) ({ cls := "WaltzHallModel$State", name := "isTired", desc := "(I)Z" } : Jvm.MethodName)) ∈ gG := gmm 1110 (by decide +kernel) (by decide +kernel)
theorem tw_1112 : (Jvm.Cond.instanceMethod ({ cls := "WaltzHallModel$State", name := "isTired", desc := "(I)Z" } : Jvm.MethodName)) ∈ gG := gmm 1112 (by decide +kernel) (by decide +kernel)
theorem tw_1113 : (Jvm.Cond.code ({ cls := "WaltzHallModel$State", name := "isTired", desc := "(I)Z" } : Jvm.MethodName) prog_9_method_6_code (2 : Nat) (Option.some Jvm.ClassFile.FieldType.boolean)) ∈ gG := gmm 1113 (by decide +kernel) (by decide +kernel)
theorem tw_1164 : (Jvm.Cond.methodLink "WaltzHallModel$State" (89 : Nat) ({ cls := "WaltzHallModel$State", name := "sum", desc := "(I)I" } : Jvm.MethodName)) ∈ gG := gmm 1164 (by decide +kernel) (by decide +kernel)
theorem tw_1165 : (Jvm.Cond.methodLink "WaltzHallModel$State" (92 : Nat) ({ cls := "WaltzHallModel$State", name := "isResting", desc := "(I)Z" } : Jvm.MethodName)) ∈ gG := gmm 1165 (by decide +kernel) (by decide +kernel)
theorem tw_1167 : (Jvm.Cond.instanceMethod ({ cls := "WaltzHallModel$State", name := "isResting", desc := "(I)Z" } : Jvm.MethodName)) ∈ gG := gmm 1167 (by decide +kernel) (by decide +kernel)
theorem tw_1168 : (Jvm.Cond.code ({ cls := "WaltzHallModel$State", name := "isResting", desc := "(I)Z" } : Jvm.MethodName) prog_9_method_7_code (2 : Nat) (Option.some Jvm.ClassFile.FieldType.boolean)) ∈ gG := gmm 1168 (by decide +kernel) (by decide +kernel)
theorem tw_1169 : (Jvm.Cond.methodLink "WaltzHallModel$State" (95 : Nat) ({ cls := "WaltzHallModel$State", name := "act", desc := "(I)V" } : Jvm.MethodName)) ∈ gG := gmm 1169 (by decide +kernel) (by decide +kernel)
theorem tw_1171 : (Jvm.Cond.instanceMethod ({ cls := "WaltzHallModel$State", name := "act", desc := "(I)V" } : Jvm.MethodName)) ∈ gG := gmm 1171 (by decide +kernel) (by decide +kernel)
theorem tw_1172 : (Jvm.Cond.code ({ cls := "WaltzHallModel$State", name := "act", desc := "(I)V" } : Jvm.MethodName) prog_9_method_9_code (11 : Nat) (Option.none : Option Jvm.ClassFile.FieldType)) ∈ gG := gmm 1172 (by decide +kernel) (by decide +kernel)
theorem tw_1173 : (Jvm.Cond.fieldLinkNest "WaltzHallModel$State" (112 : Nat) "WaltzHallModel" "DX" "[I" "WaltzHallModel") ∈ gG := gmm 1173 (by decide +kernel) (by decide +kernel)
theorem tw_1174 : (Jvm.Cond.fieldLinkNest "WaltzHallModel$State" (115 : Nat) "WaltzHallModel" "DY" "[I" "WaltzHallModel") ∈ gG := gmm 1174 (by decide +kernel) (by decide +kernel)
theorem tw_1175 : (Jvm.Cond.methodLink "WaltzHallModel$State" (118 : Nat) ({ cls := "WaltzHallModel$State", name := "isFree", desc := "(IIII)Z" } : Jvm.MethodName)) ∈ gG := gmm 1175 (by decide +kernel) (by decide +kernel)
theorem tw_1177 : (Jvm.Cond.instanceMethod ({ cls := "WaltzHallModel$State", name := "isFree", desc := "(IIII)Z" } : Jvm.MethodName)) ∈ gG := gmm 1177 (by decide +kernel) (by decide +kernel)
theorem tw_1178 : (Jvm.Cond.code ({ cls := "WaltzHallModel$State", name := "isFree", desc := "(IIII)Z" } : Jvm.MethodName) prog_9_method_10_code (6 : Nat) (Option.some Jvm.ClassFile.FieldType.boolean)) ∈ gG := gmm 1178 (by decide +kernel) (by decide +kernel)
theorem tw_1179 : (Jvm.Cond.methodLink "WaltzHallModel$State" (132 : Nat) ({ cls := "WaltzHallModel$State", name := "at", desc := "(II)I" } : Jvm.MethodName)) ∈ gG := gmm 1179 (by decide +kernel) (by decide +kernel)
theorem tw_1180 : (Jvm.Cond.methodLinkNest "WaltzHallModel$State" (135 : Nat) ({ cls := "WaltzHallModel", name := "isIn", desc := "(III)Z" } : Jvm.MethodName) "WaltzHallModel") ∈ gG := gmm 1180 (by decide +kernel) (by decide +kernel)
theorem tw_1181 : (Jvm.Cond.methodLink "WaltzHallModel$State" (122 : Nat) ({ cls := "WaltzHallModel$State", name := "bump", desc := "(IIII)V" } : Jvm.MethodName)) ∈ gG := gmm 1181 (by decide +kernel) (by decide +kernel)
theorem tw_1183 : (Jvm.Cond.instanceMethod ({ cls := "WaltzHallModel$State", name := "bump", desc := "(IIII)V" } : Jvm.MethodName)) ∈ gG := gmm 1183 (by decide +kernel) (by decide +kernel)
theorem tw_1184 : (Jvm.Cond.code ({ cls := "WaltzHallModel$State", name := "bump", desc := "(IIII)V" } : Jvm.MethodName) prog_9_method_11_code (6 : Nat) (Option.none : Option Jvm.ClassFile.FieldType)) ∈ gG := gmm 1184 (by decide +kernel) (by decide +kernel)
theorem tw_1185 : (Jvm.Cond.methodLink "WaltzHallModel$State" (126 : Nat) ({ cls := "WaltzHallModel$State", name := "hit", desc := "(I)V" } : Jvm.MethodName)) ∈ gG := gmm 1185 (by decide +kernel) (by decide +kernel)
theorem tw_1187 : (Jvm.Cond.instanceMethod ({ cls := "WaltzHallModel$State", name := "hit", desc := "(I)V" } : Jvm.MethodName)) ∈ gG := gmm 1187 (by decide +kernel) (by decide +kernel)
theorem tw_1188 : (Jvm.Cond.code ({ cls := "WaltzHallModel$State", name := "hit", desc := "(I)V" } : Jvm.MethodName) prog_9_method_12_code (2 : Nat) (Option.none : Option Jvm.ClassFile.FieldType)) ∈ gG := gmm 1188 (by decide +kernel) (by decide +kernel)
theorem tw_1189 : (Jvm.Cond.methodLink "WaltzHallModel$State" (129 : Nat) ({ cls := "WaltzHallModel$State", name := "finish", desc := "(IIII)V" } : Jvm.MethodName)) ∈ gG := gmm 1189 (by decide +kernel) (by decide +kernel)
theorem tw_1191 : (Jvm.Cond.instanceMethod ({ cls := "WaltzHallModel$State", name := "finish", desc := "(IIII)V" } : Jvm.MethodName)) ∈ gG := gmm 1191 (by decide +kernel) (by decide +kernel)
theorem tw_1192 : (Jvm.Cond.code ({ cls := "WaltzHallModel$State", name := "finish", desc := "(IIII)V" } : Jvm.MethodName) prog_9_method_13_code (5 : Nat) (Option.none : Option Jvm.ClassFile.FieldType)) ∈ gG := gmm 1192 (by decide +kernel) (by decide +kernel)
theorem tw_1193 : (Jvm.Cond.methodLink "WaltzHallModel$State" (99 : Nat) ({ cls := "WaltzHallModel$State", name := "go", desc := "(I)V" } : Jvm.MethodName)) ∈ gG := gmm 1193 (by decide +kernel) (by decide +kernel)
theorem tw_1195 : (Jvm.Cond.instanceMethod ({ cls := "WaltzHallModel$State", name := "go", desc := "(I)V" } : Jvm.MethodName)) ∈ gG := gmm 1195 (by decide +kernel) (by decide +kernel)
theorem tw_1196 : (Jvm.Cond.code ({ cls := "WaltzHallModel$State", name := "go", desc := "(I)V" } : Jvm.MethodName) prog_9_method_14_code (7 : Nat) (Option.none : Option Jvm.ClassFile.FieldType)) ∈ gG := gmm 1196 (by decide +kernel) (by decide +kernel)
theorem tw_1197 : (Jvm.Cond.methodLink "WaltzHallModel$State" (139 : Nat) ({ cls := "java/lang/Integer", name := "signum", desc := "(I)I" } : Jvm.MethodName)) ∈ gG := gmm 1197 (by decide +kernel) (by decide +kernel)
theorem tw_1198 : (Jvm.Cond.static ({ cls := "java/lang/Integer", name := "signum", desc := "(I)I" } : Jvm.MethodName)) ∈ gG := gmm 1198 (by decide +kernel) (by decide +kernel)
theorem tw_1199 : (Jvm.Cond.code ({ cls := "java/lang/Integer", name := "signum", desc := "(I)I" } : Jvm.MethodName) prog_18_method_56_code (1 : Nat) (Option.some Jvm.ClassFile.FieldType.int)) ∈ gG := gmm 1199 (by decide +kernel) (by decide +kernel)
theorem tw_1200 : (Jvm.Cond.methodLink "WaltzHallModel$State" (144 : Nat) ({ cls := "java/lang/Math", name := "min", desc := "(II)I" } : Jvm.MethodName)) ∈ gG := gmm 1200 (by decide +kernel) (by decide +kernel)
theorem tw_1201 : (Jvm.Cond.methodLink "WaltzHallModel$State" (102 : Nat) ({ cls := "java/lang/Math", name := "max", desc := "(II)I" } : Jvm.MethodName)) ∈ gG := gmm 1201 (by decide +kernel) (by decide +kernel)
theorem tw_1218 : (Jvm.Cond.methodLink "WaltzHallModel$State" (75 : Nat) ({ cls := "WaltzHallModel$State", name := "copy", desc := "([I[I)V" } : Jvm.MethodName)) ∈ gG := gmm 1218 (by decide +kernel) (by decide +kernel)
theorem tw_1220 : (Jvm.Cond.instanceMethod ({ cls := "WaltzHallModel$State", name := "copy", desc := "([I[I)V" } : Jvm.MethodName)) ∈ gG := gmm 1220 (by decide +kernel) (by decide +kernel)
theorem tw_1221 : (Jvm.Cond.code ({ cls := "WaltzHallModel$State", name := "copy", desc := "([I[I)V" } : Jvm.MethodName) prog_9_method_2_code (3 : Nat) (Option.none : Option Jvm.ClassFile.FieldType)) ∈ gG := gmm 1221 (by decide +kernel) (by decide +kernel)
theorem tw_1222 : (Jvm.Cond.methodLink "WaltzHallModel$State" (59 : Nat) ({ cls := "java/lang/System", name := "arraycopy", desc := "(Ljava/lang/Object;ILjava/lang/Object;II)V" } : Jvm.MethodName)) ∈ gG := gmm 1222 (by decide +kernel) (by decide +kernel)
theorem hd_IN_signum : y_IN_signum.cls ≠ "java/lang/invoke/MethodHandle" ∧ y_IN_signum.cls ≠ "java/lang/invoke/VarHandle" ∧ (parseMethodDescriptor y_IN_signum.desc).map (fun d => d.parameters.length) = some 1 := by decide +kernel
theorem hd_M_isIn : y_M_isIn.cls ≠ "java/lang/invoke/MethodHandle" ∧ y_M_isIn.cls ≠ "java/lang/invoke/VarHandle" ∧ (parseMethodDescriptor y_M_isIn.desc).map (fun d => d.parameters.length) = some 3 := by decide +kernel
theorem hd_S_act : y_S_act.cls ≠ "java/lang/invoke/MethodHandle" ∧ y_S_act.cls ≠ "java/lang/invoke/VarHandle" ∧ (parseMethodDescriptor y_S_act.desc).map (fun d => d.parameters.length) = some 1 := by decide +kernel
theorem hd_S_at : y_S_at.cls ≠ "java/lang/invoke/MethodHandle" ∧ y_S_at.cls ≠ "java/lang/invoke/VarHandle" ∧ (parseMethodDescriptor y_S_at.desc).map (fun d => d.parameters.length) = some 2 := by decide +kernel
theorem hd_S_bump : y_S_bump.cls ≠ "java/lang/invoke/MethodHandle" ∧ y_S_bump.cls ≠ "java/lang/invoke/VarHandle" ∧ (parseMethodDescriptor y_S_bump.desc).map (fun d => d.parameters.length) = some 4 := by decide +kernel
theorem hd_S_copy : y_S_copy.cls ≠ "java/lang/invoke/MethodHandle" ∧ y_S_copy.cls ≠ "java/lang/invoke/VarHandle" ∧ (parseMethodDescriptor y_S_copy.desc).map (fun d => d.parameters.length) = some 2 := by decide +kernel
theorem hd_S_finish : y_S_finish.cls ≠ "java/lang/invoke/MethodHandle" ∧ y_S_finish.cls ≠ "java/lang/invoke/VarHandle" ∧ (parseMethodDescriptor y_S_finish.desc).map (fun d => d.parameters.length) = some 4 := by decide +kernel
theorem hd_S_go : y_S_go.cls ≠ "java/lang/invoke/MethodHandle" ∧ y_S_go.cls ≠ "java/lang/invoke/VarHandle" ∧ (parseMethodDescriptor y_S_go.desc).map (fun d => d.parameters.length) = some 1 := by decide +kernel
theorem hd_S_hit : y_S_hit.cls ≠ "java/lang/invoke/MethodHandle" ∧ y_S_hit.cls ≠ "java/lang/invoke/VarHandle" ∧ (parseMethodDescriptor y_S_hit.desc).map (fun d => d.parameters.length) = some 1 := by decide +kernel
theorem hd_S_isFree : y_S_isFree.cls ≠ "java/lang/invoke/MethodHandle" ∧ y_S_isFree.cls ≠ "java/lang/invoke/VarHandle" ∧ (parseMethodDescriptor y_S_isFree.desc).map (fun d => d.parameters.length) = some 4 := by decide +kernel
theorem hd_S_isResting : y_S_isResting.cls ≠ "java/lang/invoke/MethodHandle" ∧ y_S_isResting.cls ≠ "java/lang/invoke/VarHandle" ∧ (parseMethodDescriptor y_S_isResting.desc).map (fun d => d.parameters.length) = some 1 := by decide +kernel
theorem hd_S_isTired : y_S_isTired.cls ≠ "java/lang/invoke/MethodHandle" ∧ y_S_isTired.cls ≠ "java/lang/invoke/VarHandle" ∧ (parseMethodDescriptor y_S_isTired.desc).map (fun d => d.parameters.length) = some 1 := by decide +kernel
theorem hd_S_sum : y_S_sum.cls ≠ "java/lang/invoke/MethodHandle" ∧ y_S_sum.cls ≠ "java/lang/invoke/VarHandle" ∧ (parseMethodDescriptor y_S_sum.desc).map (fun d => d.parameters.length) = some 1 := by decide +kernel
def w_S_copy (post : St → Prop) (S : St) (a0 : Nat) (a1 : Option Nat) (a2 : Option Nat) : Prop :=
  ∃ y1 : Nat, a1 = some y1 ∧ isA S 10 y1 ∧ ∃ y3 : Nat, a2 = some y3 ∧ isA S 10 y3 ∧ (¬ (0 : Int32) < 0 ∧ ¬ (0 : Int32) < 0 ∧ ¬ (nI (sN S y1)) < 0 ∧ (0 : Int32).toNatClampNeg + (nI (sN S y1)).toNatClampNeg ≤ sN S y1 ∧ (0 : Int32).toNatClampNeg + (nI (sN S y1)).toNatClampNeg ≤ sN S y3 ∧ ∀ z, z < (nI (sN S y1)).toNatClampNeg → fits .int (.int (sR S y1 ((0 : Int32).toNatClampNeg + z))) = true) ∧ ∀ S6 : St, S6 = pRow S y3 (va_cpy (sR S y1) (sR S y3) ((0 : Int32).toNatClampNeg) ((0 : Int32).toNatClampNeg) ((nI (sN S y1)).toNatClampNeg)) → post S6
set_option maxHeartbeats 4000000 in
set_option maxRecDepth 100000 in
theorem m_S_copy (l : Launch) (x : Cx) (S : St) (post : St → Prop) (a0 : Nat) (a1 : Option Nat) (a2 : Option Nat) (fa0 : isA S 7 a0) (h : w_S_copy post S a0 a1 a2) : Met l y_S_copy [.code y_S_copy c_S_copy 3 none] { frames := 1, cells := 0, slots := 0, locals := 48 } (va_Pc [.ref a0, va_rf a1, va_rf a2] (GW x S)) (va_Qv post (gB x S) (xA x)) 0 0 (xA x) := by
  refine gMet (by decide +kernel) (by simp [lg_sl, gCat, gci1, gcr1, gcl1, gcd1]) ?_
  intro p e s m args below meth c hx hb hr hown hlocks hin hw hK H locs hG ls hlA hml
  have hown : s.vm.findClass "WaltzHallModel$State" = some m.cls := hown
  have hl0 : lv_has ls 3 [(0, .ref a0), (1, va_rf a1), (2, va_rf a2)] := by simpa [lv_args, gCat, gci1, gcr1, gcl1, gcd1] using hlA
  have leS : gle S S := gle.rf
  unfold w_S_copy at h
  refine gaload_n hx hb d_S_copy_0 rfl (lv_at hl0 1 rfl) ?_
  refine lv_iconst (v := 0) hx hb d_S_copy_1 (by decide) ?_
  refine gaload_n hx hb d_S_copy_2 rfl (lv_at hl0 2 rfl) ?_
  refine lv_iconst (v := 0) hx hb d_S_copy_3 (by decide) ?_
  refine gaload_n hx hb d_S_copy_4 rfl (lv_at hl0 1 rfl) ?_
  obtain ⟨y1, ey1, h⟩ := h
  subst ey1
  obtain ⟨f2, h⟩ := h
  refine galen hx hb hK hG f2 rfl 1 rfl rfl d_S_copy_5 ?_
  obtain ⟨y3, ey3, h⟩ := h
  subst ey3
  obtain ⟨f4, h⟩ := h
  obtain ⟨⟨hc51, hc52, hc53, hc54, hc55, hc56⟩, h⟩ := h
  refine gcopy 1 hx hb hw (hml.trans hl0.1.symm) hown hK hG tw_1222 tw_251 tw_250 tw_42 f2 f4 (fun _ _ _ _ _ _ => rfl) rfl rfl hc51 hc52 hc53 hc54 hc55 hc56 (Nat.le_of_ble_eq_true rfl) (Nat.le_of_ble_eq_true rfl) d_S_copy_6 (fun S6 H locs eS6 hle1 hG => ?_)
  replace h := h S6 eS6
  have fa0 := gle_isA hle1 fa0
  have f2 := gle_isA hle1 f2
  have f4 := gle_isA hle1 f4
  have leS := leS.tr hle1
  exact gvret hx hb hr hlocks hK hG leS h (Nat.le_of_ble_eq_true rfl) (Nat.le_of_ble_eq_true rfl) d_S_copy_9
def w_S_become (post : St → Prop) (S : St) (a0 : Nat) (a1 : Option Nat) : Prop :=
  ∃ y1 : Nat, a1 = some y1 ∧ isA S 7 y1 ∧ ∀ S3 : St, S3 = pI S 38 a0 (sI S 38 y1) → ∀ S4 : St, S4 = pI S3 39 a0 (sI S3 39 y1) → ∀ S5 : St, S5 = pI S4 52 a0 (sI S4 52 y1) → ∀ o6 : Option Nat, o6 = sQ S5 40 y1 → ∀ o7 : Option Nat, o7 = sQ S5 40 a0 → w_S_copy (fun (S8 : St) => ∀ o9 : Option Nat, o9 = sQ S8 41 y1 → ∀ o10 : Option Nat, o10 = sQ S8 41 a0 → w_S_copy (fun (S11 : St) => ∀ o12 : Option Nat, o12 = sQ S11 42 y1 → ∀ o13 : Option Nat, o13 = sQ S11 42 a0 → w_S_copy (fun (S14 : St) => ∀ o15 : Option Nat, o15 = sQ S14 43 y1 → ∀ o16 : Option Nat, o16 = sQ S14 43 a0 → w_S_copy (fun (S17 : St) => ∀ o18 : Option Nat, o18 = sQ S17 44 y1 → ∀ o19 : Option Nat, o19 = sQ S17 44 a0 → w_S_copy (fun (S20 : St) => ∀ o21 : Option Nat, o21 = sQ S20 45 y1 → ∀ o22 : Option Nat, o22 = sQ S20 45 a0 → w_S_copy (fun (S23 : St) => ∀ o24 : Option Nat, o24 = sQ S23 46 y1 → ∀ o25 : Option Nat, o25 = sQ S23 46 a0 → w_S_copy (fun (S26 : St) => ∀ o27 : Option Nat, o27 = sQ S26 47 y1 → ∀ o28 : Option Nat, o28 = sQ S26 47 a0 → w_S_copy (fun (S29 : St) => ∀ o30 : Option Nat, o30 = sQ S29 48 y1 → ∀ o31 : Option Nat, o31 = sQ S29 48 a0 → ∃ y32 : Nat, o30 = some y32 ∧ ∃ y33 : Nat, o31 = some y33 ∧ isA S29 11 y32 ∧ isA S29 11 y33 ∧ (¬ (0 : Int32) < 0 ∧ ¬ (0 : Int32) < 0 ∧ ¬ (8 : Int32) < 0 ∧ (0 : Int32).toNatClampNeg + (8 : Int32).toNatClampNeg ≤ sN S29 y32 ∧ (0 : Int32).toNatClampNeg + (8 : Int32).toNatClampNeg ≤ sN S29 y33 ∧ ∀ z, z < (8 : Int32).toNatClampNeg → fits .boolean (.int (sR S29 y32 ((0 : Int32).toNatClampNeg + z))) = true) ∧ ∀ S37 : St, S37 = pRow S29 y33 (va_cpy (sR S29 y32) (sR S29 y33) ((0 : Int32).toNatClampNeg) ((0 : Int32).toNatClampNeg) ((8 : Int32).toNatClampNeg)) → ∀ o38 : Option Nat, o38 = sQ S37 49 y1 → ∀ o39 : Option Nat, o39 = sQ S37 49 a0 → w_S_copy (fun (S40 : St) => ∀ o41 : Option Nat, o41 = sQ S40 50 y1 → ∀ o42 : Option Nat, o42 = sQ S40 50 a0 → w_S_copy (fun (S43 : St) => ∀ o44 : Option Nat, o44 = sQ S43 51 y1 → ∀ o45 : Option Nat, o45 = sQ S43 51 a0 → w_S_copy (fun (S46 : St) => ∀ o47 : Option Nat, o47 = sQ S46 53 y1 → ∀ o48 : Option Nat, o48 = sQ S46 53 a0 → w_S_copy (fun (S49 : St) => ∀ o50 : Option Nat, o50 = sQ S49 54 y1 → ∀ o51 : Option Nat, o51 = sQ S49 54 a0 → w_S_copy (fun (S52 : St) => post S52) S49 a0 o50 o51) S46 a0 o47 o48) S43 a0 o44 o45) S40 a0 o41 o42) S37 a0 o38 o39) S26 a0 o27 o28) S23 a0 o24 o25) S20 a0 o21 o22) S17 a0 o18 o19) S14 a0 o15 o16) S11 a0 o12 o13) S8 a0 o9 o10) S5 a0 o6 o7
set_option maxHeartbeats 4000000 in
set_option maxRecDepth 100000 in
theorem m_S_become (l : Launch) (x : Cx) (S : St) (post : St → Prop) (a0 : Nat) (a1 : Option Nat) (fa0 : isA S 7 a0) (h : w_S_become post S a0 a1) : Met l y_S_become [.code y_S_become c_S_become 2 none] { frames := 2, cells := 0, slots := 0, locals := 70 } (va_Pc [.ref a0, va_rf a1] (GW x S)) (va_Qv post (gB x S) (xA x)) 0 0 (xA x) := by
  refine gMet (by decide +kernel) (by simp [lg_sl, gCat, gci1, gcr1, gcl1, gcd1]) ?_
  intro p e s m args below meth c hx hb hr hown hlocks hin hw hK H locs hG ls hlA hml
  have hown : s.vm.findClass "WaltzHallModel$State" = some m.cls := hown
  have hl0 : lv_has ls 2 [(0, .ref a0), (1, va_rf a1)] := hlA
  have leS : gle S S := gle.rf
  unfold w_S_become at h
  refine lv_aload_n hx hb d_S_become_0 rfl (lv_at hl0 0 rfl) ?_
  refine gaload_n hx hb d_S_become_1 rfl (lv_at hl0 1 rfl) ?_
  obtain ⟨y1, ey1, h⟩ := h
  subst ey1
  obtain ⟨f2, h⟩ := h
  refine gget hx hb hw hown hK hG kd_S f2 rfl 0 (by decide) rfl tw_940 (fun _ h9 => h9) d_S_become_2 ?_
  refine gput (S' := pI S 38 a0 (sI S 38 y1)) hx hb hw hown hK hG kd_S fa0 rfl 0 (by decide) (gChI fa0 rfl) tw_940 (fun _ h9 => h9) rfl rfl rfl rfl (Nat.le_of_ble_eq_true rfl) d_S_become_5 (fun S3 H locs eS3 hle1 hG => ?_)
  replace h := h S3 eS3
  have fa0 := gle_isA hle1 fa0
  have f2 := gle_isA hle1 f2
  have leS := leS.tr hle1
  refine lv_aload_n hx hb d_S_become_8 rfl (lv_at hl0 0 rfl) ?_
  refine lv_aload_n hx hb d_S_become_9 rfl (lv_at hl0 1 rfl) ?_
  refine gget hx hb hw hown hK hG kd_S f2 rfl 1 (by decide) rfl tw_942 (fun _ h9 => h9) d_S_become_10 ?_
  refine gput (S' := pI S3 39 a0 (sI S3 39 y1)) hx hb hw hown hK hG kd_S fa0 rfl 1 (by decide) (gChI fa0 rfl) tw_942 (fun _ h9 => h9) rfl rfl rfl rfl (Nat.le_of_ble_eq_true rfl) d_S_become_13 (fun S4 H locs eS4 hle1 hG => ?_)
  replace h := h S4 eS4
  have fa0 := gle_isA hle1 fa0
  have f2 := gle_isA hle1 f2
  have leS := leS.tr hle1
  refine lv_aload_n hx hb d_S_become_16 rfl (lv_at hl0 0 rfl) ?_
  refine lv_aload_n hx hb d_S_become_17 rfl (lv_at hl0 1 rfl) ?_
  refine gget hx hb hw hown hK hG kd_S f2 rfl 14 (by decide) rfl tw_968 (fun _ h9 => h9) d_S_become_18 ?_
  refine gput (S' := pI S4 52 a0 (sI S4 52 y1)) hx hb hw hown hK hG kd_S fa0 rfl 14 (by decide) (gChI fa0 rfl) tw_968 (fun _ h9 => h9) rfl rfl rfl rfl (Nat.le_of_ble_eq_true rfl) d_S_become_21 (fun S5 H locs eS5 hle1 hG => ?_)
  replace h := h S5 eS5
  have fa0 := gle_isA hle1 fa0
  have f2 := gle_isA hle1 f2
  have leS := leS.tr hle1
  refine lv_aload_n hx hb d_S_become_24 rfl (lv_at hl0 0 rfl) ?_
  refine lv_aload_n hx hb d_S_become_25 rfl (lv_at hl0 1 rfl) ?_
  refine gget hx hb hw hown hK hG kd_S f2 rfl 2 (by decide) rfl tw_944 (fun _ h9 => h9) d_S_become_26 ?_
  refine gtopq (fun o6 eo6 => ?_)
  replace h := h o6 eo6
  refine lv_aload_n hx hb d_S_become_29 rfl (lv_at hl0 0 rfl) ?_
  refine gget hx hb hw hown hK hG kd_S fa0 rfl 2 (by decide) rfl tw_944 (fun _ h9 => h9) d_S_become_30 ?_
  refine gtopq (fun o7 eo7 => ?_)
  replace h := h o7 eo7
  -- call S_copy
  refine gcv hK hG (va_runV (As := [va_rf o6, va_rf o7]) (rest := []) ⟨hx, hb, hml, hown, hw⟩ (m_S_copy l x S5 _ a0 o6 o7 fa0 h) ⟨gcb hw tw_1221 tw_44 tw_1218 hd_S_copy rfl rfl ⟨(Nat.le_of_ble_eq_true rfl), (Nat.le_of_ble_eq_true rfl)⟩, hw _ tw_1220, hw _ tw_26⟩ (gpV hK hG kd_S fa0 rfl) rfl rfl hl0.1 rfl (lv_room (Nat.le_of_ble_eq_true rfl)) d_S_become_33 ⟨(Nat.le_of_ble_eq_true rfl), (Nat.le_of_ble_eq_true rfl)⟩) (fun S8 H locs h9 hle1 hG => ?_)
  replace h := h9
  clear h9
  have fa0 := gle_isA hle1 fa0
  have f2 := gle_isA hle1 f2
  have leS := leS.tr hle1
  refine lv_aload_n hx hb d_S_become_36 rfl (lv_at hl0 0 rfl) ?_
  refine lv_aload_n hx hb d_S_become_37 rfl (lv_at hl0 1 rfl) ?_
  refine gget hx hb hw hown hK hG kd_S f2 rfl 3 (by decide) rfl tw_946 (fun _ h9 => h9) d_S_become_38 ?_
  refine gtopq (fun o9 eo9 => ?_)
  replace h := h o9 eo9
  refine lv_aload_n hx hb d_S_become_41 rfl (lv_at hl0 0 rfl) ?_
  refine gget hx hb hw hown hK hG kd_S fa0 rfl 3 (by decide) rfl tw_946 (fun _ h9 => h9) d_S_become_42 ?_
  refine gtopq (fun o10 eo10 => ?_)
  replace h := h o10 eo10
  -- call S_copy
  refine gcv hK hG (va_runV (As := [va_rf o9, va_rf o10]) (rest := []) ⟨hx, hb, hml, hown, hw⟩ (m_S_copy l x S8 _ a0 o9 o10 fa0 h) ⟨gcb hw tw_1221 tw_44 tw_1218 hd_S_copy rfl rfl ⟨(Nat.le_of_ble_eq_true rfl), (Nat.le_of_ble_eq_true rfl)⟩, hw _ tw_1220, hw _ tw_26⟩ (gpV hK hG kd_S fa0 rfl) rfl rfl hl0.1 rfl (lv_room (Nat.le_of_ble_eq_true rfl)) d_S_become_45 ⟨(Nat.le_of_ble_eq_true rfl), (Nat.le_of_ble_eq_true rfl)⟩) (fun S11 H locs h9 hle1 hG => ?_)
  replace h := h9
  clear h9
  have fa0 := gle_isA hle1 fa0
  have f2 := gle_isA hle1 f2
  have leS := leS.tr hle1
  refine lv_aload_n hx hb d_S_become_48 rfl (lv_at hl0 0 rfl) ?_
  refine lv_aload_n hx hb d_S_become_49 rfl (lv_at hl0 1 rfl) ?_
  refine gget hx hb hw hown hK hG kd_S f2 rfl 4 (by decide) rfl tw_948 (fun _ h9 => h9) d_S_become_50 ?_
  refine gtopq (fun o12 eo12 => ?_)
  replace h := h o12 eo12
  refine lv_aload_n hx hb d_S_become_53 rfl (lv_at hl0 0 rfl) ?_
  refine gget hx hb hw hown hK hG kd_S fa0 rfl 4 (by decide) rfl tw_948 (fun _ h9 => h9) d_S_become_54 ?_
  refine gtopq (fun o13 eo13 => ?_)
  replace h := h o13 eo13
  -- call S_copy
  refine gcv hK hG (va_runV (As := [va_rf o12, va_rf o13]) (rest := []) ⟨hx, hb, hml, hown, hw⟩ (m_S_copy l x S11 _ a0 o12 o13 fa0 h) ⟨gcb hw tw_1221 tw_44 tw_1218 hd_S_copy rfl rfl ⟨(Nat.le_of_ble_eq_true rfl), (Nat.le_of_ble_eq_true rfl)⟩, hw _ tw_1220, hw _ tw_26⟩ (gpV hK hG kd_S fa0 rfl) rfl rfl hl0.1 rfl (lv_room (Nat.le_of_ble_eq_true rfl)) d_S_become_57 ⟨(Nat.le_of_ble_eq_true rfl), (Nat.le_of_ble_eq_true rfl)⟩) (fun S14 H locs h9 hle1 hG => ?_)
  replace h := h9
  clear h9
  have fa0 := gle_isA hle1 fa0
  have f2 := gle_isA hle1 f2
  have leS := leS.tr hle1
  refine lv_aload_n hx hb d_S_become_60 rfl (lv_at hl0 0 rfl) ?_
  refine lv_aload_n hx hb d_S_become_61 rfl (lv_at hl0 1 rfl) ?_
  refine gget hx hb hw hown hK hG kd_S f2 rfl 5 (by decide) rfl tw_950 (fun _ h9 => h9) d_S_become_62 ?_
  refine gtopq (fun o15 eo15 => ?_)
  replace h := h o15 eo15
  refine lv_aload_n hx hb d_S_become_65 rfl (lv_at hl0 0 rfl) ?_
  refine gget hx hb hw hown hK hG kd_S fa0 rfl 5 (by decide) rfl tw_950 (fun _ h9 => h9) d_S_become_66 ?_
  refine gtopq (fun o16 eo16 => ?_)
  replace h := h o16 eo16
  -- call S_copy
  refine gcv hK hG (va_runV (As := [va_rf o15, va_rf o16]) (rest := []) ⟨hx, hb, hml, hown, hw⟩ (m_S_copy l x S14 _ a0 o15 o16 fa0 h) ⟨gcb hw tw_1221 tw_44 tw_1218 hd_S_copy rfl rfl ⟨(Nat.le_of_ble_eq_true rfl), (Nat.le_of_ble_eq_true rfl)⟩, hw _ tw_1220, hw _ tw_26⟩ (gpV hK hG kd_S fa0 rfl) rfl rfl hl0.1 rfl (lv_room (Nat.le_of_ble_eq_true rfl)) d_S_become_69 ⟨(Nat.le_of_ble_eq_true rfl), (Nat.le_of_ble_eq_true rfl)⟩) (fun S17 H locs h9 hle1 hG => ?_)
  replace h := h9
  clear h9
  have fa0 := gle_isA hle1 fa0
  have f2 := gle_isA hle1 f2
  have leS := leS.tr hle1
  refine lv_aload_n hx hb d_S_become_72 rfl (lv_at hl0 0 rfl) ?_
  refine lv_aload_n hx hb d_S_become_73 rfl (lv_at hl0 1 rfl) ?_
  refine gget hx hb hw hown hK hG kd_S f2 rfl 6 (by decide) rfl tw_952 (fun _ h9 => h9) d_S_become_74 ?_
  refine gtopq (fun o18 eo18 => ?_)
  replace h := h o18 eo18
  refine lv_aload_n hx hb d_S_become_77 rfl (lv_at hl0 0 rfl) ?_
  refine gget hx hb hw hown hK hG kd_S fa0 rfl 6 (by decide) rfl tw_952 (fun _ h9 => h9) d_S_become_78 ?_
  refine gtopq (fun o19 eo19 => ?_)
  replace h := h o19 eo19
  -- call S_copy
  refine gcv hK hG (va_runV (As := [va_rf o18, va_rf o19]) (rest := []) ⟨hx, hb, hml, hown, hw⟩ (m_S_copy l x S17 _ a0 o18 o19 fa0 h) ⟨gcb hw tw_1221 tw_44 tw_1218 hd_S_copy rfl rfl ⟨(Nat.le_of_ble_eq_true rfl), (Nat.le_of_ble_eq_true rfl)⟩, hw _ tw_1220, hw _ tw_26⟩ (gpV hK hG kd_S fa0 rfl) rfl rfl hl0.1 rfl (lv_room (Nat.le_of_ble_eq_true rfl)) d_S_become_81 ⟨(Nat.le_of_ble_eq_true rfl), (Nat.le_of_ble_eq_true rfl)⟩) (fun S20 H locs h9 hle1 hG => ?_)
  replace h := h9
  clear h9
  have fa0 := gle_isA hle1 fa0
  have f2 := gle_isA hle1 f2
  have leS := leS.tr hle1
  refine lv_aload_n hx hb d_S_become_84 rfl (lv_at hl0 0 rfl) ?_
  refine lv_aload_n hx hb d_S_become_85 rfl (lv_at hl0 1 rfl) ?_
  refine gget hx hb hw hown hK hG kd_S f2 rfl 7 (by decide) rfl tw_954 (fun _ h9 => h9) d_S_become_86 ?_
  refine gtopq (fun o21 eo21 => ?_)
  replace h := h o21 eo21
  refine lv_aload_n hx hb d_S_become_89 rfl (lv_at hl0 0 rfl) ?_
  refine gget hx hb hw hown hK hG kd_S fa0 rfl 7 (by decide) rfl tw_954 (fun _ h9 => h9) d_S_become_90 ?_
  refine gtopq (fun o22 eo22 => ?_)
  replace h := h o22 eo22
  -- call S_copy
  refine gcv hK hG (va_runV (As := [va_rf o21, va_rf o22]) (rest := []) ⟨hx, hb, hml, hown, hw⟩ (m_S_copy l x S20 _ a0 o21 o22 fa0 h) ⟨gcb hw tw_1221 tw_44 tw_1218 hd_S_copy rfl rfl ⟨(Nat.le_of_ble_eq_true rfl), (Nat.le_of_ble_eq_true rfl)⟩, hw _ tw_1220, hw _ tw_26⟩ (gpV hK hG kd_S fa0 rfl) rfl rfl hl0.1 rfl (lv_room (Nat.le_of_ble_eq_true rfl)) d_S_become_93 ⟨(Nat.le_of_ble_eq_true rfl), (Nat.le_of_ble_eq_true rfl)⟩) (fun S23 H locs h9 hle1 hG => ?_)
  replace h := h9
  clear h9
  have fa0 := gle_isA hle1 fa0
  have f2 := gle_isA hle1 f2
  have leS := leS.tr hle1
  refine lv_aload_n hx hb d_S_become_96 rfl (lv_at hl0 0 rfl) ?_
  refine lv_aload_n hx hb d_S_become_97 rfl (lv_at hl0 1 rfl) ?_
  refine gget hx hb hw hown hK hG kd_S f2 rfl 8 (by decide) rfl tw_956 (fun _ h9 => h9) d_S_become_98 ?_
  refine gtopq (fun o24 eo24 => ?_)
  replace h := h o24 eo24
  refine lv_aload_n hx hb d_S_become_101 rfl (lv_at hl0 0 rfl) ?_
  refine gget hx hb hw hown hK hG kd_S fa0 rfl 8 (by decide) rfl tw_956 (fun _ h9 => h9) d_S_become_102 ?_
  refine gtopq (fun o25 eo25 => ?_)
  replace h := h o25 eo25
  -- call S_copy
  refine gcv hK hG (va_runV (As := [va_rf o24, va_rf o25]) (rest := []) ⟨hx, hb, hml, hown, hw⟩ (m_S_copy l x S23 _ a0 o24 o25 fa0 h) ⟨gcb hw tw_1221 tw_44 tw_1218 hd_S_copy rfl rfl ⟨(Nat.le_of_ble_eq_true rfl), (Nat.le_of_ble_eq_true rfl)⟩, hw _ tw_1220, hw _ tw_26⟩ (gpV hK hG kd_S fa0 rfl) rfl rfl hl0.1 rfl (lv_room (Nat.le_of_ble_eq_true rfl)) d_S_become_105 ⟨(Nat.le_of_ble_eq_true rfl), (Nat.le_of_ble_eq_true rfl)⟩) (fun S26 H locs h9 hle1 hG => ?_)
  replace h := h9
  clear h9
  have fa0 := gle_isA hle1 fa0
  have f2 := gle_isA hle1 f2
  have leS := leS.tr hle1
  refine lv_aload_n hx hb d_S_become_108 rfl (lv_at hl0 0 rfl) ?_
  refine lv_aload_n hx hb d_S_become_109 rfl (lv_at hl0 1 rfl) ?_
  refine gget hx hb hw hown hK hG kd_S f2 rfl 9 (by decide) rfl tw_958 (fun _ h9 => h9) d_S_become_110 ?_
  refine gtopq (fun o27 eo27 => ?_)
  replace h := h o27 eo27
  refine lv_aload_n hx hb d_S_become_113 rfl (lv_at hl0 0 rfl) ?_
  refine gget hx hb hw hown hK hG kd_S fa0 rfl 9 (by decide) rfl tw_958 (fun _ h9 => h9) d_S_become_114 ?_
  refine gtopq (fun o28 eo28 => ?_)
  replace h := h o28 eo28
  -- call S_copy
  refine gcv hK hG (va_runV (As := [va_rf o27, va_rf o28]) (rest := []) ⟨hx, hb, hml, hown, hw⟩ (m_S_copy l x S26 _ a0 o27 o28 fa0 h) ⟨gcb hw tw_1221 tw_44 tw_1218 hd_S_copy rfl rfl ⟨(Nat.le_of_ble_eq_true rfl), (Nat.le_of_ble_eq_true rfl)⟩, hw _ tw_1220, hw _ tw_26⟩ (gpV hK hG kd_S fa0 rfl) rfl rfl hl0.1 rfl (lv_room (Nat.le_of_ble_eq_true rfl)) d_S_become_117 ⟨(Nat.le_of_ble_eq_true rfl), (Nat.le_of_ble_eq_true rfl)⟩) (fun S29 H locs h9 hle1 hG => ?_)
  replace h := h9
  clear h9
  have fa0 := gle_isA hle1 fa0
  have f2 := gle_isA hle1 f2
  have leS := leS.tr hle1
  refine lv_aload_n hx hb d_S_become_120 rfl (lv_at hl0 1 rfl) ?_
  refine gget hx hb hw hown hK hG kd_S f2 rfl 10 (by decide) rfl tw_960 (fun _ h9 => h9) d_S_become_121 ?_
  refine gtopq (fun o30 eo30 => ?_)
  replace h := h o30 eo30
  refine lv_iconst (v := 0) hx hb d_S_become_124 (by decide) ?_
  refine lv_aload_n hx hb d_S_become_125 rfl (lv_at hl0 0 rfl) ?_
  refine gget hx hb hw hown hK hG kd_S fa0 rfl 10 (by decide) rfl tw_960 (fun _ h9 => h9) d_S_become_126 ?_
  refine gtopq (fun o31 eo31 => ?_)
  replace h := h o31 eo31
  refine lv_iconst (v := 0) hx hb d_S_become_129 (by decide) ?_
  refine lv_bipush (v := 8) hx hb d_S_become_130 (by decide) ?_
  obtain ⟨y32, ey32, h⟩ := h
  subst ey32
  obtain ⟨y33, ey33, h⟩ := h
  subst ey33
  obtain ⟨f34, h⟩ := h
  obtain ⟨f35, h⟩ := h
  obtain ⟨⟨hc361, hc362, hc363, hc364, hc365, hc366⟩, h⟩ := h
  refine gcopy 2 hx hb hw (hml.trans hl0.1.symm) hown hK hG tw_1222 tw_251 tw_250 tw_42 f34 f35 (fun _ _ _ _ _ _ => rfl) rfl rfl hc361 hc362 hc363 hc364 hc365 hc366 (Nat.le_of_ble_eq_true rfl) (Nat.le_of_ble_eq_true rfl) d_S_become_132 (fun S37 H locs eS37 hle1 hG => ?_)
  replace h := h S37 eS37
  have fa0 := gle_isA hle1 fa0
  have f2 := gle_isA hle1 f2
  have f34 := gle_isA hle1 f34
  have f35 := gle_isA hle1 f35
  have leS := leS.tr hle1
  refine lv_aload_n hx hb d_S_become_135 rfl (lv_at hl0 0 rfl) ?_
  refine lv_aload_n hx hb d_S_become_136 rfl (lv_at hl0 1 rfl) ?_
  refine gget hx hb hw hown hK hG kd_S f2 rfl 11 (by decide) rfl tw_962 (fun _ h9 => h9) d_S_become_137 ?_
  refine gtopq (fun o38 eo38 => ?_)
  replace h := h o38 eo38
  refine lv_aload_n hx hb d_S_become_140 rfl (lv_at hl0 0 rfl) ?_
  refine gget hx hb hw hown hK hG kd_S fa0 rfl 11 (by decide) rfl tw_962 (fun _ h9 => h9) d_S_become_141 ?_
  refine gtopq (fun o39 eo39 => ?_)
  replace h := h o39 eo39
  -- call S_copy
  refine gcv hK hG (va_runV (As := [va_rf o38, va_rf o39]) (rest := []) ⟨hx, hb, hml, hown, hw⟩ (m_S_copy l x S37 _ a0 o38 o39 fa0 h) ⟨gcb hw tw_1221 tw_44 tw_1218 hd_S_copy rfl rfl ⟨(Nat.le_of_ble_eq_true rfl), (Nat.le_of_ble_eq_true rfl)⟩, hw _ tw_1220, hw _ tw_26⟩ (gpV hK hG kd_S fa0 rfl) rfl rfl hl0.1 rfl (lv_room (Nat.le_of_ble_eq_true rfl)) d_S_become_144 ⟨(Nat.le_of_ble_eq_true rfl), (Nat.le_of_ble_eq_true rfl)⟩) (fun S40 H locs h9 hle1 hG => ?_)
  replace h := h9
  clear h9
  have fa0 := gle_isA hle1 fa0
  have f2 := gle_isA hle1 f2
  have f34 := gle_isA hle1 f34
  have f35 := gle_isA hle1 f35
  have leS := leS.tr hle1
  refine lv_aload_n hx hb d_S_become_147 rfl (lv_at hl0 0 rfl) ?_
  refine lv_aload_n hx hb d_S_become_148 rfl (lv_at hl0 1 rfl) ?_
  refine gget hx hb hw hown hK hG kd_S f2 rfl 12 (by decide) rfl tw_964 (fun _ h9 => h9) d_S_become_149 ?_
  refine gtopq (fun o41 eo41 => ?_)
  replace h := h o41 eo41
  refine lv_aload_n hx hb d_S_become_152 rfl (lv_at hl0 0 rfl) ?_
  refine gget hx hb hw hown hK hG kd_S fa0 rfl 12 (by decide) rfl tw_964 (fun _ h9 => h9) d_S_become_153 ?_
  refine gtopq (fun o42 eo42 => ?_)
  replace h := h o42 eo42
  -- call S_copy
  refine gcv hK hG (va_runV (As := [va_rf o41, va_rf o42]) (rest := []) ⟨hx, hb, hml, hown, hw⟩ (m_S_copy l x S40 _ a0 o41 o42 fa0 h) ⟨gcb hw tw_1221 tw_44 tw_1218 hd_S_copy rfl rfl ⟨(Nat.le_of_ble_eq_true rfl), (Nat.le_of_ble_eq_true rfl)⟩, hw _ tw_1220, hw _ tw_26⟩ (gpV hK hG kd_S fa0 rfl) rfl rfl hl0.1 rfl (lv_room (Nat.le_of_ble_eq_true rfl)) d_S_become_156 ⟨(Nat.le_of_ble_eq_true rfl), (Nat.le_of_ble_eq_true rfl)⟩) (fun S43 H locs h9 hle1 hG => ?_)
  replace h := h9
  clear h9
  have fa0 := gle_isA hle1 fa0
  have f2 := gle_isA hle1 f2
  have f34 := gle_isA hle1 f34
  have f35 := gle_isA hle1 f35
  have leS := leS.tr hle1
  refine lv_aload_n hx hb d_S_become_159 rfl (lv_at hl0 0 rfl) ?_
  refine lv_aload_n hx hb d_S_become_160 rfl (lv_at hl0 1 rfl) ?_
  refine gget hx hb hw hown hK hG kd_S f2 rfl 13 (by decide) rfl tw_966 (fun _ h9 => h9) d_S_become_161 ?_
  refine gtopq (fun o44 eo44 => ?_)
  replace h := h o44 eo44
  refine lv_aload_n hx hb d_S_become_164 rfl (lv_at hl0 0 rfl) ?_
  refine gget hx hb hw hown hK hG kd_S fa0 rfl 13 (by decide) rfl tw_966 (fun _ h9 => h9) d_S_become_165 ?_
  refine gtopq (fun o45 eo45 => ?_)
  replace h := h o45 eo45
  -- call S_copy
  refine gcv hK hG (va_runV (As := [va_rf o44, va_rf o45]) (rest := []) ⟨hx, hb, hml, hown, hw⟩ (m_S_copy l x S43 _ a0 o44 o45 fa0 h) ⟨gcb hw tw_1221 tw_44 tw_1218 hd_S_copy rfl rfl ⟨(Nat.le_of_ble_eq_true rfl), (Nat.le_of_ble_eq_true rfl)⟩, hw _ tw_1220, hw _ tw_26⟩ (gpV hK hG kd_S fa0 rfl) rfl rfl hl0.1 rfl (lv_room (Nat.le_of_ble_eq_true rfl)) d_S_become_168 ⟨(Nat.le_of_ble_eq_true rfl), (Nat.le_of_ble_eq_true rfl)⟩) (fun S46 H locs h9 hle1 hG => ?_)
  replace h := h9
  clear h9
  have fa0 := gle_isA hle1 fa0
  have f2 := gle_isA hle1 f2
  have f34 := gle_isA hle1 f34
  have f35 := gle_isA hle1 f35
  have leS := leS.tr hle1
  refine lv_aload_n hx hb d_S_become_171 rfl (lv_at hl0 0 rfl) ?_
  refine lv_aload_n hx hb d_S_become_172 rfl (lv_at hl0 1 rfl) ?_
  refine gget hx hb hw hown hK hG kd_S f2 rfl 15 (by decide) rfl tw_970 (fun _ h9 => h9) d_S_become_173 ?_
  refine gtopq (fun o47 eo47 => ?_)
  replace h := h o47 eo47
  refine lv_aload_n hx hb d_S_become_176 rfl (lv_at hl0 0 rfl) ?_
  refine gget hx hb hw hown hK hG kd_S fa0 rfl 15 (by decide) rfl tw_970 (fun _ h9 => h9) d_S_become_177 ?_
  refine gtopq (fun o48 eo48 => ?_)
  replace h := h o48 eo48
  -- call S_copy
  refine gcv hK hG (va_runV (As := [va_rf o47, va_rf o48]) (rest := []) ⟨hx, hb, hml, hown, hw⟩ (m_S_copy l x S46 _ a0 o47 o48 fa0 h) ⟨gcb hw tw_1221 tw_44 tw_1218 hd_S_copy rfl rfl ⟨(Nat.le_of_ble_eq_true rfl), (Nat.le_of_ble_eq_true rfl)⟩, hw _ tw_1220, hw _ tw_26⟩ (gpV hK hG kd_S fa0 rfl) rfl rfl hl0.1 rfl (lv_room (Nat.le_of_ble_eq_true rfl)) d_S_become_180 ⟨(Nat.le_of_ble_eq_true rfl), (Nat.le_of_ble_eq_true rfl)⟩) (fun S49 H locs h9 hle1 hG => ?_)
  replace h := h9
  clear h9
  have fa0 := gle_isA hle1 fa0
  have f2 := gle_isA hle1 f2
  have f34 := gle_isA hle1 f34
  have f35 := gle_isA hle1 f35
  have leS := leS.tr hle1
  refine lv_aload_n hx hb d_S_become_183 rfl (lv_at hl0 0 rfl) ?_
  refine lv_aload_n hx hb d_S_become_184 rfl (lv_at hl0 1 rfl) ?_
  refine gget hx hb hw hown hK hG kd_S f2 rfl 16 (by decide) rfl tw_972 (fun _ h9 => h9) d_S_become_185 ?_
  refine gtopq (fun o50 eo50 => ?_)
  replace h := h o50 eo50
  refine lv_aload_n hx hb d_S_become_188 rfl (lv_at hl0 0 rfl) ?_
  refine gget hx hb hw hown hK hG kd_S fa0 rfl 16 (by decide) rfl tw_972 (fun _ h9 => h9) d_S_become_189 ?_
  refine gtopq (fun o51 eo51 => ?_)
  replace h := h o51 eo51
  -- call S_copy
  refine gcv hK hG (va_runV (As := [va_rf o50, va_rf o51]) (rest := []) ⟨hx, hb, hml, hown, hw⟩ (m_S_copy l x S49 _ a0 o50 o51 fa0 h) ⟨gcb hw tw_1221 tw_44 tw_1218 hd_S_copy rfl rfl ⟨(Nat.le_of_ble_eq_true rfl), (Nat.le_of_ble_eq_true rfl)⟩, hw _ tw_1220, hw _ tw_26⟩ (gpV hK hG kd_S fa0 rfl) rfl rfl hl0.1 rfl (lv_room (Nat.le_of_ble_eq_true rfl)) d_S_become_192 ⟨(Nat.le_of_ble_eq_true rfl), (Nat.le_of_ble_eq_true rfl)⟩) (fun S52 H locs h9 hle1 hG => ?_)
  replace h := h9
  clear h9
  have fa0 := gle_isA hle1 fa0
  have f2 := gle_isA hle1 f2
  have f34 := gle_isA hle1 f34
  have f35 := gle_isA hle1 f35
  have leS := leS.tr hle1
  exact gvret hx hb hr hlocks hK hG leS h (Nat.le_of_ble_eq_true rfl) (Nat.le_of_ble_eq_true rfl) d_S_become_195
def w_S_at (post : Int32 → Prop) (S : St) (a0 : Nat) (a1 : Int32) (a2 : Int32) : Prop :=
  ∃ J5 : Nat → Int32 → Int32 → Prop, (∃ n : Nat, J5 n (-1) 0) ∧ ∀ (n5 : Nat) (v3_5 : Int32) (v4_5 : Int32), J5 n5 v3_5 v4_5 → ((sI S 39 a0) ≤ v4_5 → post v3_5) ∧ (¬ (sI S 39 a0) ≤ v4_5 → ∀ o4 : Option Nat, o4 = sQ S 40 a0 → ∃ y5 : Nat, o4 = some y5 ∧ isA S 10 y5 ∧ vp_in v4_5 (sN S y5) ∧ ∃ J39 : Int32 → Prop, (∀ (v3_39 : Int32), J39 v3_39 → ∀ v9 : Int32, v9 = v4_5 + 1 → ∃ nx : Nat, nx < n5 ∧ J5 nx v3_39 v9) ∧ ((sR S y5 v4_5.toNatClampNeg) = a1 → ∀ o11 : Option Nat, o11 = sQ S 41 a0 → ∃ y12 : Nat, o11 = some y12 ∧ isA S 10 y12 ∧ vp_in v4_5 (sN S y12) ∧ ((sR S y12 v4_5.toNatClampNeg) = a2 → J39 v4_5) ∧ (¬ (sR S y12 v4_5.toNatClampNeg) = a2 → J39 v3_5)) ∧ (¬ (sR S y5 v4_5.toNatClampNeg) = a1 → J39 v3_5))
set_option maxHeartbeats 4000000 in
set_option maxRecDepth 100000 in
theorem m_S_at (l : Launch) (x : Cx) (S : St) (post : Int32 → Prop) (a0 : Nat) (a1 : Int32) (a2 : Int32) (fa0 : isA S 7 a0) (h : w_S_at post S a0 a1 a2) : Met l y_S_at [.code y_S_at c_S_at 5 (some .int)] { frames := 0, cells := 0, slots := 0, locals := 0 } (va_Pc [.ref a0, .int a1, .int a2] (GW x S)) (va_Qi (gPu post S) (gB x S) (xA x)) 0 0 (xA x) := by
  refine gMet (by decide +kernel) (Nat.le_of_ble_eq_true rfl) ?_
  intro p e s m args below meth c hx hb hr hown hlocks hin hw hK H locs hG ls hlA hml
  have hown : s.vm.findClass "WaltzHallModel$State" = some m.cls := hown
  have hl0 : lv_has ls 5 [(0, .ref a0), (1, .int a1), (2, .int a2)] := hlA
  unfold w_S_at at h
  refine lv_iconst (v := (-1)) hx hb d_S_at_0 (by decide) ?_
  refine lv_istore_n (i := 3) (lv' := [(3, .int (-1)), (0, .ref a0), (1, .int a1), (2, .int a2)]) hx hb d_S_at_1 rfl hl0 (by decide) rfl (fun ls hl1 => ?_)
  refine lv_iconst (v := 0) hx hb d_S_at_2 (by decide) ?_
  refine lv_istore (lv' := [(4, .int 0), (3, .int (-1)), (0, .ref a0), (1, .int a1), (2, .int a2)]) hx hb d_S_at_3 hl1 (by decide) rfl (fun ls hl2 => ?_)
  have leS : gle S S := gle.rf
  obtain ⟨J5, ⟨n0_5, h0_5⟩, hJ5⟩ := h
  have k5 : ∀ (n5 : Nat) (v3_5 : Int32) (v4_5 : Int32) (H : Heap) (locs : List Loc) (ls : Array Slot), GH x S s H locs → lv_has ls 5 [(0, .ref a0), (1, .int a1), (2, .int a2), (3, .int v3_5), (4, .int v4_5)] → J5 n5 v3_5 v4_5 → W p l e { frames := 0, cells := 0, slots := 0, locals := 0 } s m args below meth c H locs 0 0 (MQ below (va_Qi (gPu post S) (gB x S) (xA x)) args s 0 0 (xA x)) (F0 m 5 ls []) := by
    intro n5
    induction n5 using Nat.strongRecOn with
    | _ n5 ih5 =>
      intro v3_5 v4_5 H locs ls hG hl3 hj
      replace h := hJ5 n5 v3_5 v4_5 hj
      refine lv_iload hx hb d_S_at_5 (lv_at hl3 4 rfl) ?_
      refine lv_aload_n hx hb d_S_at_7 rfl (lv_at hl3 0 rfl) ?_
      refine gget hx hb hw hown hK hG kd_S fa0 rfl 1 (by decide) rfl tw_942 (fun _ h9 => h9) d_S_at_8 ?_
      refine lv_icmp_ge (tgt := 45) hx hb d_S_at_11 (by decide) (fun hc18 => ?_) (fun hc18 => ?_)
      · replace h := h.1 hc18
        refine lv_iload_n hx hb d_S_at_45 rfl (lv_at hl3 3 rfl) ?_
        exact giret hx hb hr hlocks hK hG leS ⟨h, rfl⟩ (Nat.le_of_ble_eq_true rfl) (Nat.le_of_ble_eq_true rfl) d_S_at_46
      · replace h := h.2 hc18
        refine lv_aload_n hx hb d_S_at_14 rfl (lv_at hl3 0 rfl) ?_
        refine gget hx hb hw hown hK hG kd_S fa0 rfl 2 (by decide) rfl tw_944 (fun _ h9 => h9) d_S_at_15 ?_
        refine gtopq (fun o4 eo4 => ?_)
        replace h := h o4 eo4
        refine lv_iload hx hb d_S_at_18 (lv_at hl3 4 rfl) ?_
        obtain ⟨y5, ey5, h⟩ := h
        subst ey5
        obtain ⟨f6, h⟩ := h
        obtain ⟨hi7, h⟩ := h
        refine giald hx hb hK hG f6 hi7 d_S_at_20 ?_
        refine lv_iload_n hx hb d_S_at_21 rfl (lv_at hl3 1 rfl) ?_
        obtain ⟨J39, hJ39, h⟩ := h
        have k39 : ∀ (v3_39 : Int32) (H : Heap) (locs : List Loc) (ls : Array Slot), GH x S s H locs → lv_has ls 5 [(0, .ref a0), (1, .int a1), (2, .int a2), (3, .int v3_39), (4, .int v4_5)] → J39 v3_39 → W p l e { frames := 0, cells := 0, slots := 0, locals := 0 } s m args below meth c H locs 0 0 (MQ below (va_Qi (gPu post S) (gB x S) (xA x)) args s 0 0 (xA x)) (F0 m 39 ls []) := by
          intro v3_39  H locs ls hG hl8 hj
          replace h := hJ39 v3_39 hj
          obtain ⟨v9, ev9⟩ : ∃ z : Int32, z = v4_5 + 1 := ⟨_, rfl⟩
          replace h := h v9 ev9
          refine lv_iinc (v := v9) (lv' := [(4, .int v9), (0, .ref a0), (1, .int a1), (2, .int a2), (3, .int v3_39)]) hx hb d_S_at_39 hl8 (k := 4) rfl (by rw [ev9]; rfl) (by decide) rfl (fun ls hl10 => ?_)
          refine lv_goto (tgt := 5) hx hb d_S_at_42 (by decide) ?_
          obtain ⟨nx, hnx, h⟩ := h
          exact ih5 nx hnx v3_39 v9 H locs ls hG (lv_sub hl10 [1, 2, 3, 4, 0] rfl) h
        refine lv_icmp_ne (tgt := 39) hx hb d_S_at_22 (by decide) (fun hc17 => ?_) (fun hc17 => ?_)
        · replace h := h.2 hc17
          exact k39 v3_5 H locs ls hG (lv_sub hl3 [0, 1, 2, 3, 4] rfl) h
        · replace h := h.1 hc17
          refine lv_aload_n hx hb d_S_at_25 rfl (lv_at hl3 0 rfl) ?_
          refine gget hx hb hw hown hK hG kd_S fa0 rfl 3 (by decide) rfl tw_946 (fun _ h9 => h9) d_S_at_26 ?_
          refine gtopq (fun o11 eo11 => ?_)
          replace h := h o11 eo11
          refine lv_iload hx hb d_S_at_29 (lv_at hl3 4 rfl) ?_
          obtain ⟨y12, ey12, h⟩ := h
          subst ey12
          obtain ⟨f13, h⟩ := h
          obtain ⟨hi14, h⟩ := h
          refine giald hx hb hK hG f13 hi14 d_S_at_31 ?_
          refine lv_iload_n hx hb d_S_at_32 rfl (lv_at hl3 2 rfl) ?_
          refine lv_icmp_ne (tgt := 39) hx hb d_S_at_33 (by decide) (fun hc16 => ?_) (fun hc16 => ?_)
          · replace h := h.2 hc16
            exact k39 v3_5 H locs ls hG (lv_sub hl3 [0, 1, 2, 3, 4] rfl) h
          · replace h := h.1 hc16
            refine lv_iload hx hb d_S_at_36 (lv_at hl3 4 rfl) ?_
            refine lv_istore_n (i := 3) (lv' := [(3, .int v4_5), (0, .ref a0), (1, .int a1), (2, .int a2), (4, .int v4_5)]) hx hb d_S_at_38 rfl hl3 (by decide) rfl (fun ls hl15 => ?_)
            exact k39 v4_5 H locs ls hG (lv_sub hl15 [1, 2, 3, 0, 4] rfl) h
  exact k5 n0_5 (-1) 0 H locs ls hG (lv_sub hl2 [2, 3, 4, 1, 0] rfl) h0_5
def w_S_isBeside (post : Int32 → Prop) (S : St) (a0 : Nat) (a1 : Int32) (a2 : Int32) : Prop :=
  ∀ o1 : Option Nat, o1 = sQ S 40 a0 → ∃ y2 : Nat, o1 = some y2 ∧ isA S 10 y2 ∧ vp_in a1 (sN S y2) ∧ ∀ o5 : Option Nat, o5 = sQ S 40 a0 → ∃ y6 : Nat, o5 = some y6 ∧ isA S 10 y6 ∧ vp_in a2 (sN S y6) ∧ ∀ v9 : Int32, v9 = (if 0 ≤ ((sR S y2 a1.toNatClampNeg) - (sR S y6 a2.toNatClampNeg)) then ((sR S y2 a1.toNatClampNeg) - (sR S y6 a2.toNatClampNeg)) else 0 - ((sR S y2 a1.toNatClampNeg) - (sR S y6 a2.toNatClampNeg))) → ∀ o10 : Option Nat, o10 = sQ S 41 a0 → ∃ y11 : Nat, o10 = some y11 ∧ isA S 10 y11 ∧ vp_in a1 (sN S y11) ∧ ∀ o14 : Option Nat, o14 = sQ S 41 a0 → ∃ y15 : Nat, o14 = some y15 ∧ isA S 10 y15 ∧ vp_in a2 (sN S y15) ∧ ∀ v18 : Int32, v18 = (if 0 ≤ ((sR S y11 a1.toNatClampNeg) - (sR S y15 a2.toNatClampNeg)) then ((sR S y11 a1.toNatClampNeg) - (sR S y15 a2.toNatClampNeg)) else 0 - ((sR S y11 a1.toNatClampNeg) - (sR S y15 a2.toNatClampNeg))) → ((v9 + v18) = 1 → post 1) ∧ (¬ (v9 + v18) = 1 → post 0)
set_option maxHeartbeats 4000000 in
set_option maxRecDepth 100000 in
theorem m_S_isBeside (l : Launch) (x : Cx) (S : St) (post : Int32 → Prop) (a0 : Nat) (a1 : Int32) (a2 : Int32) (fa0 : isA S 7 a0) (h : w_S_isBeside post S a0 a1 a2) : Met l y_S_isBeside [.code y_S_isBeside c_S_isBeside 3 (some .boolean)] { frames := 1, cells := 0, slots := 0, locals := 21 } (va_Pc [.ref a0, .int a1, .int a2] (GW x S)) (va_Qi (gPu post S) (gB x S) (xA x)) 0 0 (xA x) := by
  refine gMet (by decide +kernel) (Nat.le_of_ble_eq_true rfl) ?_
  intro p e s m args below meth c hx hb hr hown hlocks hin hw hK H locs hG ls hlA hml
  have hown : s.vm.findClass "WaltzHallModel$State" = some m.cls := hown
  have hl0 : lv_has ls 3 [(0, .ref a0), (1, .int a1), (2, .int a2)] := hlA
  unfold w_S_isBeside at h
  refine lv_aload_n hx hb d_S_isBeside_0 rfl (lv_at hl0 0 rfl) ?_
  refine gget hx hb hw hown hK hG kd_S fa0 rfl 2 (by decide) rfl tw_944 (fun _ h9 => h9) d_S_isBeside_1 ?_
  refine gtopq (fun o1 eo1 => ?_)
  replace h := h o1 eo1
  refine lv_iload_n hx hb d_S_isBeside_4 rfl (lv_at hl0 1 rfl) ?_
  obtain ⟨y2, ey2, h⟩ := h
  subst ey2
  obtain ⟨f3, h⟩ := h
  obtain ⟨hi4, h⟩ := h
  refine giald hx hb hK hG f3 hi4 d_S_isBeside_5 ?_
  refine lv_aload_n hx hb d_S_isBeside_6 rfl (lv_at hl0 0 rfl) ?_
  refine gget hx hb hw hown hK hG kd_S fa0 rfl 2 (by decide) rfl tw_944 (fun _ h9 => h9) d_S_isBeside_7 ?_
  refine gtopq (fun o5 eo5 => ?_)
  replace h := h o5 eo5
  refine lv_iload_n hx hb d_S_isBeside_10 rfl (lv_at hl0 2 rfl) ?_
  obtain ⟨y6, ey6, h⟩ := h
  subst ey6
  obtain ⟨f7, h⟩ := h
  obtain ⟨hi8, h⟩ := h
  refine giald hx hb hK hG f7 hi8 d_S_isBeside_11 ?_
  refine lv_isub hx hb d_S_isBeside_12 ?_
  refine va_mabs hx hb (hml.trans hl0.1.symm) hown (hw _ tw_1105) (hw _ tw_676) (hw _ tw_40) (hw _ tw_677) (Nat.le_of_ble_eq_true rfl) (Nat.le_of_ble_eq_true rfl) (Nat.le_of_ble_eq_true rfl) (Nat.le_of_ble_eq_true rfl) d_S_isBeside_13 ?_
  refine lv_topi (fun v9 ev9 => ?_)
  replace h := h v9 ev9
  refine lv_aload_n hx hb d_S_isBeside_16 rfl (lv_at hl0 0 rfl) ?_
  refine gget hx hb hw hown hK hG kd_S fa0 rfl 3 (by decide) rfl tw_946 (fun _ h9 => h9) d_S_isBeside_17 ?_
  refine gtopq (fun o10 eo10 => ?_)
  replace h := h o10 eo10
  refine lv_iload_n hx hb d_S_isBeside_20 rfl (lv_at hl0 1 rfl) ?_
  obtain ⟨y11, ey11, h⟩ := h
  subst ey11
  obtain ⟨f12, h⟩ := h
  obtain ⟨hi13, h⟩ := h
  refine giald hx hb hK hG f12 hi13 d_S_isBeside_21 ?_
  refine lv_aload_n hx hb d_S_isBeside_22 rfl (lv_at hl0 0 rfl) ?_
  refine gget hx hb hw hown hK hG kd_S fa0 rfl 3 (by decide) rfl tw_946 (fun _ h9 => h9) d_S_isBeside_23 ?_
  refine gtopq (fun o14 eo14 => ?_)
  replace h := h o14 eo14
  refine lv_iload_n hx hb d_S_isBeside_26 rfl (lv_at hl0 2 rfl) ?_
  obtain ⟨y15, ey15, h⟩ := h
  subst ey15
  obtain ⟨f16, h⟩ := h
  obtain ⟨hi17, h⟩ := h
  refine giald hx hb hK hG f16 hi17 d_S_isBeside_27 ?_
  refine lv_isub hx hb d_S_isBeside_28 ?_
  refine va_mabs hx hb (hml.trans hl0.1.symm) hown (hw _ tw_1105) (hw _ tw_676) (hw _ tw_40) (hw _ tw_677) (Nat.le_of_ble_eq_true rfl) (Nat.le_of_ble_eq_true rfl) (Nat.le_of_ble_eq_true rfl) (Nat.le_of_ble_eq_true rfl) d_S_isBeside_29 ?_
  refine lv_topi (fun v18 ev18 => ?_)
  replace h := h v18 ev18
  refine lv_iadd hx hb d_S_isBeside_32 ?_
  refine lv_iconst (v := 1) hx hb d_S_isBeside_33 (by decide) ?_
  refine lv_icmp_ne (tgt := 41) hx hb d_S_isBeside_34 (by decide) (fun hc19 => ?_) (fun hc19 => ?_)
  · replace h := h.2 hc19
    refine lv_iconst (v := 0) hx hb d_S_isBeside_41 (by decide) ?_
    exact gzret hx hb hr rfl hlocks hK hG gle.rf ⟨h, rfl⟩ (Nat.le_of_ble_eq_true rfl) (Nat.le_of_ble_eq_true rfl) d_S_isBeside_42
  · replace h := h.1 hc19
    refine lv_iconst (v := 1) hx hb d_S_isBeside_37 (by decide) ?_
    refine lv_goto (tgt := 42) hx hb d_S_isBeside_38 (by decide) ?_
    exact gzret hx hb hr rfl hlocks hK hG gle.rf ⟨h, rfl⟩ (Nat.le_of_ble_eq_true rfl) (Nat.le_of_ble_eq_true rfl) d_S_isBeside_42
def w_S_isTired (post : Int32 → Prop) (S : St) (a0 : Nat) (a1 : Int32) : Prop :=
  ∀ o1 : Option Nat, o1 = sQ S 43 a0 → ∃ y2 : Nat, o1 = some y2 ∧ isA S 10 y2 ∧ vp_in a1 (sN S y2) ∧ ∀ o5 : Option Nat, o5 = sQ S 44 a0 → ∃ y6 : Nat, o5 = some y6 ∧ isA S 10 y6 ∧ vp_in a1 (sN S y6) ∧ ((sR S y6 a1.toNatClampNeg) ≤ (sR S y2 a1.toNatClampNeg) → post 0) ∧ (¬ (sR S y6 a1.toNatClampNeg) ≤ (sR S y2 a1.toNatClampNeg) → post 1)
set_option maxHeartbeats 4000000 in
set_option maxRecDepth 100000 in
theorem m_S_isTired (l : Launch) (x : Cx) (S : St) (post : Int32 → Prop) (a0 : Nat) (a1 : Int32) (fa0 : isA S 7 a0) (h : w_S_isTired post S a0 a1) : Met l y_S_isTired [.code y_S_isTired c_S_isTired 2 (some .boolean)] { frames := 0, cells := 0, slots := 0, locals := 0 } (va_Pc [.ref a0, .int a1] (GW x S)) (va_Qi (gPu post S) (gB x S) (xA x)) 0 0 (xA x) := by
  refine gMet (by decide +kernel) (Nat.le_of_ble_eq_true rfl) ?_
  intro p e s m args below meth c hx hb hr hown hlocks hin hw hK H locs hG ls hlA hml
  have hown : s.vm.findClass "WaltzHallModel$State" = some m.cls := hown
  have hl0 : lv_has ls 2 [(0, .ref a0), (1, .int a1)] := hlA
  unfold w_S_isTired at h
  refine lv_aload_n hx hb d_S_isTired_0 rfl (lv_at hl0 0 rfl) ?_
  refine gget hx hb hw hown hK hG kd_S fa0 rfl 5 (by decide) rfl tw_950 (fun _ h9 => h9) d_S_isTired_1 ?_
  refine gtopq (fun o1 eo1 => ?_)
  replace h := h o1 eo1
  refine lv_iload_n hx hb d_S_isTired_4 rfl (lv_at hl0 1 rfl) ?_
  obtain ⟨y2, ey2, h⟩ := h
  subst ey2
  obtain ⟨f3, h⟩ := h
  obtain ⟨hi4, h⟩ := h
  refine giald hx hb hK hG f3 hi4 d_S_isTired_5 ?_
  refine lv_aload_n hx hb d_S_isTired_6 rfl (lv_at hl0 0 rfl) ?_
  refine gget hx hb hw hown hK hG kd_S fa0 rfl 6 (by decide) rfl tw_952 (fun _ h9 => h9) d_S_isTired_7 ?_
  refine gtopq (fun o5 eo5 => ?_)
  replace h := h o5 eo5
  refine lv_iload_n hx hb d_S_isTired_10 rfl (lv_at hl0 1 rfl) ?_
  obtain ⟨y6, ey6, h⟩ := h
  subst ey6
  obtain ⟨f7, h⟩ := h
  obtain ⟨hi8, h⟩ := h
  refine giald hx hb hK hG f7 hi8 d_S_isTired_11 ?_
  refine lv_icmp_ge (tgt := 19) hx hb d_S_isTired_12 (by decide) (fun hc9 => ?_) (fun hc9 => ?_)
  · replace h := h.1 hc9
    refine lv_iconst (v := 0) hx hb d_S_isTired_19 (by decide) ?_
    exact gzret hx hb hr rfl hlocks hK hG gle.rf ⟨h, rfl⟩ (Nat.le_of_ble_eq_true rfl) (Nat.le_of_ble_eq_true rfl) d_S_isTired_20
  · replace h := h.2 hc9
    refine lv_iconst (v := 1) hx hb d_S_isTired_15 (by decide) ?_
    refine lv_goto (tgt := 20) hx hb d_S_isTired_16 (by decide) ?_
    exact gzret hx hb hr rfl hlocks hK hG gle.rf ⟨h, rfl⟩ (Nat.le_of_ble_eq_true rfl) (Nat.le_of_ble_eq_true rfl) d_S_isTired_20
def w_S_isResting (post : Int32 → Prop) (S : St) (a0 : Nat) (a1 : Int32) : Prop :=
  (a1 = (-1) → post 0) ∧ (¬ a1 = (-1) → ∀ o1 : Option Nat, o1 = sQ S 49 a0 → ∃ y2 : Nat, o1 = some y2 ∧ isA S 10 y2 ∧ vp_in a1 (sN S y2) ∧ (0 < (sR S y2 a1.toNatClampNeg) → post 1) ∧ (¬ 0 < (sR S y2 a1.toNatClampNeg) → w_S_isTired (fun (r5 : Int32) => (r5 = 0 → post 0) ∧ (¬ r5 = 0 → post 1)) S a0 a1))
set_option maxHeartbeats 4000000 in
set_option maxRecDepth 100000 in
theorem m_S_isResting (l : Launch) (x : Cx) (S : St) (post : Int32 → Prop) (a0 : Nat) (a1 : Int32) (fa0 : isA S 7 a0) (h : w_S_isResting post S a0 a1) : Met l y_S_isResting [.code y_S_isResting c_S_isResting 2 (some .boolean)] { frames := 1, cells := 0, slots := 0, locals := 21 } (va_Pc [.ref a0, .int a1] (GW x S)) (va_Qi (gPu post S) (gB x S) (xA x)) 0 0 (xA x) := by
  refine gMet (by decide +kernel) (Nat.le_of_ble_eq_true rfl) ?_
  intro p e s m args below meth c hx hb hr hown hlocks hin hw hK H locs hG ls hlA hml
  have hown : s.vm.findClass "WaltzHallModel$State" = some m.cls := hown
  have hl0 : lv_has ls 2 [(0, .ref a0), (1, .int a1)] := hlA
  unfold w_S_isResting at h
  refine lv_iload_n hx hb d_S_isResting_0 rfl (lv_at hl0 1 rfl) ?_
  refine lv_iconst (v := (-1)) hx hb d_S_isResting_1 (by decide) ?_
  refine lv_icmp_eq (tgt := 26) hx hb d_S_isResting_2 (by decide) (fun hc8 => ?_) (fun hc8 => ?_)
  · replace h := h.1 hc8
    refine lv_iconst (v := 0) hx hb d_S_isResting_26 (by decide) ?_
    exact gzret hx hb hr rfl hlocks hK hG gle.rf ⟨h, rfl⟩ (Nat.le_of_ble_eq_true rfl) (Nat.le_of_ble_eq_true rfl) d_S_isResting_27
  · replace h := h.2 hc8
    refine lv_aload_n hx hb d_S_isResting_5 rfl (lv_at hl0 0 rfl) ?_
    refine gget hx hb hw hown hK hG kd_S fa0 rfl 11 (by decide) rfl tw_962 (fun _ h9 => h9) d_S_isResting_6 ?_
    refine gtopq (fun o1 eo1 => ?_)
    replace h := h o1 eo1
    refine lv_iload_n hx hb d_S_isResting_9 rfl (lv_at hl0 1 rfl) ?_
    obtain ⟨y2, ey2, h⟩ := h
    subst ey2
    obtain ⟨f3, h⟩ := h
    obtain ⟨hi4, h⟩ := h
    refine giald hx hb hK hG f3 hi4 d_S_isResting_10 ?_
    refine lv_if_gt (tgt := 22) hx hb d_S_isResting_11 (by decide) (fun hc7 => ?_) (fun hc7 => ?_)
    · replace h := h.1 hc7
      refine lv_iconst (v := 1) hx hb d_S_isResting_22 (by decide) ?_
      refine lv_goto (tgt := 27) hx hb d_S_isResting_23 (by decide) ?_
      exact gzret hx hb hr rfl hlocks hK hG gle.rf ⟨h, rfl⟩ (Nat.le_of_ble_eq_true rfl) (Nat.le_of_ble_eq_true rfl) d_S_isResting_27
    · replace h := h.2 hc7
      refine lv_aload_n hx hb d_S_isResting_14 rfl (lv_at hl0 0 rfl) ?_
      refine lv_iload_n hx hb d_S_isResting_15 rfl (lv_at hl0 1 rfl) ?_
      -- call S_isTired
      refine gpi hK hG (va_runV (As := [.int a1]) (rest := []) ⟨hx, hb, hml, hown, hw⟩ (m_S_isTired l x S _ a0 a1 fa0 h) ⟨gcb hw tw_1113 tw_44 tw_1110 hd_S_isTired rfl rfl ⟨(Nat.le_of_ble_eq_true rfl), (Nat.le_of_ble_eq_true rfl)⟩, hw _ tw_1112, hw _ tw_14⟩ (gpV hK hG kd_S fa0 rfl) rfl rfl hl0.1 rfl (lv_room (Nat.le_of_ble_eq_true rfl)) d_S_isResting_16 ⟨(Nat.le_of_ble_eq_true rfl), (Nat.le_of_ble_eq_true rfl)⟩) (fun r5 H locs h9 hG => ?_)
      replace h := h9
      clear h9
      refine lv_if_eq (tgt := 26) hx hb d_S_isResting_19 (by decide) (fun hc6 => ?_) (fun hc6 => ?_)
      · replace h := h.1 hc6
        refine lv_iconst (v := 0) hx hb d_S_isResting_26 (by decide) ?_
        exact gzret hx hb hr rfl hlocks hK hG gle.rf ⟨h, rfl⟩ (Nat.le_of_ble_eq_true rfl) (Nat.le_of_ble_eq_true rfl) d_S_isResting_27
      · replace h := h.2 hc6
        refine lv_iconst (v := 1) hx hb d_S_isResting_22 (by decide) ?_
        refine lv_goto (tgt := 27) hx hb d_S_isResting_23 (by decide) ?_
        exact gzret hx hb hr rfl hlocks hK hG gle.rf ⟨h, rfl⟩ (Nat.le_of_ble_eq_true rfl) (Nat.le_of_ble_eq_true rfl) d_S_isResting_27
def w_S_hit (post : St → Prop) (S : St) (a0 : Nat) (a1 : Int32) : Prop :=
  ∀ o1 : Option Nat, o1 = sQ S 49 a0 → ∃ y2 : Nat, o1 = some y2 ∧ isA S 10 y2 ∧ vp_in a1 (sN S y2) ∧ ∀ S5 : St, S5 = pR S y2 (a1.toNatClampNeg) 3 → ∀ o6 : Option Nat, o6 = sQ S5 51 a0 → ∃ y7 : Nat, o6 = some y7 ∧ isA S5 10 y7 ∧ vp_in a1 (sN S5 y7) ∧ vp_in a1 (sN S5 y7) ∧ ∀ S11 : St, S11 = pR S5 y7 (a1.toNatClampNeg) ((sR S5 y7 a1.toNatClampNeg) + 1) → post S11
set_option maxHeartbeats 4000000 in
set_option maxRecDepth 100000 in
theorem m_S_hit (l : Launch) (x : Cx) (S : St) (post : St → Prop) (a0 : Nat) (a1 : Int32) (fa0 : isA S 7 a0) (h : w_S_hit post S a0 a1) : Met l y_S_hit [.code y_S_hit c_S_hit 2 none] { frames := 0, cells := 0, slots := 0, locals := 0 } (va_Pc [.ref a0, .int a1] (GW x S)) (va_Qv post (gB x S) (xA x)) 0 0 (xA x) := by
  refine gMet (by decide +kernel) (Nat.le_of_ble_eq_true rfl) ?_
  intro p e s m args below meth c hx hb hr hown hlocks hin hw hK H locs hG ls hlA hml
  have hown : s.vm.findClass "WaltzHallModel$State" = some m.cls := hown
  have hl0 : lv_has ls 2 [(0, .ref a0), (1, .int a1)] := hlA
  have leS : gle S S := gle.rf
  unfold w_S_hit at h
  refine lv_aload_n hx hb d_S_hit_0 rfl (lv_at hl0 0 rfl) ?_
  refine gget hx hb hw hown hK hG kd_S fa0 rfl 11 (by decide) rfl tw_962 (fun _ h9 => h9) d_S_hit_1 ?_
  refine gtopq (fun o1 eo1 => ?_)
  replace h := h o1 eo1
  refine lv_iload_n hx hb d_S_hit_4 rfl (lv_at hl0 1 rfl) ?_
  refine lv_iconst (v := 3) hx hb d_S_hit_5 (by decide) ?_
  obtain ⟨y2, ey2, h⟩ := h
  subst ey2
  obtain ⟨f3, h⟩ := h
  obtain ⟨hi4, h⟩ := h
  refine giast hx hb hK hG f3 hi4 d_S_hit_6 (fun S5 H locs eS5 hle1 hG => ?_)
  replace h := h S5 eS5
  have fa0 := gle_isA hle1 fa0
  have f3 := gle_isA hle1 f3
  have leS := leS.tr hle1
  refine lv_aload_n hx hb d_S_hit_7 rfl (lv_at hl0 0 rfl) ?_
  refine gget hx hb hw hown hK hG kd_S fa0 rfl 13 (by decide) rfl tw_966 (fun _ h9 => h9) d_S_hit_8 ?_
  refine gtopq (fun o6 eo6 => ?_)
  replace h := h o6 eo6
  refine lv_iload_n hx hb d_S_hit_11 rfl (lv_at hl0 1 rfl) ?_
  refine lv_dup2_11 hx hb d_S_hit_12 rfl (gCat _) ?_
  obtain ⟨y7, ey7, h⟩ := h
  subst ey7
  obtain ⟨f8, h⟩ := h
  obtain ⟨hi9, h⟩ := h
  refine giald hx hb hK hG f8 hi9 d_S_hit_13 ?_
  refine lv_iconst (v := 1) hx hb d_S_hit_14 (by decide) ?_
  refine lv_iadd hx hb d_S_hit_15 ?_
  obtain ⟨hi10, h⟩ := h
  refine giast hx hb hK hG f8 hi10 d_S_hit_16 (fun S11 H locs eS11 hle1 hG => ?_)
  replace h := h S11 eS11
  have fa0 := gle_isA hle1 fa0
  have f3 := gle_isA hle1 f3
  have f8 := gle_isA hle1 f8
  have leS := leS.tr hle1
  exact gvret hx hb hr hlocks hK hG leS h (Nat.le_of_ble_eq_true rfl) (Nat.le_of_ble_eq_true rfl) d_S_hit_17
def w_S_bump (post : St → Prop) (S : St) (a0 : Nat) (a1 : Int32) (a2 : Int32) (a3 : Int32) (a4 : Int32) : Prop :=
  w_S_at (fun (r1 : Int32) => (r1 = (-1) → post S) ∧ (¬ r1 = (-1) → (r1 = a3 → post S) ∧ (¬ r1 = a3 → (r1 = a4 → post S) ∧ (¬ r1 = a4 → w_S_hit (fun (S3 : St) => post S3) S a0 r1)))) S a0 a1 a2
set_option maxHeartbeats 4000000 in
set_option maxRecDepth 100000 in
theorem m_S_bump (l : Launch) (x : Cx) (S : St) (post : St → Prop) (a0 : Nat) (a1 : Int32) (a2 : Int32) (a3 : Int32) (a4 : Int32) (fa0 : isA S 7 a0) (h : w_S_bump post S a0 a1 a2 a3 a4) : Met l y_S_bump [.code y_S_bump c_S_bump 6 none] { frames := 1, cells := 0, slots := 0, locals := 24 } (va_Pc [.ref a0, .int a1, .int a2, .int a3, .int a4] (GW x S)) (va_Qv post (gB x S) (xA x)) 0 0 (xA x) := by
  refine gMet (by decide +kernel) (Nat.le_of_ble_eq_true rfl) ?_
  intro p e s m args below meth c hx hb hr hown hlocks hin hw hK H locs hG ls hlA hml
  have hown : s.vm.findClass "WaltzHallModel$State" = some m.cls := hown
  have hl0 : lv_has ls 6 [(0, .ref a0), (1, .int a1), (2, .int a2), (3, .int a3), (4, .int a4)] := hlA
  have leS : gle S S := gle.rf
  unfold w_S_bump at h
  refine lv_aload_n hx hb d_S_bump_0 rfl (lv_at hl0 0 rfl) ?_
  refine lv_iload_n hx hb d_S_bump_1 rfl (lv_at hl0 1 rfl) ?_
  refine lv_iload_n hx hb d_S_bump_2 rfl (lv_at hl0 2 rfl) ?_
  -- call S_at
  refine gpi hK hG (va_runV (As := [.int a1, .int a2]) (rest := []) ⟨hx, hb, hml, hown, hw⟩ (m_S_at l x S _ a0 a1 a2 fa0 h) ⟨gcb hw tw_1088 tw_44 tw_1179 hd_S_at rfl rfl ⟨(Nat.le_of_ble_eq_true rfl), (Nat.le_of_ble_eq_true rfl)⟩, hw _ tw_1086, hw _ tw_1087⟩ (gpV hK hG kd_S fa0 rfl) rfl rfl hl0.1 rfl (lv_room (Nat.le_of_ble_eq_true rfl)) d_S_bump_3 ⟨(Nat.le_of_ble_eq_true rfl), (Nat.le_of_ble_eq_true rfl)⟩) (fun r1 H locs h9 hG => ?_)
  replace h := h9
  clear h9
  refine lv_istore (lv' := [(5, .int r1), (0, .ref a0), (1, .int a1), (2, .int a2), (3, .int a3), (4, .int a4)]) hx hb d_S_bump_6 hl0 (by decide) rfl (fun ls hl2 => ?_)
  refine lv_iload hx hb d_S_bump_8 (lv_at hl2 0 rfl) ?_
  refine lv_iconst (v := (-1)) hx hb d_S_bump_10 (by decide) ?_
  refine lv_icmp_eq (tgt := 33) hx hb d_S_bump_11 (by decide) (fun hc6 => ?_) (fun hc6 => ?_)
  · replace h := h.1 hc6
    exact gvret hx hb hr hlocks hK hG leS h (Nat.le_of_ble_eq_true rfl) (Nat.le_of_ble_eq_true rfl) d_S_bump_33
  · replace h := h.2 hc6
    refine lv_iload hx hb d_S_bump_14 (lv_at hl2 0 rfl) ?_
    refine lv_iload_n hx hb d_S_bump_16 rfl (lv_at hl2 4 rfl) ?_
    refine lv_icmp_eq (tgt := 33) hx hb d_S_bump_17 (by decide) (fun hc5 => ?_) (fun hc5 => ?_)
    · replace h := h.1 hc5
      exact gvret hx hb hr hlocks hK hG leS h (Nat.le_of_ble_eq_true rfl) (Nat.le_of_ble_eq_true rfl) d_S_bump_33
    · replace h := h.2 hc5
      refine lv_iload hx hb d_S_bump_20 (lv_at hl2 0 rfl) ?_
      refine lv_iload hx hb d_S_bump_22 (lv_at hl2 5 rfl) ?_
      refine lv_icmp_eq (tgt := 33) hx hb d_S_bump_24 (by decide) (fun hc4 => ?_) (fun hc4 => ?_)
      · replace h := h.1 hc4
        exact gvret hx hb hr hlocks hK hG leS h (Nat.le_of_ble_eq_true rfl) (Nat.le_of_ble_eq_true rfl) d_S_bump_33
      · replace h := h.2 hc4
        refine lv_aload_n hx hb d_S_bump_27 rfl (lv_at hl2 1 rfl) ?_
        refine lv_iload hx hb d_S_bump_28 (lv_at hl2 0 rfl) ?_
        -- call S_hit
        refine gcv hK hG (va_runV (As := [.int r1]) (rest := []) ⟨hx, hb, hml, hown, hw⟩ (m_S_hit l x S _ a0 r1 fa0 h) ⟨gcb hw tw_1188 tw_44 tw_1185 hd_S_hit rfl rfl ⟨(Nat.le_of_ble_eq_true rfl), (Nat.le_of_ble_eq_true rfl)⟩, hw _ tw_1187, hw _ tw_22⟩ (gpV hK hG kd_S fa0 rfl) rfl rfl hl2.1 rfl (lv_room (Nat.le_of_ble_eq_true rfl)) d_S_bump_30 ⟨(Nat.le_of_ble_eq_true rfl), (Nat.le_of_ble_eq_true rfl)⟩) (fun S3 H locs h9 hle1 hG => ?_)
        replace h := h9
        clear h9
        have fa0 := gle_isA hle1 fa0
        have leS := leS.tr hle1
        exact gvret hx hb hr hlocks hK hG leS h (Nat.le_of_ble_eq_true rfl) (Nat.le_of_ble_eq_true rfl) d_S_bump_33
def w_S_finish (post : St → Prop) (S : St) (a0 : Nat) (a1 : Int32) (a2 : Int32) (a3 : Int32) (a4 : Int32) : Prop :=
  ∀ o1 : Option Nat, o1 = sQ S 40 a0 → ∃ y2 : Nat, o1 = some y2 ∧ isA S 10 y2 ∧ vp_in a1 (sN S y2) ∧ ∀ S5 : St, S5 = pR S y2 (a1.toNatClampNeg) a2 → ∀ o6 : Option Nat, o6 = sQ S5 41 a0 → ∃ y7 : Nat, o6 = some y7 ∧ isA S5 10 y7 ∧ vp_in a1 (sN S5 y7) ∧ ∀ S10 : St, S10 = pR S5 y7 (a1.toNatClampNeg) a3 → ∀ o11 : Option Nat, o11 = sQ S10 42 a0 → ∀ o12 : Option Nat, o12 = sQ S10 42 a0 → ∃ y13 : Nat, o12 = some y13 ∧ isA S10 10 y13 ∧ vp_in a1 (sN S10 y13) ∧ ∀ v16 : Int32, v16 = ((sR S10 y13 a1.toNatClampNeg) + a4) - ((sR S10 y13 a1.toNatClampNeg) + a4) / 4 * 4 → ∃ y17 : Nat, o11 = some y17 ∧ isA S10 10 y17 ∧ vp_in a1 (sN S10 y17) ∧ ∀ S20 : St, S20 = pR S10 y17 (a1.toNatClampNeg) v16 → ∀ o21 : Option Nat, o21 = sQ S20 43 a0 → ∃ y22 : Nat, o21 = some y22 ∧ isA S20 10 y22 ∧ vp_in a1 (sN S20 y22) ∧ ∀ o25 : Option Nat, o25 = sQ S20 44 a0 → ∃ y26 : Nat, o25 = some y26 ∧ isA S20 10 y26 ∧ vp_in a1 (sN S20 y26) ∧ vp_in a1 (sN S20 y22) ∧ ∀ S30 : St, S30 = pR S20 y22 (a1.toNatClampNeg) ((sR S20 y22 a1.toNatClampNeg) - (sR S20 y26 a1.toNatClampNeg)) → ∀ o31 : Option Nat, o31 = sQ S30 50 a0 → ∃ y32 : Nat, o31 = some y32 ∧ isA S30 10 y32 ∧ vp_in a1 (sN S30 y32) ∧ vp_in a1 (sN S30 y32) ∧ ∀ S36 : St, S36 = pR S30 y32 (a1.toNatClampNeg) ((sR S30 y32 a1.toNatClampNeg) + 1) → post S36
set_option maxHeartbeats 4000000 in
set_option maxRecDepth 100000 in
theorem m_S_finish (l : Launch) (x : Cx) (S : St) (post : St → Prop) (a0 : Nat) (a1 : Int32) (a2 : Int32) (a3 : Int32) (a4 : Int32) (fa0 : isA S 7 a0) (h : w_S_finish post S a0 a1 a2 a3 a4) : Met l y_S_finish [.code y_S_finish c_S_finish 5 none] { frames := 0, cells := 0, slots := 0, locals := 0 } (va_Pc [.ref a0, .int a1, .int a2, .int a3, .int a4] (GW x S)) (va_Qv post (gB x S) (xA x)) 0 0 (xA x) := by
  refine gMet (by decide +kernel) (Nat.le_of_ble_eq_true rfl) ?_
  intro p e s m args below meth c hx hb hr hown hlocks hin hw hK H locs hG ls hlA hml
  have hown : s.vm.findClass "WaltzHallModel$State" = some m.cls := hown
  have hl0 : lv_has ls 5 [(0, .ref a0), (1, .int a1), (2, .int a2), (3, .int a3), (4, .int a4)] := hlA
  have leS : gle S S := gle.rf
  unfold w_S_finish at h
  refine lv_aload_n hx hb d_S_finish_0 rfl (lv_at hl0 0 rfl) ?_
  refine gget hx hb hw hown hK hG kd_S fa0 rfl 2 (by decide) rfl tw_944 (fun _ h9 => h9) d_S_finish_1 ?_
  refine gtopq (fun o1 eo1 => ?_)
  replace h := h o1 eo1
  refine lv_iload_n hx hb d_S_finish_4 rfl (lv_at hl0 1 rfl) ?_
  refine lv_iload_n hx hb d_S_finish_5 rfl (lv_at hl0 2 rfl) ?_
  obtain ⟨y2, ey2, h⟩ := h
  subst ey2
  obtain ⟨f3, h⟩ := h
  obtain ⟨hi4, h⟩ := h
  refine giast hx hb hK hG f3 hi4 d_S_finish_6 (fun S5 H locs eS5 hle1 hG => ?_)
  replace h := h S5 eS5
  have fa0 := gle_isA hle1 fa0
  have f3 := gle_isA hle1 f3
  have leS := leS.tr hle1
  refine lv_aload_n hx hb d_S_finish_7 rfl (lv_at hl0 0 rfl) ?_
  refine gget hx hb hw hown hK hG kd_S fa0 rfl 3 (by decide) rfl tw_946 (fun _ h9 => h9) d_S_finish_8 ?_
  refine gtopq (fun o6 eo6 => ?_)
  replace h := h o6 eo6
  refine lv_iload_n hx hb d_S_finish_11 rfl (lv_at hl0 1 rfl) ?_
  refine lv_iload_n hx hb d_S_finish_12 rfl (lv_at hl0 3 rfl) ?_
  obtain ⟨y7, ey7, h⟩ := h
  subst ey7
  obtain ⟨f8, h⟩ := h
  obtain ⟨hi9, h⟩ := h
  refine giast hx hb hK hG f8 hi9 d_S_finish_13 (fun S10 H locs eS10 hle1 hG => ?_)
  replace h := h S10 eS10
  have fa0 := gle_isA hle1 fa0
  have f3 := gle_isA hle1 f3
  have f8 := gle_isA hle1 f8
  have leS := leS.tr hle1
  refine lv_aload_n hx hb d_S_finish_14 rfl (lv_at hl0 0 rfl) ?_
  refine gget hx hb hw hown hK hG kd_S fa0 rfl 4 (by decide) rfl tw_948 (fun _ h9 => h9) d_S_finish_15 ?_
  refine gtopq (fun o11 eo11 => ?_)
  replace h := h o11 eo11
  refine lv_iload_n hx hb d_S_finish_18 rfl (lv_at hl0 1 rfl) ?_
  refine lv_aload_n hx hb d_S_finish_19 rfl (lv_at hl0 0 rfl) ?_
  refine gget hx hb hw hown hK hG kd_S fa0 rfl 4 (by decide) rfl tw_948 (fun _ h9 => h9) d_S_finish_20 ?_
  refine gtopq (fun o12 eo12 => ?_)
  replace h := h o12 eo12
  refine lv_iload_n hx hb d_S_finish_23 rfl (lv_at hl0 1 rfl) ?_
  obtain ⟨y13, ey13, h⟩ := h
  subst ey13
  obtain ⟨f14, h⟩ := h
  obtain ⟨hi15, h⟩ := h
  refine giald hx hb hK hG f14 hi15 d_S_finish_24 ?_
  refine lv_iload hx hb d_S_finish_25 (lv_at hl0 4 rfl) ?_
  refine lv_iadd hx hb d_S_finish_27 ?_
  refine lv_iconst (v := 4) hx hb d_S_finish_28 (by decide) ?_
  refine lv_irem hx hb d_S_finish_29 (by decide) ?_
  refine lv_topi (fun v16 ev16 => ?_)
  replace h := h v16 ev16
  obtain ⟨y17, ey17, h⟩ := h
  subst ey17
  obtain ⟨f18, h⟩ := h
  obtain ⟨hi19, h⟩ := h
  refine giast hx hb hK hG f18 hi19 d_S_finish_30 (fun S20 H locs eS20 hle1 hG => ?_)
  replace h := h S20 eS20
  have fa0 := gle_isA hle1 fa0
  have f3 := gle_isA hle1 f3
  have f8 := gle_isA hle1 f8
  have f14 := gle_isA hle1 f14
  have f18 := gle_isA hle1 f18
  have leS := leS.tr hle1
  refine lv_aload_n hx hb d_S_finish_31 rfl (lv_at hl0 0 rfl) ?_
  refine gget hx hb hw hown hK hG kd_S fa0 rfl 5 (by decide) rfl tw_950 (fun _ h9 => h9) d_S_finish_32 ?_
  refine gtopq (fun o21 eo21 => ?_)
  replace h := h o21 eo21
  refine lv_iload_n hx hb d_S_finish_35 rfl (lv_at hl0 1 rfl) ?_
  refine lv_dup2_11 hx hb d_S_finish_36 rfl (gCat _) ?_
  obtain ⟨y22, ey22, h⟩ := h
  subst ey22
  obtain ⟨f23, h⟩ := h
  obtain ⟨hi24, h⟩ := h
  refine giald hx hb hK hG f23 hi24 d_S_finish_37 ?_
  refine lv_aload_n hx hb d_S_finish_38 rfl (lv_at hl0 0 rfl) ?_
  refine gget hx hb hw hown hK hG kd_S fa0 rfl 6 (by decide) rfl tw_952 (fun _ h9 => h9) d_S_finish_39 ?_
  refine gtopq (fun o25 eo25 => ?_)
  replace h := h o25 eo25
  refine lv_iload_n hx hb d_S_finish_42 rfl (lv_at hl0 1 rfl) ?_
  obtain ⟨y26, ey26, h⟩ := h
  subst ey26
  obtain ⟨f27, h⟩ := h
  obtain ⟨hi28, h⟩ := h
  refine giald hx hb hK hG f27 hi28 d_S_finish_43 ?_
  refine lv_isub hx hb d_S_finish_44 ?_
  obtain ⟨hi29, h⟩ := h
  refine giast hx hb hK hG f23 hi29 d_S_finish_45 (fun S30 H locs eS30 hle1 hG => ?_)
  replace h := h S30 eS30
  have fa0 := gle_isA hle1 fa0
  have f3 := gle_isA hle1 f3
  have f8 := gle_isA hle1 f8
  have f14 := gle_isA hle1 f14
  have f18 := gle_isA hle1 f18
  have f23 := gle_isA hle1 f23
  have f27 := gle_isA hle1 f27
  have leS := leS.tr hle1
  refine lv_aload_n hx hb d_S_finish_46 rfl (lv_at hl0 0 rfl) ?_
  refine gget hx hb hw hown hK hG kd_S fa0 rfl 12 (by decide) rfl tw_964 (fun _ h9 => h9) d_S_finish_47 ?_
  refine gtopq (fun o31 eo31 => ?_)
  replace h := h o31 eo31
  refine lv_iload_n hx hb d_S_finish_50 rfl (lv_at hl0 1 rfl) ?_
  refine lv_dup2_11 hx hb d_S_finish_51 rfl (gCat _) ?_
  obtain ⟨y32, ey32, h⟩ := h
  subst ey32
  obtain ⟨f33, h⟩ := h
  obtain ⟨hi34, h⟩ := h
  refine giald hx hb hK hG f33 hi34 d_S_finish_52 ?_
  refine lv_iconst (v := 1) hx hb d_S_finish_53 (by decide) ?_
  refine lv_iadd hx hb d_S_finish_54 ?_
  obtain ⟨hi35, h⟩ := h
  refine giast hx hb hK hG f33 hi35 d_S_finish_55 (fun S36 H locs eS36 hle1 hG => ?_)
  replace h := h S36 eS36
  have fa0 := gle_isA hle1 fa0
  have f3 := gle_isA hle1 f3
  have f8 := gle_isA hle1 f8
  have f14 := gle_isA hle1 f14
  have f18 := gle_isA hle1 f18
  have f23 := gle_isA hle1 f23
  have f27 := gle_isA hle1 f27
  have f33 := gle_isA hle1 f33
  have leS := leS.tr hle1
  exact gvret hx hb hr hlocks hK hG leS h (Nat.le_of_ble_eq_true rfl) (Nat.le_of_ble_eq_true rfl) d_S_finish_56
def w_M_isIn (post : Int32 → Prop) (S : St) (a0 : Int32) (a1 : Int32) (a2 : Int32) : Prop :=
  (a0 < a1 → post 0) ∧ (¬ a0 < a1 → (a2 < a0 → post 0) ∧ (¬ a2 < a0 → post 1))
set_option maxHeartbeats 4000000 in
set_option maxRecDepth 100000 in
theorem m_M_isIn (l : Launch) (x : Cx) (S : St) (post : Int32 → Prop) (a0 : Int32) (a1 : Int32) (a2 : Int32) (h : w_M_isIn post S a0 a1 a2) : Met l y_M_isIn [.code y_M_isIn c_M_isIn 3 (some .boolean)] { frames := 0, cells := 0, slots := 0, locals := 0 } (va_Pc [.int a0, .int a1, .int a2] (GW x S)) (va_Qi (gPu post S) (gB x S) (xA x)) 0 0 (xA x) := by
  refine gMet (by decide +kernel) (Nat.le_of_ble_eq_true rfl) ?_
  intro p e s m args below meth c hx hb hr hown hlocks hin hw hK H locs hG ls hlA hml
  have hown : s.vm.findClass "WaltzHallModel" = some m.cls := hown
  have hl0 : lv_has ls 3 [(0, .int a0), (1, .int a1), (2, .int a2)] := hlA
  unfold w_M_isIn at h
  refine lv_iload_n hx hb d_M_isIn_0 rfl (lv_at hl0 0 rfl) ?_
  refine lv_iload_n hx hb d_M_isIn_1 rfl (lv_at hl0 1 rfl) ?_
  refine lv_icmp_lt (tgt := 14) hx hb d_M_isIn_2 (by decide) (fun hc2 => ?_) (fun hc2 => ?_)
  · replace h := h.1 hc2
    refine lv_iconst (v := 0) hx hb d_M_isIn_14 (by decide) ?_
    exact gzret hx hb hr rfl hlocks hK hG gle.rf ⟨h, rfl⟩ (Nat.le_of_ble_eq_true rfl) (Nat.le_of_ble_eq_true rfl) d_M_isIn_15
  · replace h := h.2 hc2
    refine lv_iload_n hx hb d_M_isIn_5 rfl (lv_at hl0 0 rfl) ?_
    refine lv_iload_n hx hb d_M_isIn_6 rfl (lv_at hl0 2 rfl) ?_
    refine lv_icmp_gt (tgt := 14) hx hb d_M_isIn_7 (by decide) (fun hc1 => ?_) (fun hc1 => ?_)
    · replace h := h.1 hc1
      refine lv_iconst (v := 0) hx hb d_M_isIn_14 (by decide) ?_
      exact gzret hx hb hr rfl hlocks hK hG gle.rf ⟨h, rfl⟩ (Nat.le_of_ble_eq_true rfl) (Nat.le_of_ble_eq_true rfl) d_M_isIn_15
    · replace h := h.2 hc1
      refine lv_iconst (v := 1) hx hb d_M_isIn_10 (by decide) ?_
      refine lv_goto (tgt := 15) hx hb d_M_isIn_11 (by decide) ?_
      exact gzret hx hb hr rfl hlocks hK hG gle.rf ⟨h, rfl⟩ (Nat.le_of_ble_eq_true rfl) (Nat.le_of_ble_eq_true rfl) d_M_isIn_15
def w_S_isFree (post : Int32 → Prop) (S : St) (a0 : Nat) (a1 : Int32) (a2 : Int32) (a3 : Int32) (a4 : Int32) : Prop :=
  w_S_at (fun (r1 : Int32) => w_M_isIn (fun (r3 : Int32) => (r3 = 0 → post 0) ∧ (¬ r3 = 0 → w_M_isIn (fun (r4 : Int32) => (r4 = 0 → post 0) ∧ (¬ r4 = 0 → (r1 = (-1) → post 1) ∧ (¬ r1 = (-1) → (r1 = a3 → post 1) ∧ (¬ r1 = a3 → (r1 = a4 → post 1) ∧ (¬ r1 = a4 → post 0))))) S a2 0 15)) S a1 0 15) S a0 a1 a2
set_option maxHeartbeats 4000000 in
set_option maxRecDepth 100000 in
theorem m_S_isFree (l : Launch) (x : Cx) (S : St) (post : Int32 → Prop) (a0 : Nat) (a1 : Int32) (a2 : Int32) (a3 : Int32) (a4 : Int32) (fa0 : isA S 7 a0) (h : w_S_isFree post S a0 a1 a2 a3 a4) : Met l y_S_isFree [.code y_S_isFree c_S_isFree 6 (some .boolean)] { frames := 1, cells := 0, slots := 0, locals := 24 } (va_Pc [.ref a0, .int a1, .int a2, .int a3, .int a4] (GW x S)) (va_Qi (gPu post S) (gB x S) (xA x)) 0 0 (xA x) := by
  refine gMet (by decide +kernel) (Nat.le_of_ble_eq_true rfl) ?_
  intro p e s m args below meth c hx hb hr hown hlocks hin hw hK H locs hG ls hlA hml
  have hown : s.vm.findClass "WaltzHallModel$State" = some m.cls := hown
  have hl0 : lv_has ls 6 [(0, .ref a0), (1, .int a1), (2, .int a2), (3, .int a3), (4, .int a4)] := hlA
  unfold w_S_isFree at h
  refine lv_aload_n hx hb d_S_isFree_0 rfl (lv_at hl0 0 rfl) ?_
  refine lv_iload_n hx hb d_S_isFree_1 rfl (lv_at hl0 1 rfl) ?_
  refine lv_iload_n hx hb d_S_isFree_2 rfl (lv_at hl0 2 rfl) ?_
  -- call S_at
  refine gpi hK hG (va_runV (As := [.int a1, .int a2]) (rest := []) ⟨hx, hb, hml, hown, hw⟩ (m_S_at l x S _ a0 a1 a2 fa0 h) ⟨gcb hw tw_1088 tw_44 tw_1179 hd_S_at rfl rfl ⟨(Nat.le_of_ble_eq_true rfl), (Nat.le_of_ble_eq_true rfl)⟩, hw _ tw_1086, hw _ tw_1087⟩ (gpV hK hG kd_S fa0 rfl) rfl rfl hl0.1 rfl (lv_room (Nat.le_of_ble_eq_true rfl)) d_S_isFree_3 ⟨(Nat.le_of_ble_eq_true rfl), (Nat.le_of_ble_eq_true rfl)⟩) (fun r1 H locs h9 hG => ?_)
  replace h := h9
  clear h9
  refine lv_istore (lv' := [(5, .int r1), (0, .ref a0), (1, .int a1), (2, .int a2), (3, .int a3), (4, .int a4)]) hx hb d_S_isFree_6 hl0 (by decide) rfl (fun ls hl2 => ?_)
  refine lv_iload_n hx hb d_S_isFree_8 rfl (lv_at hl2 2 rfl) ?_
  refine lv_iconst (v := 0) hx hb d_S_isFree_9 (by decide) ?_
  refine lv_bipush (v := 15) hx hb d_S_isFree_10 (by decide) ?_
  -- call M_isIn
  refine gpi hK hG (va_runSN (As := [.int a1, .int 0, .int 15]) (rest := []) ⟨hx, hb, hml, hown, hw⟩ (m_M_isIn l x S _ a1 0 15  h) ⟨gcn hw tw_1059 tw_43 tw_1180 hd_M_isIn rfl rfl ⟨(Nat.le_of_ble_eq_true rfl), (Nat.le_of_ble_eq_true rfl)⟩, hw _ tw_1058, trivial⟩ (gpS hK hG) rfl rfl hl2.1 rfl (lv_room (Nat.le_of_ble_eq_true rfl)) d_S_isFree_12 ⟨(Nat.le_of_ble_eq_true rfl), (Nat.le_of_ble_eq_true rfl)⟩) (fun r3 H locs h9 hG => ?_)
  replace h := h9
  clear h9
  refine lv_if_eq (tgt := 51) hx hb d_S_isFree_15 (by decide) (fun hc9 => ?_) (fun hc9 => ?_)
  · replace h := h.1 hc9
    refine lv_iconst (v := 0) hx hb d_S_isFree_51 (by decide) ?_
    exact gzret hx hb hr rfl hlocks hK hG gle.rf ⟨h, rfl⟩ (Nat.le_of_ble_eq_true rfl) (Nat.le_of_ble_eq_true rfl) d_S_isFree_52
  · replace h := h.2 hc9
    refine lv_iload_n hx hb d_S_isFree_18 rfl (lv_at hl2 3 rfl) ?_
    refine lv_iconst (v := 0) hx hb d_S_isFree_19 (by decide) ?_
    refine lv_bipush (v := 15) hx hb d_S_isFree_20 (by decide) ?_
    -- call M_isIn
    refine gpi hK hG (va_runSN (As := [.int a2, .int 0, .int 15]) (rest := []) ⟨hx, hb, hml, hown, hw⟩ (m_M_isIn l x S _ a2 0 15  h) ⟨gcn hw tw_1059 tw_43 tw_1180 hd_M_isIn rfl rfl ⟨(Nat.le_of_ble_eq_true rfl), (Nat.le_of_ble_eq_true rfl)⟩, hw _ tw_1058, trivial⟩ (gpS hK hG) rfl rfl hl2.1 rfl (lv_room (Nat.le_of_ble_eq_true rfl)) d_S_isFree_22 ⟨(Nat.le_of_ble_eq_true rfl), (Nat.le_of_ble_eq_true rfl)⟩) (fun r4 H locs h9 hG => ?_)
    replace h := h9
    clear h9
    refine lv_if_eq (tgt := 51) hx hb d_S_isFree_25 (by decide) (fun hc8 => ?_) (fun hc8 => ?_)
    · replace h := h.1 hc8
      refine lv_iconst (v := 0) hx hb d_S_isFree_51 (by decide) ?_
      exact gzret hx hb hr rfl hlocks hK hG gle.rf ⟨h, rfl⟩ (Nat.le_of_ble_eq_true rfl) (Nat.le_of_ble_eq_true rfl) d_S_isFree_52
    · replace h := h.2 hc8
      refine lv_iload hx hb d_S_isFree_28 (lv_at hl2 0 rfl) ?_
      refine lv_iconst (v := (-1)) hx hb d_S_isFree_30 (by decide) ?_
      refine lv_icmp_eq (tgt := 47) hx hb d_S_isFree_31 (by decide) (fun hc7 => ?_) (fun hc7 => ?_)
      · replace h := h.1 hc7
        refine lv_iconst (v := 1) hx hb d_S_isFree_47 (by decide) ?_
        refine lv_goto (tgt := 52) hx hb d_S_isFree_48 (by decide) ?_
        exact gzret hx hb hr rfl hlocks hK hG gle.rf ⟨h, rfl⟩ (Nat.le_of_ble_eq_true rfl) (Nat.le_of_ble_eq_true rfl) d_S_isFree_52
      · replace h := h.2 hc7
        refine lv_iload hx hb d_S_isFree_34 (lv_at hl2 0 rfl) ?_
        refine lv_iload_n hx hb d_S_isFree_36 rfl (lv_at hl2 4 rfl) ?_
        refine lv_icmp_eq (tgt := 47) hx hb d_S_isFree_37 (by decide) (fun hc6 => ?_) (fun hc6 => ?_)
        · replace h := h.1 hc6
          refine lv_iconst (v := 1) hx hb d_S_isFree_47 (by decide) ?_
          refine lv_goto (tgt := 52) hx hb d_S_isFree_48 (by decide) ?_
          exact gzret hx hb hr rfl hlocks hK hG gle.rf ⟨h, rfl⟩ (Nat.le_of_ble_eq_true rfl) (Nat.le_of_ble_eq_true rfl) d_S_isFree_52
        · replace h := h.2 hc6
          refine lv_iload hx hb d_S_isFree_40 (lv_at hl2 0 rfl) ?_
          refine lv_iload hx hb d_S_isFree_42 (lv_at hl2 5 rfl) ?_
          refine lv_icmp_ne (tgt := 51) hx hb d_S_isFree_44 (by decide) (fun hc5 => ?_) (fun hc5 => ?_)
          · replace h := h.2 hc5
            refine lv_iconst (v := 0) hx hb d_S_isFree_51 (by decide) ?_
            exact gzret hx hb hr rfl hlocks hK hG gle.rf ⟨h, rfl⟩ (Nat.le_of_ble_eq_true rfl) (Nat.le_of_ble_eq_true rfl) d_S_isFree_52
          · replace h := h.1 hc5
            refine lv_iconst (v := 1) hx hb d_S_isFree_47 (by decide) ?_
            refine lv_goto (tgt := 52) hx hb d_S_isFree_48 (by decide) ?_
            exact gzret hx hb hr rfl hlocks hK hG gle.rf ⟨h, rfl⟩ (Nat.le_of_ble_eq_true rfl) (Nat.le_of_ble_eq_true rfl) d_S_isFree_52
def w_S_act (post : St → Prop) (S : St) (a0 : Nat) (a1 : Int32) : Prop :=
  ∀ o1 : Option Nat, o1 = sQ S 47 a0 → ∃ y2 : Nat, o1 = some y2 ∧ isA S 10 y2 ∧ vp_in a1 (sN S y2) ∧ ∀ v5 : Int32, v5 = sR S y2 a1.toNatClampNeg → ∀ o7 : Option Nat, o7 = sQ S 55 a0 → ∃ y8 : Nat, o7 = some y8 ∧ isA S 8 y8 ∧ ∀ o10 : Option Nat, o10 = sQ S 59 y8 → ∀ o11 : Option Nat, o11 = sQ S 45 a0 → ∃ y12 : Nat, o11 = some y12 ∧ isA S 10 y12 ∧ vp_in a1 (sN S y12) ∧ ∀ o15 : Option Nat, o15 = sQ S 46 a0 → ∃ y16 : Nat, o15 = some y16 ∧ isA S 10 y16 ∧ vp_in a1 (sN S y16) ∧ ∃ y19 : Nat, o10 = some y19 ∧ isA S 10 y19 ∧ vp_in ((24 * (sR S y12 a1.toNatClampNeg)) + (sR S y16 a1.toNatClampNeg)) (sN S y19) ∧ ∀ v22 : Int32, v22 = sR S y19 ((24 * (sR S y12 a1.toNatClampNeg)) + (sR S y16 a1.toNatClampNeg)).toNatClampNeg → ∀ o24 : Option Nat, o24 = sQ S 46 a0 → ∀ o25 : Option Nat, o25 = sQ S 46 a0 → ∃ y26 : Nat, o25 = some y26 ∧ isA S 10 y26 ∧ vp_in a1 (sN S y26) ∧ ∀ o29 : Option Nat, o29 = sQ S 55 a0 → ∃ y30 : Nat, o29 = some y30 ∧ isA S 8 y30 ∧ ∀ o32 : Option Nat, o32 = sQ S 60 y30 → ∀ o33 : Option Nat, o33 = sQ S 45 a0 → ∃ y34 : Nat, o33 = some y34 ∧ isA S 10 y34 ∧ vp_in a1 (sN S y34) ∧ ∃ y37 : Nat, o32 = some y37 ∧ isA S 10 y37 ∧ vp_in (sR S y34 a1.toNatClampNeg) (sN S y37) ∧ ¬ (sR S y37 (sR S y34 a1.toNatClampNeg).toNatClampNeg) = 0 ∧ ∀ v41 : Int32, v41 = ((sR S y26 a1.toNatClampNeg) + 1) - ((sR S y26 a1.toNatClampNeg) + 1) / (sR S y37 (sR S y34 a1.toNatClampNeg).toNatClampNeg) * (sR S y37 (sR S y34 a1.toNatClampNeg).toNatClampNeg) → ∃ y42 : Nat, o24 = some y42 ∧ isA S 10 y42 ∧ vp_in a1 (sN S y42) ∧ ∀ S45 : St, S45 = pR S y42 (a1.toNatClampNeg) v41 → ∀ o46 : Option Nat, o46 = sQ S45 40 a0 → ∃ y47 : Nat, o46 = some y47 ∧ isA S45 10 y47 ∧ vp_in a1 (sN S45 y47) ∧ ∀ v50 : Int32, v50 = sR S45 y47 a1.toNatClampNeg → ∀ o52 : Option Nat, o52 = sQ S45 41 a0 → ∃ y53 : Nat, o52 = some y53 ∧ isA S45 10 y53 ∧ vp_in a1 (sN S45 y53) ∧ ∀ v56 : Int32, v56 = sR S45 y53 a1.toNatClampNeg → ∃ J92 : Int32 → Prop, (∀ (k0_92 : Int32), J92 k0_92 → ∃ J109 : Int32 → Prop, (∀ (k0_109 : Int32), J109 k0_109 → ∃ J132 : Int32 → Prop, (∀ (k0_132 : Int32), J132 k0_132 → ∃ J175 : Int32 → Prop, (∀ (k0_175 : Int32), J175 k0_175 → ∃ J392 : Int32 → Int32 → Int32 → Int32 → Prop, (∀ (v4_392 : Int32) (v5_392 : Int32) (v6_392 : Int32) (v7_392 : Int32), J392 v4_392 v5_392 v6_392 v7_392 → w_S_isFree (fun (r67 : Int32) => ∃ J425 : Int32 → Prop, (∀ (k1_425 : Int32), J425 k1_425 → ∀ v69 : Int32, v69 = r67 &&& k1_425 → (v69 = 0 → w_S_bump (fun (S74 : St) => ∃ J458 : St → Prop, (∀ (S_458 : St), J458 S_458 → w_S_hit (fun (S76 : St) => (v5 = (-1) → post S76) ∧ (¬ v5 = (-1) → w_S_hit (fun (S77 : St) => post S77) S76 a0 v5)) S_458 a0 a1) ∧ (v5 = (-1) → J458 S74) ∧ (¬ v5 = (-1) → w_S_bump (fun (S79 : St) => J458 S79) S74 a0 v6_392 v7_392 a1 v5)) S45 a0 v4_392 v5_392 a1 v5) ∧ (¬ v69 = 0 → w_S_finish (fun (S71 : St) => (v5 = (-1) → post S71) ∧ (¬ v5 = (-1) → w_S_finish (fun (S72 : St) => post S72) S71 a0 v5 v6_392 v7_392 k0_132)) S45 a0 a1 v4_392 v5_392 k0_132)) ∧ ∃ J420 : Prop, (J420 → J425 1) ∧ (v5 = (-1) → J420) ∧ (¬ v5 = (-1) → w_S_isFree (fun (r83 : Int32) => (r83 = 0 → J425 0) ∧ (¬ r83 = 0 → J420)) S45 a0 v6_392 v7_392 a1 v5)) S45 a0 v4_392 v5_392 a1 v5) ∧ (k0_175 = (-1) → ∃ J349 : Prop, (J349 → (v22 = 115 → (v5 = (-1) → J392 v50 v56 k0_92 k0_109) ∧ (¬ v5 = (-1) → ∀ o87 : Option Nat, o87 = sQ S45 40 a0 → ∃ y88 : Nat, o87 = some y88 ∧ isA S45 10 y88 ∧ vp_in v5 (sN S45 y88) ∧ ∀ v91 : Int32, v91 = sR S45 y88 v5.toNatClampNeg → ∀ o93 : Option Nat, o93 = sQ S45 41 a0 → ∃ y94 : Nat, o93 = some y94 ∧ isA S45 10 y94 ∧ vp_in v5 (sN S45 y94) ∧ ∀ v97 : Int32, v97 = sR S45 y94 v5.toNatClampNeg → ∀ o99 : Option Nat, o99 = sQ S45 40 a0 → ∃ y100 : Nat, o99 = some y100 ∧ isA S45 10 y100 ∧ vp_in a1 (sN S45 y100) ∧ ∀ v103 : Int32, v103 = sR S45 y100 a1.toNatClampNeg → ∀ o105 : Option Nat, o105 = sQ S45 41 a0 → ∃ y106 : Nat, o105 = some y106 ∧ isA S45 10 y106 ∧ vp_in a1 (sN S45 y106) ∧ ∀ v109 : Int32, v109 = sR S45 y106 a1.toNatClampNeg → J392 v91 v97 v103 v109)) ∧ (¬ v22 = 115 → J392 v50 v56 k0_92 k0_109)) ∧ (k0_132 ≤ 0 → J349) ∧ (¬ k0_132 ≤ 0 → (v5 = (-1) → J349) ∧ (¬ v5 = (-1) → ∃ J256 : Nat → Int32 → Prop, (∃ n : Nat, J256 n 0) ∧ ∀ (n256 : Nat) (v10_256 : Int32), J256 n256 v10_256 → ∀ o115 : Option Nat, o115 = sQ S45 40 a0 → ∃ y116 : Nat, o115 = some y116 ∧ isA S45 10 y116 ∧ vp_in a1 (sN S45 y116) ∧ vp_in v10_256 4 ∧ ∀ o120 : Option Nat, o120 = sQ S45 40 a0 → ∃ y121 : Nat, o120 = some y121 ∧ isA S45 10 y121 ∧ vp_in v5 (sN S45 y121) ∧ ∃ J300 : Prop, (J300 → ∀ v125 : Int32, v125 = v10_256 + 1 → ∃ nx : Nat, nx < n256 ∧ J256 nx v125) ∧ (((sR S45 y116 a1.toNatClampNeg) + (dxT v10_256.toNatClampNeg)) = (sR S45 y121 v5.toNatClampNeg) → ∀ o127 : Option Nat, o127 = sQ S45 41 a0 → ∃ y128 : Nat, o127 = some y128 ∧ isA S45 10 y128 ∧ vp_in a1 (sN S45 y128) ∧ vp_in v10_256 4 ∧ ∀ o132 : Option Nat, o132 = sQ S45 41 a0 → ∃ y133 : Nat, o132 = some y133 ∧ isA S45 10 y133 ∧ vp_in v5 (sN S45 y133) ∧ (((sR S45 y128 a1.toNatClampNeg) + (dyT v10_256.toNatClampNeg)) = (sR S45 y133 v5.toNatClampNeg) → ∀ o136 : Option Nat, o136 = sQ S45 40 a0 → ∃ y137 : Nat, o136 = some y137 ∧ isA S45 10 y137 ∧ vp_in a1 (sN S45 y137) ∧ ∀ v140 : Int32, v140 = (v10_256 + k0_132) - (v10_256 + k0_132) / 4 * 4 → vp_in v140 4 ∧ ∀ v142 : Int32, v142 = (sR S45 y137 a1.toNatClampNeg) + (dxT v140.toNatClampNeg) → ∀ o144 : Option Nat, o144 = sQ S45 41 a0 → ∃ y145 : Nat, o144 = some y145 ∧ isA S45 10 y145 ∧ vp_in a1 (sN S45 y145) ∧ ∀ v148 : Int32, v148 = (v10_256 + k0_132) - (v10_256 + k0_132) / 4 * 4 → vp_in v148 4 ∧ ∀ v150 : Int32, v150 = (sR S45 y145 a1.toNatClampNeg) + (dyT v148.toNatClampNeg) → J392 v50 v56 v142 v150) ∧ (¬ ((sR S45 y128 a1.toNatClampNeg) + (dyT v10_256.toNatClampNeg)) = (sR S45 y133 v5.toNatClampNeg) → J300)) ∧ (¬ ((sR S45 y116 a1.toNatClampNeg) + (dxT v10_256.toNatClampNeg)) = (sR S45 y121 v5.toNatClampNeg) → J300)))) ∧ (¬ k0_175 = (-1) → ∀ o156 : Option Nat, o156 = sQ S45 42 a0 → ∃ y157 : Nat, o156 = some y157 ∧ isA S45 10 y157 ∧ vp_in a1 (sN S45 y157) ∧ ∀ v160 : Int32, v160 = ((sR S45 y157 a1.toNatClampNeg) + k0_175) - ((sR S45 y157 a1.toNatClampNeg) + k0_175) / 4 * 4 → vp_in v160 4 ∧ ∀ v163 : Int32, v163 = v50 + (dxT v160.toNatClampNeg) → vp_in v160 4 ∧ ∀ v166 : Int32, v166 = v56 + (dyT v160.toNatClampNeg) → vp_in v160 4 ∧ ∀ v169 : Int32, v169 = k0_92 + (dxT v160.toNatClampNeg) → vp_in v160 4 ∧ ∀ v172 : Int32, v172 = k0_109 + (dyT v160.toNatClampNeg) → J392 v163 v166 v169 v172)) ∧ (v22 = 102 → J175 0) ∧ (¬ v22 = 102 → (v22 = 114 → J175 1) ∧ (¬ v22 = 114 → (v22 = 98 → J175 2) ∧ (¬ v22 = 98 → (v22 = 108 → J175 3) ∧ (¬ v22 = 108 → J175 (-1)))))) ∧ (v22 = 116 → J132 1) ∧ (¬ v22 = 116 → (v22 = 117 → J132 3) ∧ (¬ v22 = 117 → J132 0))) ∧ (v5 = (-1) → J109 0) ∧ (¬ v5 = (-1) → ∀ o181 : Option Nat, o181 = sQ S45 41 a0 → ∃ y182 : Nat, o181 = some y182 ∧ isA S45 10 y182 ∧ vp_in v5 (sN S45 y182) ∧ J109 (sR S45 y182 v5.toNatClampNeg))) ∧ (v5 = (-1) → J92 0) ∧ (¬ v5 = (-1) → ∀ o186 : Option Nat, o186 = sQ S45 40 a0 → ∃ y187 : Nat, o186 = some y187 ∧ isA S45 10 y187 ∧ vp_in v5 (sN S45 y187) ∧ J92 (sR S45 y187 v5.toNatClampNeg))
set_option maxHeartbeats 4000000 in
set_option maxRecDepth 100000 in
theorem m_S_act (l : Launch) (x : Cx) (S : St) (post : St → Prop) (a0 : Nat) (a1 : Int32) (fa0 : isA S 7 a0) (h : w_S_act post S a0 a1) : Met l y_S_act [.code y_S_act c_S_act 11 none] { frames := 2, cells := 0, slots := 0, locals := 49 } (va_Pc [.ref a0, .int a1] (GW x S)) (va_Qv post (gB x S) (xA x)) 0 0 (xA x) := by
  refine gMet (by decide +kernel) (Nat.le_of_ble_eq_true rfl) ?_
  intro p e s m args below meth c hx hb hr hown hlocks hin hw hK H locs hG ls hlA hml
  have hown : s.vm.findClass "WaltzHallModel$State" = some m.cls := hown
  have hl0 : lv_has ls 11 [(0, .ref a0), (1, .int a1)] := hlA
  have leS : gle S S := gle.rf
  unfold w_S_act at h
  refine lv_aload_n hx hb d_S_act_0 rfl (lv_at hl0 0 rfl) ?_
  refine gget hx hb hw hown hK hG kd_S fa0 rfl 9 (by decide) rfl tw_958 (fun _ h9 => h9) d_S_act_1 ?_
  refine gtopq (fun o1 eo1 => ?_)
  replace h := h o1 eo1
  refine lv_iload_n hx hb d_S_act_4 rfl (lv_at hl0 1 rfl) ?_
  obtain ⟨y2, ey2, h⟩ := h
  subst ey2
  obtain ⟨f3, h⟩ := h
  obtain ⟨hi4, h⟩ := h
  refine giald hx hb hK hG f3 hi4 d_S_act_5 ?_
  refine lv_topi (fun v5 ev5 => ?_)
  replace h := h v5 ev5
  refine lv_istore_n (i := 2) (lv' := [(2, .int v5), (0, .ref a0), (1, .int a1)]) hx hb d_S_act_6 rfl hl0 (by decide) rfl (fun ls hl6 => ?_)
  refine lv_aload_n hx hb d_S_act_7 rfl (lv_at hl6 1 rfl) ?_
  refine gget hx hb hw hown hK hG kd_S fa0 rfl 17 (by decide) rfl tw_974 (fun _ h9 => h9) d_S_act_8 ?_
  refine gtopq (fun o7 eo7 => ?_)
  replace h := h o7 eo7
  obtain ⟨y8, ey8, h⟩ := h
  subst ey8
  obtain ⟨f9, h⟩ := h
  refine ggetN hx hb hw hown hK hG kd_M f9 rfl 3 (by decide) rfl tw_1021 (fun _ h9 => h9) d_S_act_11 ?_
  refine gtopq (fun o10 eo10 => ?_)
  replace h := h o10 eo10
  refine lv_bipush (v := 24) hx hb d_S_act_14 (by decide) ?_
  refine lv_aload_n hx hb d_S_act_16 rfl (lv_at hl6 1 rfl) ?_
  refine gget hx hb hw hown hK hG kd_S fa0 rfl 7 (by decide) rfl tw_954 (fun _ h9 => h9) d_S_act_17 ?_
  refine gtopq (fun o11 eo11 => ?_)
  replace h := h o11 eo11
  refine lv_iload_n hx hb d_S_act_20 rfl (lv_at hl6 2 rfl) ?_
  obtain ⟨y12, ey12, h⟩ := h
  subst ey12
  obtain ⟨f13, h⟩ := h
  obtain ⟨hi14, h⟩ := h
  refine giald hx hb hK hG f13 hi14 d_S_act_21 ?_
  refine lv_imul hx hb d_S_act_22 ?_
  refine lv_aload_n hx hb d_S_act_23 rfl (lv_at hl6 1 rfl) ?_
  refine gget hx hb hw hown hK hG kd_S fa0 rfl 8 (by decide) rfl tw_956 (fun _ h9 => h9) d_S_act_24 ?_
  refine gtopq (fun o15 eo15 => ?_)
  replace h := h o15 eo15
  refine lv_iload_n hx hb d_S_act_27 rfl (lv_at hl6 2 rfl) ?_
  obtain ⟨y16, ey16, h⟩ := h
  subst ey16
  obtain ⟨f17, h⟩ := h
  obtain ⟨hi18, h⟩ := h
  refine giald hx hb hK hG f17 hi18 d_S_act_28 ?_
  refine lv_iadd hx hb d_S_act_29 ?_
  obtain ⟨y19, ey19, h⟩ := h
  subst ey19
  obtain ⟨f20, h⟩ := h
  obtain ⟨hi21, h⟩ := h
  refine giald hx hb hK hG f20 hi21 d_S_act_30 ?_
  refine lv_topi (fun v22 ev22 => ?_)
  replace h := h v22 ev22
  refine lv_istore_n (i := 3) (lv' := [(3, .int v22), (2, .int v5), (0, .ref a0), (1, .int a1)]) hx hb d_S_act_31 rfl hl6 (by decide) rfl (fun ls hl23 => ?_)
  refine lv_aload_n hx hb d_S_act_32 rfl (lv_at hl23 2 rfl) ?_
  refine gget hx hb hw hown hK hG kd_S fa0 rfl 8 (by decide) rfl tw_956 (fun _ h9 => h9) d_S_act_33 ?_
  refine gtopq (fun o24 eo24 => ?_)
  replace h := h o24 eo24
  refine lv_iload_n hx hb d_S_act_36 rfl (lv_at hl23 3 rfl) ?_
  refine lv_aload_n hx hb d_S_act_37 rfl (lv_at hl23 2 rfl) ?_
  refine gget hx hb hw hown hK hG kd_S fa0 rfl 8 (by decide) rfl tw_956 (fun _ h9 => h9) d_S_act_38 ?_
  refine gtopq (fun o25 eo25 => ?_)
  replace h := h o25 eo25
  refine lv_iload_n hx hb d_S_act_41 rfl (lv_at hl23 3 rfl) ?_
  obtain ⟨y26, ey26, h⟩ := h
  subst ey26
  obtain ⟨f27, h⟩ := h
  obtain ⟨hi28, h⟩ := h
  refine giald hx hb hK hG f27 hi28 d_S_act_42 ?_
  refine lv_iconst (v := 1) hx hb d_S_act_43 (by decide) ?_
  refine lv_iadd hx hb d_S_act_44 ?_
  refine lv_aload_n hx hb d_S_act_45 rfl (lv_at hl23 2 rfl) ?_
  refine gget hx hb hw hown hK hG kd_S fa0 rfl 17 (by decide) rfl tw_974 (fun _ h9 => h9) d_S_act_46 ?_
  refine gtopq (fun o29 eo29 => ?_)
  replace h := h o29 eo29
  obtain ⟨y30, ey30, h⟩ := h
  subst ey30
  obtain ⟨f31, h⟩ := h
  refine ggetN hx hb hw hown hK hG kd_M f31 rfl 4 (by decide) rfl tw_1023 (fun _ h9 => h9) d_S_act_49 ?_
  refine gtopq (fun o32 eo32 => ?_)
  replace h := h o32 eo32
  refine lv_aload_n hx hb d_S_act_52 rfl (lv_at hl23 2 rfl) ?_
  refine gget hx hb hw hown hK hG kd_S fa0 rfl 7 (by decide) rfl tw_954 (fun _ h9 => h9) d_S_act_53 ?_
  refine gtopq (fun o33 eo33 => ?_)
  replace h := h o33 eo33
  refine lv_iload_n hx hb d_S_act_56 rfl (lv_at hl23 3 rfl) ?_
  obtain ⟨y34, ey34, h⟩ := h
  subst ey34
  obtain ⟨f35, h⟩ := h
  obtain ⟨hi36, h⟩ := h
  refine giald hx hb hK hG f35 hi36 d_S_act_57 ?_
  obtain ⟨y37, ey37, h⟩ := h
  subst ey37
  obtain ⟨f38, h⟩ := h
  obtain ⟨hi39, h⟩ := h
  refine giald hx hb hK hG f38 hi39 d_S_act_58 ?_
  obtain ⟨hz40, h⟩ := h
  refine lv_irem hx hb d_S_act_59 hz40 ?_
  refine lv_topi (fun v41 ev41 => ?_)
  replace h := h v41 ev41
  obtain ⟨y42, ey42, h⟩ := h
  subst ey42
  obtain ⟨f43, h⟩ := h
  obtain ⟨hi44, h⟩ := h
  refine giast hx hb hK hG f43 hi44 d_S_act_60 (fun S45 H locs eS45 hle1 hG => ?_)
  replace h := h S45 eS45
  have fa0 := gle_isA hle1 fa0
  have f3 := gle_isA hle1 f3
  have f9 := gle_isA hle1 f9
  have f13 := gle_isA hle1 f13
  have f17 := gle_isA hle1 f17
  have f20 := gle_isA hle1 f20
  have f27 := gle_isA hle1 f27
  have f31 := gle_isA hle1 f31
  have f35 := gle_isA hle1 f35
  have f38 := gle_isA hle1 f38
  have f43 := gle_isA hle1 f43
  have leS := leS.tr hle1
  refine lv_aload_n hx hb d_S_act_61 rfl (lv_at hl23 2 rfl) ?_
  refine gget hx hb hw hown hK hG kd_S fa0 rfl 2 (by decide) rfl tw_944 (fun _ h9 => h9) d_S_act_62 ?_
  refine gtopq (fun o46 eo46 => ?_)
  replace h := h o46 eo46
  refine lv_iload_n hx hb d_S_act_65 rfl (lv_at hl23 3 rfl) ?_
  obtain ⟨y47, ey47, h⟩ := h
  subst ey47
  obtain ⟨f48, h⟩ := h
  obtain ⟨hi49, h⟩ := h
  refine giald hx hb hK hG f48 hi49 d_S_act_66 ?_
  refine lv_topi (fun v50 ev50 => ?_)
  replace h := h v50 ev50
  refine lv_istore (lv' := [(4, .int v50), (3, .int v22), (2, .int v5), (0, .ref a0), (1, .int a1)]) hx hb d_S_act_67 hl23 (by decide) rfl (fun ls hl51 => ?_)
  refine lv_aload_n hx hb d_S_act_69 rfl (lv_at hl51 3 rfl) ?_
  refine gget hx hb hw hown hK hG kd_S fa0 rfl 3 (by decide) rfl tw_946 (fun _ h9 => h9) d_S_act_70 ?_
  refine gtopq (fun o52 eo52 => ?_)
  replace h := h o52 eo52
  refine lv_iload_n hx hb d_S_act_73 rfl (lv_at hl51 4 rfl) ?_
  obtain ⟨y53, ey53, h⟩ := h
  subst ey53
  obtain ⟨f54, h⟩ := h
  obtain ⟨hi55, h⟩ := h
  refine giald hx hb hK hG f54 hi55 d_S_act_74 ?_
  refine lv_topi (fun v56 ev56 => ?_)
  replace h := h v56 ev56
  refine lv_istore (lv' := [(5, .int v56), (4, .int v50), (3, .int v22), (2, .int v5), (0, .ref a0), (1, .int a1)]) hx hb d_S_act_75 hl51 (by decide) rfl (fun ls hl57 => ?_)
  refine lv_iload_n hx hb d_S_act_77 rfl (lv_at hl57 3 rfl) ?_
  refine lv_iconst (v := (-1)) hx hb d_S_act_78 (by decide) ?_
  have leS45 : gle S45 S45 := gle.rf
  obtain ⟨J92, hJ92, h⟩ := h
  have k92 : ∀ (k0_92 : Int32) (H : Heap) (locs : List Loc) (ls : Array Slot), GH x S45 s H locs → lv_has ls 11 [(0, .ref a0), (1, .int a1), (2, .int v5), (3, .int v22), (4, .int v50), (5, .int v56)] → J92 k0_92 → W p l e { frames := 2, cells := 0, slots := 0, locals := 49 } s m args below meth c H locs 0 0 (MQ below (va_Qv post (gB x S) (xA x)) args s 0 0 (xA x)) (F0 m 92 ls [.int k0_92]) := by
    intro k0_92  H locs ls hG hl58 hj
    replace h := hJ92 k0_92 hj
    refine lv_istore (lv' := [(6, .int k0_92), (0, .ref a0), (1, .int a1), (2, .int v5), (3, .int v22), (4, .int v50), (5, .int v56)]) hx hb d_S_act_92 hl58 (by decide) rfl (fun ls hl59 => ?_)
    refine lv_iload_n hx hb d_S_act_94 rfl (lv_at hl59 3 rfl) ?_
    refine lv_iconst (v := (-1)) hx hb d_S_act_95 (by decide) ?_
    obtain ⟨J109, hJ109, h⟩ := h
    have k109 : ∀ (k0_109 : Int32) (H : Heap) (locs : List Loc) (ls : Array Slot), GH x S45 s H locs → lv_has ls 11 [(0, .ref a0), (1, .int a1), (2, .int v5), (3, .int v22), (4, .int v50), (5, .int v56), (6, .int k0_92)] → J109 k0_109 → W p l e { frames := 2, cells := 0, slots := 0, locals := 49 } s m args below meth c H locs 0 0 (MQ below (va_Qv post (gB x S) (xA x)) args s 0 0 (xA x)) (F0 m 109 ls [.int k0_109]) := by
      intro k0_109  H locs ls hG hl60 hj
      replace h := hJ109 k0_109 hj
      refine lv_istore (lv' := [(7, .int k0_109), (0, .ref a0), (1, .int a1), (2, .int v5), (3, .int v22), (4, .int v50), (5, .int v56), (6, .int k0_92)]) hx hb d_S_act_109 hl60 (by decide) rfl (fun ls hl61 => ?_)
      refine lv_iload_n hx hb d_S_act_111 rfl (lv_at hl61 4 rfl) ?_
      refine lv_bipush (v := 116) hx hb d_S_act_112 (by decide) ?_
      obtain ⟨J132, hJ132, h⟩ := h
      have k132 : ∀ (k0_132 : Int32) (H : Heap) (locs : List Loc) (ls : Array Slot), GH x S45 s H locs → lv_has ls 11 [(0, .ref a0), (1, .int a1), (2, .int v5), (3, .int v22), (4, .int v50), (5, .int v56), (6, .int k0_92), (7, .int k0_109)] → J132 k0_132 → W p l e { frames := 2, cells := 0, slots := 0, locals := 49 } s m args below meth c H locs 0 0 (MQ below (va_Qv post (gB x S) (xA x)) args s 0 0 (xA x)) (F0 m 132 ls [.int k0_132]) := by
        intro k0_132  H locs ls hG hl62 hj
        replace h := hJ132 k0_132 hj
        refine lv_istore (lv' := [(8, .int k0_132), (0, .ref a0), (1, .int a1), (2, .int v5), (3, .int v22), (4, .int v50), (5, .int v56), (6, .int k0_92), (7, .int k0_109)]) hx hb d_S_act_132 hl62 (by decide) rfl (fun ls hl63 => ?_)
        refine lv_iload_n hx hb d_S_act_134 rfl (lv_at hl63 4 rfl) ?_
        refine lv_bipush (v := 102) hx hb d_S_act_135 (by decide) ?_
        obtain ⟨J175, hJ175, h⟩ := h
        have k175 : ∀ (k0_175 : Int32) (H : Heap) (locs : List Loc) (ls : Array Slot), GH x S45 s H locs → lv_has ls 11 [(0, .ref a0), (1, .int a1), (2, .int v5), (3, .int v22), (4, .int v50), (5, .int v56), (6, .int k0_92), (7, .int k0_109), (8, .int k0_132)] → J175 k0_175 → W p l e { frames := 2, cells := 0, slots := 0, locals := 49 } s m args below meth c H locs 0 0 (MQ below (va_Qv post (gB x S) (xA x)) args s 0 0 (xA x)) (F0 m 175 ls [.int k0_175]) := by
          intro k0_175  H locs ls hG hl64 hj
          replace h := hJ175 k0_175 hj
          refine lv_istore (lv' := [(9, .int k0_175), (0, .ref a0), (1, .int a1), (2, .int v5), (3, .int v22), (4, .int v50), (5, .int v56), (6, .int k0_92), (7, .int k0_109), (8, .int k0_132)]) hx hb d_S_act_175 hl64 (by decide) rfl (fun ls hl65 => ?_)
          refine lv_iload hx hb d_S_act_177 (lv_at hl65 0 rfl) ?_
          refine lv_iconst (v := (-1)) hx hb d_S_act_179 (by decide) ?_
          obtain ⟨J392, hJ392, h⟩ := h
          have k392 : ∀ (v4_392 : Int32) (v5_392 : Int32) (v6_392 : Int32) (v7_392 : Int32) (H : Heap) (locs : List Loc) (ls : Array Slot), GH x S45 s H locs → lv_has ls 11 [(0, .ref a0), (1, .int a1), (2, .int v5), (4, .int v4_392), (5, .int v5_392), (6, .int v6_392), (7, .int v7_392), (8, .int k0_132)] → J392 v4_392 v5_392 v6_392 v7_392 → W p l e { frames := 2, cells := 0, slots := 0, locals := 49 } s m args below meth c H locs 0 0 (MQ below (va_Qv post (gB x S) (xA x)) args s 0 0 (xA x)) (F0 m 392 ls []) := by
            intro v4_392 v5_392 v6_392 v7_392  H locs ls hG hl66 hj
            replace h := hJ392 v4_392 v5_392 v6_392 v7_392 hj
            refine lv_aload_n hx hb d_S_act_392 rfl (lv_at hl66 0 rfl) ?_
            refine lv_iload hx hb d_S_act_393 (lv_at hl66 3 rfl) ?_
            refine lv_iload hx hb d_S_act_395 (lv_at hl66 4 rfl) ?_
            refine lv_iload_n hx hb d_S_act_397 rfl (lv_at hl66 1 rfl) ?_
            refine lv_iload_n hx hb d_S_act_398 rfl (lv_at hl66 2 rfl) ?_
            -- call S_isFree
            refine gpi hK hG (va_runV (As := [.int v4_392, .int v5_392, .int a1, .int v5]) (rest := []) ⟨hx, hb, hml, hown, hw⟩ (m_S_isFree l x S45 _ a0 v4_392 v5_392 a1 v5 fa0 h) ⟨gcb hw tw_1178 tw_44 tw_1175 hd_S_isFree rfl rfl ⟨(Nat.le_of_ble_eq_true rfl), (Nat.le_of_ble_eq_true rfl)⟩, hw _ tw_1177, hw _ tw_20⟩ (gpV hK hG kd_S fa0 rfl) rfl rfl hl66.1 rfl (lv_room (Nat.le_of_ble_eq_true rfl)) d_S_act_399 ⟨(Nat.le_of_ble_eq_true rfl), (Nat.le_of_ble_eq_true rfl)⟩) (fun r67 H locs h9 hG => ?_)
            replace h := h9
            clear h9
            refine lv_iload_n hx hb d_S_act_402 rfl (lv_at hl66 2 rfl) ?_
            refine lv_iconst (v := (-1)) hx hb d_S_act_403 (by decide) ?_
            obtain ⟨J425, hJ425, h⟩ := h
            have k425 : ∀ (k1_425 : Int32) (H : Heap) (locs : List Loc) (ls : Array Slot), GH x S45 s H locs → lv_has ls 11 [(0, .ref a0), (1, .int a1), (2, .int v5), (4, .int v4_392), (5, .int v5_392), (6, .int v6_392), (7, .int v7_392), (8, .int k0_132)] → J425 k1_425 → W p l e { frames := 2, cells := 0, slots := 0, locals := 49 } s m args below meth c H locs 0 0 (MQ below (va_Qv post (gB x S) (xA x)) args s 0 0 (xA x)) (F0 m 425 ls [.int k1_425, .int r67]) := by
              intro k1_425  H locs ls hG hl68 hj
              replace h := hJ425 k1_425 hj
              refine lv_iand hx hb d_S_act_425 ?_
              refine lv_topi (fun v69 ev69 => ?_)
              replace h := h v69 ev69
              refine lv_istore (lv' := [(10, .int v69), (0, .ref a0), (1, .int a1), (2, .int v5), (4, .int v4_392), (5, .int v5_392), (6, .int v6_392), (7, .int v7_392), (8, .int k0_132)]) hx hb d_S_act_426 hl68 (by decide) rfl (fun ls hl70 => ?_)
              refine lv_iload hx hb d_S_act_428 (lv_at hl70 0 rfl) ?_
              refine lv_if_ne (tgt := 474) hx hb d_S_act_430 (by decide) (fun hc81 => ?_) (fun hc81 => ?_)
              · replace h := h.2 hc81
                refine lv_aload_n hx hb d_S_act_474 rfl (lv_at hl70 1 rfl) ?_
                refine lv_iload_n hx hb d_S_act_475 rfl (lv_at hl70 2 rfl) ?_
                refine lv_iload hx hb d_S_act_476 (lv_at hl70 4 rfl) ?_
                refine lv_iload hx hb d_S_act_478 (lv_at hl70 5 rfl) ?_
                refine lv_iload hx hb d_S_act_480 (lv_at hl70 8 rfl) ?_
                -- call S_finish
                refine gcv hK hG (va_runV (As := [.int a1, .int v4_392, .int v5_392, .int k0_132]) (rest := []) ⟨hx, hb, hml, hown, hw⟩ (m_S_finish l x S45 _ a0 a1 v4_392 v5_392 k0_132 fa0 h) ⟨gcb hw tw_1192 tw_44 tw_1189 hd_S_finish rfl rfl ⟨(Nat.le_of_ble_eq_true rfl), (Nat.le_of_ble_eq_true rfl)⟩, hw _ tw_1191, hw _ tw_23⟩ (gpV hK hG kd_S fa0 rfl) rfl rfl hl70.1 rfl (lv_room (Nat.le_of_ble_eq_true rfl)) d_S_act_482 ⟨(Nat.le_of_ble_eq_true rfl), (Nat.le_of_ble_eq_true rfl)⟩) (fun S71 H locs h9 hle1 hG => ?_)
                replace h := h9
                clear h9
                have fa0 := gle_isA hle1 fa0
                have f3 := gle_isA hle1 f3
                have f9 := gle_isA hle1 f9
                have f13 := gle_isA hle1 f13
                have f17 := gle_isA hle1 f17
                have f20 := gle_isA hle1 f20
                have f27 := gle_isA hle1 f27
                have f31 := gle_isA hle1 f31
                have f35 := gle_isA hle1 f35
                have f38 := gle_isA hle1 f38
                have f43 := gle_isA hle1 f43
                have f48 := gle_isA hle1 f48
                have f54 := gle_isA hle1 f54
                have leS := leS.tr hle1
                have leS45 := leS45.tr hle1
                refine lv_iload_n hx hb d_S_act_485 rfl (lv_at hl70 3 rfl) ?_
                refine lv_iconst (v := (-1)) hx hb d_S_act_486 (by decide) ?_
                refine lv_icmp_eq (tgt := 501) hx hb d_S_act_487 (by decide) (fun hc73 => ?_) (fun hc73 => ?_)
                · replace h := h.1 hc73
                  exact gvret hx hb hr hlocks hK hG leS h (Nat.le_of_ble_eq_true rfl) (Nat.le_of_ble_eq_true rfl) d_S_act_501
                · replace h := h.2 hc73
                  refine lv_aload_n hx hb d_S_act_490 rfl (lv_at hl70 1 rfl) ?_
                  refine lv_iload_n hx hb d_S_act_491 rfl (lv_at hl70 3 rfl) ?_
                  refine lv_iload hx hb d_S_act_492 (lv_at hl70 6 rfl) ?_
                  refine lv_iload hx hb d_S_act_494 (lv_at hl70 7 rfl) ?_
                  refine lv_iload hx hb d_S_act_496 (lv_at hl70 8 rfl) ?_
                  -- call S_finish
                  refine gcv hK hG (va_runV (As := [.int v5, .int v6_392, .int v7_392, .int k0_132]) (rest := []) ⟨hx, hb, hml, hown, hw⟩ (m_S_finish l x S71 _ a0 v5 v6_392 v7_392 k0_132 fa0 h) ⟨gcb hw tw_1192 tw_44 tw_1189 hd_S_finish rfl rfl ⟨(Nat.le_of_ble_eq_true rfl), (Nat.le_of_ble_eq_true rfl)⟩, hw _ tw_1191, hw _ tw_23⟩ (gpV hK hG kd_S fa0 rfl) rfl rfl hl70.1 rfl (lv_room (Nat.le_of_ble_eq_true rfl)) d_S_act_498 ⟨(Nat.le_of_ble_eq_true rfl), (Nat.le_of_ble_eq_true rfl)⟩) (fun S72 H locs h9 hle1 hG => ?_)
                  replace h := h9
                  clear h9
                  have fa0 := gle_isA hle1 fa0
                  have f3 := gle_isA hle1 f3
                  have f9 := gle_isA hle1 f9
                  have f13 := gle_isA hle1 f13
                  have f17 := gle_isA hle1 f17
                  have f20 := gle_isA hle1 f20
                  have f27 := gle_isA hle1 f27
                  have f31 := gle_isA hle1 f31
                  have f35 := gle_isA hle1 f35
                  have f38 := gle_isA hle1 f38
                  have f43 := gle_isA hle1 f43
                  have f48 := gle_isA hle1 f48
                  have f54 := gle_isA hle1 f54
                  have leS := leS.tr hle1
                  have leS45 := leS45.tr hle1
                  exact gvret hx hb hr hlocks hK hG leS h (Nat.le_of_ble_eq_true rfl) (Nat.le_of_ble_eq_true rfl) d_S_act_501
              · replace h := h.1 hc81
                refine lv_aload_n hx hb d_S_act_433 rfl (lv_at hl70 1 rfl) ?_
                refine lv_iload hx hb d_S_act_434 (lv_at hl70 4 rfl) ?_
                refine lv_iload hx hb d_S_act_436 (lv_at hl70 5 rfl) ?_
                refine lv_iload_n hx hb d_S_act_438 rfl (lv_at hl70 2 rfl) ?_
                refine lv_iload_n hx hb d_S_act_439 rfl (lv_at hl70 3 rfl) ?_
                -- call S_bump
                refine gcv hK hG (va_runV (As := [.int v4_392, .int v5_392, .int a1, .int v5]) (rest := []) ⟨hx, hb, hml, hown, hw⟩ (m_S_bump l x S45 _ a0 v4_392 v5_392 a1 v5 fa0 h) ⟨gcb hw tw_1184 tw_44 tw_1181 hd_S_bump rfl rfl ⟨(Nat.le_of_ble_eq_true rfl), (Nat.le_of_ble_eq_true rfl)⟩, hw _ tw_1183, hw _ tw_21⟩ (gpV hK hG kd_S fa0 rfl) rfl rfl hl70.1 rfl (lv_room (Nat.le_of_ble_eq_true rfl)) d_S_act_440 ⟨(Nat.le_of_ble_eq_true rfl), (Nat.le_of_ble_eq_true rfl)⟩) (fun S74 H locs h9 hle1 hG => ?_)
                replace h := h9
                clear h9
                have fa0 := gle_isA hle1 fa0
                have f3 := gle_isA hle1 f3
                have f9 := gle_isA hle1 f9
                have f13 := gle_isA hle1 f13
                have f17 := gle_isA hle1 f17
                have f20 := gle_isA hle1 f20
                have f27 := gle_isA hle1 f27
                have f31 := gle_isA hle1 f31
                have f35 := gle_isA hle1 f35
                have f38 := gle_isA hle1 f38
                have f43 := gle_isA hle1 f43
                have f48 := gle_isA hle1 f48
                have f54 := gle_isA hle1 f54
                have leS := leS.tr hle1
                have leS45 := leS45.tr hle1
                refine lv_iload_n hx hb d_S_act_443 rfl (lv_at hl70 3 rfl) ?_
                refine lv_iconst (v := (-1)) hx hb d_S_act_444 (by decide) ?_
                have leS74 : gle S74 S74 := gle.rf
                obtain ⟨J458, hJ458, h⟩ := h
                have k458 : ∀ (S_458 : St) (H : Heap) (locs : List Loc) (ls : Array Slot), gle S74 S_458 → GH x S_458 s H locs → lv_has ls 11 [(0, .ref a0), (1, .int a1), (2, .int v5)] → J458 S_458 → W p l e { frames := 2, cells := 0, slots := 0, locals := 49 } s m args below meth c H locs 0 0 (MQ below (va_Qv post (gB x S) (xA x)) args s 0 0 (xA x)) (F0 m 458 ls []) := by
                  intro S_458  H locs ls hle1 hG hl75 hj
                  replace h := hJ458 S_458 hj
                  have fa0 := gle_isA hle1 fa0
                  have f3 := gle_isA hle1 f3
                  have f9 := gle_isA hle1 f9
                  have f13 := gle_isA hle1 f13
                  have f17 := gle_isA hle1 f17
                  have f20 := gle_isA hle1 f20
                  have f27 := gle_isA hle1 f27
                  have f31 := gle_isA hle1 f31
                  have f35 := gle_isA hle1 f35
                  have f38 := gle_isA hle1 f38
                  have f43 := gle_isA hle1 f43
                  have f48 := gle_isA hle1 f48
                  have f54 := gle_isA hle1 f54
                  have leS := leS.tr hle1
                  have leS45 := leS45.tr hle1
                  have leS74 := leS74.tr hle1
                  refine lv_aload_n hx hb d_S_act_458 rfl (lv_at hl75 0 rfl) ?_
                  refine lv_iload_n hx hb d_S_act_459 rfl (lv_at hl75 1 rfl) ?_
                  -- call S_hit
                  refine gcv hK hG (va_runV (As := [.int a1]) (rest := []) ⟨hx, hb, hml, hown, hw⟩ (m_S_hit l x S_458 _ a0 a1 fa0 h) ⟨gcb hw tw_1188 tw_44 tw_1185 hd_S_hit rfl rfl ⟨(Nat.le_of_ble_eq_true rfl), (Nat.le_of_ble_eq_true rfl)⟩, hw _ tw_1187, hw _ tw_22⟩ (gpV hK hG kd_S fa0 rfl) rfl rfl hl75.1 rfl (lv_room (Nat.le_of_ble_eq_true rfl)) d_S_act_460 ⟨(Nat.le_of_ble_eq_true rfl), (Nat.le_of_ble_eq_true rfl)⟩) (fun S76 H locs h9 hle1 hG => ?_)
                  replace h := h9
                  clear h9
                  have fa0 := gle_isA hle1 fa0
                  have f3 := gle_isA hle1 f3
                  have f9 := gle_isA hle1 f9
                  have f13 := gle_isA hle1 f13
                  have f17 := gle_isA hle1 f17
                  have f20 := gle_isA hle1 f20
                  have f27 := gle_isA hle1 f27
                  have f31 := gle_isA hle1 f31
                  have f35 := gle_isA hle1 f35
                  have f38 := gle_isA hle1 f38
                  have f43 := gle_isA hle1 f43
                  have f48 := gle_isA hle1 f48
                  have f54 := gle_isA hle1 f54
                  have leS := leS.tr hle1
                  have leS45 := leS45.tr hle1
                  have leS74 := leS74.tr hle1
                  refine lv_iload_n hx hb d_S_act_463 rfl (lv_at hl75 2 rfl) ?_
                  refine lv_iconst (v := (-1)) hx hb d_S_act_464 (by decide) ?_
                  refine lv_icmp_eq (tgt := 473) hx hb d_S_act_465 (by decide) (fun hc78 => ?_) (fun hc78 => ?_)
                  · replace h := h.1 hc78
                    exact gvret hx hb hr hlocks hK hG leS h (Nat.le_of_ble_eq_true rfl) (Nat.le_of_ble_eq_true rfl) d_S_act_473
                  · replace h := h.2 hc78
                    refine lv_aload_n hx hb d_S_act_468 rfl (lv_at hl75 0 rfl) ?_
                    refine lv_iload_n hx hb d_S_act_469 rfl (lv_at hl75 2 rfl) ?_
                    -- call S_hit
                    refine gcv hK hG (va_runV (As := [.int v5]) (rest := []) ⟨hx, hb, hml, hown, hw⟩ (m_S_hit l x S76 _ a0 v5 fa0 h) ⟨gcb hw tw_1188 tw_44 tw_1185 hd_S_hit rfl rfl ⟨(Nat.le_of_ble_eq_true rfl), (Nat.le_of_ble_eq_true rfl)⟩, hw _ tw_1187, hw _ tw_22⟩ (gpV hK hG kd_S fa0 rfl) rfl rfl hl75.1 rfl (lv_room (Nat.le_of_ble_eq_true rfl)) d_S_act_470 ⟨(Nat.le_of_ble_eq_true rfl), (Nat.le_of_ble_eq_true rfl)⟩) (fun S77 H locs h9 hle1 hG => ?_)
                    replace h := h9
                    clear h9
                    have fa0 := gle_isA hle1 fa0
                    have f3 := gle_isA hle1 f3
                    have f9 := gle_isA hle1 f9
                    have f13 := gle_isA hle1 f13
                    have f17 := gle_isA hle1 f17
                    have f20 := gle_isA hle1 f20
                    have f27 := gle_isA hle1 f27
                    have f31 := gle_isA hle1 f31
                    have f35 := gle_isA hle1 f35
                    have f38 := gle_isA hle1 f38
                    have f43 := gle_isA hle1 f43
                    have f48 := gle_isA hle1 f48
                    have f54 := gle_isA hle1 f54
                    have leS := leS.tr hle1
                    have leS45 := leS45.tr hle1
                    have leS74 := leS74.tr hle1
                    exact gvret hx hb hr hlocks hK hG leS h (Nat.le_of_ble_eq_true rfl) (Nat.le_of_ble_eq_true rfl) d_S_act_473
                refine lv_icmp_eq (tgt := 458) hx hb d_S_act_445 (by decide) (fun hc80 => ?_) (fun hc80 => ?_)
                · replace h := h.1 hc80
                  exact k458 S74 H locs ls leS74 hG (lv_sub hl70 [1, 2, 3] rfl) h
                · replace h := h.2 hc80
                  refine lv_aload_n hx hb d_S_act_448 rfl (lv_at hl70 1 rfl) ?_
                  refine lv_iload hx hb d_S_act_449 (lv_at hl70 6 rfl) ?_
                  refine lv_iload hx hb d_S_act_451 (lv_at hl70 7 rfl) ?_
                  refine lv_iload_n hx hb d_S_act_453 rfl (lv_at hl70 2 rfl) ?_
                  refine lv_iload_n hx hb d_S_act_454 rfl (lv_at hl70 3 rfl) ?_
                  -- call S_bump
                  refine gcv hK hG (va_runV (As := [.int v6_392, .int v7_392, .int a1, .int v5]) (rest := []) ⟨hx, hb, hml, hown, hw⟩ (m_S_bump l x S74 _ a0 v6_392 v7_392 a1 v5 fa0 h) ⟨gcb hw tw_1184 tw_44 tw_1181 hd_S_bump rfl rfl ⟨(Nat.le_of_ble_eq_true rfl), (Nat.le_of_ble_eq_true rfl)⟩, hw _ tw_1183, hw _ tw_21⟩ (gpV hK hG kd_S fa0 rfl) rfl rfl hl70.1 rfl (lv_room (Nat.le_of_ble_eq_true rfl)) d_S_act_455 ⟨(Nat.le_of_ble_eq_true rfl), (Nat.le_of_ble_eq_true rfl)⟩) (fun S79 H locs h9 hle1 hG => ?_)
                  replace h := h9
                  clear h9
                  have fa0 := gle_isA hle1 fa0
                  have f3 := gle_isA hle1 f3
                  have f9 := gle_isA hle1 f9
                  have f13 := gle_isA hle1 f13
                  have f17 := gle_isA hle1 f17
                  have f20 := gle_isA hle1 f20
                  have f27 := gle_isA hle1 f27
                  have f31 := gle_isA hle1 f31
                  have f35 := gle_isA hle1 f35
                  have f38 := gle_isA hle1 f38
                  have f43 := gle_isA hle1 f43
                  have f48 := gle_isA hle1 f48
                  have f54 := gle_isA hle1 f54
                  have leS := leS.tr hle1
                  have leS45 := leS45.tr hle1
                  have leS74 := leS74.tr hle1
                  exact k458 S79 H locs ls leS74 hG (lv_sub hl70 [1, 2, 3] rfl) h
            obtain ⟨J420, hJ420, h⟩ := h
            have k420 : ∀ (H : Heap) (locs : List Loc) (ls : Array Slot), GH x S45 s H locs → lv_has ls 11 [(0, .ref a0), (1, .int a1), (2, .int v5), (4, .int v4_392), (5, .int v5_392), (6, .int v6_392), (7, .int v7_392), (8, .int k0_132)] → J420 → W p l e { frames := 2, cells := 0, slots := 0, locals := 49 } s m args below meth c H locs 0 0 (MQ below (va_Qv post (gB x S) (xA x)) args s 0 0 (xA x)) (F0 m 420 ls [.int r67]) := by
              intro  H locs ls hG hl82 hj
              replace h := hJ420 hj
              refine lv_iconst (v := 1) hx hb d_S_act_420 (by decide) ?_
              refine lv_goto (tgt := 425) hx hb d_S_act_421 (by decide) ?_
              exact k425 1 H locs ls hG (lv_sub hl82 [0, 1, 2, 3, 4, 5, 6, 7] rfl) h
            refine lv_icmp_eq (tgt := 420) hx hb d_S_act_404 (by decide) (fun hc85 => ?_) (fun hc85 => ?_)
            · replace h := h.1 hc85
              exact k420 H locs ls hG (lv_sub hl66 [0, 1, 2, 3, 4, 5, 6, 7] rfl) h
            · replace h := h.2 hc85
              refine lv_aload_n hx hb d_S_act_407 rfl (lv_at hl66 0 rfl) ?_
              refine lv_iload hx hb d_S_act_408 (lv_at hl66 5 rfl) ?_
              refine lv_iload hx hb d_S_act_410 (lv_at hl66 6 rfl) ?_
              refine lv_iload_n hx hb d_S_act_412 rfl (lv_at hl66 1 rfl) ?_
              refine lv_iload_n hx hb d_S_act_413 rfl (lv_at hl66 2 rfl) ?_
              -- call S_isFree
              refine gpi hK hG (va_runV (As := [.int v6_392, .int v7_392, .int a1, .int v5]) (rest := [.int r67]) ⟨hx, hb, hml, hown, hw⟩ (m_S_isFree l x S45 _ a0 v6_392 v7_392 a1 v5 fa0 h) ⟨gcb hw tw_1178 tw_44 tw_1175 hd_S_isFree rfl rfl ⟨(Nat.le_of_ble_eq_true rfl), (Nat.le_of_ble_eq_true rfl)⟩, hw _ tw_1177, hw _ tw_20⟩ (gpV hK hG kd_S fa0 rfl) rfl rfl hl66.1 rfl (lv_room (Nat.le_of_ble_eq_true rfl)) d_S_act_414 ⟨(Nat.le_of_ble_eq_true rfl), (Nat.le_of_ble_eq_true rfl)⟩) (fun r83 H locs h9 hG => ?_)
              replace h := h9
              clear h9
              refine lv_if_eq (tgt := 424) hx hb d_S_act_417 (by decide) (fun hc84 => ?_) (fun hc84 => ?_)
              · replace h := h.1 hc84
                refine lv_iconst (v := 0) hx hb d_S_act_424 (by decide) ?_
                exact k425 0 H locs ls hG (lv_sub hl66 [0, 1, 2, 3, 4, 5, 6, 7] rfl) h
              · replace h := h.2 hc84
                exact k420 H locs ls hG (lv_sub hl66 [0, 1, 2, 3, 4, 5, 6, 7] rfl) h
          refine lv_icmp_eq (tgt := 243) hx hb d_S_act_180 (by decide) (fun hc174 => ?_) (fun hc174 => ?_)
          · replace h := h.1 hc174
            refine lv_iload hx hb d_S_act_243 (lv_at hl65 9 rfl) ?_
            obtain ⟨J349, hJ349, h⟩ := h
            have k349 : ∀ (H : Heap) (locs : List Loc) (ls : Array Slot), GH x S45 s H locs → lv_has ls 11 [(0, .ref a0), (1, .int a1), (2, .int v5), (3, .int v22), (4, .int v50), (5, .int v56), (6, .int k0_92), (7, .int k0_109), (8, .int k0_132)] → J349 → W p l e { frames := 2, cells := 0, slots := 0, locals := 49 } s m args below meth c H locs 0 0 (MQ below (va_Qv post (gB x S) (xA x)) args s 0 0 (xA x)) (F0 m 349 ls []) := by
              intro  H locs ls hG hl86 hj
              replace h := hJ349 hj
              refine lv_iload_n hx hb d_S_act_349 rfl (lv_at hl86 3 rfl) ?_
              refine lv_bipush (v := 115) hx hb d_S_act_350 (by decide) ?_
              refine lv_icmp_ne (tgt := 392) hx hb d_S_act_352 (by decide) (fun hc112 => ?_) (fun hc112 => ?_)
              · replace h := h.2 hc112
                exact k392 v50 v56 k0_92 k0_109 H locs ls hG (lv_sub hl86 [0, 1, 2, 4, 5, 6, 7, 8] rfl) h
              · replace h := h.1 hc112
                refine lv_iload_n hx hb d_S_act_355 rfl (lv_at hl86 2 rfl) ?_
                refine lv_iconst (v := (-1)) hx hb d_S_act_356 (by decide) ?_
                refine lv_icmp_eq (tgt := 392) hx hb d_S_act_357 (by decide) (fun hc111 => ?_) (fun hc111 => ?_)
                · replace h := h.1 hc111
                  exact k392 v50 v56 k0_92 k0_109 H locs ls hG (lv_sub hl86 [0, 1, 2, 4, 5, 6, 7, 8] rfl) h
                · replace h := h.2 hc111
                  refine lv_aload_n hx hb d_S_act_360 rfl (lv_at hl86 0 rfl) ?_
                  refine gget hx hb hw hown hK hG kd_S fa0 rfl 2 (by decide) rfl tw_944 (fun _ h9 => h9) d_S_act_361 ?_
                  refine gtopq (fun o87 eo87 => ?_)
                  replace h := h o87 eo87
                  refine lv_iload_n hx hb d_S_act_364 rfl (lv_at hl86 2 rfl) ?_
                  obtain ⟨y88, ey88, h⟩ := h
                  subst ey88
                  obtain ⟨f89, h⟩ := h
                  obtain ⟨hi90, h⟩ := h
                  refine giald hx hb hK hG f89 hi90 d_S_act_365 ?_
                  refine lv_topi (fun v91 ev91 => ?_)
                  replace h := h v91 ev91
                  refine lv_istore (lv' := [(4, .int v91), (0, .ref a0), (1, .int a1), (2, .int v5), (3, .int v22), (5, .int v56), (6, .int k0_92), (7, .int k0_109), (8, .int k0_132)]) hx hb d_S_act_366 hl86 (by decide) rfl (fun ls hl92 => ?_)
                  refine lv_aload_n hx hb d_S_act_368 rfl (lv_at hl92 1 rfl) ?_
                  refine gget hx hb hw hown hK hG kd_S fa0 rfl 3 (by decide) rfl tw_946 (fun _ h9 => h9) d_S_act_369 ?_
                  refine gtopq (fun o93 eo93 => ?_)
                  replace h := h o93 eo93
                  refine lv_iload_n hx hb d_S_act_372 rfl (lv_at hl92 3 rfl) ?_
                  obtain ⟨y94, ey94, h⟩ := h
                  subst ey94
                  obtain ⟨f95, h⟩ := h
                  obtain ⟨hi96, h⟩ := h
                  refine giald hx hb hK hG f95 hi96 d_S_act_373 ?_
                  refine lv_topi (fun v97 ev97 => ?_)
                  replace h := h v97 ev97
                  refine lv_istore (lv' := [(5, .int v97), (4, .int v91), (0, .ref a0), (1, .int a1), (2, .int v5), (3, .int v22), (6, .int k0_92), (7, .int k0_109), (8, .int k0_132)]) hx hb d_S_act_374 hl92 (by decide) rfl (fun ls hl98 => ?_)
                  refine lv_aload_n hx hb d_S_act_376 rfl (lv_at hl98 2 rfl) ?_
                  refine gget hx hb hw hown hK hG kd_S fa0 rfl 2 (by decide) rfl tw_944 (fun _ h9 => h9) d_S_act_377 ?_
                  refine gtopq (fun o99 eo99 => ?_)
                  replace h := h o99 eo99
                  refine lv_iload_n hx hb d_S_act_380 rfl (lv_at hl98 3 rfl) ?_
                  obtain ⟨y100, ey100, h⟩ := h
                  subst ey100
                  obtain ⟨f101, h⟩ := h
                  obtain ⟨hi102, h⟩ := h
                  refine giald hx hb hK hG f101 hi102 d_S_act_381 ?_
                  refine lv_topi (fun v103 ev103 => ?_)
                  replace h := h v103 ev103
                  refine lv_istore (lv' := [(6, .int v103), (5, .int v97), (4, .int v91), (0, .ref a0), (1, .int a1), (2, .int v5), (3, .int v22), (7, .int k0_109), (8, .int k0_132)]) hx hb d_S_act_382 hl98 (by decide) rfl (fun ls hl104 => ?_)
                  refine lv_aload_n hx hb d_S_act_384 rfl (lv_at hl104 3 rfl) ?_
                  refine gget hx hb hw hown hK hG kd_S fa0 rfl 3 (by decide) rfl tw_946 (fun _ h9 => h9) d_S_act_385 ?_
                  refine gtopq (fun o105 eo105 => ?_)
                  replace h := h o105 eo105
                  refine lv_iload_n hx hb d_S_act_388 rfl (lv_at hl104 4 rfl) ?_
                  obtain ⟨y106, ey106, h⟩ := h
                  subst ey106
                  obtain ⟨f107, h⟩ := h
                  obtain ⟨hi108, h⟩ := h
                  refine giald hx hb hK hG f107 hi108 d_S_act_389 ?_
                  refine lv_topi (fun v109 ev109 => ?_)
                  replace h := h v109 ev109
                  refine lv_istore (lv' := [(7, .int v109), (6, .int v103), (5, .int v97), (4, .int v91), (0, .ref a0), (1, .int a1), (2, .int v5), (3, .int v22), (8, .int k0_132)]) hx hb d_S_act_390 hl104 (by decide) rfl (fun ls hl110 => ?_)
                  exact k392 v91 v97 v103 v109 H locs ls hG (lv_sub hl110 [4, 5, 6, 3, 2, 1, 0, 8] rfl) h
            refine lv_if_le (tgt := 349) hx hb d_S_act_245 (by decide) (fun hc155 => ?_) (fun hc155 => ?_)
            · replace h := h.1 hc155
              exact k349 H locs ls hG (lv_sub hl65 [1, 2, 3, 4, 5, 6, 7, 8, 9] rfl) h
            · replace h := h.2 hc155
              refine lv_iload_n hx hb d_S_act_248 rfl (lv_at hl65 3 rfl) ?_
              refine lv_iconst (v := (-1)) hx hb d_S_act_249 (by decide) ?_
              refine lv_icmp_eq (tgt := 349) hx hb d_S_act_250 (by decide) (fun hc154 => ?_) (fun hc154 => ?_)
              · replace h := h.1 hc154
                exact k349 H locs ls hG (lv_sub hl65 [1, 2, 3, 4, 5, 6, 7, 8, 9] rfl) h
              · replace h := h.2 hc154
                refine lv_iconst (v := 0) hx hb d_S_act_253 (by decide) ?_
                refine lv_istore (lv' := [(10, .int 0), (9, .int k0_175), (0, .ref a0), (1, .int a1), (2, .int v5), (3, .int v22), (4, .int v50), (5, .int v56), (6, .int k0_92), (7, .int k0_109), (8, .int k0_132)]) hx hb d_S_act_254 hl65 (by decide) rfl (fun ls hl113 => ?_)
                obtain ⟨J256, ⟨n0_256, h0_256⟩, hJ256⟩ := h
                have k256 : ∀ (n256 : Nat) (v10_256 : Int32) (H : Heap) (locs : List Loc) (ls : Array Slot), GH x S45 s H locs → lv_has ls 11 [(0, .ref a0), (1, .int a1), (2, .int v5), (4, .int v50), (5, .int v56), (8, .int k0_132), (10, .int v10_256)] → J256 n256 v10_256 → W p l e { frames := 2, cells := 0, slots := 0, locals := 49 } s m args below meth c H locs 0 0 (MQ below (va_Qv post (gB x S) (xA x)) args s 0 0 (xA x)) (F0 m 256 ls []) := by
                  intro n256
                  induction n256 using Nat.strongRecOn with
                  | _ n256 ih256 =>
                    intro v10_256 H locs ls hG hl114 hj
                    replace h := hJ256 n256 v10_256 hj
                    refine lv_aload_n hx hb d_S_act_256 rfl (lv_at hl114 0 rfl) ?_
                    refine gget hx hb hw hown hK hG kd_S fa0 rfl 2 (by decide) rfl tw_944 (fun _ h9 => h9) d_S_act_257 ?_
                    refine gtopq (fun o115 eo115 => ?_)
                    replace h := h o115 eo115
                    refine lv_iload_n hx hb d_S_act_260 rfl (lv_at hl114 1 rfl) ?_
                    obtain ⟨y116, ey116, h⟩ := h
                    subst ey116
                    obtain ⟨f117, h⟩ := h
                    obtain ⟨hi118, h⟩ := h
                    refine giald hx hb hK hG f117 hi118 d_S_act_261 ?_
                    refine gsDxN hx hb hw hown hK hG tw_1173 d_S_act_262 ?_
                    refine lv_iload hx hb d_S_act_265 (lv_at hl114 6 rfl) ?_
                    obtain ⟨hi119, h⟩ := h
                    refine gdx hx hb hK hG hi119 d_S_act_267 ?_
                    refine lv_iadd hx hb d_S_act_268 ?_
                    refine lv_aload_n hx hb d_S_act_269 rfl (lv_at hl114 0 rfl) ?_
                    refine gget hx hb hw hown hK hG kd_S fa0 rfl 2 (by decide) rfl tw_944 (fun _ h9 => h9) d_S_act_270 ?_
                    refine gtopq (fun o120 eo120 => ?_)
                    replace h := h o120 eo120
                    refine lv_iload_n hx hb d_S_act_273 rfl (lv_at hl114 2 rfl) ?_
                    obtain ⟨y121, ey121, h⟩ := h
                    subst ey121
                    obtain ⟨f122, h⟩ := h
                    obtain ⟨hi123, h⟩ := h
                    refine giald hx hb hK hG f122 hi123 d_S_act_274 ?_
                    obtain ⟨J300, hJ300, h⟩ := h
                    have k300 : ∀ (H : Heap) (locs : List Loc) (ls : Array Slot), GH x S45 s H locs → lv_has ls 11 [(0, .ref a0), (1, .int a1), (2, .int v5), (4, .int v50), (5, .int v56), (8, .int k0_132), (10, .int v10_256)] → J300 → W p l e { frames := 2, cells := 0, slots := 0, locals := 49 } s m args below meth c H locs 0 0 (MQ below (va_Qv post (gB x S) (xA x)) args s 0 0 (xA x)) (F0 m 300 ls []) := by
                      intro  H locs ls hG hl124 hj
                      replace h := hJ300 hj
                      obtain ⟨v125, ev125⟩ : ∃ z : Int32, z = v10_256 + 1 := ⟨_, rfl⟩
                      replace h := h v125 ev125
                      refine lv_iinc (v := v125) (lv' := [(10, .int v125), (0, .ref a0), (1, .int a1), (2, .int v5), (4, .int v50), (5, .int v56), (8, .int k0_132)]) hx hb d_S_act_300 hl124 (k := 6) rfl (by rw [ev125]; rfl) (by decide) rfl (fun ls hl126 => ?_)
                      refine lv_goto (tgt := 256) hx hb d_S_act_303 (by decide) ?_
                      obtain ⟨nx, hnx, h⟩ := h
                      exact ih256 nx hnx v125 H locs ls hG (lv_sub hl126 [1, 2, 3, 4, 5, 6, 0] rfl) h
                    refine lv_icmp_ne (tgt := 300) hx hb d_S_act_275 (by decide) (fun hc153 => ?_) (fun hc153 => ?_)
                    · replace h := h.2 hc153
                      exact k300 H locs ls hG (lv_sub hl114 [0, 1, 2, 3, 4, 5, 6] rfl) h
                    · replace h := h.1 hc153
                      refine lv_aload_n hx hb d_S_act_278 rfl (lv_at hl114 0 rfl) ?_
                      refine gget hx hb hw hown hK hG kd_S fa0 rfl 3 (by decide) rfl tw_946 (fun _ h9 => h9) d_S_act_279 ?_
                      refine gtopq (fun o127 eo127 => ?_)
                      replace h := h o127 eo127
                      refine lv_iload_n hx hb d_S_act_282 rfl (lv_at hl114 1 rfl) ?_
                      obtain ⟨y128, ey128, h⟩ := h
                      subst ey128
                      obtain ⟨f129, h⟩ := h
                      obtain ⟨hi130, h⟩ := h
                      refine giald hx hb hK hG f129 hi130 d_S_act_283 ?_
                      refine gsDyN hx hb hw hown hK hG tw_1174 d_S_act_284 ?_
                      refine lv_iload hx hb d_S_act_287 (lv_at hl114 6 rfl) ?_
                      obtain ⟨hi131, h⟩ := h
                      refine gdy hx hb hK hG hi131 d_S_act_289 ?_
                      refine lv_iadd hx hb d_S_act_290 ?_
                      refine lv_aload_n hx hb d_S_act_291 rfl (lv_at hl114 0 rfl) ?_
                      refine gget hx hb hw hown hK hG kd_S fa0 rfl 3 (by decide) rfl tw_946 (fun _ h9 => h9) d_S_act_292 ?_
                      refine gtopq (fun o132 eo132 => ?_)
                      replace h := h o132 eo132
                      refine lv_iload_n hx hb d_S_act_295 rfl (lv_at hl114 2 rfl) ?_
                      obtain ⟨y133, ey133, h⟩ := h
                      subst ey133
                      obtain ⟨f134, h⟩ := h
                      obtain ⟨hi135, h⟩ := h
                      refine giald hx hb hK hG f134 hi135 d_S_act_296 ?_
                      refine lv_icmp_eq (tgt := 306) hx hb d_S_act_297 (by decide) (fun hc152 => ?_) (fun hc152 => ?_)
                      · replace h := h.1 hc152
                        refine lv_aload_n hx hb d_S_act_306 rfl (lv_at hl114 0 rfl) ?_
                        refine gget hx hb hw hown hK hG kd_S fa0 rfl 2 (by decide) rfl tw_944 (fun _ h9 => h9) d_S_act_307 ?_
                        refine gtopq (fun o136 eo136 => ?_)
                        replace h := h o136 eo136
                        refine lv_iload_n hx hb d_S_act_310 rfl (lv_at hl114 1 rfl) ?_
                        obtain ⟨y137, ey137, h⟩ := h
                        subst ey137
                        obtain ⟨f138, h⟩ := h
                        obtain ⟨hi139, h⟩ := h
                        refine giald hx hb hK hG f138 hi139 d_S_act_311 ?_
                        refine gsDxN hx hb hw hown hK hG tw_1173 d_S_act_312 ?_
                        refine lv_iload hx hb d_S_act_315 (lv_at hl114 6 rfl) ?_
                        refine lv_iload hx hb d_S_act_317 (lv_at hl114 5 rfl) ?_
                        refine lv_iadd hx hb d_S_act_319 ?_
                        refine lv_iconst (v := 4) hx hb d_S_act_320 (by decide) ?_
                        refine lv_irem hx hb d_S_act_321 (by decide) ?_
                        refine lv_topi (fun v140 ev140 => ?_)
                        replace h := h v140 ev140
                        obtain ⟨hi141, h⟩ := h
                        refine gdx hx hb hK hG hi141 d_S_act_322 ?_
                        refine lv_iadd hx hb d_S_act_323 ?_
                        refine lv_topi (fun v142 ev142 => ?_)
                        replace h := h v142 ev142
                        refine lv_istore (lv' := [(6, .int v142), (0, .ref a0), (1, .int a1), (2, .int v5), (4, .int v50), (5, .int v56), (8, .int k0_132), (10, .int v10_256)]) hx hb d_S_act_324 hl114 (by decide) rfl (fun ls hl143 => ?_)
                        refine lv_aload_n hx hb d_S_act_326 rfl (lv_at hl143 1 rfl) ?_
                        refine gget hx hb hw hown hK hG kd_S fa0 rfl 3 (by decide) rfl tw_946 (fun _ h9 => h9) d_S_act_327 ?_
                        refine gtopq (fun o144 eo144 => ?_)
                        replace h := h o144 eo144
                        refine lv_iload_n hx hb d_S_act_330 rfl (lv_at hl143 2 rfl) ?_
                        obtain ⟨y145, ey145, h⟩ := h
                        subst ey145
                        obtain ⟨f146, h⟩ := h
                        obtain ⟨hi147, h⟩ := h
                        refine giald hx hb hK hG f146 hi147 d_S_act_331 ?_
                        refine gsDyN hx hb hw hown hK hG tw_1174 d_S_act_332 ?_
                        refine lv_iload hx hb d_S_act_335 (lv_at hl143 7 rfl) ?_
                        refine lv_iload hx hb d_S_act_337 (lv_at hl143 6 rfl) ?_
                        refine lv_iadd hx hb d_S_act_339 ?_
                        refine lv_iconst (v := 4) hx hb d_S_act_340 (by decide) ?_
                        refine lv_irem hx hb d_S_act_341 (by decide) ?_
                        refine lv_topi (fun v148 ev148 => ?_)
                        replace h := h v148 ev148
                        obtain ⟨hi149, h⟩ := h
                        refine gdy hx hb hK hG hi149 d_S_act_342 ?_
                        refine lv_iadd hx hb d_S_act_343 ?_
                        refine lv_topi (fun v150 ev150 => ?_)
                        replace h := h v150 ev150
                        refine lv_istore (lv' := [(7, .int v150), (6, .int v142), (0, .ref a0), (1, .int a1), (2, .int v5), (4, .int v50), (5, .int v56), (8, .int k0_132), (10, .int v10_256)]) hx hb d_S_act_344 hl143 (by decide) rfl (fun ls hl151 => ?_)
                        refine lv_goto (tgt := 392) hx hb d_S_act_346 (by decide) ?_
                        exact k392 v50 v56 v142 v150 H locs ls hG (lv_sub hl151 [2, 3, 4, 5, 6, 1, 0, 7] rfl) h
                      · replace h := h.2 hc152
                        exact k300 H locs ls hG (lv_sub hl114 [0, 1, 2, 3, 4, 5, 6] rfl) h
                exact k256 n0_256 0 H locs ls hG (lv_sub hl113 [2, 3, 4, 6, 7, 10, 0] rfl) h0_256
          · replace h := h.2 hc174
            refine lv_aload_n hx hb d_S_act_183 rfl (lv_at hl65 1 rfl) ?_
            refine gget hx hb hw hown hK hG kd_S fa0 rfl 4 (by decide) rfl tw_948 (fun _ h9 => h9) d_S_act_184 ?_
            refine gtopq (fun o156 eo156 => ?_)
            replace h := h o156 eo156
            refine lv_iload_n hx hb d_S_act_187 rfl (lv_at hl65 2 rfl) ?_
            obtain ⟨y157, ey157, h⟩ := h
            subst ey157
            obtain ⟨f158, h⟩ := h
            obtain ⟨hi159, h⟩ := h
            refine giald hx hb hK hG f158 hi159 d_S_act_188 ?_
            refine lv_iload hx hb d_S_act_189 (lv_at hl65 0 rfl) ?_
            refine lv_iadd hx hb d_S_act_191 ?_
            refine lv_iconst (v := 4) hx hb d_S_act_192 (by decide) ?_
            refine lv_irem hx hb d_S_act_193 (by decide) ?_
            refine lv_topi (fun v160 ev160 => ?_)
            replace h := h v160 ev160
            refine lv_istore (lv' := [(9, .int v160), (0, .ref a0), (1, .int a1), (2, .int v5), (3, .int v22), (4, .int v50), (5, .int v56), (6, .int k0_92), (7, .int k0_109), (8, .int k0_132)]) hx hb d_S_act_194 hl65 (by decide) rfl (fun ls hl161 => ?_)
            refine lv_iload hx hb d_S_act_196 (lv_at hl161 5 rfl) ?_
            refine gsDxN hx hb hw hown hK hG tw_1173 d_S_act_198 ?_
            refine lv_iload hx hb d_S_act_201 (lv_at hl161 0 rfl) ?_
            obtain ⟨hi162, h⟩ := h
            refine gdx hx hb hK hG hi162 d_S_act_203 ?_
            refine lv_iadd hx hb d_S_act_204 ?_
            refine lv_topi (fun v163 ev163 => ?_)
            replace h := h v163 ev163
            refine lv_istore (lv' := [(4, .int v163), (9, .int v160), (0, .ref a0), (1, .int a1), (2, .int v5), (3, .int v22), (5, .int v56), (6, .int k0_92), (7, .int k0_109), (8, .int k0_132)]) hx hb d_S_act_205 hl161 (by decide) rfl (fun ls hl164 => ?_)
            refine lv_iload hx hb d_S_act_207 (lv_at hl164 6 rfl) ?_
            refine gsDyN hx hb hw hown hK hG tw_1174 d_S_act_209 ?_
            refine lv_iload hx hb d_S_act_212 (lv_at hl164 1 rfl) ?_
            obtain ⟨hi165, h⟩ := h
            refine gdy hx hb hK hG hi165 d_S_act_214 ?_
            refine lv_iadd hx hb d_S_act_215 ?_
            refine lv_topi (fun v166 ev166 => ?_)
            replace h := h v166 ev166
            refine lv_istore (lv' := [(5, .int v166), (4, .int v163), (9, .int v160), (0, .ref a0), (1, .int a1), (2, .int v5), (3, .int v22), (6, .int k0_92), (7, .int k0_109), (8, .int k0_132)]) hx hb d_S_act_216 hl164 (by decide) rfl (fun ls hl167 => ?_)
            refine lv_iload hx hb d_S_act_218 (lv_at hl167 7 rfl) ?_
            refine gsDxN hx hb hw hown hK hG tw_1173 d_S_act_220 ?_
            refine lv_iload hx hb d_S_act_223 (lv_at hl167 2 rfl) ?_
            obtain ⟨hi168, h⟩ := h
            refine gdx hx hb hK hG hi168 d_S_act_225 ?_
            refine lv_iadd hx hb d_S_act_226 ?_
            refine lv_topi (fun v169 ev169 => ?_)
            replace h := h v169 ev169
            refine lv_istore (lv' := [(6, .int v169), (5, .int v166), (4, .int v163), (9, .int v160), (0, .ref a0), (1, .int a1), (2, .int v5), (3, .int v22), (7, .int k0_109), (8, .int k0_132)]) hx hb d_S_act_227 hl167 (by decide) rfl (fun ls hl170 => ?_)
            refine lv_iload hx hb d_S_act_229 (lv_at hl170 8 rfl) ?_
            refine gsDyN hx hb hw hown hK hG tw_1174 d_S_act_231 ?_
            refine lv_iload hx hb d_S_act_234 (lv_at hl170 3 rfl) ?_
            obtain ⟨hi171, h⟩ := h
            refine gdy hx hb hK hG hi171 d_S_act_236 ?_
            refine lv_iadd hx hb d_S_act_237 ?_
            refine lv_topi (fun v172 ev172 => ?_)
            replace h := h v172 ev172
            refine lv_istore (lv' := [(7, .int v172), (6, .int v169), (5, .int v166), (4, .int v163), (9, .int v160), (0, .ref a0), (1, .int a1), (2, .int v5), (3, .int v22), (8, .int k0_132)]) hx hb d_S_act_238 hl170 (by decide) rfl (fun ls hl173 => ?_)
            refine lv_goto (tgt := 392) hx hb d_S_act_240 (by decide) ?_
            exact k392 v163 v166 v169 v172 H locs ls hG (lv_sub hl173 [5, 6, 7, 3, 2, 1, 0, 9] rfl) h
        refine lv_icmp_ne (tgt := 144) hx hb d_S_act_137 (by decide) (fun hc178 => ?_) (fun hc178 => ?_)
        · replace h := h.2 hc178
          refine lv_iload_n hx hb d_S_act_144 rfl (lv_at hl63 4 rfl) ?_
          refine lv_bipush (v := 114) hx hb d_S_act_145 (by decide) ?_
          refine lv_icmp_ne (tgt := 154) hx hb d_S_act_147 (by decide) (fun hc177 => ?_) (fun hc177 => ?_)
          · replace h := h.2 hc177
            refine lv_iload_n hx hb d_S_act_154 rfl (lv_at hl63 4 rfl) ?_
            refine lv_bipush (v := 98) hx hb d_S_act_155 (by decide) ?_
            refine lv_icmp_ne (tgt := 164) hx hb d_S_act_157 (by decide) (fun hc176 => ?_) (fun hc176 => ?_)
            · replace h := h.2 hc176
              refine lv_iload_n hx hb d_S_act_164 rfl (lv_at hl63 4 rfl) ?_
              refine lv_bipush (v := 108) hx hb d_S_act_165 (by decide) ?_
              refine lv_icmp_ne (tgt := 174) hx hb d_S_act_167 (by decide) (fun hc175 => ?_) (fun hc175 => ?_)
              · replace h := h.2 hc175
                refine lv_iconst (v := (-1)) hx hb d_S_act_174 (by decide) ?_
                exact k175 (-1) H locs ls hG (lv_sub hl63 [1, 2, 3, 4, 5, 6, 7, 8, 0] rfl) h
              · replace h := h.1 hc175
                refine lv_iconst (v := 3) hx hb d_S_act_170 (by decide) ?_
                refine lv_goto (tgt := 175) hx hb d_S_act_171 (by decide) ?_
                exact k175 3 H locs ls hG (lv_sub hl63 [1, 2, 3, 4, 5, 6, 7, 8, 0] rfl) h
            · replace h := h.1 hc176
              refine lv_iconst (v := 2) hx hb d_S_act_160 (by decide) ?_
              refine lv_goto (tgt := 175) hx hb d_S_act_161 (by decide) ?_
              exact k175 2 H locs ls hG (lv_sub hl63 [1, 2, 3, 4, 5, 6, 7, 8, 0] rfl) h
          · replace h := h.1 hc177
            refine lv_iconst (v := 1) hx hb d_S_act_150 (by decide) ?_
            refine lv_goto (tgt := 175) hx hb d_S_act_151 (by decide) ?_
            exact k175 1 H locs ls hG (lv_sub hl63 [1, 2, 3, 4, 5, 6, 7, 8, 0] rfl) h
        · replace h := h.1 hc178
          refine lv_iconst (v := 0) hx hb d_S_act_140 (by decide) ?_
          refine lv_goto (tgt := 175) hx hb d_S_act_141 (by decide) ?_
          exact k175 0 H locs ls hG (lv_sub hl63 [1, 2, 3, 4, 5, 6, 7, 8, 0] rfl) h
      refine lv_icmp_ne (tgt := 121) hx hb d_S_act_114 (by decide) (fun hc180 => ?_) (fun hc180 => ?_)
      · replace h := h.2 hc180
        refine lv_iload_n hx hb d_S_act_121 rfl (lv_at hl61 4 rfl) ?_
        refine lv_bipush (v := 117) hx hb d_S_act_122 (by decide) ?_
        refine lv_icmp_ne (tgt := 131) hx hb d_S_act_124 (by decide) (fun hc179 => ?_) (fun hc179 => ?_)
        · replace h := h.2 hc179
          refine lv_iconst (v := 0) hx hb d_S_act_131 (by decide) ?_
          exact k132 0 H locs ls hG (lv_sub hl61 [1, 2, 3, 4, 5, 6, 7, 0] rfl) h
        · replace h := h.1 hc179
          refine lv_iconst (v := 3) hx hb d_S_act_127 (by decide) ?_
          refine lv_goto (tgt := 132) hx hb d_S_act_128 (by decide) ?_
          exact k132 3 H locs ls hG (lv_sub hl61 [1, 2, 3, 4, 5, 6, 7, 0] rfl) h
      · replace h := h.1 hc180
        refine lv_iconst (v := 1) hx hb d_S_act_117 (by decide) ?_
        refine lv_goto (tgt := 132) hx hb d_S_act_118 (by decide) ?_
        exact k132 1 H locs ls hG (lv_sub hl61 [1, 2, 3, 4, 5, 6, 7, 0] rfl) h
    refine lv_icmp_ne (tgt := 103) hx hb d_S_act_96 (by decide) (fun hc185 => ?_) (fun hc185 => ?_)
    · replace h := h.2 hc185
      refine lv_aload_n hx hb d_S_act_103 rfl (lv_at hl59 1 rfl) ?_
      refine gget hx hb hw hown hK hG kd_S fa0 rfl 3 (by decide) rfl tw_946 (fun _ h9 => h9) d_S_act_104 ?_
      refine gtopq (fun o181 eo181 => ?_)
      replace h := h o181 eo181
      refine lv_iload_n hx hb d_S_act_107 rfl (lv_at hl59 3 rfl) ?_
      obtain ⟨y182, ey182, h⟩ := h
      subst ey182
      obtain ⟨f183, h⟩ := h
      obtain ⟨hi184, h⟩ := h
      refine giald hx hb hK hG f183 hi184 d_S_act_108 ?_
      exact k109 (sR S45 y182 v5.toNatClampNeg) H locs ls hG (lv_sub hl59 [1, 2, 3, 4, 5, 6, 0] rfl) h
    · replace h := h.1 hc185
      refine lv_iconst (v := 0) hx hb d_S_act_99 (by decide) ?_
      refine lv_goto (tgt := 109) hx hb d_S_act_100 (by decide) ?_
      exact k109 0 H locs ls hG (lv_sub hl59 [1, 2, 3, 4, 5, 6, 0] rfl) h
  refine lv_icmp_ne (tgt := 86) hx hb d_S_act_79 (by decide) (fun hc190 => ?_) (fun hc190 => ?_)
  · replace h := h.2 hc190
    refine lv_aload_n hx hb d_S_act_86 rfl (lv_at hl57 4 rfl) ?_
    refine gget hx hb hw hown hK hG kd_S fa0 rfl 2 (by decide) rfl tw_944 (fun _ h9 => h9) d_S_act_87 ?_
    refine gtopq (fun o186 eo186 => ?_)
    replace h := h o186 eo186
    refine lv_iload_n hx hb d_S_act_90 rfl (lv_at hl57 3 rfl) ?_
    obtain ⟨y187, ey187, h⟩ := h
    subst ey187
    obtain ⟨f188, h⟩ := h
    obtain ⟨hi189, h⟩ := h
    refine giald hx hb hK hG f188 hi189 d_S_act_91 ?_
    exact k92 (sR S45 y187 v5.toNatClampNeg) H locs ls hG (lv_sub hl57 [4, 5, 3, 2, 1, 0] rfl) h
  · replace h := h.1 hc190
    refine lv_iconst (v := 0) hx hb d_S_act_82 (by decide) ?_
    refine lv_goto (tgt := 92) hx hb d_S_act_83 (by decide) ?_
    exact k92 0 H locs ls hG (lv_sub hl57 [4, 5, 3, 2, 1, 0] rfl) h
def w_IN_signum (post : Int32 → Prop) (S : St) (a0 : Int32) : Prop :=
  post ((a0 >>> (31 &&& 31)) ||| (((-a0).toUInt32 >>> ((31 : Int32).toUInt32 &&& Int32.toUInt32 31)).toInt32))
set_option maxHeartbeats 4000000 in
set_option maxRecDepth 100000 in
theorem m_IN_signum (l : Launch) (x : Cx) (S : St) (post : Int32 → Prop) (a0 : Int32) (h : w_IN_signum post S a0) : Met l y_IN_signum [.code y_IN_signum c_IN_signum 1 (some .int)] { frames := 0, cells := 0, slots := 0, locals := 0 } (va_Pc [.int a0] (GW x S)) (va_Qi (gPu post S) (gB x S) (xA x)) 0 0 (xA x) := by
  refine gMet (by decide +kernel) (Nat.le_of_ble_eq_true rfl) ?_
  intro p e s m args below meth c hx hb hr hown hlocks hin hw hK H locs hG ls hlA hml
  have hown : s.vm.findClass "java/lang/Integer" = some m.cls := hown
  have hl0 : lv_has ls 1 [(0, .int a0)] := hlA
  unfold w_IN_signum at h
  refine lv_iload_n hx hb d_IN_signum_0 rfl (lv_at hl0 0 rfl) ?_
  refine lv_bipush (v := 31) hx hb d_IN_signum_1 (by decide) ?_
  refine lv_ishr hx hb d_IN_signum_3 ?_
  refine lv_iload_n hx hb d_IN_signum_4 rfl (lv_at hl0 0 rfl) ?_
  refine lv_ineg hx hb d_IN_signum_5 ?_
  refine lv_bipush (v := 31) hx hb d_IN_signum_6 (by decide) ?_
  refine lv_iushr hx hb d_IN_signum_8 rfl ?_
  refine lv_ior hx hb d_IN_signum_9 ?_
  exact giret hx hb hr hlocks hK hG gle.rf ⟨h, rfl⟩ (Nat.le_of_ble_eq_true rfl) (Nat.le_of_ble_eq_true rfl) d_IN_signum_10
def w_S_go (post : St → Prop) (S : St) (a0 : Nat) (a1 : Int32) : Prop :=
  ∀ v1 : Int32, v1 = 6 * a1 → ∀ o3 : Option Nat, o3 = sQ S 54 a0 → ∀ o4 : Option Nat, o4 = sQ S 53 a0 → ∃ y5 : Nat, o4 = some y5 ∧ isA S 10 y5 ∧ vp_in (v1 + 4) (sN S y5) ∧ ∃ y8 : Nat, o3 = some y8 ∧ isA S 10 y8 ∧ vp_in ((8 * a1) + (sR S y5 (v1 + 4).toNatClampNeg)) (sN S y8) ∧ ∀ v11 : Int32, v11 = sR S y8 ((8 * a1) + (sR S y5 (v1 + 4).toNatClampNeg)).toNatClampNeg → ∀ o13 : Option Nat, o13 = sQ S 40 a0 → ∃ y14 : Nat, o13 = some y14 ∧ isA S 10 y14 ∧ vp_in v11 (sN S y14) ∧ ∀ o17 : Option Nat, o17 = sQ S 53 a0 → ∃ y18 : Nat, o17 = some y18 ∧ isA S 10 y18 ∧ vp_in v1 (sN S y18) ∧ ∀ v21 : Int32, v21 = (sR S y14 v11.toNatClampNeg) - (sR S y18 v1.toNatClampNeg) → ∀ o23 : Option Nat, o23 = sQ S 41 a0 → ∃ y24 : Nat, o23 = some y24 ∧ isA S 10 y24 ∧ vp_in v11 (sN S y24) ∧ ∀ o27 : Option Nat, o27 = sQ S 53 a0 → ∃ y28 : Nat, o27 = some y28 ∧ isA S 10 y28 ∧ vp_in (v1 + 1) (sN S y28) ∧ ∀ v31 : Int32, v31 = (sR S y24 v11.toNatClampNeg) - (sR S y28 (v1 + 1).toNatClampNeg) → ∀ v33 : Int32, v33 = (if 0 ≤ v21 then v21 else 0 - v21) → ∀ v34 : Int32, v34 = (if 0 ≤ v31 then v31 else 0 - v31) → ∃ J76 : Int32 → Prop, (∀ (k0_76 : Int32), J76 k0_76 → ∀ o37 : Option Nat, o37 = sQ S 43 a0 → ∃ y38 : Nat, o37 = some y38 ∧ isA S 10 y38 ∧ vp_in v11 (sN S y38) ∧ ∃ J134 : Prop, (J134 → ∀ o42 : Option Nat, o42 = sQ S 43 a0 → ∃ y43 : Nat, o42 = some y43 ∧ isA S 10 y43 ∧ vp_in v11 (sN S y43) ∧ ∃ J185 : St → Prop, (∀ (S_185 : St), J185 S_185 → ∀ o47 : Option Nat, o47 = sQ S_185 53 a0 → ∀ o48 : Option Nat, o48 = sQ S_185 53 a0 → ∃ y49 : Nat, o48 = some y49 ∧ isA S_185 10 y49 ∧ vp_in (v1 + 4) (sN S_185 y49) ∧ ∀ o52 : Option Nat, o52 = sQ S_185 53 a0 → ∃ y53 : Nat, o52 = some y53 ∧ isA S_185 10 y53 ∧ vp_in (v1 + 3) (sN S_185 y53) ∧ ¬ (sR S_185 y53 (v1 + 3).toNatClampNeg) = 0 ∧ ∀ v57 : Int32, v57 = ((sR S_185 y49 (v1 + 4).toNatClampNeg) + 1) - ((sR S_185 y49 (v1 + 4).toNatClampNeg) + 1) / (sR S_185 y53 (v1 + 3).toNatClampNeg) * (sR S_185 y53 (v1 + 3).toNatClampNeg) → ∃ y58 : Nat, o47 = some y58 ∧ isA S_185 10 y58 ∧ vp_in (v1 + 4) (sN S_185 y58) ∧ ∀ S61 : St, S61 = pR S_185 y58 ((v1 + 4).toNatClampNeg) v57 → post S61) ∧ (150 ≤ (sR S y43 v11.toNatClampNeg) → J185 S) ∧ (¬ 150 ≤ (sR S y43 v11.toNatClampNeg) → ∀ o62 : Option Nat, o62 = sQ S 43 a0 → ∀ o63 : Option Nat, o63 = sQ S 43 a0 → ∃ y64 : Nat, o63 = some y64 ∧ isA S 10 y64 ∧ vp_in v11 (sN S y64) ∧ ∀ o67 : Option Nat, o67 = sQ S 53 a0 → ∃ y68 : Nat, o67 = some y68 ∧ isA S 10 y68 ∧ vp_in (v1 + 2) (sN S y68) ∧ ∀ v71 : Int32, v71 = (if ((sR S y64 v11.toNatClampNeg) + (sR S y68 (v1 + 2).toNatClampNeg)) < 200 then ((sR S y64 v11.toNatClampNeg) + (sR S y68 (v1 + 2).toNatClampNeg)) else 200) → ∃ y72 : Nat, o62 = some y72 ∧ isA S 10 y72 ∧ vp_in v11 (sN S y72) ∧ ∀ S75 : St, S75 = pR S y72 (v11.toNatClampNeg) v71 → ∀ o76 : Option Nat, o76 = sQ S75 53 a0 → ∃ y77 : Nat, o76 = some y77 ∧ isA S75 10 y77 ∧ vp_in (v1 + 5) (sN S75 y77) ∧ vp_in (v1 + 5) (sN S75 y77) ∧ ∀ S81 : St, S81 = pR S75 y77 ((v1 + 5).toNatClampNeg) ((sR S75 y77 (v1 + 5).toNatClampNeg) + 1) → J185 S81)) ∧ (150 ≤ (sR S y38 v11.toNatClampNeg) → J134) ∧ (¬ 150 ≤ (sR S y38 v11.toNatClampNeg) → (k0_76 = 0 → (v21 = 0 → ∀ o83 : Option Nat, o83 = sQ S 53 a0 → ∃ y84 : Nat, o83 = some y84 ∧ isA S 10 y84 ∧ vp_in (v1 + 1) (sN S y84) ∧ w_IN_signum (fun (r87 : Int32) => vp_in (v1 + 1) (sN S y84) ∧ ∀ S89 : St, S89 = pR S y84 ((v1 + 1).toNatClampNeg) ((sR S y84 (v1 + 1).toNatClampNeg) + r87) → post S89) S v31) ∧ (¬ v21 = 0 → ∀ o90 : Option Nat, o90 = sQ S 53 a0 → ∃ y91 : Nat, o90 = some y91 ∧ isA S 10 y91 ∧ vp_in v1 (sN S y91) ∧ w_IN_signum (fun (r94 : Int32) => vp_in v1 (sN S y91) ∧ ∀ S96 : St, S96 = pR S y91 (v1.toNatClampNeg) ((sR S y91 v1.toNatClampNeg) + r94) → post S96) S v21)) ∧ (¬ k0_76 = 0 → J134))) ∧ (2 ≤ (v33 + v34) → J76 0) ∧ (¬ 2 ≤ (v33 + v34) → J76 1)
set_option maxHeartbeats 4000000 in
set_option maxRecDepth 100000 in
theorem m_S_go (l : Launch) (x : Cx) (S : St) (post : St → Prop) (a0 : Nat) (a1 : Int32) (fa0 : isA S 7 a0) (h : w_S_go post S a0 a1) : Met l y_S_go [.code y_S_go c_S_go 7 none] { frames := 1, cells := 0, slots := 0, locals := 21 } (va_Pc [.ref a0, .int a1] (GW x S)) (va_Qv post (gB x S) (xA x)) 0 0 (xA x) := by
  refine gMet (by decide +kernel) (Nat.le_of_ble_eq_true rfl) ?_
  intro p e s m args below meth c hx hb hr hown hlocks hin hw hK H locs hG ls hlA hml
  have hown : s.vm.findClass "WaltzHallModel$State" = some m.cls := hown
  have hl0 : lv_has ls 7 [(0, .ref a0), (1, .int a1)] := hlA
  have leS : gle S S := gle.rf
  unfold w_S_go at h
  refine lv_bipush (v := 6) hx hb d_S_go_0 (by decide) ?_
  refine lv_iload_n hx hb d_S_go_2 rfl (lv_at hl0 1 rfl) ?_
  refine lv_imul hx hb d_S_go_3 ?_
  refine lv_topi (fun v1 ev1 => ?_)
  replace h := h v1 ev1
  refine lv_istore_n (i := 2) (lv' := [(2, .int v1), (0, .ref a0), (1, .int a1)]) hx hb d_S_go_4 rfl hl0 (by decide) rfl (fun ls hl2 => ?_)
  refine lv_aload_n hx hb d_S_go_5 rfl (lv_at hl2 1 rfl) ?_
  refine gget hx hb hw hown hK hG kd_S fa0 rfl 16 (by decide) rfl tw_972 (fun _ h9 => h9) d_S_go_6 ?_
  refine gtopq (fun o3 eo3 => ?_)
  replace h := h o3 eo3
  refine lv_bipush (v := 8) hx hb d_S_go_9 (by decide) ?_
  refine lv_iload_n hx hb d_S_go_11 rfl (lv_at hl2 2 rfl) ?_
  refine lv_imul hx hb d_S_go_12 ?_
  refine lv_aload_n hx hb d_S_go_13 rfl (lv_at hl2 1 rfl) ?_
  refine gget hx hb hw hown hK hG kd_S fa0 rfl 15 (by decide) rfl tw_970 (fun _ h9 => h9) d_S_go_14 ?_
  refine gtopq (fun o4 eo4 => ?_)
  replace h := h o4 eo4
  refine lv_iload_n hx hb d_S_go_17 rfl (lv_at hl2 0 rfl) ?_
  refine lv_iconst (v := 4) hx hb d_S_go_18 (by decide) ?_
  refine lv_iadd hx hb d_S_go_19 ?_
  obtain ⟨y5, ey5, h⟩ := h
  subst ey5
  obtain ⟨f6, h⟩ := h
  obtain ⟨hi7, h⟩ := h
  refine giald hx hb hK hG f6 hi7 d_S_go_20 ?_
  refine lv_iadd hx hb d_S_go_21 ?_
  obtain ⟨y8, ey8, h⟩ := h
  subst ey8
  obtain ⟨f9, h⟩ := h
  obtain ⟨hi10, h⟩ := h
  refine giald hx hb hK hG f9 hi10 d_S_go_22 ?_
  refine lv_topi (fun v11 ev11 => ?_)
  replace h := h v11 ev11
  refine lv_istore_n (i := 3) (lv' := [(3, .int v11), (2, .int v1), (0, .ref a0), (1, .int a1)]) hx hb d_S_go_23 rfl hl2 (by decide) rfl (fun ls hl12 => ?_)
  refine lv_aload_n hx hb d_S_go_24 rfl (lv_at hl12 2 rfl) ?_
  refine gget hx hb hw hown hK hG kd_S fa0 rfl 2 (by decide) rfl tw_944 (fun _ h9 => h9) d_S_go_25 ?_
  refine gtopq (fun o13 eo13 => ?_)
  replace h := h o13 eo13
  refine lv_iload_n hx hb d_S_go_28 rfl (lv_at hl12 0 rfl) ?_
  obtain ⟨y14, ey14, h⟩ := h
  subst ey14
  obtain ⟨f15, h⟩ := h
  obtain ⟨hi16, h⟩ := h
  refine giald hx hb hK hG f15 hi16 d_S_go_29 ?_
  refine lv_aload_n hx hb d_S_go_30 rfl (lv_at hl12 2 rfl) ?_
  refine gget hx hb hw hown hK hG kd_S fa0 rfl 15 (by decide) rfl tw_970 (fun _ h9 => h9) d_S_go_31 ?_
  refine gtopq (fun o17 eo17 => ?_)
  replace h := h o17 eo17
  refine lv_iload_n hx hb d_S_go_34 rfl (lv_at hl12 1 rfl) ?_
  obtain ⟨y18, ey18, h⟩ := h
  subst ey18
  obtain ⟨f19, h⟩ := h
  obtain ⟨hi20, h⟩ := h
  refine giald hx hb hK hG f19 hi20 d_S_go_35 ?_
  refine lv_isub hx hb d_S_go_36 ?_
  refine lv_topi (fun v21 ev21 => ?_)
  replace h := h v21 ev21
  refine lv_istore (lv' := [(4, .int v21), (3, .int v11), (2, .int v1), (0, .ref a0), (1, .int a1)]) hx hb d_S_go_37 hl12 (by decide) rfl (fun ls hl22 => ?_)
  refine lv_aload_n hx hb d_S_go_39 rfl (lv_at hl22 3 rfl) ?_
  refine gget hx hb hw hown hK hG kd_S fa0 rfl 3 (by decide) rfl tw_946 (fun _ h9 => h9) d_S_go_40 ?_
  refine gtopq (fun o23 eo23 => ?_)
  replace h := h o23 eo23
  refine lv_iload_n hx hb d_S_go_43 rfl (lv_at hl22 1 rfl) ?_
  obtain ⟨y24, ey24, h⟩ := h
  subst ey24
  obtain ⟨f25, h⟩ := h
  obtain ⟨hi26, h⟩ := h
  refine giald hx hb hK hG f25 hi26 d_S_go_44 ?_
  refine lv_aload_n hx hb d_S_go_45 rfl (lv_at hl22 3 rfl) ?_
  refine gget hx hb hw hown hK hG kd_S fa0 rfl 15 (by decide) rfl tw_970 (fun _ h9 => h9) d_S_go_46 ?_
  refine gtopq (fun o27 eo27 => ?_)
  replace h := h o27 eo27
  refine lv_iload_n hx hb d_S_go_49 rfl (lv_at hl22 2 rfl) ?_
  refine lv_iconst (v := 1) hx hb d_S_go_50 (by decide) ?_
  refine lv_iadd hx hb d_S_go_51 ?_
  obtain ⟨y28, ey28, h⟩ := h
  subst ey28
  obtain ⟨f29, h⟩ := h
  obtain ⟨hi30, h⟩ := h
  refine giald hx hb hK hG f29 hi30 d_S_go_52 ?_
  refine lv_isub hx hb d_S_go_53 ?_
  refine lv_topi (fun v31 ev31 => ?_)
  replace h := h v31 ev31
  refine lv_istore (lv' := [(5, .int v31), (4, .int v21), (3, .int v11), (2, .int v1), (0, .ref a0), (1, .int a1)]) hx hb d_S_go_54 hl22 (by decide) rfl (fun ls hl32 => ?_)
  refine lv_iload hx hb d_S_go_56 (lv_at hl32 1 rfl) ?_
  refine va_mabs hx hb (hml.trans hl32.1.symm) hown (hw _ tw_1105) (hw _ tw_676) (hw _ tw_40) (hw _ tw_677) (Nat.le_of_ble_eq_true rfl) (Nat.le_of_ble_eq_true rfl) (Nat.le_of_ble_eq_true rfl) (Nat.le_of_ble_eq_true rfl) d_S_go_58 ?_
  refine lv_topi (fun v33 ev33 => ?_)
  replace h := h v33 ev33
  refine lv_iload hx hb d_S_go_61 (lv_at hl32 0 rfl) ?_
  refine va_mabs hx hb (hml.trans hl32.1.symm) hown (hw _ tw_1105) (hw _ tw_676) (hw _ tw_40) (hw _ tw_677) (Nat.le_of_ble_eq_true rfl) (Nat.le_of_ble_eq_true rfl) (Nat.le_of_ble_eq_true rfl) (Nat.le_of_ble_eq_true rfl) d_S_go_63 ?_
  refine lv_topi (fun v34 ev34 => ?_)
  replace h := h v34 ev34
  refine lv_iadd hx hb d_S_go_66 ?_
  refine lv_iconst (v := 2) hx hb d_S_go_67 (by decide) ?_
  obtain ⟨J76, hJ76, h⟩ := h
  have k76 : ∀ (k0_76 : Int32) (H : Heap) (locs : List Loc) (ls : Array Slot), GH x S s H locs → lv_has ls 7 [(0, .ref a0), (2, .int v1), (3, .int v11), (4, .int v21), (5, .int v31)] → J76 k0_76 → W p l e { frames := 1, cells := 0, slots := 0, locals := 21 } s m args below meth c H locs 0 0 (MQ below (va_Qv post (gB x S) (xA x)) args s 0 0 (xA x)) (F0 m 76 ls [.int k0_76]) := by
    intro k0_76  H locs ls hG hl35 hj
    replace h := hJ76 k0_76 hj
    refine lv_istore (lv' := [(6, .int k0_76), (0, .ref a0), (2, .int v1), (3, .int v11), (4, .int v21), (5, .int v31)]) hx hb d_S_go_76 hl35 (by decide) rfl (fun ls hl36 => ?_)
    refine lv_aload_n hx hb d_S_go_78 rfl (lv_at hl36 1 rfl) ?_
    refine gget hx hb hw hown hK hG kd_S fa0 rfl 5 (by decide) rfl tw_950 (fun _ h9 => h9) d_S_go_79 ?_
    refine gtopq (fun o37 eo37 => ?_)
    replace h := h o37 eo37
    refine lv_iload_n hx hb d_S_go_82 rfl (lv_at hl36 3 rfl) ?_
    obtain ⟨y38, ey38, h⟩ := h
    subst ey38
    obtain ⟨f39, h⟩ := h
    obtain ⟨hi40, h⟩ := h
    refine giald hx hb hK hG f39 hi40 d_S_go_83 ?_
    refine lv_sipush (v := 150) hx hb d_S_go_84 (by decide) ?_
    obtain ⟨J134, hJ134, h⟩ := h
    have k134 : ∀ (H : Heap) (locs : List Loc) (ls : Array Slot), GH x S s H locs → lv_has ls 7 [(0, .ref a0), (2, .int v1), (3, .int v11)] → J134 → W p l e { frames := 1, cells := 0, slots := 0, locals := 21 } s m args below meth c H locs 0 0 (MQ below (va_Qv post (gB x S) (xA x)) args s 0 0 (xA x)) (F0 m 134 ls []) := by
      intro  H locs ls hG hl41 hj
      replace h := hJ134 hj
      refine lv_aload_n hx hb d_S_go_134 rfl (lv_at hl41 0 rfl) ?_
      refine gget hx hb hw hown hK hG kd_S fa0 rfl 5 (by decide) rfl tw_950 (fun _ h9 => h9) d_S_go_135 ?_
      refine gtopq (fun o42 eo42 => ?_)
      replace h := h o42 eo42
      refine lv_iload_n hx hb d_S_go_138 rfl (lv_at hl41 2 rfl) ?_
      obtain ⟨y43, ey43, h⟩ := h
      subst ey43
      obtain ⟨f44, h⟩ := h
      obtain ⟨hi45, h⟩ := h
      refine giald hx hb hK hG f44 hi45 d_S_go_139 ?_
      refine lv_sipush (v := 150) hx hb d_S_go_140 (by decide) ?_
      obtain ⟨J185, hJ185, h⟩ := h
      have k185 : ∀ (S_185 : St) (H : Heap) (locs : List Loc) (ls : Array Slot), gle S S_185 → GH x S_185 s H locs → lv_has ls 7 [(0, .ref a0), (2, .int v1)] → J185 S_185 → W p l e { frames := 1, cells := 0, slots := 0, locals := 21 } s m args below meth c H locs 0 0 (MQ below (va_Qv post (gB x S) (xA x)) args s 0 0 (xA x)) (F0 m 185 ls []) := by
        intro S_185  H locs ls hle1 hG hl46 hj
        replace h := hJ185 S_185 hj
        have fa0 := gle_isA hle1 fa0
        have f6 := gle_isA hle1 f6
        have f9 := gle_isA hle1 f9
        have f15 := gle_isA hle1 f15
        have f19 := gle_isA hle1 f19
        have f25 := gle_isA hle1 f25
        have f29 := gle_isA hle1 f29
        have f39 := gle_isA hle1 f39
        have f44 := gle_isA hle1 f44
        have leS := leS.tr hle1
        refine lv_aload_n hx hb d_S_go_185 rfl (lv_at hl46 0 rfl) ?_
        refine gget hx hb hw hown hK hG kd_S fa0 rfl 15 (by decide) rfl tw_970 (fun _ h9 => h9) d_S_go_186 ?_
        refine gtopq (fun o47 eo47 => ?_)
        replace h := h o47 eo47
        refine lv_iload_n hx hb d_S_go_189 rfl (lv_at hl46 1 rfl) ?_
        refine lv_iconst (v := 4) hx hb d_S_go_190 (by decide) ?_
        refine lv_iadd hx hb d_S_go_191 ?_
        refine lv_aload_n hx hb d_S_go_192 rfl (lv_at hl46 0 rfl) ?_
        refine gget hx hb hw hown hK hG kd_S fa0 rfl 15 (by decide) rfl tw_970 (fun _ h9 => h9) d_S_go_193 ?_
        refine gtopq (fun o48 eo48 => ?_)
        replace h := h o48 eo48
        refine lv_iload_n hx hb d_S_go_196 rfl (lv_at hl46 1 rfl) ?_
        refine lv_iconst (v := 4) hx hb d_S_go_197 (by decide) ?_
        refine lv_iadd hx hb d_S_go_198 ?_
        obtain ⟨y49, ey49, h⟩ := h
        subst ey49
        obtain ⟨f50, h⟩ := h
        obtain ⟨hi51, h⟩ := h
        refine giald hx hb hK hG f50 hi51 d_S_go_199 ?_
        refine lv_iconst (v := 1) hx hb d_S_go_200 (by decide) ?_
        refine lv_iadd hx hb d_S_go_201 ?_
        refine lv_aload_n hx hb d_S_go_202 rfl (lv_at hl46 0 rfl) ?_
        refine gget hx hb hw hown hK hG kd_S fa0 rfl 15 (by decide) rfl tw_970 (fun _ h9 => h9) d_S_go_203 ?_
        refine gtopq (fun o52 eo52 => ?_)
        replace h := h o52 eo52
        refine lv_iload_n hx hb d_S_go_206 rfl (lv_at hl46 1 rfl) ?_
        refine lv_iconst (v := 3) hx hb d_S_go_207 (by decide) ?_
        refine lv_iadd hx hb d_S_go_208 ?_
        obtain ⟨y53, ey53, h⟩ := h
        subst ey53
        obtain ⟨f54, h⟩ := h
        obtain ⟨hi55, h⟩ := h
        refine giald hx hb hK hG f54 hi55 d_S_go_209 ?_
        obtain ⟨hz56, h⟩ := h
        refine lv_irem hx hb d_S_go_210 hz56 ?_
        refine lv_topi (fun v57 ev57 => ?_)
        replace h := h v57 ev57
        obtain ⟨y58, ey58, h⟩ := h
        subst ey58
        obtain ⟨f59, h⟩ := h
        obtain ⟨hi60, h⟩ := h
        refine giast hx hb hK hG f59 hi60 d_S_go_211 (fun S61 H locs eS61 hle1 hG => ?_)
        replace h := h S61 eS61
        have fa0 := gle_isA hle1 fa0
        have f6 := gle_isA hle1 f6
        have f9 := gle_isA hle1 f9
        have f15 := gle_isA hle1 f15
        have f19 := gle_isA hle1 f19
        have f25 := gle_isA hle1 f25
        have f29 := gle_isA hle1 f29
        have f39 := gle_isA hle1 f39
        have f44 := gle_isA hle1 f44
        have f50 := gle_isA hle1 f50
        have f54 := gle_isA hle1 f54
        have f59 := gle_isA hle1 f59
        have leS := leS.tr hle1
        exact gvret hx hb hr hlocks hK hG leS h (Nat.le_of_ble_eq_true rfl) (Nat.le_of_ble_eq_true rfl) d_S_go_212
      refine lv_icmp_ge (tgt := 185) hx hb d_S_go_143 (by decide) (fun hc82 => ?_) (fun hc82 => ?_)
      · replace h := h.1 hc82
        exact k185 S H locs ls leS hG (lv_sub hl41 [0, 1] rfl) h
      · replace h := h.2 hc82
        refine lv_aload_n hx hb d_S_go_146 rfl (lv_at hl41 0 rfl) ?_
        refine gget hx hb hw hown hK hG kd_S fa0 rfl 5 (by decide) rfl tw_950 (fun _ h9 => h9) d_S_go_147 ?_
        refine gtopq (fun o62 eo62 => ?_)
        replace h := h o62 eo62
        refine lv_iload_n hx hb d_S_go_150 rfl (lv_at hl41 2 rfl) ?_
        refine lv_sipush (v := 200) hx hb d_S_go_151 (by decide) ?_
        refine lv_aload_n hx hb d_S_go_154 rfl (lv_at hl41 0 rfl) ?_
        refine gget hx hb hw hown hK hG kd_S fa0 rfl 5 (by decide) rfl tw_950 (fun _ h9 => h9) d_S_go_155 ?_
        refine gtopq (fun o63 eo63 => ?_)
        replace h := h o63 eo63
        refine lv_iload_n hx hb d_S_go_158 rfl (lv_at hl41 2 rfl) ?_
        obtain ⟨y64, ey64, h⟩ := h
        subst ey64
        obtain ⟨f65, h⟩ := h
        obtain ⟨hi66, h⟩ := h
        refine giald hx hb hK hG f65 hi66 d_S_go_159 ?_
        refine lv_aload_n hx hb d_S_go_160 rfl (lv_at hl41 0 rfl) ?_
        refine gget hx hb hw hown hK hG kd_S fa0 rfl 15 (by decide) rfl tw_970 (fun _ h9 => h9) d_S_go_161 ?_
        refine gtopq (fun o67 eo67 => ?_)
        replace h := h o67 eo67
        refine lv_iload_n hx hb d_S_go_164 rfl (lv_at hl41 1 rfl) ?_
        refine lv_iconst (v := 2) hx hb d_S_go_165 (by decide) ?_
        refine lv_iadd hx hb d_S_go_166 ?_
        obtain ⟨y68, ey68, h⟩ := h
        subst ey68
        obtain ⟨f69, h⟩ := h
        obtain ⟨hi70, h⟩ := h
        refine giald hx hb hK hG f69 hi70 d_S_go_167 ?_
        refine lv_iadd hx hb d_S_go_168 ?_
        refine va_mmin hx hb (hml.trans hl41.1.symm) hown (hw _ tw_1200) (hw _ tw_247) (hw _ tw_40) (hw _ tw_248) (Nat.le_of_ble_eq_true rfl) (by simp [gCat, gci1, gcr1, gcl1, gcd1]) (Nat.le_of_ble_eq_true rfl) (Nat.le_of_ble_eq_true rfl) d_S_go_169 ?_
        refine lv_topi (fun v71 ev71 => ?_)
        replace h := h v71 ev71
        obtain ⟨y72, ey72, h⟩ := h
        subst ey72
        obtain ⟨f73, h⟩ := h
        obtain ⟨hi74, h⟩ := h
        refine giast hx hb hK hG f73 hi74 d_S_go_172 (fun S75 H locs eS75 hle1 hG => ?_)
        replace h := h S75 eS75
        have fa0 := gle_isA hle1 fa0
        have f6 := gle_isA hle1 f6
        have f9 := gle_isA hle1 f9
        have f15 := gle_isA hle1 f15
        have f19 := gle_isA hle1 f19
        have f25 := gle_isA hle1 f25
        have f29 := gle_isA hle1 f29
        have f39 := gle_isA hle1 f39
        have f44 := gle_isA hle1 f44
        have f65 := gle_isA hle1 f65
        have f69 := gle_isA hle1 f69
        have f73 := gle_isA hle1 f73
        have leS := leS.tr hle1
        refine lv_aload_n hx hb d_S_go_173 rfl (lv_at hl41 0 rfl) ?_
        refine gget hx hb hw hown hK hG kd_S fa0 rfl 15 (by decide) rfl tw_970 (fun _ h9 => h9) d_S_go_174 ?_
        refine gtopq (fun o76 eo76 => ?_)
        replace h := h o76 eo76
        refine lv_iload_n hx hb d_S_go_177 rfl (lv_at hl41 1 rfl) ?_
        refine lv_iconst (v := 5) hx hb d_S_go_178 (by decide) ?_
        refine lv_iadd hx hb d_S_go_179 ?_
        refine lv_dup2_11 hx hb d_S_go_180 rfl (gCat _) ?_
        obtain ⟨y77, ey77, h⟩ := h
        subst ey77
        obtain ⟨f78, h⟩ := h
        obtain ⟨hi79, h⟩ := h
        refine giald hx hb hK hG f78 hi79 d_S_go_181 ?_
        refine lv_iconst (v := 1) hx hb d_S_go_182 (by decide) ?_
        refine lv_iadd hx hb d_S_go_183 ?_
        obtain ⟨hi80, h⟩ := h
        refine giast hx hb hK hG f78 hi80 d_S_go_184 (fun S81 H locs eS81 hle1 hG => ?_)
        replace h := h S81 eS81
        have fa0 := gle_isA hle1 fa0
        have f6 := gle_isA hle1 f6
        have f9 := gle_isA hle1 f9
        have f15 := gle_isA hle1 f15
        have f19 := gle_isA hle1 f19
        have f25 := gle_isA hle1 f25
        have f29 := gle_isA hle1 f29
        have f39 := gle_isA hle1 f39
        have f44 := gle_isA hle1 f44
        have f65 := gle_isA hle1 f65
        have f69 := gle_isA hle1 f69
        have f73 := gle_isA hle1 f73
        have f78 := gle_isA hle1 f78
        have leS := leS.tr hle1
        exact k185 S81 H locs ls leS hG (lv_sub hl41 [0, 1] rfl) h
    refine lv_icmp_ge (tgt := 134) hx hb d_S_go_87 (by decide) (fun hc99 => ?_) (fun hc99 => ?_)
    · replace h := h.1 hc99
      exact k134 H locs ls hG (lv_sub hl36 [1, 2, 3] rfl) h
    · replace h := h.2 hc99
      refine lv_iload hx hb d_S_go_90 (lv_at hl36 0 rfl) ?_
      refine lv_if_ne (tgt := 134) hx hb d_S_go_92 (by decide) (fun hc98 => ?_) (fun hc98 => ?_)
      · replace h := h.2 hc98
        exact k134 H locs ls hG (lv_sub hl36 [1, 2, 3] rfl) h
      · replace h := h.1 hc98
        refine lv_iload hx hb d_S_go_95 (lv_at hl36 4 rfl) ?_
        refine lv_if_eq (tgt := 117) hx hb d_S_go_97 (by decide) (fun hc97 => ?_) (fun hc97 => ?_)
        · replace h := h.1 hc97
          refine lv_aload_n hx hb d_S_go_117 rfl (lv_at hl36 1 rfl) ?_
          refine gget hx hb hw hown hK hG kd_S fa0 rfl 15 (by decide) rfl tw_970 (fun _ h9 => h9) d_S_go_118 ?_
          refine gtopq (fun o83 eo83 => ?_)
          replace h := h o83 eo83
          refine lv_iload_n hx hb d_S_go_121 rfl (lv_at hl36 2 rfl) ?_
          refine lv_iconst (v := 1) hx hb d_S_go_122 (by decide) ?_
          refine lv_iadd hx hb d_S_go_123 ?_
          refine lv_dup2_11 hx hb d_S_go_124 rfl (gCat _) ?_
          obtain ⟨y84, ey84, h⟩ := h
          subst ey84
          obtain ⟨f85, h⟩ := h
          obtain ⟨hi86, h⟩ := h
          refine giald hx hb hK hG f85 hi86 d_S_go_125 ?_
          refine lv_iload hx hb d_S_go_126 (lv_at hl36 5 rfl) ?_
          -- call IN_signum
          refine gpi hK hG (va_runS (As := [.int v31]) (rest := [.int (sR S y84 (v1 + 1).toNatClampNeg), .int (v1 + 1), .ref y84]) ⟨hx, hb, hml, hown, hw⟩ (m_IN_signum l x S _ v31  h) ⟨gcb hw tw_1199 tw_54 tw_1197 hd_IN_signum rfl rfl ⟨(Nat.le_of_ble_eq_true rfl), (Nat.le_of_ble_eq_true rfl)⟩, hw _ tw_1198⟩ (gpS hK hG) rfl rfl hl36.1 rfl (lv_room (Nat.le_of_ble_eq_true rfl)) d_S_go_128 ⟨(Nat.le_of_ble_eq_true rfl), (Nat.le_of_ble_eq_true rfl)⟩) (fun r87 H locs h9 hG => ?_)
          replace h := h9
          clear h9
          refine lv_iadd hx hb d_S_go_131 ?_
          obtain ⟨hi88, h⟩ := h
          refine giast hx hb hK hG f85 hi88 d_S_go_132 (fun S89 H locs eS89 hle1 hG => ?_)
          replace h := h S89 eS89
          have fa0 := gle_isA hle1 fa0
          have f6 := gle_isA hle1 f6
          have f9 := gle_isA hle1 f9
          have f15 := gle_isA hle1 f15
          have f19 := gle_isA hle1 f19
          have f25 := gle_isA hle1 f25
          have f29 := gle_isA hle1 f29
          have f39 := gle_isA hle1 f39
          have f85 := gle_isA hle1 f85
          have leS := leS.tr hle1
          exact gvret hx hb hr hlocks hK hG leS h (Nat.le_of_ble_eq_true rfl) (Nat.le_of_ble_eq_true rfl) d_S_go_133
        · replace h := h.2 hc97
          refine lv_aload_n hx hb d_S_go_100 rfl (lv_at hl36 1 rfl) ?_
          refine gget hx hb hw hown hK hG kd_S fa0 rfl 15 (by decide) rfl tw_970 (fun _ h9 => h9) d_S_go_101 ?_
          refine gtopq (fun o90 eo90 => ?_)
          replace h := h o90 eo90
          refine lv_iload_n hx hb d_S_go_104 rfl (lv_at hl36 2 rfl) ?_
          refine lv_dup2_11 hx hb d_S_go_105 rfl (gCat _) ?_
          obtain ⟨y91, ey91, h⟩ := h
          subst ey91
          obtain ⟨f92, h⟩ := h
          obtain ⟨hi93, h⟩ := h
          refine giald hx hb hK hG f92 hi93 d_S_go_106 ?_
          refine lv_iload hx hb d_S_go_107 (lv_at hl36 4 rfl) ?_
          -- call IN_signum
          refine gpi hK hG (va_runS (As := [.int v21]) (rest := [.int (sR S y91 v1.toNatClampNeg), .int v1, .ref y91]) ⟨hx, hb, hml, hown, hw⟩ (m_IN_signum l x S _ v21  h) ⟨gcb hw tw_1199 tw_54 tw_1197 hd_IN_signum rfl rfl ⟨(Nat.le_of_ble_eq_true rfl), (Nat.le_of_ble_eq_true rfl)⟩, hw _ tw_1198⟩ (gpS hK hG) rfl rfl hl36.1 rfl (lv_room (Nat.le_of_ble_eq_true rfl)) d_S_go_109 ⟨(Nat.le_of_ble_eq_true rfl), (Nat.le_of_ble_eq_true rfl)⟩) (fun r94 H locs h9 hG => ?_)
          replace h := h9
          clear h9
          refine lv_iadd hx hb d_S_go_112 ?_
          obtain ⟨hi95, h⟩ := h
          refine giast hx hb hK hG f92 hi95 d_S_go_113 (fun S96 H locs eS96 hle1 hG => ?_)
          replace h := h S96 eS96
          have fa0 := gle_isA hle1 fa0
          have f6 := gle_isA hle1 f6
          have f9 := gle_isA hle1 f9
          have f15 := gle_isA hle1 f15
          have f19 := gle_isA hle1 f19
          have f25 := gle_isA hle1 f25
          have f29 := gle_isA hle1 f29
          have f39 := gle_isA hle1 f39
          have f92 := gle_isA hle1 f92
          have leS := leS.tr hle1
          refine lv_goto (tgt := 133) hx hb d_S_go_114 (by decide) ?_
          exact gvret hx hb hr hlocks hK hG leS h (Nat.le_of_ble_eq_true rfl) (Nat.le_of_ble_eq_true rfl) d_S_go_133
  refine lv_icmp_ge (tgt := 75) hx hb d_S_go_68 (by decide) (fun hc100 => ?_) (fun hc100 => ?_)
  · replace h := h.1 hc100
    refine lv_iconst (v := 0) hx hb d_S_go_75 (by decide) ?_
    exact k76 0 H locs ls hG (lv_sub hl32 [4, 3, 2, 1, 0] rfl) h
  · replace h := h.2 hc100
    refine lv_iconst (v := 1) hx hb d_S_go_71 (by decide) ?_
    refine lv_goto (tgt := 76) hx hb d_S_go_72 (by decide) ?_
    exact k76 1 H locs ls hG (lv_sub hl32 [4, 3, 2, 1, 0] rfl) h
def w_S_sum (post : Int32 → Prop) (S : St) (a0 : Nat) (a1 : Int32) : Prop :=
  ∃ J4 : Nat → Int32 → Int32 → Prop, (∃ n : Nat, J4 n 0 0) ∧ ∀ (n4 : Nat) (v2_4 : Int32) (v3_4 : Int32), J4 n4 v2_4 v3_4 → ((sI S 39 a0) ≤ v3_4 → post v2_4) ∧ (¬ (sI S 39 a0) ≤ v3_4 → ∃ J114 : Int32 → Prop, (∀ (k1_114 : Int32), J114 k1_114 → ∀ v5 : Int32, v5 = v2_4 + k1_114 → ∀ v7 : Int32, v7 = v3_4 + 1 → ∃ nx : Nat, nx < n4 ∧ J4 nx v5 v7) ∧ (a1 = 2 → ∀ o32 : Option Nat, o32 = sQ S 48 a0 → ∃ y33 : Nat, o32 = some y33 ∧ isA S 11 y33 ∧ vp_in v3_4 (sN S y33) ∧ ((sR S y33 v3_4.toNatClampNeg) = 0 → J114 0) ∧ (¬ (sR S y33 v3_4.toNatClampNeg) = 0 → J114 1)) ∧ (¬ a1 = 2 → (a1 = 4 → ∀ o26 : Option Nat, o26 = sQ S 49 a0 → ∃ y27 : Nat, o26 = some y27 ∧ isA S 10 y27 ∧ vp_in v3_4 (sN S y27) ∧ ((sR S y27 v3_4.toNatClampNeg) ≤ 0 → J114 0) ∧ (¬ (sR S y27 v3_4.toNatClampNeg) ≤ 0 → J114 1)) ∧ (¬ a1 = 4 → (a1 = 5 → ∀ o21 : Option Nat, o21 = sQ S 43 a0 → ∃ y22 : Nat, o21 = some y22 ∧ isA S 10 y22 ∧ vp_in v3_4 (sN S y22) ∧ J114 (sR S y22 v3_4.toNatClampNeg)) ∧ (¬ a1 = 5 → (a1 = 6 → ∀ o16 : Option Nat, o16 = sQ S 50 a0 → ∃ y17 : Nat, o16 = some y17 ∧ isA S 10 y17 ∧ vp_in v3_4 (sN S y17) ∧ J114 (sR S y17 v3_4.toNatClampNeg)) ∧ (¬ a1 = 6 → (a1 = 7 → ∀ o11 : Option Nat, o11 = sQ S 51 a0 → ∃ y12 : Nat, o11 = some y12 ∧ isA S 10 y12 ∧ vp_in v3_4 (sN S y12) ∧ J114 (sR S y12 v3_4.toNatClampNeg)) ∧ (¬ a1 = 7 → w_S_isTired (fun (r9 : Int32) => (r9 = 0 → J114 0) ∧ (¬ r9 = 0 → J114 1)) S a0 v3_4))))))
set_option maxHeartbeats 4000000 in
set_option maxRecDepth 100000 in
theorem m_S_sum (l : Launch) (x : Cx) (S : St) (post : Int32 → Prop) (a0 : Nat) (a1 : Int32) (fa0 : isA S 7 a0) (h : w_S_sum post S a0 a1) : Met l y_S_sum [.code y_S_sum c_S_sum 4 (some .int)] { frames := 1, cells := 0, slots := 0, locals := 21 } (va_Pc [.ref a0, .int a1] (GW x S)) (va_Qi (gPu post S) (gB x S) (xA x)) 0 0 (xA x) := by
  refine gMet (by decide +kernel) (Nat.le_of_ble_eq_true rfl) ?_
  intro p e s m args below meth c hx hb hr hown hlocks hin hw hK H locs hG ls hlA hml
  have hown : s.vm.findClass "WaltzHallModel$State" = some m.cls := hown
  have hl0 : lv_has ls 4 [(0, .ref a0), (1, .int a1)] := hlA
  unfold w_S_sum at h
  refine lv_iconst (v := 0) hx hb d_S_sum_0 (by decide) ?_
  refine lv_istore_n (i := 2) (lv' := [(2, .int 0), (0, .ref a0), (1, .int a1)]) hx hb d_S_sum_1 rfl hl0 (by decide) rfl (fun ls hl1 => ?_)
  refine lv_iconst (v := 0) hx hb d_S_sum_2 (by decide) ?_
  refine lv_istore_n (i := 3) (lv' := [(3, .int 0), (2, .int 0), (0, .ref a0), (1, .int a1)]) hx hb d_S_sum_3 rfl hl1 (by decide) rfl (fun ls hl2 => ?_)
  have leS : gle S S := gle.rf
  obtain ⟨J4, ⟨n0_4, h0_4⟩, hJ4⟩ := h
  have k4 : ∀ (n4 : Nat) (v2_4 : Int32) (v3_4 : Int32) (H : Heap) (locs : List Loc) (ls : Array Slot), GH x S s H locs → lv_has ls 4 [(0, .ref a0), (1, .int a1), (2, .int v2_4), (3, .int v3_4)] → J4 n4 v2_4 v3_4 → W p l e { frames := 1, cells := 0, slots := 0, locals := 21 } s m args below meth c H locs 0 0 (MQ below (va_Qi (gPu post S) (gB x S) (xA x)) args s 0 0 (xA x)) (F0 m 4 ls []) := by
    intro n4
    induction n4 using Nat.strongRecOn with
    | _ n4 ih4 =>
      intro v2_4 v3_4 H locs ls hG hl3 hj
      replace h := hJ4 n4 v2_4 v3_4 hj
      refine lv_iload_n hx hb d_S_sum_4 rfl (lv_at hl3 3 rfl) ?_
      refine lv_aload_n hx hb d_S_sum_5 rfl (lv_at hl3 0 rfl) ?_
      refine gget hx hb hw hown hK hG kd_S fa0 rfl 1 (by decide) rfl tw_942 (fun _ h9 => h9) d_S_sum_6 ?_
      refine lv_icmp_ge (tgt := 122) hx hb d_S_sum_9 (by decide) (fun hc38 => ?_) (fun hc38 => ?_)
      · replace h := h.1 hc38
        refine lv_iload_n hx hb d_S_sum_122 rfl (lv_at hl3 2 rfl) ?_
        exact giret hx hb hr hlocks hK hG leS ⟨h, rfl⟩ (Nat.le_of_ble_eq_true rfl) (Nat.le_of_ble_eq_true rfl) d_S_sum_123
      · replace h := h.2 hc38
        refine lv_iload_n hx hb d_S_sum_12 rfl (lv_at hl3 2 rfl) ?_
        refine lv_iload_n hx hb d_S_sum_13 rfl (lv_at hl3 1 rfl) ?_
        refine lv_iconst (v := 2) hx hb d_S_sum_14 (by decide) ?_
        obtain ⟨J114, hJ114, h⟩ := h
        have k114 : ∀ (k1_114 : Int32) (H : Heap) (locs : List Loc) (ls : Array Slot), GH x S s H locs → lv_has ls 4 [(0, .ref a0), (1, .int a1), (3, .int v3_4)] → J114 k1_114 → W p l e { frames := 1, cells := 0, slots := 0, locals := 21 } s m args below meth c H locs 0 0 (MQ below (va_Qi (gPu post S) (gB x S) (xA x)) args s 0 0 (xA x)) (F0 m 114 ls [.int k1_114, .int v2_4]) := by
          intro k1_114  H locs ls hG hl4 hj
          replace h := hJ114 k1_114 hj
          refine lv_iadd hx hb d_S_sum_114 ?_
          refine lv_topi (fun v5 ev5 => ?_)
          replace h := h v5 ev5
          refine lv_istore_n (i := 2) (lv' := [(2, .int v5), (0, .ref a0), (1, .int a1), (3, .int v3_4)]) hx hb d_S_sum_115 rfl hl4 (by decide) rfl (fun ls hl6 => ?_)
          obtain ⟨v7, ev7⟩ : ∃ z : Int32, z = v3_4 + 1 := ⟨_, rfl⟩
          replace h := h v7 ev7
          refine lv_iinc (v := v7) (lv' := [(3, .int v7), (2, .int v5), (0, .ref a0), (1, .int a1)]) hx hb d_S_sum_116 hl6 (k := 3) rfl (by rw [ev7]; rfl) (by decide) rfl (fun ls hl8 => ?_)
          refine lv_goto (tgt := 4) hx hb d_S_sum_119 (by decide) ?_
          obtain ⟨nx, hnx, h⟩ := h
          exact ih4 nx hnx v5 v7 H locs ls hG (lv_sub hl8 [2, 3, 1, 0] rfl) h
        refine lv_icmp_ne (tgt := 35) hx hb d_S_sum_15 (by decide) (fun hc37 => ?_) (fun hc37 => ?_)
        · replace h := h.2 hc37
          refine lv_iload_n hx hb d_S_sum_35 rfl (lv_at hl3 1 rfl) ?_
          refine lv_iconst (v := 4) hx hb d_S_sum_36 (by decide) ?_
          refine lv_icmp_ne (tgt := 57) hx hb d_S_sum_37 (by decide) (fun hc31 => ?_) (fun hc31 => ?_)
          · replace h := h.2 hc31
            refine lv_iload_n hx hb d_S_sum_57 rfl (lv_at hl3 1 rfl) ?_
            refine lv_iconst (v := 5) hx hb d_S_sum_58 (by decide) ?_
            refine lv_icmp_ne (tgt := 71) hx hb d_S_sum_59 (by decide) (fun hc25 => ?_) (fun hc25 => ?_)
            · replace h := h.2 hc25
              refine lv_iload_n hx hb d_S_sum_71 rfl (lv_at hl3 1 rfl) ?_
              refine lv_bipush (v := 6) hx hb d_S_sum_72 (by decide) ?_
              refine lv_icmp_ne (tgt := 86) hx hb d_S_sum_74 (by decide) (fun hc20 => ?_) (fun hc20 => ?_)
              · replace h := h.2 hc20
                refine lv_iload_n hx hb d_S_sum_86 rfl (lv_at hl3 1 rfl) ?_
                refine lv_bipush (v := 7) hx hb d_S_sum_87 (by decide) ?_
                refine lv_icmp_ne (tgt := 101) hx hb d_S_sum_89 (by decide) (fun hc15 => ?_) (fun hc15 => ?_)
                · replace h := h.2 hc15
                  refine lv_aload_n hx hb d_S_sum_101 rfl (lv_at hl3 0 rfl) ?_
                  refine lv_iload_n hx hb d_S_sum_102 rfl (lv_at hl3 3 rfl) ?_
                  -- call S_isTired
                  refine gpi hK hG (va_runV (As := [.int v3_4]) (rest := [.int v2_4]) ⟨hx, hb, hml, hown, hw⟩ (m_S_isTired l x S _ a0 v3_4 fa0 h) ⟨gcb hw tw_1113 tw_44 tw_1110 hd_S_isTired rfl rfl ⟨(Nat.le_of_ble_eq_true rfl), (Nat.le_of_ble_eq_true rfl)⟩, hw _ tw_1112, hw _ tw_14⟩ (gpV hK hG kd_S fa0 rfl) rfl rfl hl3.1 rfl (lv_room (Nat.le_of_ble_eq_true rfl)) d_S_sum_103 ⟨(Nat.le_of_ble_eq_true rfl), (Nat.le_of_ble_eq_true rfl)⟩) (fun r9 H locs h9 hG => ?_)
                  replace h := h9
                  clear h9
                  refine lv_if_eq (tgt := 113) hx hb d_S_sum_106 (by decide) (fun hc10 => ?_) (fun hc10 => ?_)
                  · replace h := h.1 hc10
                    refine lv_iconst (v := 0) hx hb d_S_sum_113 (by decide) ?_
                    exact k114 0 H locs ls hG (lv_sub hl3 [0, 1, 3] rfl) h
                  · replace h := h.2 hc10
                    refine lv_iconst (v := 1) hx hb d_S_sum_109 (by decide) ?_
                    refine lv_goto (tgt := 114) hx hb d_S_sum_110 (by decide) ?_
                    exact k114 1 H locs ls hG (lv_sub hl3 [0, 1, 3] rfl) h
                · replace h := h.1 hc15
                  refine lv_aload_n hx hb d_S_sum_92 rfl (lv_at hl3 0 rfl) ?_
                  refine gget hx hb hw hown hK hG kd_S fa0 rfl 13 (by decide) rfl tw_966 (fun _ h9 => h9) d_S_sum_93 ?_
                  refine gtopq (fun o11 eo11 => ?_)
                  replace h := h o11 eo11
                  refine lv_iload_n hx hb d_S_sum_96 rfl (lv_at hl3 3 rfl) ?_
                  obtain ⟨y12, ey12, h⟩ := h
                  subst ey12
                  obtain ⟨f13, h⟩ := h
                  obtain ⟨hi14, h⟩ := h
                  refine giald hx hb hK hG f13 hi14 d_S_sum_97 ?_
                  refine lv_goto (tgt := 114) hx hb d_S_sum_98 (by decide) ?_
                  exact k114 (sR S y12 v3_4.toNatClampNeg) H locs ls hG (lv_sub hl3 [0, 1, 3] rfl) h
              · replace h := h.1 hc20
                refine lv_aload_n hx hb d_S_sum_77 rfl (lv_at hl3 0 rfl) ?_
                refine gget hx hb hw hown hK hG kd_S fa0 rfl 12 (by decide) rfl tw_964 (fun _ h9 => h9) d_S_sum_78 ?_
                refine gtopq (fun o16 eo16 => ?_)
                replace h := h o16 eo16
                refine lv_iload_n hx hb d_S_sum_81 rfl (lv_at hl3 3 rfl) ?_
                obtain ⟨y17, ey17, h⟩ := h
                subst ey17
                obtain ⟨f18, h⟩ := h
                obtain ⟨hi19, h⟩ := h
                refine giald hx hb hK hG f18 hi19 d_S_sum_82 ?_
                refine lv_goto (tgt := 114) hx hb d_S_sum_83 (by decide) ?_
                exact k114 (sR S y17 v3_4.toNatClampNeg) H locs ls hG (lv_sub hl3 [0, 1, 3] rfl) h
            · replace h := h.1 hc25
              refine lv_aload_n hx hb d_S_sum_62 rfl (lv_at hl3 0 rfl) ?_
              refine gget hx hb hw hown hK hG kd_S fa0 rfl 5 (by decide) rfl tw_950 (fun _ h9 => h9) d_S_sum_63 ?_
              refine gtopq (fun o21 eo21 => ?_)
              replace h := h o21 eo21
              refine lv_iload_n hx hb d_S_sum_66 rfl (lv_at hl3 3 rfl) ?_
              obtain ⟨y22, ey22, h⟩ := h
              subst ey22
              obtain ⟨f23, h⟩ := h
              obtain ⟨hi24, h⟩ := h
              refine giald hx hb hK hG f23 hi24 d_S_sum_67 ?_
              refine lv_goto (tgt := 114) hx hb d_S_sum_68 (by decide) ?_
              exact k114 (sR S y22 v3_4.toNatClampNeg) H locs ls hG (lv_sub hl3 [0, 1, 3] rfl) h
          · replace h := h.1 hc31
            refine lv_aload_n hx hb d_S_sum_40 rfl (lv_at hl3 0 rfl) ?_
            refine gget hx hb hw hown hK hG kd_S fa0 rfl 11 (by decide) rfl tw_962 (fun _ h9 => h9) d_S_sum_41 ?_
            refine gtopq (fun o26 eo26 => ?_)
            replace h := h o26 eo26
            refine lv_iload_n hx hb d_S_sum_44 rfl (lv_at hl3 3 rfl) ?_
            obtain ⟨y27, ey27, h⟩ := h
            subst ey27
            obtain ⟨f28, h⟩ := h
            obtain ⟨hi29, h⟩ := h
            refine giald hx hb hK hG f28 hi29 d_S_sum_45 ?_
            refine lv_if_le (tgt := 53) hx hb d_S_sum_46 (by decide) (fun hc30 => ?_) (fun hc30 => ?_)
            · replace h := h.1 hc30
              refine lv_iconst (v := 0) hx hb d_S_sum_53 (by decide) ?_
              refine lv_goto (tgt := 114) hx hb d_S_sum_54 (by decide) ?_
              exact k114 0 H locs ls hG (lv_sub hl3 [0, 1, 3] rfl) h
            · replace h := h.2 hc30
              refine lv_iconst (v := 1) hx hb d_S_sum_49 (by decide) ?_
              refine lv_goto (tgt := 114) hx hb d_S_sum_50 (by decide) ?_
              exact k114 1 H locs ls hG (lv_sub hl3 [0, 1, 3] rfl) h
        · replace h := h.1 hc37
          refine lv_aload_n hx hb d_S_sum_18 rfl (lv_at hl3 0 rfl) ?_
          refine gget hx hb hw hown hK hG kd_S fa0 rfl 10 (by decide) rfl tw_960 (fun _ h9 => h9) d_S_sum_19 ?_
          refine gtopq (fun o32 eo32 => ?_)
          replace h := h o32 eo32
          refine lv_iload_n hx hb d_S_sum_22 rfl (lv_at hl3 3 rfl) ?_
          obtain ⟨y33, ey33, h⟩ := h
          subst ey33
          obtain ⟨f34, h⟩ := h
          obtain ⟨hi35, h⟩ := h
          refine gzald hx hb hK hG f34 hi35 d_S_sum_23 ?_
          refine lv_if_eq (tgt := 31) hx hb d_S_sum_24 (by decide) (fun hc36 => ?_) (fun hc36 => ?_)
          · replace h := h.1 hc36
            refine lv_iconst (v := 0) hx hb d_S_sum_31 (by decide) ?_
            refine lv_goto (tgt := 114) hx hb d_S_sum_32 (by decide) ?_
            exact k114 0 H locs ls hG (lv_sub hl3 [0, 1, 3] rfl) h
          · replace h := h.2 hc36
            refine lv_iconst (v := 1) hx hb d_S_sum_27 (by decide) ?_
            refine lv_goto (tgt := 114) hx hb d_S_sum_28 (by decide) ?_
            exact k114 1 H locs ls hG (lv_sub hl3 [0, 1, 3] rfl) h
  exact k4 n0_4 0 0 H locs ls hG (lv_sub hl2 [2, 3, 1, 0] rfl) h0_4
def w_S_pass (post : Int32 → St → Prop) (S : St) (a0 : Nat) : Prop :=
  w_S_sum (fun (r1 : Int32) => ∃ J9 : Nat → St → Int32 → Prop, (∃ n : Nat, J9 n S 0) ∧ ∀ (n9 : Nat) (S_9 : St) (v2_9 : Int32), J9 n9 S_9 v2_9 → ((sI S_9 39 a0) ≤ v2_9 → ∃ J60 : Nat → St → Int32 → Prop, (∃ n : Nat, J60 n S_9 0) ∧ ∀ (n60 : Nat) (S_60 : St) (v2_60 : Int32), J60 n60 S_60 v2_60 → ((sI S_60 52 a0) ≤ v2_60 → ∃ J95 : Nat → St → Int32 → Prop, (∃ n : Nat, J95 n S_60 0) ∧ ∀ (n95 : Nat) (S_95 : St) (v2_95 : Int32), J95 n95 S_95 v2_95 → ((sI S_95 39 a0) ≤ v2_95 → ∀ S9 : St, S9 = pI S_95 38 a0 ((sI S_95 38 a0) + 1) → w_S_sum (fun (r10 : Int32) => post (r10 - r1) S9) S9 a0 7) ∧ (¬ (sI S_95 39 a0) ≤ v2_95 → ∀ o11 : Option Nat, o11 = sQ S_95 49 a0 → ∀ o12 : Option Nat, o12 = sQ S_95 49 a0 → ∃ y13 : Nat, o12 = some y13 ∧ isA S_95 10 y13 ∧ vp_in v2_95 (sN S_95 y13) ∧ ∀ v16 : Int32, v16 = (if 0 < ((sR S_95 y13 v2_95.toNatClampNeg) - 1) then ((sR S_95 y13 v2_95.toNatClampNeg) - 1) else 0) → ∃ y17 : Nat, o11 = some y17 ∧ isA S_95 10 y17 ∧ vp_in v2_95 (sN S_95 y17) ∧ ∀ S20 : St, S20 = pR S_95 y17 (v2_95.toNatClampNeg) v16 → ∀ v21 : Int32, v21 = v2_95 + 1 → ∃ nx : Nat, nx < n95 ∧ J95 nx S20 v21)) ∧ (¬ (sI S_60 52 a0) ≤ v2_60 → ∀ o24 : Option Nat, o24 = sQ S_60 53 a0 → ∃ y25 : Nat, o24 = some y25 ∧ isA S_60 10 y25 ∧ vp_in ((6 * v2_60) + 3) (sN S_60 y25) ∧ ∃ J87 : St → Prop, (∀ (S_87 : St), J87 S_87 → ∀ v29 : Int32, v29 = v2_60 + 1 → ∃ nx : Nat, nx < n60 ∧ J60 nx S_87 v29) ∧ ((sR S_60 y25 ((6 * v2_60) + 3).toNatClampNeg) ≤ 0 → J87 S_60) ∧ (¬ (sR S_60 y25 ((6 * v2_60) + 3).toNatClampNeg) ≤ 0 → w_S_go (fun (S31 : St) => J87 S31) S_60 a0 v2_60))) ∧ (¬ (sI S_9 39 a0) ≤ v2_9 → ∀ o34 : Option Nat, o34 = sQ S_9 48 a0 → ∃ y35 : Nat, o34 = some y35 ∧ isA S_9 11 y35 ∧ vp_in v2_9 (sN S_9 y35) ∧ ∃ J52 : St → Prop, (∀ (S_52 : St), J52 S_52 → ∀ v39 : Int32, v39 = v2_9 + 1 → ∃ nx : Nat, nx < n9 ∧ J9 nx S_52 v39) ∧ ((sR S_9 y35 v2_9.toNatClampNeg) = 0 → w_S_isResting (fun (r41 : Int32) => (r41 = 0 → ∀ o42 : Option Nat, o42 = sQ S_9 47 a0 → ∃ y43 : Nat, o42 = some y43 ∧ isA S_9 10 y43 ∧ vp_in v2_9 (sN S_9 y43) ∧ w_S_isResting (fun (r46 : Int32) => (r46 = 0 → w_S_act (fun (S47 : St) => J52 S47) S_9 a0 v2_9) ∧ (¬ r46 = 0 → J52 S_9)) S_9 a0 (sR S_9 y43 v2_9.toNatClampNeg)) ∧ (¬ r41 = 0 → J52 S_9)) S_9 a0 v2_9) ∧ (¬ (sR S_9 y35 v2_9.toNatClampNeg) = 0 → J52 S_9))) S a0 7
set_option maxHeartbeats 4000000 in
set_option maxRecDepth 100000 in
theorem m_S_pass (l : Launch) (x : Cx) (S : St) (post : Int32 → St → Prop) (a0 : Nat) (fa0 : isA S 7 a0) (h : w_S_pass post S a0) : Met l y_S_pass [.code y_S_pass c_S_pass 3 (some .int)] { frames := 3, cells := 0, slots := 0, locals := 79 } (va_Pc [.ref a0] (GW x S)) (va_Qi post (gB x S) (xA x)) 0 0 (xA x) := by
  refine gMet (by decide +kernel) (Nat.le_of_ble_eq_true rfl) ?_
  intro p e s m args below meth c hx hb hr hown hlocks hin hw hK H locs hG ls hlA hml
  have hown : s.vm.findClass "WaltzHallModel$State" = some m.cls := hown
  have hl0 : lv_has ls 3 [(0, .ref a0)] := hlA
  have leS : gle S S := gle.rf
  unfold w_S_pass at h
  refine lv_aload_n hx hb d_S_pass_0 rfl (lv_at hl0 0 rfl) ?_
  refine lv_bipush (v := 7) hx hb d_S_pass_1 (by decide) ?_
  -- call S_sum
  refine gpi hK hG (va_runV (As := [.int 7]) (rest := []) ⟨hx, hb, hml, hown, hw⟩ (m_S_sum l x S _ a0 7 fa0 h) ⟨gcb hw tw_1109 tw_44 tw_1164 hd_S_sum rfl rfl ⟨(Nat.le_of_ble_eq_true rfl), (Nat.le_of_ble_eq_true rfl)⟩, hw _ tw_1107, hw _ tw_1108⟩ (gpV hK hG kd_S fa0 rfl) rfl rfl hl0.1 rfl (lv_room (Nat.le_of_ble_eq_true rfl)) d_S_pass_3 ⟨(Nat.le_of_ble_eq_true rfl), (Nat.le_of_ble_eq_true rfl)⟩) (fun r1 H locs h9 hG => ?_)
  replace h := h9
  clear h9
  refine lv_istore_n (i := 1) (lv' := [(1, .int r1), (0, .ref a0)]) hx hb d_S_pass_6 rfl hl0 (by decide) rfl (fun ls hl2 => ?_)
  refine lv_iconst (v := 0) hx hb d_S_pass_7 (by decide) ?_
  refine lv_istore_n (i := 2) (lv' := [(2, .int 0), (1, .int r1), (0, .ref a0)]) hx hb d_S_pass_8 rfl hl2 (by decide) rfl (fun ls hl3 => ?_)
  obtain ⟨J9, ⟨n0_9, h0_9⟩, hJ9⟩ := h
  have k9 : ∀ (n9 : Nat) (S_9 : St) (v2_9 : Int32) (H : Heap) (locs : List Loc) (ls : Array Slot), gle S S_9 → GH x S_9 s H locs → lv_has ls 3 [(0, .ref a0), (1, .int r1), (2, .int v2_9)] → J9 n9 S_9 v2_9 → W p l e { frames := 3, cells := 0, slots := 0, locals := 79 } s m args below meth c H locs 0 0 (MQ below (va_Qi post (gB x S) (xA x)) args s 0 0 (xA x)) (F0 m 9 ls []) := by
    intro n9
    induction n9 using Nat.strongRecOn with
    | _ n9 ih9 =>
      intro S_9 v2_9 H locs ls hle1 hG hl4 hj
      replace h := hJ9 n9 S_9 v2_9 hj
      have fa0 := gle_isA hle1 fa0
      have leS := leS.tr hle1
      refine lv_iload_n hx hb d_S_pass_9 rfl (lv_at hl4 2 rfl) ?_
      refine lv_aload_n hx hb d_S_pass_10 rfl (lv_at hl4 0 rfl) ?_
      refine gget hx hb hw hown hK hG kd_S fa0 rfl 1 (by decide) rfl tw_942 (fun _ h9 => h9) d_S_pass_11 ?_
      refine lv_icmp_ge (tgt := 58) hx hb d_S_pass_14 (by decide) (fun hc51 => ?_) (fun hc51 => ?_)
      · replace h := h.1 hc51
        refine lv_iconst (v := 0) hx hb d_S_pass_58 (by decide) ?_
        refine lv_istore_n (i := 2) (lv' := [(2, .int 0), (0, .ref a0), (1, .int r1)]) hx hb d_S_pass_59 rfl hl4 (by decide) rfl (fun ls hl5 => ?_)
        have leS_9 : gle S_9 S_9 := gle.rf
        obtain ⟨J60, ⟨n0_60, h0_60⟩, hJ60⟩ := h
        have k60 : ∀ (n60 : Nat) (S_60 : St) (v2_60 : Int32) (H : Heap) (locs : List Loc) (ls : Array Slot), gle S_9 S_60 → GH x S_60 s H locs → lv_has ls 3 [(0, .ref a0), (1, .int r1), (2, .int v2_60)] → J60 n60 S_60 v2_60 → W p l e { frames := 3, cells := 0, slots := 0, locals := 79 } s m args below meth c H locs 0 0 (MQ below (va_Qi post (gB x S) (xA x)) args s 0 0 (xA x)) (F0 m 60 ls []) := by
          intro n60
          induction n60 using Nat.strongRecOn with
          | _ n60 ih60 =>
            intro S_60 v2_60 H locs ls hle1 hG hl6 hj
            replace h := hJ60 n60 S_60 v2_60 hj
            have fa0 := gle_isA hle1 fa0
            have leS := leS.tr hle1
            have leS_9 := leS_9.tr hle1
            refine lv_iload_n hx hb d_S_pass_60 rfl (lv_at hl6 2 rfl) ?_
            refine lv_aload_n hx hb d_S_pass_61 rfl (lv_at hl6 0 rfl) ?_
            refine gget hx hb hw hown hK hG kd_S fa0 rfl 14 (by decide) rfl tw_968 (fun _ h9 => h9) d_S_pass_62 ?_
            refine lv_icmp_ge (tgt := 93) hx hb d_S_pass_65 (by decide) (fun hc33 => ?_) (fun hc33 => ?_)
            · replace h := h.1 hc33
              refine lv_iconst (v := 0) hx hb d_S_pass_93 (by decide) ?_
              refine lv_istore_n (i := 2) (lv' := [(2, .int 0), (0, .ref a0), (1, .int r1)]) hx hb d_S_pass_94 rfl hl6 (by decide) rfl (fun ls hl7 => ?_)
              have leS_60 : gle S_60 S_60 := gle.rf
              obtain ⟨J95, ⟨n0_95, h0_95⟩, hJ95⟩ := h
              have k95 : ∀ (n95 : Nat) (S_95 : St) (v2_95 : Int32) (H : Heap) (locs : List Loc) (ls : Array Slot), gle S_60 S_95 → GH x S_95 s H locs → lv_has ls 3 [(0, .ref a0), (1, .int r1), (2, .int v2_95)] → J95 n95 S_95 v2_95 → W p l e { frames := 3, cells := 0, slots := 0, locals := 79 } s m args below meth c H locs 0 0 (MQ below (va_Qi post (gB x S) (xA x)) args s 0 0 (xA x)) (F0 m 95 ls []) := by
                intro n95
                induction n95 using Nat.strongRecOn with
                | _ n95 ih95 =>
                  intro S_95 v2_95 H locs ls hle1 hG hl8 hj
                  replace h := hJ95 n95 S_95 v2_95 hj
                  have fa0 := gle_isA hle1 fa0
                  have leS := leS.tr hle1
                  have leS_9 := leS_9.tr hle1
                  have leS_60 := leS_60.tr hle1
                  refine lv_iload_n hx hb d_S_pass_95 rfl (lv_at hl8 2 rfl) ?_
                  refine lv_aload_n hx hb d_S_pass_96 rfl (lv_at hl8 0 rfl) ?_
                  refine gget hx hb hw hown hK hG kd_S fa0 rfl 1 (by decide) rfl tw_942 (fun _ h9 => h9) d_S_pass_97 ?_
                  refine lv_icmp_ge (tgt := 127) hx hb d_S_pass_100 (by decide) (fun hc23 => ?_) (fun hc23 => ?_)
                  · replace h := h.1 hc23
                    refine lv_aload_n hx hb d_S_pass_127 rfl (lv_at hl8 0 rfl) ?_
                    refine lv_dup hx hb d_S_pass_128 rfl ?_
                    refine gget hx hb hw hown hK hG kd_S fa0 rfl 0 (by decide) rfl tw_940 (fun _ h9 => h9) d_S_pass_129 ?_
                    refine lv_iconst (v := 1) hx hb d_S_pass_132 (by decide) ?_
                    refine lv_iadd hx hb d_S_pass_133 ?_
                    refine gput (S' := pI S_95 38 a0 ((sI S_95 38 a0) + 1)) hx hb hw hown hK hG kd_S fa0 rfl 0 (by decide) (gChI fa0 rfl) tw_940 (fun _ h9 => h9) rfl rfl rfl rfl (Nat.le_of_ble_eq_true rfl) d_S_pass_134 (fun S9 H locs eS9 hle1 hG => ?_)
                    replace h := h S9 eS9
                    have fa0 := gle_isA hle1 fa0
                    have leS := leS.tr hle1
                    have leS_9 := leS_9.tr hle1
                    have leS_60 := leS_60.tr hle1
                    refine lv_aload_n hx hb d_S_pass_137 rfl (lv_at hl8 0 rfl) ?_
                    refine lv_bipush (v := 7) hx hb d_S_pass_138 (by decide) ?_
                    -- call S_sum
                    refine gpi hK hG (va_runV (As := [.int 7]) (rest := []) ⟨hx, hb, hml, hown, hw⟩ (m_S_sum l x S9 _ a0 7 fa0 h) ⟨gcb hw tw_1109 tw_44 tw_1164 hd_S_sum rfl rfl ⟨(Nat.le_of_ble_eq_true rfl), (Nat.le_of_ble_eq_true rfl)⟩, hw _ tw_1107, hw _ tw_1108⟩ (gpV hK hG kd_S fa0 rfl) rfl rfl hl8.1 rfl (lv_room (Nat.le_of_ble_eq_true rfl)) d_S_pass_140 ⟨(Nat.le_of_ble_eq_true rfl), (Nat.le_of_ble_eq_true rfl)⟩) (fun r10 H locs h9 hG => ?_)
                    replace h := h9
                    clear h9
                    refine lv_iload_n hx hb d_S_pass_143 rfl (lv_at hl8 1 rfl) ?_
                    refine lv_isub hx hb d_S_pass_144 ?_
                    exact giret hx hb hr hlocks hK hG leS h (Nat.le_of_ble_eq_true rfl) (Nat.le_of_ble_eq_true rfl) d_S_pass_145
                  · replace h := h.2 hc23
                    refine lv_aload_n hx hb d_S_pass_103 rfl (lv_at hl8 0 rfl) ?_
                    refine gget hx hb hw hown hK hG kd_S fa0 rfl 11 (by decide) rfl tw_962 (fun _ h9 => h9) d_S_pass_104 ?_
                    refine gtopq (fun o11 eo11 => ?_)
                    replace h := h o11 eo11
                    refine lv_iload_n hx hb d_S_pass_107 rfl (lv_at hl8 2 rfl) ?_
                    refine lv_iconst (v := 0) hx hb d_S_pass_108 (by decide) ?_
                    refine lv_aload_n hx hb d_S_pass_109 rfl (lv_at hl8 0 rfl) ?_
                    refine gget hx hb hw hown hK hG kd_S fa0 rfl 11 (by decide) rfl tw_962 (fun _ h9 => h9) d_S_pass_110 ?_
                    refine gtopq (fun o12 eo12 => ?_)
                    replace h := h o12 eo12
                    refine lv_iload_n hx hb d_S_pass_113 rfl (lv_at hl8 2 rfl) ?_
                    obtain ⟨y13, ey13, h⟩ := h
                    subst ey13
                    obtain ⟨f14, h⟩ := h
                    obtain ⟨hi15, h⟩ := h
                    refine giald hx hb hK hG f14 hi15 d_S_pass_114 ?_
                    refine lv_iconst (v := 1) hx hb d_S_pass_115 (by decide) ?_
                    refine lv_isub hx hb d_S_pass_116 ?_
                    refine va_mmax hx hb (hml.trans hl8.1.symm) hown (hw _ tw_1201) (hw _ tw_215) (hw _ tw_40) (hw _ tw_216) (Nat.le_of_ble_eq_true rfl) (by simp [gCat, gci1, gcr1, gcl1, gcd1]) (Nat.le_of_ble_eq_true rfl) (Nat.le_of_ble_eq_true rfl) d_S_pass_117 ?_
                    refine lv_topi (fun v16 ev16 => ?_)
                    replace h := h v16 ev16
                    obtain ⟨y17, ey17, h⟩ := h
                    subst ey17
                    obtain ⟨f18, h⟩ := h
                    obtain ⟨hi19, h⟩ := h
                    refine giast hx hb hK hG f18 hi19 d_S_pass_120 (fun S20 H locs eS20 hle1 hG => ?_)
                    replace h := h S20 eS20
                    have fa0 := gle_isA hle1 fa0
                    have f14 := gle_isA hle1 f14
                    have f18 := gle_isA hle1 f18
                    have leS := leS.tr hle1
                    have leS_9 := leS_9.tr hle1
                    have leS_60 := leS_60.tr hle1
                    obtain ⟨v21, ev21⟩ : ∃ z : Int32, z = v2_95 + 1 := ⟨_, rfl⟩
                    replace h := h v21 ev21
                    refine lv_iinc (v := v21) (lv' := [(2, .int v21), (0, .ref a0), (1, .int r1)]) hx hb d_S_pass_121 hl8 (k := 2) rfl (by rw [ev21]; rfl) (by decide) rfl (fun ls hl22 => ?_)
                    refine lv_goto (tgt := 95) hx hb d_S_pass_124 (by decide) ?_
                    obtain ⟨nx, hnx, h⟩ := h
                    exact ih95 nx hnx S20 v21 H locs ls leS_60 hG (lv_sub hl22 [1, 2, 0] rfl) h
              exact k95 n0_95 S_60 0 H locs ls gle.rf hG (lv_sub hl7 [1, 2, 0] rfl) h0_95
            · replace h := h.2 hc33
              refine lv_aload_n hx hb d_S_pass_68 rfl (lv_at hl6 0 rfl) ?_
              refine gget hx hb hw hown hK hG kd_S fa0 rfl 15 (by decide) rfl tw_970 (fun _ h9 => h9) d_S_pass_69 ?_
              refine gtopq (fun o24 eo24 => ?_)
              replace h := h o24 eo24
              refine lv_bipush (v := 6) hx hb d_S_pass_72 (by decide) ?_
              refine lv_iload_n hx hb d_S_pass_74 rfl (lv_at hl6 2 rfl) ?_
              refine lv_imul hx hb d_S_pass_75 ?_
              refine lv_iconst (v := 3) hx hb d_S_pass_76 (by decide) ?_
              refine lv_iadd hx hb d_S_pass_77 ?_
              obtain ⟨y25, ey25, h⟩ := h
              subst ey25
              obtain ⟨f26, h⟩ := h
              obtain ⟨hi27, h⟩ := h
              refine giald hx hb hK hG f26 hi27 d_S_pass_78 ?_
              have leS_60 : gle S_60 S_60 := gle.rf
              obtain ⟨J87, hJ87, h⟩ := h
              have k87 : ∀ (S_87 : St) (H : Heap) (locs : List Loc) (ls : Array Slot), gle S_60 S_87 → GH x S_87 s H locs → lv_has ls 3 [(0, .ref a0), (1, .int r1), (2, .int v2_60)] → J87 S_87 → W p l e { frames := 3, cells := 0, slots := 0, locals := 79 } s m args below meth c H locs 0 0 (MQ below (va_Qi post (gB x S) (xA x)) args s 0 0 (xA x)) (F0 m 87 ls []) := by
                intro S_87  H locs ls hle1 hG hl28 hj
                replace h := hJ87 S_87 hj
                have fa0 := gle_isA hle1 fa0
                have f26 := gle_isA hle1 f26
                have leS := leS.tr hle1
                have leS_9 := leS_9.tr hle1
                have leS_60 := leS_60.tr hle1
                obtain ⟨v29, ev29⟩ : ∃ z : Int32, z = v2_60 + 1 := ⟨_, rfl⟩
                replace h := h v29 ev29
                refine lv_iinc (v := v29) (lv' := [(2, .int v29), (0, .ref a0), (1, .int r1)]) hx hb d_S_pass_87 hl28 (k := 2) rfl (by rw [ev29]; rfl) (by decide) rfl (fun ls hl30 => ?_)
                refine lv_goto (tgt := 60) hx hb d_S_pass_90 (by decide) ?_
                obtain ⟨nx, hnx, h⟩ := h
                exact ih60 nx hnx S_87 v29 H locs ls leS_9 hG (lv_sub hl30 [1, 2, 0] rfl) h
              refine lv_if_le (tgt := 87) hx hb d_S_pass_79 (by decide) (fun hc32 => ?_) (fun hc32 => ?_)
              · replace h := h.1 hc32
                exact k87 S_60 H locs ls leS_60 hG (lv_sub hl6 [0, 1, 2] rfl) h
              · replace h := h.2 hc32
                refine lv_aload_n hx hb d_S_pass_82 rfl (lv_at hl6 0 rfl) ?_
                refine lv_iload_n hx hb d_S_pass_83 rfl (lv_at hl6 2 rfl) ?_
                -- call S_go
                refine gcv hK hG (va_runV (As := [.int v2_60]) (rest := []) ⟨hx, hb, hml, hown, hw⟩ (m_S_go l x S_60 _ a0 v2_60 fa0 h) ⟨gcb hw tw_1196 tw_44 tw_1193 hd_S_go rfl rfl ⟨(Nat.le_of_ble_eq_true rfl), (Nat.le_of_ble_eq_true rfl)⟩, hw _ tw_1195, hw _ tw_24⟩ (gpV hK hG kd_S fa0 rfl) rfl rfl hl6.1 rfl (lv_room (Nat.le_of_ble_eq_true rfl)) d_S_pass_84 ⟨(Nat.le_of_ble_eq_true rfl), (Nat.le_of_ble_eq_true rfl)⟩) (fun S31 H locs h9 hle1 hG => ?_)
                replace h := h9
                clear h9
                have fa0 := gle_isA hle1 fa0
                have f26 := gle_isA hle1 f26
                have leS := leS.tr hle1
                have leS_9 := leS_9.tr hle1
                have leS_60 := leS_60.tr hle1
                exact k87 S31 H locs ls leS_60 hG (lv_sub hl6 [0, 1, 2] rfl) h
        exact k60 n0_60 S_9 0 H locs ls gle.rf hG (lv_sub hl5 [1, 2, 0] rfl) h0_60
      · replace h := h.2 hc51
        refine lv_aload_n hx hb d_S_pass_17 rfl (lv_at hl4 0 rfl) ?_
        refine gget hx hb hw hown hK hG kd_S fa0 rfl 10 (by decide) rfl tw_960 (fun _ h9 => h9) d_S_pass_18 ?_
        refine gtopq (fun o34 eo34 => ?_)
        replace h := h o34 eo34
        refine lv_iload_n hx hb d_S_pass_21 rfl (lv_at hl4 2 rfl) ?_
        obtain ⟨y35, ey35, h⟩ := h
        subst ey35
        obtain ⟨f36, h⟩ := h
        obtain ⟨hi37, h⟩ := h
        refine gzald hx hb hK hG f36 hi37 d_S_pass_22 ?_
        have leS_9 : gle S_9 S_9 := gle.rf
        obtain ⟨J52, hJ52, h⟩ := h
        have k52 : ∀ (S_52 : St) (H : Heap) (locs : List Loc) (ls : Array Slot), gle S_9 S_52 → GH x S_52 s H locs → lv_has ls 3 [(0, .ref a0), (1, .int r1), (2, .int v2_9)] → J52 S_52 → W p l e { frames := 3, cells := 0, slots := 0, locals := 79 } s m args below meth c H locs 0 0 (MQ below (va_Qi post (gB x S) (xA x)) args s 0 0 (xA x)) (F0 m 52 ls []) := by
          intro S_52  H locs ls hle1 hG hl38 hj
          replace h := hJ52 S_52 hj
          have fa0 := gle_isA hle1 fa0
          have f36 := gle_isA hle1 f36
          have leS := leS.tr hle1
          have leS_9 := leS_9.tr hle1
          obtain ⟨v39, ev39⟩ : ∃ z : Int32, z = v2_9 + 1 := ⟨_, rfl⟩
          replace h := h v39 ev39
          refine lv_iinc (v := v39) (lv' := [(2, .int v39), (0, .ref a0), (1, .int r1)]) hx hb d_S_pass_52 hl38 (k := 2) rfl (by rw [ev39]; rfl) (by decide) rfl (fun ls hl40 => ?_)
          refine lv_goto (tgt := 9) hx hb d_S_pass_55 (by decide) ?_
          obtain ⟨nx, hnx, h⟩ := h
          exact ih9 nx hnx S_52 v39 H locs ls leS hG (lv_sub hl40 [1, 2, 0] rfl) h
        refine lv_if_ne (tgt := 52) hx hb d_S_pass_23 (by decide) (fun hc50 => ?_) (fun hc50 => ?_)
        · replace h := h.2 hc50
          exact k52 S_9 H locs ls leS_9 hG (lv_sub hl4 [0, 1, 2] rfl) h
        · replace h := h.1 hc50
          refine lv_aload_n hx hb d_S_pass_26 rfl (lv_at hl4 0 rfl) ?_
          refine lv_iload_n hx hb d_S_pass_27 rfl (lv_at hl4 2 rfl) ?_
          -- call S_isResting
          refine gpi hK hG (va_runV (As := [.int v2_9]) (rest := []) ⟨hx, hb, hml, hown, hw⟩ (m_S_isResting l x S_9 _ a0 v2_9 fa0 h) ⟨gcb hw tw_1168 tw_44 tw_1165 hd_S_isResting rfl rfl ⟨(Nat.le_of_ble_eq_true rfl), (Nat.le_of_ble_eq_true rfl)⟩, hw _ tw_1167, hw _ tw_18⟩ (gpV hK hG kd_S fa0 rfl) rfl rfl hl4.1 rfl (lv_room (Nat.le_of_ble_eq_true rfl)) d_S_pass_28 ⟨(Nat.le_of_ble_eq_true rfl), (Nat.le_of_ble_eq_true rfl)⟩) (fun r41 H locs h9 hG => ?_)
          replace h := h9
          clear h9
          refine lv_if_ne (tgt := 52) hx hb d_S_pass_31 (by decide) (fun hc49 => ?_) (fun hc49 => ?_)
          · replace h := h.2 hc49
            exact k52 S_9 H locs ls leS_9 hG (lv_sub hl4 [0, 1, 2] rfl) h
          · replace h := h.1 hc49
            refine lv_aload_n hx hb d_S_pass_34 rfl (lv_at hl4 0 rfl) ?_
            refine lv_aload_n hx hb d_S_pass_35 rfl (lv_at hl4 0 rfl) ?_
            refine gget hx hb hw hown hK hG kd_S fa0 rfl 9 (by decide) rfl tw_958 (fun _ h9 => h9) d_S_pass_36 ?_
            refine gtopq (fun o42 eo42 => ?_)
            replace h := h o42 eo42
            refine lv_iload_n hx hb d_S_pass_39 rfl (lv_at hl4 2 rfl) ?_
            obtain ⟨y43, ey43, h⟩ := h
            subst ey43
            obtain ⟨f44, h⟩ := h
            obtain ⟨hi45, h⟩ := h
            refine giald hx hb hK hG f44 hi45 d_S_pass_40 ?_
            -- call S_isResting
            refine gpi hK hG (va_runV (As := [.int (sR S_9 y43 v2_9.toNatClampNeg)]) (rest := []) ⟨hx, hb, hml, hown, hw⟩ (m_S_isResting l x S_9 _ a0 (sR S_9 y43 v2_9.toNatClampNeg) fa0 h) ⟨gcb hw tw_1168 tw_44 tw_1165 hd_S_isResting rfl rfl ⟨(Nat.le_of_ble_eq_true rfl), (Nat.le_of_ble_eq_true rfl)⟩, hw _ tw_1167, hw _ tw_18⟩ (gpV hK hG kd_S fa0 rfl) rfl rfl hl4.1 rfl (lv_room (Nat.le_of_ble_eq_true rfl)) d_S_pass_41 ⟨(Nat.le_of_ble_eq_true rfl), (Nat.le_of_ble_eq_true rfl)⟩) (fun r46 H locs h9 hG => ?_)
            replace h := h9
            clear h9
            refine lv_if_ne (tgt := 52) hx hb d_S_pass_44 (by decide) (fun hc48 => ?_) (fun hc48 => ?_)
            · replace h := h.2 hc48
              exact k52 S_9 H locs ls leS_9 hG (lv_sub hl4 [0, 1, 2] rfl) h
            · replace h := h.1 hc48
              refine lv_aload_n hx hb d_S_pass_47 rfl (lv_at hl4 0 rfl) ?_
              refine lv_iload_n hx hb d_S_pass_48 rfl (lv_at hl4 2 rfl) ?_
              -- call S_act
              refine gcv hK hG (va_runV (As := [.int v2_9]) (rest := []) ⟨hx, hb, hml, hown, hw⟩ (m_S_act l x S_9 _ a0 v2_9 fa0 h) ⟨gcb hw tw_1172 tw_44 tw_1169 hd_S_act rfl rfl ⟨(Nat.le_of_ble_eq_true rfl), (Nat.le_of_ble_eq_true rfl)⟩, hw _ tw_1171, hw _ tw_19⟩ (gpV hK hG kd_S fa0 rfl) rfl rfl hl4.1 rfl (lv_room (Nat.le_of_ble_eq_true rfl)) d_S_pass_49 ⟨(Nat.le_of_ble_eq_true rfl), (Nat.le_of_ble_eq_true rfl)⟩) (fun S47 H locs h9 hle1 hG => ?_)
              replace h := h9
              clear h9
              have fa0 := gle_isA hle1 fa0
              have f36 := gle_isA hle1 f36
              have f44 := gle_isA hle1 f44
              have leS := leS.tr hle1
              have leS_9 := leS_9.tr hle1
              exact k52 S47 H locs ls leS_9 hG (lv_sub hl4 [0, 1, 2] rfl) h
  exact k9 n0_9 S 0 H locs ls gle.rf hG (lv_sub hl3 [2, 1, 0] rfl) h0_9
