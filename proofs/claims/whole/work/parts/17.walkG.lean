section GX17
variable {p : Program} {l : Launch} {e : Env} {R : Room} {s : State} {m : MethodId} {args : Array Value} {below : List Frame} {meth : Method} {c : Code} {H : Heap} {locs : List Loc} {cells slots : Nat} {Q : State → Prop}
variable {cc : ByteArray} {pc index : Nat} {ls : Array Slot} {rest : List Value} {x : Cx} {S : St} {own : String}
theorem gT9 {i : Int32} (h : vp_in i 8) : 9 + i.toNatClampNeg < 17 := by
  have h1 : ¬ 8 ≤ i.toNatClampNeg := fun z => h (Or.inr z)
  omega
theorem gsCs (hx : p.tables.exec = Jvm.exec) (hb : c.code = cc) (hw : ∀ w ∈ gG, w.before args s = true) (hown : s.vm.findClass own = some m.cls) (hK : GK x s) (hG : GH x S s H locs) (hlink : (Cond.fieldLink own index "java/lang/String" "COMPACT_STRINGS" "Z") ∈ gG) (hdg : decode cc pc = .ok (.getstatic index, 3))
    (kk : W p l e R s m args below meth c H locs cells slots Q (F0 m (pc + 3) ls (.int 1 :: rest))) : W p l e R s m args below meth c H locs cells slots Q (F0 m pc ls rest) := va_gets hx hb hK.2.2.2.2.2.2.2.2.1 hG.2.2.1 hown (hw _ hlink) (fun _ h => h) hdg kk
theorem gsSi (hx : p.tables.exec = Jvm.exec) (hb : c.code = cc) (hw : ∀ w ∈ gG, w.before args s = true) (hown : s.vm.findClass own = some m.cls) (hK : GK x s) (hG : GH x S s H locs) (hlink : (Cond.fieldLink own index "jdk/internal/util/Preconditions" "SIOOBE_FORMATTER" "Ljava/util/function/BiFunction;") ∈ gG) (hdg : decode cc pc = .ok (.getstatic index, 3))
    (kk : ∀ o : Option Nat, W p l e R s m args below meth c H locs cells slots Q (F0 m (pc + 3) ls (va_rf o :: rest))) : W p l e R s m args below meth c H locs cells slots Q (F0 m pc ls rest) := by
  rcases hK.2.2.2.2.2.2.2.2.2.1 with h | ⟨t, h⟩
  · exact va_gets hx hb h hG.2.2.1 hown (hw _ hlink) (fun _ h => h) hdg (kk none)
  · exact va_gets hx hb h hG.2.2.1 hown (hw _ hlink) (fun _ h => h) hdg (kk (some t))
theorem gtx {i : Nat} (hK : GK x s) (hi : i < 17) : va_O "java/lang/String" (xKa x i) (xA x) s s.heap ∧ va_OF "java/lang/String" "coder" "B" (.int 0) (xKa x i) (xA x) s s.heap ∧ va_OF "java/lang/String" "value" "[B" (.ref (xVa x i)) (xKa x i) (xA x) s s.heap ∧ va_T .byte (xVa x i) (txL i) (fun j => .int ((txB i).getD j 0)) (xA x) s s.heap := (hK.2.2.2.2.2.2.2.2.2.2.2.2 i hi).1 0 (by decide)
theorem gtco {i : Nat} (hi : i < 17) (hx : p.tables.exec = Jvm.exec) (hb : c.code = cc) (hw : ∀ w ∈ gG, w.before args s = true) (hown : s.vm.findClass own = some m.cls) (hK : GK x s) (hG : GH x S s H locs) (hlink : (Cond.fieldLink own index "java/lang/String" "coder" "B") ∈ gG) (hdg : decode cc pc = .ok (.getfield index, 3))
    (kk : W p l e R s m args below meth c H locs cells slots Q (F0 m (pc + 3) ls (.int 0 :: rest))) : W p l e R s m args below meth c H locs cells slots Q (F0 m pc ls (.ref (xKa x i) :: rest)) := vk_getf hx hb (gtx hK hi).2.1 hG.2.2.1 hown (hw _ hlink) (fun _ h => h) hdg kk
theorem gtva {i : Nat} (hi : i < 17) (hx : p.tables.exec = Jvm.exec) (hb : c.code = cc) (hw : ∀ w ∈ gG, w.before args s = true) (hown : s.vm.findClass own = some m.cls) (hK : GK x s) (hG : GH x S s H locs) (hlink : (Cond.fieldLink own index "java/lang/String" "value" "[B") ∈ gG) (hdg : decode cc pc = .ok (.getfield index, 3))
    (kk : W p l e R s m args below meth c H locs cells slots Q (F0 m (pc + 3) ls (.ref (xVa x i) :: rest))) : W p l e R s m args below meth c H locs cells slots Q (F0 m pc ls (.ref (xKa x i) :: rest)) := vk_getf hx hb (gtx hK hi).2.2.1 hG.2.2.1 hown (hw _ hlink) (fun _ h => h) hdg kk
theorem gtlen {i : Nat} (hi : i < 17) (hx : p.tables.exec = Jvm.exec) (hb : c.code = cc) (hK : GK x s) (hG : GH x S s H locs) (hdg : decode cc pc = .ok (.arraylength, 1))
    (kk : W p l e R s m args below meth c H locs cells slots Q (F0 m (pc + 1) ls (.int (nI (txL i)) :: rest))) : W p l e R s m args below meth c H locs cells slots Q (F0 m pc ls (.ref (xVa x i) :: rest)) := va_tlen hx hb (gtx hK hi).2.2.2 hG.2.2.1 rfl hdg kk
theorem gtb {i : Nat} {j : Int32} (hi : i < 17) (hx : p.tables.exec = Jvm.exec) (hb : c.code = cc) (hK : GK x s) (hG : GH x S s H locs) (hin : vp_in j (txL i)) (hdg : decode cc pc = .ok (.baload, 1))
    (kk : W p l e R s m args below meth c H locs cells slots Q (F0 m (pc + 1) ls (.int ((txB i).getD j.toNatClampNeg 0) :: rest))) : W p l e R s m args below meth c H locs cells slots Q (F0 m pc ls (.int j :: .ref (xVa x i) :: rest)) := va_tb hx hb (gtx hK hi).2.2.2 hG.2.2.1 hin rfl hdg kk
theorem gpT {i : Nat} {As : List Value} (hi : i < 17) (hK : GK x s) (hG : GH x S s H locs) : PreV s H "java/lang/String" (xKa x i) (va_Pc (.ref (xKa x i) :: As) (GW x S)) As :=
  ⟨GW.blind, vk_recv (adK := fun _ => xKa x i) (i := 0) (hK.2.2.2.2.2.2.2.2.2.2.2.2 i hi) (Nat.zero_lt_succ 0) hG.2.2.1, fun _ hU hW => ⟨rfl, GW.at hK hG hU hW⟩⟩
end GX17
theorem tw_34 : (Jvm.Cond.initialized "java/lang/String") ∈ gG := gmm 34 (by decide +kernel) (by decide +kernel)
theorem tw_35 : (Jvm.Cond.initialized "java/lang/StringLatin1") ∈ gG := gmm 35 (by decide +kernel) (by decide +kernel)
theorem tw_60 : (Jvm.Cond.methodLink "WaltzHall" (1 : Nat) ({ cls := "java/lang/Object", name := "<init>", desc := "()V" } : Jvm.MethodName)) ∈ gG := gmm 60 (by decide +kernel) (by decide +kernel)
theorem tw_63 : (Jvm.Cond.classLink "WaltzHall" (7 : Nat) "WaltzHall$Tape") ∈ gG := gmm 63 (by decide +kernel) (by decide +kernel)
theorem tw_64 : (Jvm.Cond.instantiable "WaltzHall$Tape" (2 : Nat)) ∈ gG := gmm 64 (by decide +kernel) (by decide +kernel)
theorem tw_65 : (Jvm.Cond.methodLinkNest "WaltzHall" (9 : Nat) ({ cls := "WaltzHall$Tape", name := "<init>", desc := "()V" } : Jvm.MethodName) "WaltzHall") ∈ gG := gmm 65 (by decide +kernel) (by decide +kernel)
theorem tw_66 : (Jvm.Cond.instanceMethod ({ cls := "WaltzHall$Tape", name := "<init>", desc := "()V" } : Jvm.MethodName)) ∈ gG := gmm 66 (by decide +kernel) (by decide +kernel)
theorem tw_67 : (Jvm.Cond.code ({ cls := "WaltzHall$Tape", name := "<init>", desc := "()V" } : Jvm.MethodName) prog_5_method_1_code (1 : Nat) (Option.none : Option Jvm.ClassFile.FieldType)) ∈ gG := gmm 67 (by decide +kernel) (by decide +kernel)
theorem tw_80 : (Jvm.Cond.classLink "WaltzHall" (16 : Nat) "java/util/ArrayList") ∈ gG := gmm 80 (by decide +kernel) (by decide +kernel)
theorem tw_82 : (Jvm.Cond.methodLink "WaltzHall" (18 : Nat) ({ cls := "java/util/ArrayList", name := "<init>", desc := "()V" } : Jvm.MethodName)) ∈ gG := gmm 82 (by decide +kernel) (by decide +kernel)
theorem tw_107 : (Jvm.Cond.instantiable "WaltzHall$Dance" (3 : Nat)) ∈ gG := gmm 107 (by decide +kernel) (by decide +kernel)
theorem tw_109 : (Jvm.Cond.methodLink "WaltzHall" (27 : Nat) ({ cls := "WaltzHall$Dance", name := "<init>", desc := "(ILjava/lang/String;)V" } : Jvm.MethodName)) ∈ gG := gmm 109 (by decide +kernel) (by decide +kernel)
theorem tw_110 : (Jvm.Cond.instanceMethod ({ cls := "WaltzHall$Dance", name := "<init>", desc := "(ILjava/lang/String;)V" } : Jvm.MethodName)) ∈ gG := gmm 110 (by decide +kernel) (by decide +kernel)
theorem tw_111 : (Jvm.Cond.code ({ cls := "WaltzHall$Dance", name := "<init>", desc := "(ILjava/lang/String;)V" } : Jvm.MethodName) prog_2_method_1_code (4 : Nat) (Option.none : Option Jvm.ClassFile.FieldType)) ∈ gG := gmm 111 (by decide +kernel) (by decide +kernel)
theorem tw_112 : (Jvm.Cond.methodLink "WaltzHall$Dance" (3 : Nat) ({ cls := "java/lang/Object", name := "<init>", desc := "()V" } : Jvm.MethodName)) ∈ gG := gmm 112 (by decide +kernel) (by decide +kernel)
theorem tw_113 : (Jvm.Cond.methodLink "WaltzHall$Dance" (19 : Nat) ({ cls := "java/lang/String", name := "length", desc := "()I" } : Jvm.MethodName)) ∈ gG := gmm 113 (by decide +kernel) (by decide +kernel)
theorem tw_114 : (Jvm.Cond.instanceMethod ({ cls := "java/lang/String", name := "length", desc := "()I" } : Jvm.MethodName)) ∈ gG := gmm 114 (by decide +kernel) (by decide +kernel)
theorem tw_115 : (Jvm.Cond.selects "java/lang/String" ({ cls := "java/lang/String", name := "length", desc := "()I" } : Jvm.MethodName) ({ cls := "java/lang/String", name := "length", desc := "()I" } : Jvm.MethodName)) ∈ gG := gmm 115 (by decide +kernel) (by decide +kernel)
theorem tw_116 : (Jvm.Cond.code ({ cls := "java/lang/String", name := "length", desc := "()I" } : Jvm.MethodName) prog_22_method_54_code (1 : Nat) (Option.some Jvm.ClassFile.FieldType.int)) ∈ gG := gmm 116 (by decide +kernel) (by decide +kernel)
theorem tw_117 : (Jvm.Cond.methodLink "java/lang/String" (335 : Nat) ({ cls := "java/lang/String", name := "coder", desc := "()B" } : Jvm.MethodName)) ∈ gG := gmm 117 (by decide +kernel) (by decide +kernel)
theorem tw_118 : (Jvm.Cond.instanceMethod ({ cls := "java/lang/String", name := "coder", desc := "()B" } : Jvm.MethodName)) ∈ gG := gmm 118 (by decide +kernel) (by decide +kernel)
theorem tw_119 : (Jvm.Cond.selects "java/lang/String" ({ cls := "java/lang/String", name := "coder", desc := "()B" } : Jvm.MethodName) ({ cls := "java/lang/String", name := "coder", desc := "()B" } : Jvm.MethodName)) ∈ gG := gmm 119 (by decide +kernel) (by decide +kernel)
theorem tw_120 : (Jvm.Cond.code ({ cls := "java/lang/String", name := "coder", desc := "()B" } : Jvm.MethodName) prog_22_method_152_code (1 : Nat) (Option.some Jvm.ClassFile.FieldType.byte)) ∈ gG := gmm 120 (by decide +kernel) (by decide +kernel)
theorem tw_121 : (Jvm.Cond.fieldLink "java/lang/String" (38 : Nat) "java/lang/String" "COMPACT_STRINGS" "Z") ∈ gG := gmm 121 (by decide +kernel) (by decide +kernel)
theorem tw_123 : (Jvm.Cond.methodLink "WaltzHall$Dance" (25 : Nat) ({ cls := "java/lang/String", name := "charAt", desc := "(I)C" } : Jvm.MethodName)) ∈ gG := gmm 123 (by decide +kernel) (by decide +kernel)
theorem tw_124 : (Jvm.Cond.instanceMethod ({ cls := "java/lang/String", name := "charAt", desc := "(I)C" } : Jvm.MethodName)) ∈ gG := gmm 124 (by decide +kernel) (by decide +kernel)
theorem tw_125 : (Jvm.Cond.selects "java/lang/String" ({ cls := "java/lang/String", name := "charAt", desc := "(I)C" } : Jvm.MethodName) ({ cls := "java/lang/String", name := "charAt", desc := "(I)C" } : Jvm.MethodName)) ∈ gG := gmm 125 (by decide +kernel) (by decide +kernel)
theorem tw_126 : (Jvm.Cond.code ({ cls := "java/lang/String", name := "charAt", desc := "(I)C" } : Jvm.MethodName) prog_22_method_56_code (2 : Nat) (Option.some Jvm.ClassFile.FieldType.char)) ∈ gG := gmm 126 (by decide +kernel) (by decide +kernel)
theorem tw_127 : (Jvm.Cond.methodLink "java/lang/String" (492 : Nat) ({ cls := "java/lang/String", name := "isLatin1", desc := "()Z" } : Jvm.MethodName)) ∈ gG := gmm 127 (by decide +kernel) (by decide +kernel)
theorem tw_128 : (Jvm.Cond.instanceMethod ({ cls := "java/lang/String", name := "isLatin1", desc := "()Z" } : Jvm.MethodName)) ∈ gG := gmm 128 (by decide +kernel) (by decide +kernel)
theorem tw_129 : (Jvm.Cond.selects "java/lang/String" ({ cls := "java/lang/String", name := "isLatin1", desc := "()Z" } : Jvm.MethodName) ({ cls := "java/lang/String", name := "isLatin1", desc := "()Z" } : Jvm.MethodName)) ∈ gG := gmm 129 (by decide +kernel) (by decide +kernel)
theorem tw_130 : (Jvm.Cond.code ({ cls := "java/lang/String", name := "isLatin1", desc := "()Z" } : Jvm.MethodName) prog_22_method_154_code (1 : Nat) (Option.some Jvm.ClassFile.FieldType.boolean)) ∈ gG := gmm 130 (by decide +kernel) (by decide +kernel)
theorem tw_131 : (Jvm.Cond.methodLink "java/lang/String" (495 : Nat) ({ cls := "java/lang/StringLatin1", name := "charAt", desc := "([BI)C" } : Jvm.MethodName)) ∈ gG := gmm 131 (by decide +kernel) (by decide +kernel)
theorem tw_132 : (Jvm.Cond.static ({ cls := "java/lang/StringLatin1", name := "charAt", desc := "([BI)C" } : Jvm.MethodName)) ∈ gG := gmm 132 (by decide +kernel) (by decide +kernel)
theorem tw_133 : (Jvm.Cond.code ({ cls := "java/lang/StringLatin1", name := "charAt", desc := "([BI)C" } : Jvm.MethodName) prog_23_method_2_code (2 : Nat) (Option.some Jvm.ClassFile.FieldType.char)) ∈ gG := gmm 133 (by decide +kernel) (by decide +kernel)
theorem tw_134 : (Jvm.Cond.methodLink "java/lang/StringLatin1" (9 : Nat) ({ cls := "java/lang/String", name := "checkIndex", desc := "(II)V" } : Jvm.MethodName)) ∈ gG := gmm 134 (by decide +kernel) (by decide +kernel)
theorem tw_135 : (Jvm.Cond.static ({ cls := "java/lang/String", name := "checkIndex", desc := "(II)V" } : Jvm.MethodName)) ∈ gG := gmm 135 (by decide +kernel) (by decide +kernel)
theorem tw_136 : (Jvm.Cond.code ({ cls := "java/lang/String", name := "checkIndex", desc := "(II)V" } : Jvm.MethodName) prog_22_method_155_code (2 : Nat) (Option.none : Option Jvm.ClassFile.FieldType)) ∈ gG := gmm 136 (by decide +kernel) (by decide +kernel)
theorem tw_137 : (Jvm.Cond.fieldLink "java/lang/String" (1053 : Nat) "jdk/internal/util/Preconditions" "SIOOBE_FORMATTER" "Ljava/util/function/BiFunction;") ∈ gG := gmm 137 (by decide +kernel) (by decide +kernel)
theorem tw_139 : (Jvm.Cond.methodLink "java/lang/String" (1059 : Nat) ({ cls := "jdk/internal/util/Preconditions", name := "checkIndex", desc := "(IILjava/util/function/BiFunction;)I" } : Jvm.MethodName)) ∈ gG := gmm 139 (by decide +kernel) (by decide +kernel)
theorem tw_161 : (Jvm.Cond.fieldLink "WaltzHall$Dance" (15 : Nat) "WaltzHall$Dance" "number" "I") ∈ gG := gmm 161 (by decide +kernel) (by decide +kernel)
theorem tw_175 : (Jvm.Cond.classLink "WaltzHall" (34 : Nat) "WaltzHall$Floor") ∈ gG := gmm 175 (by decide +kernel) (by decide +kernel)
theorem tw_176 : (Jvm.Cond.instantiable "WaltzHall$Floor" (3 : Nat)) ∈ gG := gmm 176 (by decide +kernel) (by decide +kernel)
theorem tw_177 : (Jvm.Cond.methodLinkNest "WaltzHall" (36 : Nat) ({ cls := "WaltzHall$Floor", name := "<init>", desc := "()V" } : Jvm.MethodName) "WaltzHall") ∈ gG := gmm 177 (by decide +kernel) (by decide +kernel)
theorem tw_178 : (Jvm.Cond.instanceMethod ({ cls := "WaltzHall$Floor", name := "<init>", desc := "()V" } : Jvm.MethodName)) ∈ gG := gmm 178 (by decide +kernel) (by decide +kernel)
theorem tw_179 : (Jvm.Cond.code ({ cls := "WaltzHall$Floor", name := "<init>", desc := "()V" } : Jvm.MethodName) prog_4_method_1_code (1 : Nat) (Option.none : Option Jvm.ClassFile.FieldType)) ∈ gG := gmm 179 (by decide +kernel) (by decide +kernel)
theorem tw_933 : (Jvm.Cond.methodLink "WaltzHallModel" (1 : Nat) ({ cls := "java/lang/Object", name := "<init>", desc := "()V" } : Jvm.MethodName)) ∈ gG := gmm 933 (by decide +kernel) (by decide +kernel)
theorem tw_934 : (Jvm.Cond.classLink "WaltzHallModel" (19 : Nat) "WaltzHallModel$State") ∈ gG := gmm 934 (by decide +kernel) (by decide +kernel)
theorem tw_935 : (Jvm.Cond.instantiable "WaltzHallModel$State" (18 : Nat)) ∈ gG := gmm 935 (by decide +kernel) (by decide +kernel)
theorem tw_936 : (Jvm.Cond.methodLinkNest "WaltzHallModel" (21 : Nat) ({ cls := "WaltzHallModel$State", name := "<init>", desc := "(LWaltzHallModel;)V" } : Jvm.MethodName) "WaltzHallModel") ∈ gG := gmm 936 (by decide +kernel) (by decide +kernel)
theorem tw_937 : (Jvm.Cond.instanceMethod ({ cls := "WaltzHallModel$State", name := "<init>", desc := "(LWaltzHallModel;)V" } : Jvm.MethodName)) ∈ gG := gmm 937 (by decide +kernel) (by decide +kernel)
theorem tw_938 : (Jvm.Cond.code ({ cls := "WaltzHallModel$State", name := "<init>", desc := "(LWaltzHallModel;)V" } : Jvm.MethodName) prog_9_method_1_code (2 : Nat) (Option.none : Option Jvm.ClassFile.FieldType)) ∈ gG := gmm 938 (by decide +kernel) (by decide +kernel)
theorem tw_939 : (Jvm.Cond.methodLink "WaltzHallModel$State" (9 : Nat) ({ cls := "java/lang/Object", name := "<init>", desc := "()V" } : Jvm.MethodName)) ∈ gG := gmm 939 (by decide +kernel) (by decide +kernel)
theorem tw_1012 : (Jvm.Cond.arrayClass Jvm.ClassFile.FieldType.boolean) ∈ gG := gmm 1012 (by decide +kernel) (by decide +kernel)
theorem tw_1013 : (Jvm.Cond.fieldLink "WaltzHallModel" (31 : Nat) "WaltzHallModel" "FIRST" "[Ljava/lang/String;") ∈ gG := gmm 1013 (by decide +kernel) (by decide +kernel)
theorem tw_1015 : (Jvm.Cond.methodLink "WaltzHallModel" (35 : Nat) ({ cls := "java/lang/String", name := "length", desc := "()I" } : Jvm.MethodName)) ∈ gG := gmm 1015 (by decide +kernel) (by decide +kernel)
theorem tw_1016 : (Jvm.Cond.methodLink "WaltzHallModel" (41 : Nat) ({ cls := "java/lang/String", name := "charAt", desc := "(I)C" } : Jvm.MethodName)) ∈ gG := gmm 1016 (by decide +kernel) (by decide +kernel)
theorem tw_1018 : (Jvm.Cond.fieldLink "WaltzHallModel" (9 : Nat) "WaltzHallModel" "tape" "[I") ∈ gG := gmm 1018 (by decide +kernel) (by decide +kernel)
theorem tw_1020 : (Jvm.Cond.fieldLink "WaltzHallModel" (13 : Nat) "WaltzHallModel" "figures" "[I") ∈ gG := gmm 1020 (by decide +kernel) (by decide +kernel)
theorem tw_1022 : (Jvm.Cond.fieldLink "WaltzHallModel" (16 : Nat) "WaltzHallModel" "lengths" "[I") ∈ gG := gmm 1022 (by decide +kernel) (by decide +kernel)
theorem tw_1024 : (Jvm.Cond.fieldLink "WaltzHallModel" (24 : Nat) "WaltzHallModel" "s" "LWaltzHallModel$State;") ∈ gG := gmm 1024 (by decide +kernel) (by decide +kernel)
theorem tw_1025 : (Jvm.Cond.fieldLink "WaltzHallModel" (28 : Nat) "WaltzHallModel" "ahead" "LWaltzHallModel$State;") ∈ gG := gmm 1025 (by decide +kernel) (by decide +kernel)
theorem tw_1267 : (Jvm.Cond.fieldLink "java/lang/String" (9 : Nat) "java/lang/String" "value" "[B") ∈ gG := gmm 1267 (by decide +kernel) (by decide +kernel)
theorem tw_1268 : (Jvm.Cond.fieldLink "java/lang/String" (15 : Nat) "java/lang/String" "coder" "B") ∈ gG := gmm 1268 (by decide +kernel) (by decide +kernel)
theorem hd_D_init : y_D_init.cls ≠ "java/lang/invoke/MethodHandle" ∧ y_D_init.cls ≠ "java/lang/invoke/VarHandle" ∧ (parseMethodDescriptor y_D_init.desc).map (fun d => d.parameters.length) = some 2 := by decide +kernel
theorem hd_F_init : y_F_init.cls ≠ "java/lang/invoke/MethodHandle" ∧ y_F_init.cls ≠ "java/lang/invoke/VarHandle" ∧ (parseMethodDescriptor y_F_init.desc).map (fun d => d.parameters.length) = some 0 := by decide +kernel
theorem hd_SL_charAt : y_SL_charAt.cls ≠ "java/lang/invoke/MethodHandle" ∧ y_SL_charAt.cls ≠ "java/lang/invoke/VarHandle" ∧ (parseMethodDescriptor y_SL_charAt.desc).map (fun d => d.parameters.length) = some 2 := by decide +kernel
theorem hd_ST_charAt : y_ST_charAt.cls ≠ "java/lang/invoke/MethodHandle" ∧ y_ST_charAt.cls ≠ "java/lang/invoke/VarHandle" ∧ (parseMethodDescriptor y_ST_charAt.desc).map (fun d => d.parameters.length) = some 1 := by decide +kernel
theorem hd_ST_checkIndex : y_ST_checkIndex.cls ≠ "java/lang/invoke/MethodHandle" ∧ y_ST_checkIndex.cls ≠ "java/lang/invoke/VarHandle" ∧ (parseMethodDescriptor y_ST_checkIndex.desc).map (fun d => d.parameters.length) = some 2 := by decide +kernel
theorem hd_ST_coder : y_ST_coder.cls ≠ "java/lang/invoke/MethodHandle" ∧ y_ST_coder.cls ≠ "java/lang/invoke/VarHandle" ∧ (parseMethodDescriptor y_ST_coder.desc).map (fun d => d.parameters.length) = some 0 := by decide +kernel
theorem hd_ST_isLatin1 : y_ST_isLatin1.cls ≠ "java/lang/invoke/MethodHandle" ∧ y_ST_isLatin1.cls ≠ "java/lang/invoke/VarHandle" ∧ (parseMethodDescriptor y_ST_isLatin1.desc).map (fun d => d.parameters.length) = some 0 := by decide +kernel
theorem hd_ST_length : y_ST_length.cls ≠ "java/lang/invoke/MethodHandle" ∧ y_ST_length.cls ≠ "java/lang/invoke/VarHandle" ∧ (parseMethodDescriptor y_ST_length.desc).map (fun d => d.parameters.length) = some 0 := by decide +kernel
theorem hd_S_init : y_S_init.cls ≠ "java/lang/invoke/MethodHandle" ∧ y_S_init.cls ≠ "java/lang/invoke/VarHandle" ∧ (parseMethodDescriptor y_S_init.desc).map (fun d => d.parameters.length) = some 1 := by decide +kernel
theorem hd_T_init : y_T_init.cls ≠ "java/lang/invoke/MethodHandle" ∧ y_T_init.cls ≠ "java/lang/invoke/VarHandle" ∧ (parseMethodDescriptor y_T_init.desc).map (fun d => d.parameters.length) = some 0 := by decide +kernel
def w_ST_coder (post : Int32 → Prop) (S : St) (a0 : Nat) : Prop :=
  ((1 : Int32) = 0 → post 1) ∧ (¬ (1 : Int32) = 0 → post 0)
set_option maxHeartbeats 4000000 in
set_option maxRecDepth 100000 in
theorem m_ST_coder (l : Launch) (x : Cx) (S : St) (post : Int32 → Prop) (a0 : Nat) (ha0 : a0 < 17) (h : w_ST_coder post S a0) : Met l y_ST_coder [.code y_ST_coder c_ST_coder 1 (some .byte)] { frames := 0, cells := 0, slots := 0, locals := 0 } (va_Pc [.ref (xKa x a0)] (GW x S)) (va_Qi (gPu post S) (gB x S) (xA x)) 0 0 (xA x) := by
  refine gMet (by decide +kernel) (Nat.le_of_ble_eq_true rfl) ?_
  intro p e s m args below meth c hx hb hr hown hlocks hin hw hK H locs hG ls hlA hml
  have hown : s.vm.findClass "java/lang/String" = some m.cls := hown
  have hl0 : lv_has ls 1 [(0, .ref (xKa x a0))] := hlA
  unfold w_ST_coder at h
  refine gsCs hx hb hw hown hK hG tw_121 d_ST_coder_0 ?_
  refine lv_if_eq (tgt := 13) hx hb d_ST_coder_3 (by decide) (fun hc1 => ?_) (fun hc1 => ?_)
  · replace h := h.1 hc1
    refine lv_iconst (v := 1) hx hb d_ST_coder_13 (by decide) ?_
    exact gzret hx hb hr rfl hlocks hK hG gle.rf ⟨h, rfl⟩ (Nat.le_of_ble_eq_true rfl) (Nat.le_of_ble_eq_true rfl) d_ST_coder_14
  · replace h := h.2 hc1
    refine lv_aload_n hx hb d_ST_coder_6 rfl (lv_at hl0 0 rfl) ?_
    refine gtco ha0 hx hb hw hown hK hG tw_1268 d_ST_coder_7 ?_
    refine lv_goto (tgt := 14) hx hb d_ST_coder_10 (by decide) ?_
    exact gzret hx hb hr rfl hlocks hK hG gle.rf ⟨h, rfl⟩ (Nat.le_of_ble_eq_true rfl) (Nat.le_of_ble_eq_true rfl) d_ST_coder_14
def w_ST_isLatin1 (post : Int32 → Prop) (S : St) (a0 : Nat) : Prop :=
  ((1 : Int32) = 0 → post 0) ∧ (¬ (1 : Int32) = 0 → ((0 : Int32) = 0 → post 1) ∧ (¬ (0 : Int32) = 0 → post 0))
set_option maxHeartbeats 4000000 in
set_option maxRecDepth 100000 in
theorem m_ST_isLatin1 (l : Launch) (x : Cx) (S : St) (post : Int32 → Prop) (a0 : Nat) (ha0 : a0 < 17) (h : w_ST_isLatin1 post S a0) : Met l y_ST_isLatin1 [.code y_ST_isLatin1 c_ST_isLatin1 1 (some .boolean)] { frames := 0, cells := 0, slots := 0, locals := 0 } (va_Pc [.ref (xKa x a0)] (GW x S)) (va_Qi (gPu post S) (gB x S) (xA x)) 0 0 (xA x) := by
  refine gMet (by decide +kernel) (Nat.le_of_ble_eq_true rfl) ?_
  intro p e s m args below meth c hx hb hr hown hlocks hin hw hK H locs hG ls hlA hml
  have hown : s.vm.findClass "java/lang/String" = some m.cls := hown
  have hl0 : lv_has ls 1 [(0, .ref (xKa x a0))] := hlA
  unfold w_ST_isLatin1 at h
  refine gsCs hx hb hw hown hK hG tw_121 d_ST_isLatin1_0 ?_
  refine lv_if_eq (tgt := 17) hx hb d_ST_isLatin1_3 (by decide) (fun hc2 => ?_) (fun hc2 => ?_)
  · replace h := h.1 hc2
    refine lv_iconst (v := 0) hx hb d_ST_isLatin1_17 (by decide) ?_
    exact gzret hx hb hr rfl hlocks hK hG gle.rf ⟨h, rfl⟩ (Nat.le_of_ble_eq_true rfl) (Nat.le_of_ble_eq_true rfl) d_ST_isLatin1_18
  · replace h := h.2 hc2
    refine lv_aload_n hx hb d_ST_isLatin1_6 rfl (lv_at hl0 0 rfl) ?_
    refine gtco ha0 hx hb hw hown hK hG tw_1268 d_ST_isLatin1_7 ?_
    refine lv_if_ne (tgt := 17) hx hb d_ST_isLatin1_10 (by decide) (fun hc1 => ?_) (fun hc1 => ?_)
    · replace h := h.2 hc1
      refine lv_iconst (v := 0) hx hb d_ST_isLatin1_17 (by decide) ?_
      exact gzret hx hb hr rfl hlocks hK hG gle.rf ⟨h, rfl⟩ (Nat.le_of_ble_eq_true rfl) (Nat.le_of_ble_eq_true rfl) d_ST_isLatin1_18
    · replace h := h.1 hc1
      refine lv_iconst (v := 1) hx hb d_ST_isLatin1_13 (by decide) ?_
      refine lv_goto (tgt := 18) hx hb d_ST_isLatin1_14 (by decide) ?_
      exact gzret hx hb hr rfl hlocks hK hG gle.rf ⟨h, rfl⟩ (Nat.le_of_ble_eq_true rfl) (Nat.le_of_ble_eq_true rfl) d_ST_isLatin1_18
def w_ST_checkIndex (post : Prop) (S : St) (a0 : Int32) (a1 : Int32) : Prop :=
  ∀ o1 : Option Nat, w_PC_checkIndex (fun (r2 : Int32) => post) S a0 a1 o1
set_option maxHeartbeats 4000000 in
set_option maxRecDepth 100000 in
theorem m_ST_checkIndex (l : Launch) (x : Cx) (S : St) (post : Prop) (a0 : Int32) (a1 : Int32) (h : w_ST_checkIndex post S a0 a1) : Met l y_ST_checkIndex [.code y_ST_checkIndex c_ST_checkIndex 2 none] { frames := 1, cells := 0, slots := 0, locals := 22 } (va_Pc [.int a0, .int a1] (GW x S)) (va_Qv (gPv post S) (gB x S) (xA x)) 0 0 (xA x) := by
  refine gMet (by decide +kernel) (Nat.le_of_ble_eq_true rfl) ?_
  intro p e s m args below meth c hx hb hr hown hlocks hin hw hK H locs hG ls hlA hml
  have hown : s.vm.findClass "java/lang/String" = some m.cls := hown
  have hl0 : lv_has ls 2 [(0, .int a0), (1, .int a1)] := hlA
  unfold w_ST_checkIndex at h
  refine lv_iload_n hx hb d_ST_checkIndex_0 rfl (lv_at hl0 0 rfl) ?_
  refine lv_iload_n hx hb d_ST_checkIndex_1 rfl (lv_at hl0 1 rfl) ?_
  refine gsSi hx hb hw hown hK hG tw_137 d_ST_checkIndex_2 (fun o1 => ?_)
  replace h := h o1
  -- call PC_checkIndex
  refine gpi hK hG (va_runS (As := [.int a0, .int a1, va_rf o1]) (rest := []) ⟨hx, hb, hml, hown, hw⟩ (m_PC_checkIndex l x S _ a0 a1 o1  h) ⟨gcb hw tw_141 tw_36 tw_139 hd_PC_checkIndex rfl rfl ⟨(Nat.le_of_ble_eq_true rfl), (Nat.le_of_ble_eq_true rfl)⟩, hw _ tw_140⟩ (gpS hK hG) rfl rfl hl0.1 rfl (lv_room (Nat.le_of_ble_eq_true rfl)) d_ST_checkIndex_5 ⟨(Nat.le_of_ble_eq_true rfl), (Nat.le_of_ble_eq_true rfl)⟩) (fun r2 H locs h9 hG => ?_)
  replace h := h9
  clear h9
  refine lv_pop hx hb d_ST_checkIndex_8 rfl ?_
  exact gvret hx hb hr hlocks hK hG gle.rf ⟨h, rfl⟩ (Nat.le_of_ble_eq_true rfl) (Nat.le_of_ble_eq_true rfl) d_ST_checkIndex_9
def w_ST_length (post : Int32 → Prop) (S : St) (a0 : Nat) : Prop :=
  w_ST_coder (fun (r1 : Int32) => post ((nI (txL a0)) >>> (r1 &&& 31))) S a0
set_option maxHeartbeats 4000000 in
set_option maxRecDepth 100000 in
theorem m_ST_length (l : Launch) (x : Cx) (S : St) (post : Int32 → Prop) (a0 : Nat) (ha0 : a0 < 17) (h : w_ST_length post S a0) : Met l y_ST_length [.code y_ST_length c_ST_length 1 (some .int)] { frames := 1, cells := 0, slots := 0, locals := 20 } (va_Pc [.ref (xKa x a0)] (GW x S)) (va_Qi (gPu post S) (gB x S) (xA x)) 0 0 (xA x) := by
  refine gMet (by decide +kernel) (Nat.le_of_ble_eq_true rfl) ?_
  intro p e s m args below meth c hx hb hr hown hlocks hin hw hK H locs hG ls hlA hml
  have hown : s.vm.findClass "java/lang/String" = some m.cls := hown
  have hl0 : lv_has ls 1 [(0, .ref (xKa x a0))] := hlA
  unfold w_ST_length at h
  refine lv_aload_n hx hb d_ST_length_0 rfl (lv_at hl0 0 rfl) ?_
  refine gtva ha0 hx hb hw hown hK hG tw_1267 d_ST_length_1 ?_
  refine gtlen ha0 hx hb hK hG d_ST_length_4 ?_
  refine lv_aload_n hx hb d_ST_length_5 rfl (lv_at hl0 0 rfl) ?_
  -- call ST_coder
  refine gpi hK hG (va_runV (As := []) (rest := [.int (nI (txL a0))]) ⟨hx, hb, hml, hown, hw⟩ (m_ST_coder l x S _ a0  ha0 h) ⟨gcb hw tw_120 tw_34 tw_117 hd_ST_coder rfl rfl ⟨(Nat.le_of_ble_eq_true rfl), (Nat.le_of_ble_eq_true rfl)⟩, hw _ tw_118, hw _ tw_119⟩ (gpT ha0 hK hG) rfl rfl hl0.1 rfl (lv_room (Nat.le_of_ble_eq_true rfl)) d_ST_length_6 ⟨(Nat.le_of_ble_eq_true rfl), (Nat.le_of_ble_eq_true rfl)⟩) (fun r1 H locs h9 hG => ?_)
  replace h := h9
  clear h9
  refine lv_ishr hx hb d_ST_length_9 ?_
  exact giret hx hb hr hlocks hK hG gle.rf ⟨h, rfl⟩ (Nat.le_of_ble_eq_true rfl) (Nat.le_of_ble_eq_true rfl) d_ST_length_10
def w_SL_charAt (post : Int32 → Prop) (S : St) (a0 : Nat) (a1 : Int32) : Prop :=
  w_ST_checkIndex (vp_in a1 (txL a0) ∧ narrow .char (.int (((((txB a0).getD a1.toNatClampNeg 0) &&& 255).toUInt32 % 65536).toInt32)) = .int (((((txB a0).getD a1.toNatClampNeg 0) &&& 255).toUInt32 % 65536).toInt32) ∧ post (((((txB a0).getD a1.toNatClampNeg 0) &&& 255).toUInt32 % 65536).toInt32)) S a1 (nI (txL a0))
set_option maxHeartbeats 4000000 in
set_option maxRecDepth 100000 in
theorem m_SL_charAt (l : Launch) (x : Cx) (S : St) (post : Int32 → Prop) (a0 : Nat) (a1 : Int32) (ha0 : a0 < 17) (h : w_SL_charAt post S a0 a1) : Met l y_SL_charAt [.code y_SL_charAt c_SL_charAt 2 (some .char)] { frames := 2, cells := 0, slots := 0, locals := 43 } (va_Pc [.ref (xVa x a0), .int a1] (GW x S)) (va_Qi (gPu post S) (gB x S) (xA x)) 0 0 (xA x) := by
  refine gMet (by decide +kernel) (Nat.le_of_ble_eq_true rfl) ?_
  intro p e s m args below meth c hx hb hr hown hlocks hin hw hK H locs hG ls hlA hml
  have hown : s.vm.findClass "java/lang/StringLatin1" = some m.cls := hown
  have hl0 : lv_has ls 2 [(0, .ref (xVa x a0)), (1, .int a1)] := hlA
  unfold w_SL_charAt at h
  refine lv_iload_n hx hb d_SL_charAt_0 rfl (lv_at hl0 1 rfl) ?_
  refine lv_aload_n hx hb d_SL_charAt_1 rfl (lv_at hl0 0 rfl) ?_
  refine gtlen ha0 hx hb hK hG d_SL_charAt_2 ?_
  -- call ST_checkIndex
  refine gpv hK hG (va_runS (As := [.int a1, .int (nI (txL a0))]) (rest := []) ⟨hx, hb, hml, hown, hw⟩ (m_ST_checkIndex l x S _ a1 (nI (txL a0))  h) ⟨gcb hw tw_136 tw_34 tw_134 hd_ST_checkIndex rfl rfl ⟨(Nat.le_of_ble_eq_true rfl), (Nat.le_of_ble_eq_true rfl)⟩, hw _ tw_135⟩ (gpS hK hG) rfl rfl hl0.1 rfl (lv_room (Nat.le_of_ble_eq_true rfl)) d_SL_charAt_3 ⟨(Nat.le_of_ble_eq_true rfl), (Nat.le_of_ble_eq_true rfl)⟩) (fun H locs h9 hG => ?_)
  replace h := h9
  clear h9
  refine lv_aload_n hx hb d_SL_charAt_6 rfl (lv_at hl0 0 rfl) ?_
  refine lv_iload_n hx hb d_SL_charAt_7 rfl (lv_at hl0 1 rfl) ?_
  obtain ⟨hi1, h⟩ := h
  refine gtb ha0 hx hb hK hG hi1 d_SL_charAt_8 ?_
  refine lv_sipush (v := 255) hx hb d_SL_charAt_9 (by decide) ?_
  refine lv_iand hx hb d_SL_charAt_12 ?_
  refine lv_i2c hx hb d_SL_charAt_13 rfl ?_
  obtain ⟨hb2, h⟩ := h
  exact gzret hx hb hr hb2 hlocks hK hG gle.rf ⟨h, rfl⟩ (Nat.le_of_ble_eq_true rfl) (Nat.le_of_ble_eq_true rfl) d_SL_charAt_14
def w_ST_charAt (post : Int32 → Prop) (S : St) (a0 : Nat) (a1 : Int32) : Prop :=
  w_ST_isLatin1 (fun (r1 : Int32) => (r1 = 0 → False) ∧ (¬ r1 = 0 → w_SL_charAt (fun (r2 : Int32) => narrow .char (.int r2) = .int r2 ∧ post r2) S a0 a1)) S a0
set_option maxHeartbeats 4000000 in
set_option maxRecDepth 100000 in
theorem m_ST_charAt (l : Launch) (x : Cx) (S : St) (post : Int32 → Prop) (a0 : Nat) (a1 : Int32) (ha0 : a0 < 17) (h : w_ST_charAt post S a0 a1) : Met l y_ST_charAt [.code y_ST_charAt c_ST_charAt 2 (some .char)] { frames := 3, cells := 0, slots := 0, locals := 64 } (va_Pc [.ref (xKa x a0), .int a1] (GW x S)) (va_Qi (gPu post S) (gB x S) (xA x)) 0 0 (xA x) := by
  refine gMet (by decide +kernel) (Nat.le_of_ble_eq_true rfl) ?_
  intro p e s m args below meth c hx hb hr hown hlocks hin hw hK H locs hG ls hlA hml
  have hown : s.vm.findClass "java/lang/String" = some m.cls := hown
  have hl0 : lv_has ls 2 [(0, .ref (xKa x a0)), (1, .int a1)] := hlA
  unfold w_ST_charAt at h
  refine lv_aload_n hx hb d_ST_charAt_0 rfl (lv_at hl0 0 rfl) ?_
  -- call ST_isLatin1
  refine gpi hK hG (va_runV (As := []) (rest := []) ⟨hx, hb, hml, hown, hw⟩ (m_ST_isLatin1 l x S _ a0  ha0 h) ⟨gcb hw tw_130 tw_34 tw_127 hd_ST_isLatin1 rfl rfl ⟨(Nat.le_of_ble_eq_true rfl), (Nat.le_of_ble_eq_true rfl)⟩, hw _ tw_128, hw _ tw_129⟩ (gpT ha0 hK hG) rfl rfl hl0.1 rfl (lv_room (Nat.le_of_ble_eq_true rfl)) d_ST_charAt_1 ⟨(Nat.le_of_ble_eq_true rfl), (Nat.le_of_ble_eq_true rfl)⟩) (fun r1 H locs h9 hG => ?_)
  replace h := h9
  clear h9
  refine lv_if_eq (tgt := 16) hx hb d_ST_charAt_4 (by decide) (fun hc4 => ?_) (fun hc4 => ?_)
  · replace h := h.1 hc4
    refine lv_aload_n hx hb d_ST_charAt_16 rfl (lv_at hl0 0 rfl) ?_
    refine gtva ha0 hx hb hw hown hK hG tw_1267 d_ST_charAt_17 ?_
    refine lv_iload_n hx hb d_ST_charAt_20 rfl (lv_at hl0 1 rfl) ?_
    exact h.elim
  · replace h := h.2 hc4
    refine lv_aload_n hx hb d_ST_charAt_7 rfl (lv_at hl0 0 rfl) ?_
    refine gtva ha0 hx hb hw hown hK hG tw_1267 d_ST_charAt_8 ?_
    refine lv_iload_n hx hb d_ST_charAt_11 rfl (lv_at hl0 1 rfl) ?_
    -- call SL_charAt
    refine gpi hK hG (va_runS (As := [.ref (xVa x a0), .int a1]) (rest := []) ⟨hx, hb, hml, hown, hw⟩ (m_SL_charAt l x S _ a0 a1  ha0 h) ⟨gcb hw tw_133 tw_35 tw_131 hd_SL_charAt rfl rfl ⟨(Nat.le_of_ble_eq_true rfl), (Nat.le_of_ble_eq_true rfl)⟩, hw _ tw_132⟩ (gpS hK hG) rfl rfl hl0.1 rfl (lv_room (Nat.le_of_ble_eq_true rfl)) d_ST_charAt_12 ⟨(Nat.le_of_ble_eq_true rfl), (Nat.le_of_ble_eq_true rfl)⟩) (fun r2 H locs h9 hG => ?_)
    replace h := h9
    clear h9
    obtain ⟨hb3, h⟩ := h
    exact gzret hx hb hr hb3 hlocks hK hG gle.rf ⟨h, rfl⟩ (Nat.le_of_ble_eq_true rfl) (Nat.le_of_ble_eq_true rfl) d_ST_charAt_15
def w_D_init (post : St → Prop) (S : St) (a0 : Nat) (a1 : Int32) (a2 : Nat) : Prop :=
  ∀ (q1 : Nat) (S2 : St), q1 ∉ sL S → S2 = pNew S q1 9 24 → ∀ S4 : St, S4 = pQ S2 4 a0 (some q1) → ∀ S5 : St, S5 = pI S4 3 a0 a1 → ∃ J19 : Nat → St → Int32 → Prop, (∃ n : Nat, J19 n S5 0) ∧ ∀ (n19 : Nat) (S_19 : St) (v3_19 : Int32), J19 n19 S_19 v3_19 → w_ST_length (fun (r8 : Int32) => (r8 ≤ v3_19 → post S_19) ∧ (¬ r8 ≤ v3_19 → ∀ o9 : Option Nat, o9 = sQ S_19 4 a0 → ∃ y10 : Nat, o9 = some y10 ∧ isA S_19 9 y10 ∧ ((nI (sN S_19 y10)) ≤ v3_19 → post S_19) ∧ (¬ (nI (sN S_19 y10)) ≤ v3_19 → ∀ o12 : Option Nat, o12 = sQ S_19 4 a0 → w_ST_charAt (fun (r13 : Int32) => ∃ y14 : Nat, o12 = some y14 ∧ isA S_19 9 y14 ∧ vp_in v3_19 (sN S_19 y14) ∧ ∀ S17 : St, S17 = pR S_19 y14 (v3_19.toNatClampNeg) (vp_nar .byte (r13.toInt8.toInt32)) → ∀ S18 : St, S18 = pI S17 5 a0 (v3_19 + 1) → ∀ v19 : Int32, v19 = v3_19 + 1 → ∃ nx : Nat, nx < n19 ∧ J19 nx S18 v19) S_19 a2 v3_19))) S_19 a2
set_option maxHeartbeats 4000000 in
set_option maxRecDepth 100000 in
theorem m_D_init (l : Launch) (x : Cx) (S : St) (post : St → Prop) (a0 : Nat) (a1 : Int32) (a2 : Nat) (fa0 : isA S 1 a0) (ha2 : a2 < 17) (h : w_D_init post S a0 a1 a2) : Met l y_D_init [.code y_D_init c_D_init 4 none] { frames := 4, cells := 1, slots := 24, locals := 85 } (va_Pc [.ref a0, .int a1, .ref (xKa x a2)] (GW x S)) (va_Qv post (gB x S) (xA x)) 1 24 (xA x) := by
  refine gMet (by decide +kernel) (Nat.le_of_ble_eq_true rfl) ?_
  intro p e s m args below meth c hx hb hr hown hlocks hin hw hK H locs hG ls hlA hml
  have hown : s.vm.findClass "WaltzHall$Dance" = some m.cls := hown
  have hl0 : lv_has ls 4 [(0, .ref a0), (1, .int a1), (2, .ref (xKa x a2))] := hlA
  have leS : gle S S := gle.rf
  unfold w_D_init at h
  refine lv_aload_n hx hb d_D_init_0 rfl (lv_at hl0 0 rfl) ?_
  refine gobj (bytes := c_D_init) hx hb hw hown tw_112 tw_61 tw_62 (hl0.1.trans hml.symm) d_D_init_1 (Nat.le_of_ble_eq_true rfl) (Nat.le_of_ble_eq_true rfl) ?_
  refine lv_aload_n hx hb d_D_init_4 rfl (lv_at hl0 0 rfl) ?_
  refine lv_bipush (v := 24) hx hb d_D_init_5 (by decide) ?_
  refine gnewa (atype := .byte) (N' := 24) (k := 9) (by decide) 0 hx hb hw hK hG tw_79 rfl (fun _ _ => rfl) rfl rfl (fun _ => rfl) (by decide) (Nat.le_of_ble_eq_true rfl) (Nat.le_of_ble_eq_true rfl) (Nat.le_of_ble_eq_true rfl) d_D_init_7 (fun q1 S2 H hqq1 eS2 hle1 hG => ?_)
  replace h := h q1 S2 hqq1 eS2
  have fa0 := gle_isA hle1 fa0
  have leS := leS.tr hle1
  have f3 : isA S2 9 q1 := by rw [eS2]; exact isA_new
  refine gputF (S' := pQ S2 4 a0 (some q1)) hx hb hw hown hK hG kd_D fa0 rfl 1 (by decide) (gChQ fa0 rfl) tw_164 (fun _ h9 => h9) rfl hin rfl rfl rfl rfl (Nat.le_of_ble_eq_true rfl) d_D_init_9 (fun S4 H locs eS4 hle1 hG => ?_)
  replace h := h S4 eS4
  have fa0 := gle_isA hle1 fa0
  have f3 := gle_isA hle1 f3
  have leS := leS.tr hle1
  refine lv_aload_n hx hb d_D_init_12 rfl (lv_at hl0 0 rfl) ?_
  refine lv_iload_n hx hb d_D_init_13 rfl (lv_at hl0 1 rfl) ?_
  refine gputF (S' := pI S4 3 a0 a1) hx hb hw hown hK hG kd_D fa0 rfl 0 (by decide) (gChI fa0 rfl) tw_161 (fun _ h9 => h9) rfl hin rfl rfl rfl rfl (Nat.le_of_ble_eq_true rfl) d_D_init_14 (fun S5 H locs eS5 hle1 hG => ?_)
  replace h := h S5 eS5
  have fa0 := gle_isA hle1 fa0
  have f3 := gle_isA hle1 f3
  have leS := leS.tr hle1
  refine lv_iconst (v := 0) hx hb d_D_init_17 (by decide) ?_
  refine lv_istore_n (i := 3) (lv' := [(3, .int 0), (0, .ref a0), (1, .int a1), (2, .ref (xKa x a2))]) hx hb d_D_init_18 rfl hl0 (by decide) rfl (fun ls hl6 => ?_)
  have leS5 : gle S5 S5 := gle.rf
  obtain ⟨J19, ⟨n0_19, h0_19⟩, hJ19⟩ := h
  have k19 : ∀ (n19 : Nat) (S_19 : St) (v3_19 : Int32) (H : Heap) (locs : List Loc) (ls : Array Slot), gle S5 S_19 → GH x S_19 s H locs → lv_has ls 4 [(0, .ref a0), (2, .ref (xKa x a2)), (3, .int v3_19)] → J19 n19 S_19 v3_19 → W p l e { frames := 4, cells := 1, slots := 24, locals := 85 } s m args below meth c H locs 1 24 (MQ below (va_Qv post (gB x S) (xA x)) args s 1 24 (xA x)) (F0 m 19 ls []) := by
    intro n19
    induction n19 using Nat.strongRecOn with
    | _ n19 ih19 =>
      intro S_19 v3_19 H locs ls hle1 hG hl7 hj
      replace h := hJ19 n19 S_19 v3_19 hj
      have fa0 := gle_isA hle1 fa0
      have f3 := gle_isA hle1 f3
      have leS := leS.tr hle1
      have leS5 := leS5.tr hle1
      refine lv_iload_n hx hb d_D_init_19 rfl (lv_at hl7 2 rfl) ?_
      refine lv_aload_n hx hb d_D_init_20 rfl (lv_at hl7 1 rfl) ?_
      -- call ST_length
      refine gpi hK hG (va_runV (As := []) (rest := [.int v3_19]) ⟨hx, hb, hml, hown, hw⟩ (m_ST_length l x S_19 _ a2  ha2 h) ⟨gcb hw tw_116 tw_34 tw_113 hd_ST_length rfl rfl ⟨(Nat.le_of_ble_eq_true rfl), (Nat.le_of_ble_eq_true rfl)⟩, hw _ tw_114, hw _ tw_115⟩ (gpT ha2 hK hG) rfl rfl hl7.1 rfl (lv_room (Nat.le_of_ble_eq_true rfl)) d_D_init_21 ⟨(Nat.le_of_ble_eq_true rfl), (Nat.le_of_ble_eq_true rfl)⟩) (fun r8 H locs h9 hG => ?_)
      replace h := h9
      clear h9
      refine lv_icmp_ge (tgt := 61) hx hb d_D_init_24 (by decide) (fun hc22 => ?_) (fun hc22 => ?_)
      · replace h := h.1 hc22
        exact gvret hx hb hr hlocks hK hG leS h (Nat.le_of_ble_eq_true rfl) (Nat.le_of_ble_eq_true rfl) d_D_init_61
      · replace h := h.2 hc22
        refine lv_iload_n hx hb d_D_init_27 rfl (lv_at hl7 2 rfl) ?_
        refine lv_aload_n hx hb d_D_init_28 rfl (lv_at hl7 0 rfl) ?_
        refine gget hx hb hw hown hK hG kd_D fa0 rfl 1 (by decide) rfl tw_164 (fun _ h9 => h9) d_D_init_29 ?_
        refine gtopq (fun o9 eo9 => ?_)
        replace h := h o9 eo9
        obtain ⟨y10, ey10, h⟩ := h
        subst ey10
        obtain ⟨f11, h⟩ := h
        refine galen hx hb hK hG f11 rfl 0 rfl rfl d_D_init_32 ?_
        refine lv_icmp_ge (tgt := 61) hx hb d_D_init_33 (by decide) (fun hc21 => ?_) (fun hc21 => ?_)
        · replace h := h.1 hc21
          exact gvret hx hb hr hlocks hK hG leS h (Nat.le_of_ble_eq_true rfl) (Nat.le_of_ble_eq_true rfl) d_D_init_61
        · replace h := h.2 hc21
          refine lv_aload_n hx hb d_D_init_36 rfl (lv_at hl7 0 rfl) ?_
          refine gget hx hb hw hown hK hG kd_D fa0 rfl 1 (by decide) rfl tw_164 (fun _ h9 => h9) d_D_init_37 ?_
          refine gtopq (fun o12 eo12 => ?_)
          replace h := h o12 eo12
          refine lv_iload_n hx hb d_D_init_40 rfl (lv_at hl7 2 rfl) ?_
          refine lv_aload_n hx hb d_D_init_41 rfl (lv_at hl7 1 rfl) ?_
          refine lv_iload_n hx hb d_D_init_42 rfl (lv_at hl7 2 rfl) ?_
          -- call ST_charAt
          refine gpi hK hG (va_runV (As := [.int v3_19]) (rest := [.int v3_19, va_rf o12]) ⟨hx, hb, hml, hown, hw⟩ (m_ST_charAt l x S_19 _ a2 v3_19  ha2 h) ⟨gcb hw tw_126 tw_34 tw_123 hd_ST_charAt rfl rfl ⟨(Nat.le_of_ble_eq_true rfl), (Nat.le_of_ble_eq_true rfl)⟩, hw _ tw_124, hw _ tw_125⟩ (gpT ha2 hK hG) rfl rfl hl7.1 rfl (lv_room (by simp [gCat, gci1, gcr1, gcl1, gcd1])) d_D_init_43 ⟨(Nat.le_of_ble_eq_true rfl), (Nat.le_of_ble_eq_true rfl)⟩) (fun r13 H locs h9 hG => ?_)
          replace h := h9
          clear h9
          refine lv_i2b hx hb d_D_init_46 rfl ?_
          obtain ⟨y14, ey14, h⟩ := h
          subst ey14
          obtain ⟨f15, h⟩ := h
          obtain ⟨hi16, h⟩ := h
          refine gbast hx hb hK hG f15 hi16 d_D_init_47 (fun S17 H locs eS17 hle1 hG => ?_)
          replace h := h S17 eS17
          have fa0 := gle_isA hle1 fa0
          have f3 := gle_isA hle1 f3
          have f11 := gle_isA hle1 f11
          have f15 := gle_isA hle1 f15
          have leS := leS.tr hle1
          have leS5 := leS5.tr hle1
          refine lv_aload_n hx hb d_D_init_48 rfl (lv_at hl7 0 rfl) ?_
          refine lv_iload_n hx hb d_D_init_49 rfl (lv_at hl7 2 rfl) ?_
          refine lv_iconst (v := 1) hx hb d_D_init_50 (by decide) ?_
          refine lv_iadd hx hb d_D_init_51 ?_
          refine gput (S' := pI S17 5 a0 (v3_19 + 1)) hx hb hw hown hK hG kd_D fa0 rfl 2 (by decide) (gChI fa0 rfl) tw_165 (fun _ h9 => h9) rfl rfl rfl rfl (Nat.le_of_ble_eq_true rfl) d_D_init_52 (fun S18 H locs eS18 hle1 hG => ?_)
          replace h := h S18 eS18
          have fa0 := gle_isA hle1 fa0
          have f3 := gle_isA hle1 f3
          have f11 := gle_isA hle1 f11
          have f15 := gle_isA hle1 f15
          have leS := leS.tr hle1
          have leS5 := leS5.tr hle1
          obtain ⟨v19, ev19⟩ : ∃ z : Int32, z = v3_19 + 1 := ⟨_, rfl⟩
          replace h := h v19 ev19
          refine lv_iinc (v := v19) (lv' := [(3, .int v19), (0, .ref a0), (2, .ref (xKa x a2))]) hx hb d_D_init_55 hl7 (k := 2) rfl (by rw [ev19]; rfl) (by decide) rfl (fun ls hl20 => ?_)
          refine lv_goto (tgt := 19) hx hb d_D_init_58 (by decide) ?_
          obtain ⟨nx, hnx, h⟩ := h
          exact ih19 nx hnx S18 v19 H locs ls leS5 hG (lv_sub hl20 [1, 2, 0] rfl) h
  exact k19 n0_19 S5 0 H locs ls gle.rf hG (lv_sub hl6 [1, 3, 0] rfl) h0_19
def w_S_init (post : St → Prop) (S : St) (a0 : Nat) (a1 : Option Nat) : Prop :=
  ∀ S1 : St, S1 = pQ S 55 a0 a1 → ∀ (q2 : Nat) (S3 : St), q2 ∉ sL S1 → S3 = pNew S1 q2 10 8 → ∀ S5 : St, S5 = pQ S3 40 a0 (some q2) → ∀ (q6 : Nat) (S7 : St), q6 ∉ sL S5 → S7 = pNew S5 q6 10 8 → ∀ S9 : St, S9 = pQ S7 41 a0 (some q6) → ∀ (q10 : Nat) (S11 : St), q10 ∉ sL S9 → S11 = pNew S9 q10 10 8 → ∀ S13 : St, S13 = pQ S11 42 a0 (some q10) → ∀ (q14 : Nat) (S15 : St), q14 ∉ sL S13 → S15 = pNew S13 q14 10 8 → ∀ S17 : St, S17 = pQ S15 43 a0 (some q14) → ∀ (q18 : Nat) (S19 : St), q18 ∉ sL S17 → S19 = pNew S17 q18 10 8 → ∀ S21 : St, S21 = pQ S19 44 a0 (some q18) → ∀ (q22 : Nat) (S23 : St), q22 ∉ sL S21 → S23 = pNew S21 q22 10 8 → ∀ S25 : St, S25 = pQ S23 45 a0 (some q22) → ∀ (q26 : Nat) (S27 : St), q26 ∉ sL S25 → S27 = pNew S25 q26 10 8 → ∀ S29 : St, S29 = pQ S27 46 a0 (some q26) → ∀ (q30 : Nat) (S31 : St), q30 ∉ sL S29 → S31 = pNew S29 q30 10 8 → ∀ S33 : St, S33 = pQ S31 47 a0 (some q30) → ∀ (q34 : Nat) (S35 : St), q34 ∉ sL S33 → S35 = pNew S33 q34 11 8 → ∀ S37 : St, S37 = pQ S35 48 a0 (some q34) → ∀ (q38 : Nat) (S39 : St), q38 ∉ sL S37 → S39 = pNew S37 q38 10 8 → ∀ S41 : St, S41 = pQ S39 49 a0 (some q38) → ∀ (q42 : Nat) (S43 : St), q42 ∉ sL S41 → S43 = pNew S41 q42 10 8 → ∀ S45 : St, S45 = pQ S43 50 a0 (some q42) → ∀ (q46 : Nat) (S47 : St), q46 ∉ sL S45 → S47 = pNew S45 q46 10 8 → ∀ S49 : St, S49 = pQ S47 51 a0 (some q46) → ∀ (q50 : Nat) (S51 : St), q50 ∉ sL S49 → S51 = pNew S49 q50 10 18 → ∀ S53 : St, S53 = pQ S51 53 a0 (some q50) → ∀ (q54 : Nat) (S55 : St), q54 ∉ sL S53 → S55 = pNew S53 q54 10 24 → ∀ S57 : St, S57 = pQ S55 54 a0 (some q54) → post S57
set_option maxHeartbeats 4000000 in
set_option maxRecDepth 100000 in
theorem m_S_init (l : Launch) (x : Cx) (S : St) (post : St → Prop) (a0 : Nat) (a1 : Option Nat) (fa0 : isA S 7 a0) (h : w_S_init post S a0 a1) : Met l y_S_init [.code y_S_init c_S_init 2 none] { frames := 1, cells := 14, slots := 138, locals := 20 } (va_Pc [.ref a0, va_rf a1] (GW x S)) (va_Qv post (gB x S) (xA x)) 14 138 (xA x) := by
  refine gMet (by decide +kernel) (by simp [lg_sl, gCat, gci1, gcr1, gcl1, gcd1]) ?_
  intro p e s m args below meth c hx hb hr hown hlocks hin hw hK H locs hG ls hlA hml
  have hown : s.vm.findClass "WaltzHallModel$State" = some m.cls := hown
  have hl0 : lv_has ls 2 [(0, .ref a0), (1, va_rf a1)] := hlA
  have leS : gle S S := gle.rf
  unfold w_S_init at h
  refine lv_aload_n hx hb d_S_init_0 rfl (lv_at hl0 0 rfl) ?_
  refine gaload_n hx hb d_S_init_1 rfl (lv_at hl0 1 rfl) ?_
  refine gputF (S' := pQ S 55 a0 a1) hx hb hw hown hK hG kd_S fa0 rfl 17 (by decide) (gChQ fa0 rfl) tw_974 (fun _ h9 => h9) rfl hin rfl rfl (gNo _ _) (gFo _ _) (Nat.le_of_ble_eq_true rfl) d_S_init_2 (fun S1 H locs eS1 hle1 hG => ?_)
  replace h := h S1 eS1
  have fa0 := gle_isA hle1 fa0
  have leS := leS.tr hle1
  refine lv_aload_n hx hb d_S_init_5 rfl (lv_at hl0 0 rfl) ?_
  refine gobj (bytes := c_S_init) hx hb hw hown tw_939 tw_61 tw_62 (hl0.1.trans hml.symm) d_S_init_6 (Nat.le_of_ble_eq_true rfl) (Nat.le_of_ble_eq_true rfl) ?_
  refine lv_aload_n hx hb d_S_init_9 rfl (lv_at hl0 0 rfl) ?_
  refine lv_bipush (v := 8) hx hb d_S_init_10 (by decide) ?_
  refine gnewa (atype := .int) (N' := 8) (k := 10) (by decide) 1 hx hb hw hK hG tw_760 rfl (fun _ _ => rfl) rfl rfl (fun _ => rfl) (by decide) (Nat.le_of_ble_eq_true rfl) (Nat.le_of_ble_eq_true rfl) (Nat.le_of_ble_eq_true rfl) d_S_init_12 (fun q2 S3 H hqq2 eS3 hle1 hG => ?_)
  replace h := h q2 S3 hqq2 eS3
  have fa0 := gle_isA hle1 fa0
  have leS := leS.tr hle1
  have f4 : isA S3 10 q2 := by rw [eS3]; exact isA_new
  refine gputF (S' := pQ S3 40 a0 (some q2)) hx hb hw hown hK hG kd_S fa0 rfl 2 (by decide) (gChQ fa0 rfl) tw_944 (fun _ h9 => h9) rfl hin rfl rfl rfl rfl (Nat.le_of_ble_eq_true rfl) d_S_init_14 (fun S5 H locs eS5 hle1 hG => ?_)
  replace h := h S5 eS5
  have fa0 := gle_isA hle1 fa0
  have f4 := gle_isA hle1 f4
  have leS := leS.tr hle1
  refine lv_aload_n hx hb d_S_init_17 rfl (lv_at hl0 0 rfl) ?_
  refine lv_bipush (v := 8) hx hb d_S_init_18 (by decide) ?_
  refine gnewa (atype := .int) (N' := 8) (k := 10) (by decide) 1 hx hb hw hK hG tw_760 rfl (fun _ _ => rfl) rfl rfl (fun _ => rfl) (by decide) (Nat.le_of_ble_eq_true rfl) (Nat.le_of_ble_eq_true rfl) (Nat.le_of_ble_eq_true rfl) d_S_init_20 (fun q6 S7 H hqq6 eS7 hle1 hG => ?_)
  replace h := h q6 S7 hqq6 eS7
  have fa0 := gle_isA hle1 fa0
  have f4 := gle_isA hle1 f4
  have leS := leS.tr hle1
  have f8 : isA S7 10 q6 := by rw [eS7]; exact isA_new
  refine gputF (S' := pQ S7 41 a0 (some q6)) hx hb hw hown hK hG kd_S fa0 rfl 3 (by decide) (gChQ fa0 rfl) tw_946 (fun _ h9 => h9) rfl hin rfl rfl rfl rfl (Nat.le_of_ble_eq_true rfl) d_S_init_22 (fun S9 H locs eS9 hle1 hG => ?_)
  replace h := h S9 eS9
  have fa0 := gle_isA hle1 fa0
  have f4 := gle_isA hle1 f4
  have f8 := gle_isA hle1 f8
  have leS := leS.tr hle1
  refine lv_aload_n hx hb d_S_init_25 rfl (lv_at hl0 0 rfl) ?_
  refine lv_bipush (v := 8) hx hb d_S_init_26 (by decide) ?_
  refine gnewa (atype := .int) (N' := 8) (k := 10) (by decide) 1 hx hb hw hK hG tw_760 rfl (fun _ _ => rfl) rfl rfl (fun _ => rfl) (by decide) (Nat.le_of_ble_eq_true rfl) (Nat.le_of_ble_eq_true rfl) (Nat.le_of_ble_eq_true rfl) d_S_init_28 (fun q10 S11 H hqq10 eS11 hle1 hG => ?_)
  replace h := h q10 S11 hqq10 eS11
  have fa0 := gle_isA hle1 fa0
  have f4 := gle_isA hle1 f4
  have f8 := gle_isA hle1 f8
  have leS := leS.tr hle1
  have f12 : isA S11 10 q10 := by rw [eS11]; exact isA_new
  refine gputF (S' := pQ S11 42 a0 (some q10)) hx hb hw hown hK hG kd_S fa0 rfl 4 (by decide) (gChQ fa0 rfl) tw_948 (fun _ h9 => h9) rfl hin rfl rfl rfl rfl (Nat.le_of_ble_eq_true rfl) d_S_init_30 (fun S13 H locs eS13 hle1 hG => ?_)
  replace h := h S13 eS13
  have fa0 := gle_isA hle1 fa0
  have f4 := gle_isA hle1 f4
  have f8 := gle_isA hle1 f8
  have f12 := gle_isA hle1 f12
  have leS := leS.tr hle1
  refine lv_aload_n hx hb d_S_init_33 rfl (lv_at hl0 0 rfl) ?_
  refine lv_bipush (v := 8) hx hb d_S_init_34 (by decide) ?_
  refine gnewa (atype := .int) (N' := 8) (k := 10) (by decide) 1 hx hb hw hK hG tw_760 rfl (fun _ _ => rfl) rfl rfl (fun _ => rfl) (by decide) (Nat.le_of_ble_eq_true rfl) (Nat.le_of_ble_eq_true rfl) (Nat.le_of_ble_eq_true rfl) d_S_init_36 (fun q14 S15 H hqq14 eS15 hle1 hG => ?_)
  replace h := h q14 S15 hqq14 eS15
  have fa0 := gle_isA hle1 fa0
  have f4 := gle_isA hle1 f4
  have f8 := gle_isA hle1 f8
  have f12 := gle_isA hle1 f12
  have leS := leS.tr hle1
  have f16 : isA S15 10 q14 := by rw [eS15]; exact isA_new
  refine gputF (S' := pQ S15 43 a0 (some q14)) hx hb hw hown hK hG kd_S fa0 rfl 5 (by decide) (gChQ fa0 rfl) tw_950 (fun _ h9 => h9) rfl hin rfl rfl rfl rfl (Nat.le_of_ble_eq_true rfl) d_S_init_38 (fun S17 H locs eS17 hle1 hG => ?_)
  replace h := h S17 eS17
  have fa0 := gle_isA hle1 fa0
  have f4 := gle_isA hle1 f4
  have f8 := gle_isA hle1 f8
  have f12 := gle_isA hle1 f12
  have f16 := gle_isA hle1 f16
  have leS := leS.tr hle1
  refine lv_aload_n hx hb d_S_init_41 rfl (lv_at hl0 0 rfl) ?_
  refine lv_bipush (v := 8) hx hb d_S_init_42 (by decide) ?_
  refine gnewa (atype := .int) (N' := 8) (k := 10) (by decide) 1 hx hb hw hK hG tw_760 rfl (fun _ _ => rfl) rfl rfl (fun _ => rfl) (by decide) (Nat.le_of_ble_eq_true rfl) (Nat.le_of_ble_eq_true rfl) (Nat.le_of_ble_eq_true rfl) d_S_init_44 (fun q18 S19 H hqq18 eS19 hle1 hG => ?_)
  replace h := h q18 S19 hqq18 eS19
  have fa0 := gle_isA hle1 fa0
  have f4 := gle_isA hle1 f4
  have f8 := gle_isA hle1 f8
  have f12 := gle_isA hle1 f12
  have f16 := gle_isA hle1 f16
  have leS := leS.tr hle1
  have f20 : isA S19 10 q18 := by rw [eS19]; exact isA_new
  refine gputF (S' := pQ S19 44 a0 (some q18)) hx hb hw hown hK hG kd_S fa0 rfl 6 (by decide) (gChQ fa0 rfl) tw_952 (fun _ h9 => h9) rfl hin rfl rfl rfl rfl (Nat.le_of_ble_eq_true rfl) d_S_init_46 (fun S21 H locs eS21 hle1 hG => ?_)
  replace h := h S21 eS21
  have fa0 := gle_isA hle1 fa0
  have f4 := gle_isA hle1 f4
  have f8 := gle_isA hle1 f8
  have f12 := gle_isA hle1 f12
  have f16 := gle_isA hle1 f16
  have f20 := gle_isA hle1 f20
  have leS := leS.tr hle1
  refine lv_aload_n hx hb d_S_init_49 rfl (lv_at hl0 0 rfl) ?_
  refine lv_bipush (v := 8) hx hb d_S_init_50 (by decide) ?_
  refine gnewa (atype := .int) (N' := 8) (k := 10) (by decide) 1 hx hb hw hK hG tw_760 rfl (fun _ _ => rfl) rfl rfl (fun _ => rfl) (by decide) (Nat.le_of_ble_eq_true rfl) (Nat.le_of_ble_eq_true rfl) (Nat.le_of_ble_eq_true rfl) d_S_init_52 (fun q22 S23 H hqq22 eS23 hle1 hG => ?_)
  replace h := h q22 S23 hqq22 eS23
  have fa0 := gle_isA hle1 fa0
  have f4 := gle_isA hle1 f4
  have f8 := gle_isA hle1 f8
  have f12 := gle_isA hle1 f12
  have f16 := gle_isA hle1 f16
  have f20 := gle_isA hle1 f20
  have leS := leS.tr hle1
  have f24 : isA S23 10 q22 := by rw [eS23]; exact isA_new
  refine gputF (S' := pQ S23 45 a0 (some q22)) hx hb hw hown hK hG kd_S fa0 rfl 7 (by decide) (gChQ fa0 rfl) tw_954 (fun _ h9 => h9) rfl hin rfl rfl rfl rfl (Nat.le_of_ble_eq_true rfl) d_S_init_54 (fun S25 H locs eS25 hle1 hG => ?_)
  replace h := h S25 eS25
  have fa0 := gle_isA hle1 fa0
  have f4 := gle_isA hle1 f4
  have f8 := gle_isA hle1 f8
  have f12 := gle_isA hle1 f12
  have f16 := gle_isA hle1 f16
  have f20 := gle_isA hle1 f20
  have f24 := gle_isA hle1 f24
  have leS := leS.tr hle1
  refine lv_aload_n hx hb d_S_init_57 rfl (lv_at hl0 0 rfl) ?_
  refine lv_bipush (v := 8) hx hb d_S_init_58 (by decide) ?_
  refine gnewa (atype := .int) (N' := 8) (k := 10) (by decide) 1 hx hb hw hK hG tw_760 rfl (fun _ _ => rfl) rfl rfl (fun _ => rfl) (by decide) (Nat.le_of_ble_eq_true rfl) (Nat.le_of_ble_eq_true rfl) (Nat.le_of_ble_eq_true rfl) d_S_init_60 (fun q26 S27 H hqq26 eS27 hle1 hG => ?_)
  replace h := h q26 S27 hqq26 eS27
  have fa0 := gle_isA hle1 fa0
  have f4 := gle_isA hle1 f4
  have f8 := gle_isA hle1 f8
  have f12 := gle_isA hle1 f12
  have f16 := gle_isA hle1 f16
  have f20 := gle_isA hle1 f20
  have f24 := gle_isA hle1 f24
  have leS := leS.tr hle1
  have f28 : isA S27 10 q26 := by rw [eS27]; exact isA_new
  refine gputF (S' := pQ S27 46 a0 (some q26)) hx hb hw hown hK hG kd_S fa0 rfl 8 (by decide) (gChQ fa0 rfl) tw_956 (fun _ h9 => h9) rfl hin rfl rfl rfl rfl (Nat.le_of_ble_eq_true rfl) d_S_init_62 (fun S29 H locs eS29 hle1 hG => ?_)
  replace h := h S29 eS29
  have fa0 := gle_isA hle1 fa0
  have f4 := gle_isA hle1 f4
  have f8 := gle_isA hle1 f8
  have f12 := gle_isA hle1 f12
  have f16 := gle_isA hle1 f16
  have f20 := gle_isA hle1 f20
  have f24 := gle_isA hle1 f24
  have f28 := gle_isA hle1 f28
  have leS := leS.tr hle1
  refine lv_aload_n hx hb d_S_init_65 rfl (lv_at hl0 0 rfl) ?_
  refine lv_bipush (v := 8) hx hb d_S_init_66 (by decide) ?_
  refine gnewa (atype := .int) (N' := 8) (k := 10) (by decide) 1 hx hb hw hK hG tw_760 rfl (fun _ _ => rfl) rfl rfl (fun _ => rfl) (by decide) (Nat.le_of_ble_eq_true rfl) (Nat.le_of_ble_eq_true rfl) (Nat.le_of_ble_eq_true rfl) d_S_init_68 (fun q30 S31 H hqq30 eS31 hle1 hG => ?_)
  replace h := h q30 S31 hqq30 eS31
  have fa0 := gle_isA hle1 fa0
  have f4 := gle_isA hle1 f4
  have f8 := gle_isA hle1 f8
  have f12 := gle_isA hle1 f12
  have f16 := gle_isA hle1 f16
  have f20 := gle_isA hle1 f20
  have f24 := gle_isA hle1 f24
  have f28 := gle_isA hle1 f28
  have leS := leS.tr hle1
  have f32 : isA S31 10 q30 := by rw [eS31]; exact isA_new
  refine gputF (S' := pQ S31 47 a0 (some q30)) hx hb hw hown hK hG kd_S fa0 rfl 9 (by decide) (gChQ fa0 rfl) tw_958 (fun _ h9 => h9) rfl hin rfl rfl rfl rfl (Nat.le_of_ble_eq_true rfl) d_S_init_70 (fun S33 H locs eS33 hle1 hG => ?_)
  replace h := h S33 eS33
  have fa0 := gle_isA hle1 fa0
  have f4 := gle_isA hle1 f4
  have f8 := gle_isA hle1 f8
  have f12 := gle_isA hle1 f12
  have f16 := gle_isA hle1 f16
  have f20 := gle_isA hle1 f20
  have f24 := gle_isA hle1 f24
  have f28 := gle_isA hle1 f28
  have f32 := gle_isA hle1 f32
  have leS := leS.tr hle1
  refine lv_aload_n hx hb d_S_init_73 rfl (lv_at hl0 0 rfl) ?_
  refine lv_bipush (v := 8) hx hb d_S_init_74 (by decide) ?_
  refine gnewa (atype := .boolean) (N' := 8) (k := 11) (by decide) 2 hx hb hw hK hG tw_1012 rfl (fun _ _ => rfl) rfl rfl (fun _ => rfl) (by decide) (Nat.le_of_ble_eq_true rfl) (Nat.le_of_ble_eq_true rfl) (Nat.le_of_ble_eq_true rfl) d_S_init_76 (fun q34 S35 H hqq34 eS35 hle1 hG => ?_)
  replace h := h q34 S35 hqq34 eS35
  have fa0 := gle_isA hle1 fa0
  have f4 := gle_isA hle1 f4
  have f8 := gle_isA hle1 f8
  have f12 := gle_isA hle1 f12
  have f16 := gle_isA hle1 f16
  have f20 := gle_isA hle1 f20
  have f24 := gle_isA hle1 f24
  have f28 := gle_isA hle1 f28
  have f32 := gle_isA hle1 f32
  have leS := leS.tr hle1
  have f36 : isA S35 11 q34 := by rw [eS35]; exact isA_new
  refine gputF (S' := pQ S35 48 a0 (some q34)) hx hb hw hown hK hG kd_S fa0 rfl 10 (by decide) (gChQ fa0 rfl) tw_960 (fun _ h9 => h9) rfl hin rfl rfl rfl rfl (Nat.le_of_ble_eq_true rfl) d_S_init_78 (fun S37 H locs eS37 hle1 hG => ?_)
  replace h := h S37 eS37
  have fa0 := gle_isA hle1 fa0
  have f4 := gle_isA hle1 f4
  have f8 := gle_isA hle1 f8
  have f12 := gle_isA hle1 f12
  have f16 := gle_isA hle1 f16
  have f20 := gle_isA hle1 f20
  have f24 := gle_isA hle1 f24
  have f28 := gle_isA hle1 f28
  have f32 := gle_isA hle1 f32
  have f36 := gle_isA hle1 f36
  have leS := leS.tr hle1
  refine lv_aload_n hx hb d_S_init_81 rfl (lv_at hl0 0 rfl) ?_
  refine lv_bipush (v := 8) hx hb d_S_init_82 (by decide) ?_
  refine gnewa (atype := .int) (N' := 8) (k := 10) (by decide) 1 hx hb hw hK hG tw_760 rfl (fun _ _ => rfl) rfl rfl (fun _ => rfl) (by decide) (Nat.le_of_ble_eq_true rfl) (Nat.le_of_ble_eq_true rfl) (Nat.le_of_ble_eq_true rfl) d_S_init_84 (fun q38 S39 H hqq38 eS39 hle1 hG => ?_)
  replace h := h q38 S39 hqq38 eS39
  have fa0 := gle_isA hle1 fa0
  have f4 := gle_isA hle1 f4
  have f8 := gle_isA hle1 f8
  have f12 := gle_isA hle1 f12
  have f16 := gle_isA hle1 f16
  have f20 := gle_isA hle1 f20
  have f24 := gle_isA hle1 f24
  have f28 := gle_isA hle1 f28
  have f32 := gle_isA hle1 f32
  have f36 := gle_isA hle1 f36
  have leS := leS.tr hle1
  have f40 : isA S39 10 q38 := by rw [eS39]; exact isA_new
  refine gputF (S' := pQ S39 49 a0 (some q38)) hx hb hw hown hK hG kd_S fa0 rfl 11 (by decide) (gChQ fa0 rfl) tw_962 (fun _ h9 => h9) rfl hin rfl rfl rfl rfl (Nat.le_of_ble_eq_true rfl) d_S_init_86 (fun S41 H locs eS41 hle1 hG => ?_)
  replace h := h S41 eS41
  have fa0 := gle_isA hle1 fa0
  have f4 := gle_isA hle1 f4
  have f8 := gle_isA hle1 f8
  have f12 := gle_isA hle1 f12
  have f16 := gle_isA hle1 f16
  have f20 := gle_isA hle1 f20
  have f24 := gle_isA hle1 f24
  have f28 := gle_isA hle1 f28
  have f32 := gle_isA hle1 f32
  have f36 := gle_isA hle1 f36
  have f40 := gle_isA hle1 f40
  have leS := leS.tr hle1
  refine lv_aload_n hx hb d_S_init_89 rfl (lv_at hl0 0 rfl) ?_
  refine lv_bipush (v := 8) hx hb d_S_init_90 (by decide) ?_
  refine gnewa (atype := .int) (N' := 8) (k := 10) (by decide) 1 hx hb hw hK hG tw_760 rfl (fun _ _ => rfl) rfl rfl (fun _ => rfl) (by decide) (Nat.le_of_ble_eq_true rfl) (Nat.le_of_ble_eq_true rfl) (Nat.le_of_ble_eq_true rfl) d_S_init_92 (fun q42 S43 H hqq42 eS43 hle1 hG => ?_)
  replace h := h q42 S43 hqq42 eS43
  have fa0 := gle_isA hle1 fa0
  have f4 := gle_isA hle1 f4
  have f8 := gle_isA hle1 f8
  have f12 := gle_isA hle1 f12
  have f16 := gle_isA hle1 f16
  have f20 := gle_isA hle1 f20
  have f24 := gle_isA hle1 f24
  have f28 := gle_isA hle1 f28
  have f32 := gle_isA hle1 f32
  have f36 := gle_isA hle1 f36
  have f40 := gle_isA hle1 f40
  have leS := leS.tr hle1
  have f44 : isA S43 10 q42 := by rw [eS43]; exact isA_new
  refine gputF (S' := pQ S43 50 a0 (some q42)) hx hb hw hown hK hG kd_S fa0 rfl 12 (by decide) (gChQ fa0 rfl) tw_964 (fun _ h9 => h9) rfl hin rfl rfl rfl rfl (Nat.le_of_ble_eq_true rfl) d_S_init_94 (fun S45 H locs eS45 hle1 hG => ?_)
  replace h := h S45 eS45
  have fa0 := gle_isA hle1 fa0
  have f4 := gle_isA hle1 f4
  have f8 := gle_isA hle1 f8
  have f12 := gle_isA hle1 f12
  have f16 := gle_isA hle1 f16
  have f20 := gle_isA hle1 f20
  have f24 := gle_isA hle1 f24
  have f28 := gle_isA hle1 f28
  have f32 := gle_isA hle1 f32
  have f36 := gle_isA hle1 f36
  have f40 := gle_isA hle1 f40
  have f44 := gle_isA hle1 f44
  have leS := leS.tr hle1
  refine lv_aload_n hx hb d_S_init_97 rfl (lv_at hl0 0 rfl) ?_
  refine lv_bipush (v := 8) hx hb d_S_init_98 (by decide) ?_
  refine gnewa (atype := .int) (N' := 8) (k := 10) (by decide) 1 hx hb hw hK hG tw_760 rfl (fun _ _ => rfl) rfl rfl (fun _ => rfl) (by decide) (Nat.le_of_ble_eq_true rfl) (Nat.le_of_ble_eq_true rfl) (Nat.le_of_ble_eq_true rfl) d_S_init_100 (fun q46 S47 H hqq46 eS47 hle1 hG => ?_)
  replace h := h q46 S47 hqq46 eS47
  have fa0 := gle_isA hle1 fa0
  have f4 := gle_isA hle1 f4
  have f8 := gle_isA hle1 f8
  have f12 := gle_isA hle1 f12
  have f16 := gle_isA hle1 f16
  have f20 := gle_isA hle1 f20
  have f24 := gle_isA hle1 f24
  have f28 := gle_isA hle1 f28
  have f32 := gle_isA hle1 f32
  have f36 := gle_isA hle1 f36
  have f40 := gle_isA hle1 f40
  have f44 := gle_isA hle1 f44
  have leS := leS.tr hle1
  have f48 : isA S47 10 q46 := by rw [eS47]; exact isA_new
  refine gputF (S' := pQ S47 51 a0 (some q46)) hx hb hw hown hK hG kd_S fa0 rfl 13 (by decide) (gChQ fa0 rfl) tw_966 (fun _ h9 => h9) rfl hin rfl rfl rfl rfl (Nat.le_of_ble_eq_true rfl) d_S_init_102 (fun S49 H locs eS49 hle1 hG => ?_)
  replace h := h S49 eS49
  have fa0 := gle_isA hle1 fa0
  have f4 := gle_isA hle1 f4
  have f8 := gle_isA hle1 f8
  have f12 := gle_isA hle1 f12
  have f16 := gle_isA hle1 f16
  have f20 := gle_isA hle1 f20
  have f24 := gle_isA hle1 f24
  have f28 := gle_isA hle1 f28
  have f32 := gle_isA hle1 f32
  have f36 := gle_isA hle1 f36
  have f40 := gle_isA hle1 f40
  have f44 := gle_isA hle1 f44
  have f48 := gle_isA hle1 f48
  have leS := leS.tr hle1
  refine lv_aload_n hx hb d_S_init_105 rfl (lv_at hl0 0 rfl) ?_
  refine lv_bipush (v := 18) hx hb d_S_init_106 (by decide) ?_
  refine gnewa (atype := .int) (N' := 18) (k := 10) (by decide) 1 hx hb hw hK hG tw_760 rfl (fun _ _ => rfl) rfl rfl (fun _ => rfl) (by decide) (Nat.le_of_ble_eq_true rfl) (Nat.le_of_ble_eq_true rfl) (Nat.le_of_ble_eq_true rfl) d_S_init_108 (fun q50 S51 H hqq50 eS51 hle1 hG => ?_)
  replace h := h q50 S51 hqq50 eS51
  have fa0 := gle_isA hle1 fa0
  have f4 := gle_isA hle1 f4
  have f8 := gle_isA hle1 f8
  have f12 := gle_isA hle1 f12
  have f16 := gle_isA hle1 f16
  have f20 := gle_isA hle1 f20
  have f24 := gle_isA hle1 f24
  have f28 := gle_isA hle1 f28
  have f32 := gle_isA hle1 f32
  have f36 := gle_isA hle1 f36
  have f40 := gle_isA hle1 f40
  have f44 := gle_isA hle1 f44
  have f48 := gle_isA hle1 f48
  have leS := leS.tr hle1
  have f52 : isA S51 10 q50 := by rw [eS51]; exact isA_new
  refine gputF (S' := pQ S51 53 a0 (some q50)) hx hb hw hown hK hG kd_S fa0 rfl 15 (by decide) (gChQ fa0 rfl) tw_970 (fun _ h9 => h9) rfl hin rfl rfl rfl rfl (Nat.le_of_ble_eq_true rfl) d_S_init_110 (fun S53 H locs eS53 hle1 hG => ?_)
  replace h := h S53 eS53
  have fa0 := gle_isA hle1 fa0
  have f4 := gle_isA hle1 f4
  have f8 := gle_isA hle1 f8
  have f12 := gle_isA hle1 f12
  have f16 := gle_isA hle1 f16
  have f20 := gle_isA hle1 f20
  have f24 := gle_isA hle1 f24
  have f28 := gle_isA hle1 f28
  have f32 := gle_isA hle1 f32
  have f36 := gle_isA hle1 f36
  have f40 := gle_isA hle1 f40
  have f44 := gle_isA hle1 f44
  have f48 := gle_isA hle1 f48
  have f52 := gle_isA hle1 f52
  have leS := leS.tr hle1
  refine lv_aload_n hx hb d_S_init_113 rfl (lv_at hl0 0 rfl) ?_
  refine lv_bipush (v := 24) hx hb d_S_init_114 (by decide) ?_
  refine gnewa (atype := .int) (N' := 24) (k := 10) (by decide) 1 hx hb hw hK hG tw_760 rfl (fun _ _ => rfl) rfl rfl (fun _ => rfl) (by decide) (Nat.le_of_ble_eq_true rfl) (Nat.le_of_ble_eq_true rfl) (Nat.le_of_ble_eq_true rfl) d_S_init_116 (fun q54 S55 H hqq54 eS55 hle1 hG => ?_)
  replace h := h q54 S55 hqq54 eS55
  have fa0 := gle_isA hle1 fa0
  have f4 := gle_isA hle1 f4
  have f8 := gle_isA hle1 f8
  have f12 := gle_isA hle1 f12
  have f16 := gle_isA hle1 f16
  have f20 := gle_isA hle1 f20
  have f24 := gle_isA hle1 f24
  have f28 := gle_isA hle1 f28
  have f32 := gle_isA hle1 f32
  have f36 := gle_isA hle1 f36
  have f40 := gle_isA hle1 f40
  have f44 := gle_isA hle1 f44
  have f48 := gle_isA hle1 f48
  have f52 := gle_isA hle1 f52
  have leS := leS.tr hle1
  have f56 : isA S55 10 q54 := by rw [eS55]; exact isA_new
  refine gputF (S' := pQ S55 54 a0 (some q54)) hx hb hw hown hK hG kd_S fa0 rfl 16 (by decide) (gChQ fa0 rfl) tw_972 (fun _ h9 => h9) rfl hin rfl rfl rfl rfl (Nat.le_of_ble_eq_true rfl) d_S_init_118 (fun S57 H locs eS57 hle1 hG => ?_)
  replace h := h S57 eS57
  have fa0 := gle_isA hle1 fa0
  have f4 := gle_isA hle1 f4
  have f8 := gle_isA hle1 f8
  have f12 := gle_isA hle1 f12
  have f16 := gle_isA hle1 f16
  have f20 := gle_isA hle1 f20
  have f24 := gle_isA hle1 f24
  have f28 := gle_isA hle1 f28
  have f32 := gle_isA hle1 f32
  have f36 := gle_isA hle1 f36
  have f40 := gle_isA hle1 f40
  have f44 := gle_isA hle1 f44
  have f48 := gle_isA hle1 f48
  have f52 := gle_isA hle1 f52
  have f56 := gle_isA hle1 f56
  have leS := leS.tr hle1
  exact gvret hx hb hr hlocks hK hG leS h (Nat.le_of_ble_eq_true rfl) (Nat.le_of_ble_eq_true rfl) d_S_init_121
def w_M_isFigure (post : Int32 → Prop) (S : St) (a0 : Int32) : Prop :=
  ∃ J4 : Nat → Int32 → Int32 → Prop, (∃ n : Nat, J4 n 0 0) ∧ ∀ (n4 : Nat) (v1_4 : Int32) (v2_4 : Int32), J4 n4 v1_4 v2_4 → (8 ≤ v2_4 → gBo v1_4 ∧ post v1_4) ∧ (¬ 8 ≤ v2_4 → ∃ J29 : Int32 → Prop, (∀ (k0_29 : Int32), J29 k0_29 → ∀ v7 : Int32, v7 = v2_4 + 1 → ∃ nx : Nat, nx < n4 ∧ J4 nx k0_29 v7) ∧ ∃ J24 : Prop, (J24 → J29 1) ∧ (v1_4 = 0 → w_ST_charAt (fun (r10 : Int32) => (r10 = a0 → J24) ∧ (¬ r10 = a0 → J29 0)) S 8 v2_4) ∧ (¬ v1_4 = 0 → J24))
set_option maxHeartbeats 4000000 in
set_option maxRecDepth 100000 in
theorem m_M_isFigure (l : Launch) (x : Cx) (S : St) (post : Int32 → Prop) (a0 : Int32) (h : w_M_isFigure post S a0) : Met l y_M_isFigure [.code y_M_isFigure c_M_isFigure 3 (some .boolean)] { frames := 4, cells := 0, slots := 0, locals := 85 } (va_Pc [.int a0] (GW x S)) (va_Qi (gPu post S) (gB x S) (xA x)) 0 0 (xA x) := by
  refine gMet (by decide +kernel) (Nat.le_of_ble_eq_true rfl) ?_
  intro p e s m args below meth c hx hb hr hown hlocks hin hw hK H locs hG ls hlA hml
  have hown : s.vm.findClass "WaltzHallModel" = some m.cls := hown
  have hl0 : lv_has ls 3 [(0, .int a0)] := hlA
  unfold w_M_isFigure at h
  refine lv_iconst (v := 0) hx hb d_M_isFigure_0 (by decide) ?_
  refine lv_istore_n (i := 1) (lv' := [(1, .int 0), (0, .int a0)]) hx hb d_M_isFigure_1 rfl hl0 (by decide) rfl (fun ls hl1 => ?_)
  refine lv_iconst (v := 0) hx hb d_M_isFigure_2 (by decide) ?_
  refine lv_istore_n (i := 2) (lv' := [(2, .int 0), (1, .int 0), (0, .int a0)]) hx hb d_M_isFigure_3 rfl hl1 (by decide) rfl (fun ls hl2 => ?_)
  have leS : gle S S := gle.rf
  obtain ⟨J4, ⟨n0_4, h0_4⟩, hJ4⟩ := h
  have k4 : ∀ (n4 : Nat) (v1_4 : Int32) (v2_4 : Int32) (H : Heap) (locs : List Loc) (ls : Array Slot), GH x S s H locs → lv_has ls 3 [(0, .int a0), (1, .int v1_4), (2, .int v2_4)] → J4 n4 v1_4 v2_4 → W p l e { frames := 4, cells := 0, slots := 0, locals := 85 } s m args below meth c H locs 0 0 (MQ below (va_Qi (gPu post S) (gB x S) (xA x)) args s 0 0 (xA x)) (F0 m 4 ls []) := by
    intro n4
    induction n4 using Nat.strongRecOn with
    | _ n4 ih4 =>
      intro v1_4 v2_4 H locs ls hG hl3 hj
      replace h := hJ4 n4 v1_4 v2_4 hj
      refine lv_iload_n hx hb d_M_isFigure_4 rfl (lv_at hl3 2 rfl) ?_
      refine lv_bipush (v := 8) hx hb d_M_isFigure_5 (by decide) ?_
      refine lv_icmp_ge (tgt := 36) hx hb d_M_isFigure_7 (by decide) (fun hc13 => ?_) (fun hc13 => ?_)
      · replace h := h.1 hc13
        refine lv_iload_n hx hb d_M_isFigure_36 rfl (lv_at hl3 1 rfl) ?_
        obtain ⟨hb4, h⟩ := h
        exact gzret hx hb hr (gBo_n hb4) hlocks hK hG leS ⟨h, rfl⟩ (Nat.le_of_ble_eq_true rfl) (Nat.le_of_ble_eq_true rfl) d_M_isFigure_37
      · replace h := h.2 hc13
        refine lv_iload_n hx hb d_M_isFigure_10 rfl (lv_at hl3 1 rfl) ?_
        obtain ⟨J29, hJ29, h⟩ := h
        have k29 : ∀ (k0_29 : Int32) (H : Heap) (locs : List Loc) (ls : Array Slot), GH x S s H locs → lv_has ls 3 [(0, .int a0), (2, .int v2_4)] → J29 k0_29 → W p l e { frames := 4, cells := 0, slots := 0, locals := 85 } s m args below meth c H locs 0 0 (MQ below (va_Qi (gPu post S) (gB x S) (xA x)) args s 0 0 (xA x)) (F0 m 29 ls [.int k0_29]) := by
          intro k0_29  H locs ls hG hl5 hj
          replace h := hJ29 k0_29 hj
          refine lv_istore_n (i := 1) (lv' := [(1, .int k0_29), (0, .int a0), (2, .int v2_4)]) hx hb d_M_isFigure_29 rfl hl5 (by decide) rfl (fun ls hl6 => ?_)
          obtain ⟨v7, ev7⟩ : ∃ z : Int32, z = v2_4 + 1 := ⟨_, rfl⟩
          replace h := h v7 ev7
          refine lv_iinc (v := v7) (lv' := [(2, .int v7), (1, .int k0_29), (0, .int a0)]) hx hb d_M_isFigure_30 hl6 (k := 2) rfl (by rw [ev7]; rfl) (by decide) rfl (fun ls hl8 => ?_)
          refine lv_goto (tgt := 4) hx hb d_M_isFigure_33 (by decide) ?_
          obtain ⟨nx, hnx, h⟩ := h
          exact ih4 nx hnx k0_29 v7 H locs ls hG (lv_sub hl8 [2, 1, 0] rfl) h
        obtain ⟨J24, hJ24, h⟩ := h
        have k24 : ∀ (H : Heap) (locs : List Loc) (ls : Array Slot), GH x S s H locs → lv_has ls 3 [(0, .int a0), (2, .int v2_4)] → J24 → W p l e { frames := 4, cells := 0, slots := 0, locals := 85 } s m args below meth c H locs 0 0 (MQ below (va_Qi (gPu post S) (gB x S) (xA x)) args s 0 0 (xA x)) (F0 m 24 ls []) := by
          intro  H locs ls hG hl9 hj
          replace h := hJ24 hj
          refine lv_iconst (v := 1) hx hb d_M_isFigure_24 (by decide) ?_
          refine lv_goto (tgt := 29) hx hb d_M_isFigure_25 (by decide) ?_
          exact k29 1 H locs ls hG (lv_sub hl9 [0, 1] rfl) h
        refine lv_if_ne (tgt := 24) hx hb d_M_isFigure_11 (by decide) (fun hc12 => ?_) (fun hc12 => ?_)
        · replace h := h.2 hc12
          exact k24 H locs ls hG (lv_sub hl3 [0, 2] rfl) h
        · replace h := h.1 hc12
          refine va_ldcS hx hb hown (hK.2.2.2.1.1 ("WaltzHallModel", 60, "fblrtusw", 8) (by decide)) d_M_isFigure_14 ?_
          refine lv_iload_n hx hb d_M_isFigure_16 rfl (lv_at hl3 2 rfl) ?_
          -- call ST_charAt
          refine gpi hK hG (va_runV (As := [.int v2_4]) (rest := []) ⟨hx, hb, hml, hown, hw⟩ (m_ST_charAt l x S _ 8 v2_4  (by decide) h) ⟨gcb hw tw_126 tw_34 tw_1016 hd_ST_charAt rfl rfl ⟨(Nat.le_of_ble_eq_true rfl), (Nat.le_of_ble_eq_true rfl)⟩, hw _ tw_124, hw _ tw_125⟩ (gpT (by decide) hK hG) rfl rfl hl3.1 rfl (lv_room (Nat.le_of_ble_eq_true rfl)) d_M_isFigure_17 ⟨(Nat.le_of_ble_eq_true rfl), (Nat.le_of_ble_eq_true rfl)⟩) (fun r10 H locs h9 hG => ?_)
          replace h := h9
          clear h9
          refine lv_iload_n hx hb d_M_isFigure_20 rfl (lv_at hl3 0 rfl) ?_
          refine lv_icmp_ne (tgt := 28) hx hb d_M_isFigure_21 (by decide) (fun hc11 => ?_) (fun hc11 => ?_)
          · replace h := h.2 hc11
            refine lv_iconst (v := 0) hx hb d_M_isFigure_28 (by decide) ?_
            exact k29 0 H locs ls hG (lv_sub hl3 [0, 2] rfl) h
          · replace h := h.1 hc11
            exact k24 H locs ls hG (lv_sub hl3 [0, 2] rfl) h
  exact k4 n0_4 0 0 H locs ls hG (lv_sub hl2 [2, 1, 0] rfl) h0_4
def w_M_init (post : St → Prop) (S : St) (a0 : Nat) : Prop :=
  ∀ (q1 : Nat) (S2 : St), q1 ∉ sL S → S2 = pNew S q1 10 40 → ∀ S4 : St, S4 = pQ S2 57 a0 (some q1) → ∀ (q5 : Nat) (S6 : St), q5 ∉ sL S4 → S6 = pNew S4 q5 10 192 → ∀ S8 : St, S8 = pQ S6 59 a0 (some q5) → ∀ (q9 : Nat) (S10 : St), q9 ∉ sL S8 → S10 = pNew S8 q9 10 8 → ∀ S12 : St, S12 = pQ S10 60 a0 (some q9) → ∀ (q13 : Nat) (S14 : St), q13 ∉ sL S12 → S14 = pNew S12 q13 7 0 → w_S_init (fun (S16 : St) => ∀ S17 : St, S17 = pQ S16 61 a0 (some q13) → ∀ (q18 : Nat) (S19 : St), q18 ∉ sL S17 → S19 = pNew S17 q18 7 0 → w_S_init (fun (S21 : St) => ∀ S22 : St, S22 = pQ S21 62 a0 (some q18) → ∃ J55 : Nat → St → Int32 → Prop, (∃ n : Nat, J55 n S22 0) ∧ ∀ (n55 : Nat) (S_55 : St) (v1_55 : Int32), J55 n55 S_55 v1_55 → (8 ≤ v1_55 → post S_55) ∧ (¬ 8 ≤ v1_55 → ∀ o25 : Option Nat, o25 = sQ S_55 60 a0 → vp_in v1_55 8 ∧ w_ST_length (fun (r27 : Int32) => ∃ y28 : Nat, o25 = some y28 ∧ isA S_55 10 y28 ∧ vp_in v1_55 (sN S_55 y28) ∧ ∀ S31 : St, S31 = pR S_55 y28 (v1_55.toNatClampNeg) r27 → ∃ J77 : Nat → St → Int32 → Prop, (∃ n : Nat, J77 n S31 0) ∧ ∀ (n77 : Nat) (S_77 : St) (v2_77 : Int32), J77 n77 S_77 v2_77 → ∀ o34 : Option Nat, o34 = sQ S_77 60 a0 → ∃ y35 : Nat, o34 = some y35 ∧ isA S_77 10 y35 ∧ vp_in v1_55 (sN S_77 y35) ∧ ((sR S_77 y35 v1_55.toNatClampNeg) ≤ v2_77 → ∀ v38 : Int32, v38 = v1_55 + 1 → ∃ nx : Nat, nx < n55 ∧ J55 nx S_77 v38) ∧ (¬ (sR S_77 y35 v1_55.toNatClampNeg) ≤ v2_77 → ∀ o40 : Option Nat, o40 = sQ S_77 59 a0 → vp_in v1_55 8 ∧ w_ST_charAt (fun (r42 : Int32) => ∃ y43 : Nat, o40 = some y43 ∧ isA S_77 10 y43 ∧ vp_in ((24 * v1_55) + v2_77) (sN S_77 y43) ∧ ∀ S46 : St, S46 = pR S_77 y43 (((24 * v1_55) + v2_77).toNatClampNeg) r42 → ∀ v47 : Int32, v47 = v2_77 + 1 → ∃ nx : Nat, nx < n77 ∧ J77 nx S46 v47) S_77 (9 + v1_55.toNatClampNeg) v2_77)) S_55 (9 + v1_55.toNatClampNeg))) S19 q18 (some a0)) S14 q13 (some a0)
set_option maxHeartbeats 4000000 in
set_option maxRecDepth 100000 in
theorem m_M_init (l : Launch) (x : Cx) (S : St) (post : St → Prop) (a0 : Nat) (fa0 : isA S 8 a0) (h : w_M_init post S a0) : Met l y_M_init [.code y_M_init c_M_init 3 none] { frames := 4, cells := 33, slots := 552, locals := 85 } (va_Pc [.ref a0] (GW x S)) (va_Qv post (gB x S) (xA x)) 33 552 (xA x) := by
  refine gMet (by decide +kernel) (Nat.le_of_ble_eq_true rfl) ?_
  intro p e s m args below meth c hx hb hr hown hlocks hin hw hK H locs hG ls hlA hml
  have hown : s.vm.findClass "WaltzHallModel" = some m.cls := hown
  have hl0 : lv_has ls 3 [(0, .ref a0)] := hlA
  have leS : gle S S := gle.rf
  unfold w_M_init at h
  refine lv_aload_n hx hb d_M_init_0 rfl (lv_at hl0 0 rfl) ?_
  refine gobj (bytes := c_M_init) hx hb hw hown tw_933 tw_61 tw_62 (hl0.1.trans hml.symm) d_M_init_1 (Nat.le_of_ble_eq_true rfl) (Nat.le_of_ble_eq_true rfl) ?_
  refine lv_aload_n hx hb d_M_init_4 rfl (lv_at hl0 0 rfl) ?_
  refine lv_bipush (v := 40) hx hb d_M_init_5 (by decide) ?_
  refine gnewa (atype := .int) (N' := 40) (k := 10) (by decide) 1 hx hb hw hK hG tw_760 rfl (fun _ _ => rfl) rfl rfl (fun _ => rfl) (by decide) (Nat.le_of_ble_eq_true rfl) (Nat.le_of_ble_eq_true rfl) (Nat.le_of_ble_eq_true rfl) d_M_init_7 (fun q1 S2 H hqq1 eS2 hle1 hG => ?_)
  replace h := h q1 S2 hqq1 eS2
  have fa0 := gle_isA hle1 fa0
  have leS := leS.tr hle1
  have f3 : isA S2 10 q1 := by rw [eS2]; exact isA_new
  refine gputF (S' := pQ S2 57 a0 (some q1)) hx hb hw hown hK hG kd_M fa0 rfl 1 (by decide) (gChQ fa0 rfl) tw_1018 (fun _ h9 => h9) rfl hin rfl rfl rfl rfl (Nat.le_of_ble_eq_true rfl) d_M_init_9 (fun S4 H locs eS4 hle1 hG => ?_)
  replace h := h S4 eS4
  have fa0 := gle_isA hle1 fa0
  have f3 := gle_isA hle1 f3
  have leS := leS.tr hle1
  refine lv_aload_n hx hb d_M_init_12 rfl (lv_at hl0 0 rfl) ?_
  refine lv_sipush (v := 192) hx hb d_M_init_13 (by decide) ?_
  refine gnewa (atype := .int) (N' := 192) (k := 10) (by decide) 1 hx hb hw hK hG tw_760 rfl (fun _ _ => rfl) rfl rfl (fun _ => rfl) (by decide) (Nat.le_of_ble_eq_true rfl) (Nat.le_of_ble_eq_true rfl) (Nat.le_of_ble_eq_true rfl) d_M_init_16 (fun q5 S6 H hqq5 eS6 hle1 hG => ?_)
  replace h := h q5 S6 hqq5 eS6
  have fa0 := gle_isA hle1 fa0
  have f3 := gle_isA hle1 f3
  have leS := leS.tr hle1
  have f7 : isA S6 10 q5 := by rw [eS6]; exact isA_new
  refine gputF (S' := pQ S6 59 a0 (some q5)) hx hb hw hown hK hG kd_M fa0 rfl 3 (by decide) (gChQ fa0 rfl) tw_1020 (fun _ h9 => h9) rfl hin rfl rfl rfl rfl (Nat.le_of_ble_eq_true rfl) d_M_init_18 (fun S8 H locs eS8 hle1 hG => ?_)
  replace h := h S8 eS8
  have fa0 := gle_isA hle1 fa0
  have f3 := gle_isA hle1 f3
  have f7 := gle_isA hle1 f7
  have leS := leS.tr hle1
  refine lv_aload_n hx hb d_M_init_21 rfl (lv_at hl0 0 rfl) ?_
  refine lv_bipush (v := 8) hx hb d_M_init_22 (by decide) ?_
  refine gnewa (atype := .int) (N' := 8) (k := 10) (by decide) 1 hx hb hw hK hG tw_760 rfl (fun _ _ => rfl) rfl rfl (fun _ => rfl) (by decide) (Nat.le_of_ble_eq_true rfl) (Nat.le_of_ble_eq_true rfl) (Nat.le_of_ble_eq_true rfl) d_M_init_24 (fun q9 S10 H hqq9 eS10 hle1 hG => ?_)
  replace h := h q9 S10 hqq9 eS10
  have fa0 := gle_isA hle1 fa0
  have f3 := gle_isA hle1 f3
  have f7 := gle_isA hle1 f7
  have leS := leS.tr hle1
  have f11 : isA S10 10 q9 := by rw [eS10]; exact isA_new
  refine gputF (S' := pQ S10 60 a0 (some q9)) hx hb hw hown hK hG kd_M fa0 rfl 4 (by decide) (gChQ fa0 rfl) tw_1022 (fun _ h9 => h9) rfl hin rfl rfl rfl rfl (Nat.le_of_ble_eq_true rfl) d_M_init_26 (fun S12 H locs eS12 hle1 hG => ?_)
  replace h := h S12 eS12
  have fa0 := gle_isA hle1 fa0
  have f3 := gle_isA hle1 f3
  have f7 := gle_isA hle1 f7
  have f11 := gle_isA hle1 f11
  have leS := leS.tr hle1
  refine lv_aload_n hx hb d_M_init_29 rfl (lv_at hl0 0 rfl) ?_
  refine gnew (k := 7) hx hb hw hown hK hG kd_S tw_934 tw_935 tw_44 rfl kf_S (Nat.le_of_ble_eq_true rfl) (Nat.le_of_ble_eq_true rfl) d_M_init_30 (fun q13 S14 H hqq13 eS14 hle1 hG => ?_)
  replace h := h q13 S14 hqq13 eS14
  have fa0 := gle_isA hle1 fa0
  have f3 := gle_isA hle1 f3
  have f7 := gle_isA hle1 f7
  have f11 := gle_isA hle1 f11
  have leS := leS.tr hle1
  have f15 : isA S14 7 q13 := by rw [eS14]; exact isA_new
  refine lv_dup hx hb d_M_init_33 rfl ?_
  refine lv_aload_n hx hb d_M_init_34 rfl (lv_at hl0 0 rfl) ?_
  -- call S_init
  refine gcv hK hG (va_runIN (As := [.ref a0]) (rest := [.ref q13, .ref a0]) ⟨hx, hb, hml, hown, hw⟩ (m_S_init l x S14 _ q13 (some a0) f15 h) ⟨gcn hw tw_938 tw_44 tw_936 hd_S_init rfl rfl ⟨(Nat.le_of_ble_eq_true rfl), (Nat.le_of_ble_eq_true rfl)⟩, rfl, hw _ tw_937⟩ (gpS hK hG) rfl rfl hl0.1 rfl (lv_room (Nat.le_of_ble_eq_true rfl)) d_M_init_35 ⟨(Nat.le_of_ble_eq_true rfl), (Nat.le_of_ble_eq_true rfl)⟩) (fun S16 H locs h9 hle1 hG => ?_)
  replace h := h9
  clear h9
  have fa0 := gle_isA hle1 fa0
  have f3 := gle_isA hle1 f3
  have f7 := gle_isA hle1 f7
  have f11 := gle_isA hle1 f11
  have f15 := gle_isA hle1 f15
  have leS := leS.tr hle1
  refine gputF (S' := pQ S16 61 a0 (some q13)) hx hb hw hown hK hG kd_M fa0 rfl 5 (by decide) (gChQ fa0 rfl) tw_1024 (fun _ h9 => h9) rfl hin rfl rfl rfl rfl (Nat.le_of_ble_eq_true rfl) d_M_init_38 (fun S17 H locs eS17 hle1 hG => ?_)
  replace h := h S17 eS17
  have fa0 := gle_isA hle1 fa0
  have f3 := gle_isA hle1 f3
  have f7 := gle_isA hle1 f7
  have f11 := gle_isA hle1 f11
  have f15 := gle_isA hle1 f15
  have leS := leS.tr hle1
  refine lv_aload_n hx hb d_M_init_41 rfl (lv_at hl0 0 rfl) ?_
  refine gnew (k := 7) hx hb hw hown hK hG kd_S tw_934 tw_935 tw_44 rfl kf_S (Nat.le_of_ble_eq_true rfl) (Nat.le_of_ble_eq_true rfl) d_M_init_42 (fun q18 S19 H hqq18 eS19 hle1 hG => ?_)
  replace h := h q18 S19 hqq18 eS19
  have fa0 := gle_isA hle1 fa0
  have f3 := gle_isA hle1 f3
  have f7 := gle_isA hle1 f7
  have f11 := gle_isA hle1 f11
  have f15 := gle_isA hle1 f15
  have leS := leS.tr hle1
  have f20 : isA S19 7 q18 := by rw [eS19]; exact isA_new
  refine lv_dup hx hb d_M_init_45 rfl ?_
  refine lv_aload_n hx hb d_M_init_46 rfl (lv_at hl0 0 rfl) ?_
  -- call S_init
  refine gcv hK hG (va_runIN (As := [.ref a0]) (rest := [.ref q18, .ref a0]) ⟨hx, hb, hml, hown, hw⟩ (m_S_init l x S19 _ q18 (some a0) f20 h) ⟨gcn hw tw_938 tw_44 tw_936 hd_S_init rfl rfl ⟨(Nat.le_of_ble_eq_true rfl), (Nat.le_of_ble_eq_true rfl)⟩, rfl, hw _ tw_937⟩ (gpS hK hG) rfl rfl hl0.1 rfl (lv_room (Nat.le_of_ble_eq_true rfl)) d_M_init_47 ⟨(Nat.le_of_ble_eq_true rfl), (Nat.le_of_ble_eq_true rfl)⟩) (fun S21 H locs h9 hle1 hG => ?_)
  replace h := h9
  clear h9
  have fa0 := gle_isA hle1 fa0
  have f3 := gle_isA hle1 f3
  have f7 := gle_isA hle1 f7
  have f11 := gle_isA hle1 f11
  have f15 := gle_isA hle1 f15
  have f20 := gle_isA hle1 f20
  have leS := leS.tr hle1
  refine gputF (S' := pQ S21 62 a0 (some q18)) hx hb hw hown hK hG kd_M fa0 rfl 6 (by decide) (gChQ fa0 rfl) tw_1025 (fun _ h9 => h9) rfl hin rfl rfl rfl rfl (Nat.le_of_ble_eq_true rfl) d_M_init_50 (fun S22 H locs eS22 hle1 hG => ?_)
  replace h := h S22 eS22
  have fa0 := gle_isA hle1 fa0
  have f3 := gle_isA hle1 f3
  have f7 := gle_isA hle1 f7
  have f11 := gle_isA hle1 f11
  have f15 := gle_isA hle1 f15
  have f20 := gle_isA hle1 f20
  have leS := leS.tr hle1
  refine lv_iconst (v := 0) hx hb d_M_init_53 (by decide) ?_
  refine lv_istore_n (i := 1) (lv' := [(1, .int 0), (0, .ref a0)]) hx hb d_M_init_54 rfl hl0 (by decide) rfl (fun ls hl23 => ?_)
  have leS22 : gle S22 S22 := gle.rf
  obtain ⟨J55, ⟨n0_55, h0_55⟩, hJ55⟩ := h
  have k55 : ∀ (n55 : Nat) (S_55 : St) (v1_55 : Int32) (H : Heap) (locs : List Loc) (ls : Array Slot), gle S22 S_55 → GH x S_55 s H locs → lv_has ls 3 [(0, .ref a0), (1, .int v1_55)] → J55 n55 S_55 v1_55 → W p l e { frames := 4, cells := 33, slots := 552, locals := 85 } s m args below meth c H locs 33 552 (MQ below (va_Qv post (gB x S) (xA x)) args s 33 552 (xA x)) (F0 m 55 ls []) := by
    intro n55
    induction n55 using Nat.strongRecOn with
    | _ n55 ih55 =>
      intro S_55 v1_55 H locs ls hle1 hG hl24 hj
      replace h := hJ55 n55 S_55 v1_55 hj
      have fa0 := gle_isA hle1 fa0
      have f3 := gle_isA hle1 f3
      have f7 := gle_isA hle1 f7
      have f11 := gle_isA hle1 f11
      have f15 := gle_isA hle1 f15
      have f20 := gle_isA hle1 f20
      have leS := leS.tr hle1
      have leS22 := leS22.tr hle1
      refine lv_iload_n hx hb d_M_init_55 rfl (lv_at hl24 1 rfl) ?_
      refine lv_bipush (v := 8) hx hb d_M_init_56 (by decide) ?_
      refine lv_icmp_ge (tgt := 119) hx hb d_M_init_58 (by decide) (fun hc50 => ?_) (fun hc50 => ?_)
      · replace h := h.1 hc50
        exact gvret hx hb hr hlocks hK hG leS h (Nat.le_of_ble_eq_true rfl) (Nat.le_of_ble_eq_true rfl) d_M_init_119
      · replace h := h.2 hc50
        refine lv_aload_n hx hb d_M_init_61 rfl (lv_at hl24 0 rfl) ?_
        refine gget hx hb hw hown hK hG kd_M fa0 rfl 4 (by decide) rfl tw_1022 (fun _ h9 => h9) d_M_init_62 ?_
        refine gtopq (fun o25 eo25 => ?_)
        replace h := h o25 eo25
        refine lv_iload_n hx hb d_M_init_65 rfl (lv_at hl24 1 rfl) ?_
        refine gsFs hx hb hw hown hK hG tw_1013 d_M_init_66 ?_
        refine lv_iload_n hx hb d_M_init_69 rfl (lv_at hl24 1 rfl) ?_
        obtain ⟨hi26, h⟩ := h
        refine gfs hx hb hK hG hi26 d_M_init_70 ?_
        -- call ST_length
        refine gpi hK hG (va_runV (As := []) (rest := [.int v1_55, va_rf o25]) ⟨hx, hb, hml, hown, hw⟩ (m_ST_length l x S_55 _ (9 + v1_55.toNatClampNeg)  (gT9 hi26) h) ⟨gcb hw tw_116 tw_34 tw_1015 hd_ST_length rfl rfl ⟨(Nat.le_of_ble_eq_true rfl), (Nat.le_of_ble_eq_true rfl)⟩, hw _ tw_114, hw _ tw_115⟩ (gpT (gT9 hi26) hK hG) rfl rfl hl24.1 rfl (lv_room (by simp [gCat, gci1, gcr1, gcl1, gcd1])) d_M_init_71 ⟨(Nat.le_of_ble_eq_true rfl), (Nat.le_of_ble_eq_true rfl)⟩) (fun r27 H locs h9 hG => ?_)
        replace h := h9
        clear h9
        obtain ⟨y28, ey28, h⟩ := h
        subst ey28
        obtain ⟨f29, h⟩ := h
        obtain ⟨hi30, h⟩ := h
        refine giast hx hb hK hG f29 hi30 d_M_init_74 (fun S31 H locs eS31 hle1 hG => ?_)
        replace h := h S31 eS31
        have fa0 := gle_isA hle1 fa0
        have f3 := gle_isA hle1 f3
        have f7 := gle_isA hle1 f7
        have f11 := gle_isA hle1 f11
        have f15 := gle_isA hle1 f15
        have f20 := gle_isA hle1 f20
        have f29 := gle_isA hle1 f29
        have leS := leS.tr hle1
        have leS22 := leS22.tr hle1
        refine lv_iconst (v := 0) hx hb d_M_init_75 (by decide) ?_
        refine lv_istore_n (i := 2) (lv' := [(2, .int 0), (0, .ref a0), (1, .int v1_55)]) hx hb d_M_init_76 rfl hl24 (by decide) rfl (fun ls hl32 => ?_)
        have leS31 : gle S31 S31 := gle.rf
        obtain ⟨J77, ⟨n0_77, h0_77⟩, hJ77⟩ := h
        have k77 : ∀ (n77 : Nat) (S_77 : St) (v2_77 : Int32) (H : Heap) (locs : List Loc) (ls : Array Slot), gle S31 S_77 → GH x S_77 s H locs → lv_has ls 3 [(0, .ref a0), (1, .int v1_55), (2, .int v2_77)] → J77 n77 S_77 v2_77 → W p l e { frames := 4, cells := 33, slots := 552, locals := 85 } s m args below meth c H locs 33 552 (MQ below (va_Qv post (gB x S) (xA x)) args s 33 552 (xA x)) (F0 m 77 ls []) := by
          intro n77
          induction n77 using Nat.strongRecOn with
          | _ n77 ih77 =>
            intro S_77 v2_77 H locs ls hle1 hG hl33 hj
            replace h := hJ77 n77 S_77 v2_77 hj
            have fa0 := gle_isA hle1 fa0
            have f3 := gle_isA hle1 f3
            have f7 := gle_isA hle1 f7
            have f11 := gle_isA hle1 f11
            have f15 := gle_isA hle1 f15
            have f20 := gle_isA hle1 f20
            have f29 := gle_isA hle1 f29
            have leS := leS.tr hle1
            have leS22 := leS22.tr hle1
            have leS31 := leS31.tr hle1
            refine lv_iload_n hx hb d_M_init_77 rfl (lv_at hl33 2 rfl) ?_
            refine lv_aload_n hx hb d_M_init_78 rfl (lv_at hl33 0 rfl) ?_
            refine gget hx hb hw hown hK hG kd_M fa0 rfl 4 (by decide) rfl tw_1022 (fun _ h9 => h9) d_M_init_79 ?_
            refine gtopq (fun o34 eo34 => ?_)
            replace h := h o34 eo34
            refine lv_iload_n hx hb d_M_init_82 rfl (lv_at hl33 1 rfl) ?_
            obtain ⟨y35, ey35, h⟩ := h
            subst ey35
            obtain ⟨f36, h⟩ := h
            obtain ⟨hi37, h⟩ := h
            refine giald hx hb hK hG f36 hi37 d_M_init_83 ?_
            refine lv_icmp_ge (tgt := 113) hx hb d_M_init_84 (by decide) (fun hc49 => ?_) (fun hc49 => ?_)
            · replace h := h.1 hc49
              obtain ⟨v38, ev38⟩ : ∃ z : Int32, z = v1_55 + 1 := ⟨_, rfl⟩
              replace h := h v38 ev38
              refine lv_iinc (v := v38) (lv' := [(1, .int v38), (0, .ref a0), (2, .int v2_77)]) hx hb d_M_init_113 hl33 (k := 1) rfl (by rw [ev38]; rfl) (by decide) rfl (fun ls hl39 => ?_)
              refine lv_goto (tgt := 55) hx hb d_M_init_116 (by decide) ?_
              obtain ⟨nx, hnx, h⟩ := h
              exact ih55 nx hnx S_77 v38 H locs ls leS22 hG (lv_sub hl39 [1, 0] rfl) h
            · replace h := h.2 hc49
              refine lv_aload_n hx hb d_M_init_87 rfl (lv_at hl33 0 rfl) ?_
              refine gget hx hb hw hown hK hG kd_M fa0 rfl 3 (by decide) rfl tw_1020 (fun _ h9 => h9) d_M_init_88 ?_
              refine gtopq (fun o40 eo40 => ?_)
              replace h := h o40 eo40
              refine lv_bipush (v := 24) hx hb d_M_init_91 (by decide) ?_
              refine lv_iload_n hx hb d_M_init_93 rfl (lv_at hl33 1 rfl) ?_
              refine lv_imul hx hb d_M_init_94 ?_
              refine lv_iload_n hx hb d_M_init_95 rfl (lv_at hl33 2 rfl) ?_
              refine lv_iadd hx hb d_M_init_96 ?_
              refine gsFs hx hb hw hown hK hG tw_1013 d_M_init_97 ?_
              refine lv_iload_n hx hb d_M_init_100 rfl (lv_at hl33 1 rfl) ?_
              obtain ⟨hi41, h⟩ := h
              refine gfs hx hb hK hG hi41 d_M_init_101 ?_
              refine lv_iload_n hx hb d_M_init_102 rfl (lv_at hl33 2 rfl) ?_
              -- call ST_charAt
              refine gpi hK hG (va_runV (As := [.int v2_77]) (rest := [.int ((24 * v1_55) + v2_77), va_rf o40]) ⟨hx, hb, hml, hown, hw⟩ (m_ST_charAt l x S_77 _ (9 + v1_55.toNatClampNeg) v2_77  (gT9 hi41) h) ⟨gcb hw tw_126 tw_34 tw_1016 hd_ST_charAt rfl rfl ⟨(Nat.le_of_ble_eq_true rfl), (Nat.le_of_ble_eq_true rfl)⟩, hw _ tw_124, hw _ tw_125⟩ (gpT (gT9 hi41) hK hG) rfl rfl hl33.1 rfl (lv_room (by simp [gCat, gci1, gcr1, gcl1, gcd1])) d_M_init_103 ⟨(Nat.le_of_ble_eq_true rfl), (Nat.le_of_ble_eq_true rfl)⟩) (fun r42 H locs h9 hG => ?_)
              replace h := h9
              clear h9
              obtain ⟨y43, ey43, h⟩ := h
              subst ey43
              obtain ⟨f44, h⟩ := h
              obtain ⟨hi45, h⟩ := h
              refine giast hx hb hK hG f44 hi45 d_M_init_106 (fun S46 H locs eS46 hle1 hG => ?_)
              replace h := h S46 eS46
              have fa0 := gle_isA hle1 fa0
              have f3 := gle_isA hle1 f3
              have f7 := gle_isA hle1 f7
              have f11 := gle_isA hle1 f11
              have f15 := gle_isA hle1 f15
              have f20 := gle_isA hle1 f20
              have f29 := gle_isA hle1 f29
              have f36 := gle_isA hle1 f36
              have f44 := gle_isA hle1 f44
              have leS := leS.tr hle1
              have leS22 := leS22.tr hle1
              have leS31 := leS31.tr hle1
              obtain ⟨v47, ev47⟩ : ∃ z : Int32, z = v2_77 + 1 := ⟨_, rfl⟩
              replace h := h v47 ev47
              refine lv_iinc (v := v47) (lv' := [(2, .int v47), (0, .ref a0), (1, .int v1_55)]) hx hb d_M_init_107 hl33 (k := 2) rfl (by rw [ev47]; rfl) (by decide) rfl (fun ls hl48 => ?_)
              refine lv_goto (tgt := 77) hx hb d_M_init_110 (by decide) ?_
              obtain ⟨nx, hnx, h⟩ := h
              exact ih77 nx hnx S46 v47 H locs ls leS31 hG (lv_sub hl48 [1, 2, 0] rfl) h
        exact k77 n0_77 S31 0 H locs ls gle.rf hG (lv_sub hl32 [1, 2, 0] rfl) h0_77
  exact k55 n0_55 S22 0 H locs ls gle.rf hG (lv_sub hl23 [1, 0] rfl) h0_55
def w_H_init (post : St → Prop) (S : St) (a0 : Nat) : Prop :=
  ∀ (q1 : Nat) (S2 : St), q1 ∉ sL S → S2 = pNew S q1 4 0 → w_T_init (fun (S4 : St) => ∀ S5 : St, S5 = pQ S4 33 a0 (some q1) → ∀ (q6 : Nat) (S7 : St), q6 ∉ sL S5 → S7 = pNew S5 q6 0 0 → w_AL_init (fun (S9 : St) => ∀ S10 : St, S10 = pQ S9 34 a0 (some q6) → ∀ (q11 : Nat) (S12 : St), q11 ∉ sL S10 → S12 = pNew S10 q11 1 0 → w_D_init (fun (S14 : St) => ∀ S15 : St, S15 = pQ S14 35 a0 (some q11) → ∀ (q16 : Nat) (S17 : St), q16 ∉ sL S15 → S17 = pNew S15 q16 3 0 → w_F_init (fun (S19 : St) => ∀ S20 : St, S20 = pQ S19 36 a0 (some q16) → ∀ (q21 : Nat) (S22 : St), q21 ∉ sL S20 → S22 = pNew S20 q21 3 0 → w_F_init (fun (S24 : St) => ∀ S25 : St, S25 = pQ S24 37 a0 (some q21) → ∀ o26 : Option Nat, o26 = sQ S25 34 a0 → ∀ o27 : Option Nat, o27 = sQ S25 35 a0 → ∃ y28 : Nat, o26 = some y28 ∧ isA S25 0 y28 ∧ w_AL_add1 (fun (r30 : Int32) (S31 : St) => ∀ o32 : Option Nat, o32 = sQ S31 34 a0 → ∀ (q33 : Nat) (S34 : St), q33 ∉ sL S31 → S34 = pNew S31 q33 1 0 → w_D_init (fun (S36 : St) => ∃ y37 : Nat, o32 = some y37 ∧ isA S36 0 y37 ∧ w_AL_add1 (fun (r39 : Int32) (S40 : St) => ∀ o41 : Option Nat, o41 = sQ S40 34 a0 → ∀ (q42 : Nat) (S43 : St), q42 ∉ sL S40 → S43 = pNew S40 q42 1 0 → w_D_init (fun (S45 : St) => ∃ y46 : Nat, o41 = some y46 ∧ isA S45 0 y46 ∧ w_AL_add1 (fun (r48 : Int32) (S49 : St) => ∀ o50 : Option Nat, o50 = sQ S49 34 a0 → ∀ (q51 : Nat) (S52 : St), q51 ∉ sL S49 → S52 = pNew S49 q51 1 0 → w_D_init (fun (S54 : St) => ∃ y55 : Nat, o50 = some y55 ∧ isA S54 0 y55 ∧ w_AL_add1 (fun (r57 : Int32) (S58 : St) => ∀ o59 : Option Nat, o59 = sQ S58 34 a0 → ∀ (q60 : Nat) (S61 : St), q60 ∉ sL S58 → S61 = pNew S58 q60 1 0 → w_D_init (fun (S63 : St) => ∃ y64 : Nat, o59 = some y64 ∧ isA S63 0 y64 ∧ w_AL_add1 (fun (r66 : Int32) (S67 : St) => ∀ o68 : Option Nat, o68 = sQ S67 34 a0 → ∀ (q69 : Nat) (S70 : St), q69 ∉ sL S67 → S70 = pNew S67 q69 1 0 → w_D_init (fun (S72 : St) => ∃ y73 : Nat, o68 = some y73 ∧ isA S72 0 y73 ∧ w_AL_add1 (fun (r75 : Int32) (S76 : St) => ∀ o77 : Option Nat, o77 = sQ S76 34 a0 → ∀ (q78 : Nat) (S79 : St), q78 ∉ sL S76 → S79 = pNew S76 q78 1 0 → w_D_init (fun (S81 : St) => ∃ y82 : Nat, o77 = some y82 ∧ isA S81 0 y82 ∧ w_AL_add1 (fun (r84 : Int32) (S85 : St) => ∀ o86 : Option Nat, o86 = sQ S85 34 a0 → ∀ (q87 : Nat) (S88 : St), q87 ∉ sL S85 → S88 = pNew S85 q87 1 0 → w_D_init (fun (S90 : St) => ∃ y91 : Nat, o86 = some y91 ∧ isA S90 0 y91 ∧ w_AL_add1 (fun (r93 : Int32) (S94 : St) => post S94) S90 y91 (some q87)) S88 q87 7 7) S81 y82 (some q78)) S79 q78 6 6) S72 y73 (some q69)) S70 q69 5 5) S63 y64 (some q60)) S61 q60 4 4) S54 y55 (some q51)) S52 q51 3 3) S45 y46 (some q42)) S43 q42 2 2) S36 y37 (some q33)) S34 q33 1 1) S25 y28 o27) S22 q21) S17 q16) S12 q11 0 0) S7 q6) S2 q1
set_option maxHeartbeats 4000000 in
set_option maxRecDepth 100000 in
theorem m_H_init (l : Launch) (x : Cx) (S : St) (post : St → Prop) (a0 : Nat) (fa0 : isA S 6 a0) (h : w_H_init post S a0) : Met l y_H_init [.code y_H_init c_H_init 1 none] { frames := 5, cells := 33, slots := 359, locals := 108 } (va_Pc [.ref a0] (GW x S)) (va_Qv post (gB x S) (xA x)) 33 359 (xA x) := by
  refine gMet (by decide +kernel) (Nat.le_of_ble_eq_true rfl) ?_
  intro p e s m args below meth c hx hb hr hown hlocks hin hw hK H locs hG ls hlA hml
  have hown : s.vm.findClass "WaltzHall" = some m.cls := hown
  have hl0 : lv_has ls 1 [(0, .ref a0)] := hlA
  have leS : gle S S := gle.rf
  unfold w_H_init at h
  refine lv_aload_n hx hb d_H_init_0 rfl (lv_at hl0 0 rfl) ?_
  refine gobj (bytes := c_H_init) hx hb hw hown tw_60 tw_61 tw_62 (hl0.1.trans hml.symm) d_H_init_1 (Nat.le_of_ble_eq_true rfl) (Nat.le_of_ble_eq_true rfl) ?_
  refine lv_aload_n hx hb d_H_init_4 rfl (lv_at hl0 0 rfl) ?_
  refine gnew (k := 4) hx hb hw hown hK hG kd_T tw_63 tw_64 tw_29 rfl kf_T (Nat.le_of_ble_eq_true rfl) (Nat.le_of_ble_eq_true rfl) d_H_init_5 (fun q1 S2 H hqq1 eS2 hle1 hG => ?_)
  replace h := h q1 S2 hqq1 eS2
  have fa0 := gle_isA hle1 fa0
  have leS := leS.tr hle1
  have f3 : isA S2 4 q1 := by rw [eS2]; exact isA_new
  refine lv_dup hx hb d_H_init_8 rfl ?_
  -- call T_init
  refine gcv hK hG (va_runIN (As := []) (rest := [.ref q1, .ref a0]) ⟨hx, hb, hml, hown, hw⟩ (m_T_init l x S2 _ q1 f3 h) ⟨gcn hw tw_67 tw_29 tw_65 hd_T_init rfl rfl ⟨(Nat.le_of_ble_eq_true rfl), (Nat.le_of_ble_eq_true rfl)⟩, rfl, hw _ tw_66⟩ (gpS hK hG) rfl rfl hl0.1 rfl (lv_room (Nat.le_of_ble_eq_true rfl)) d_H_init_9 ⟨(Nat.le_of_ble_eq_true rfl), (Nat.le_of_ble_eq_true rfl)⟩) (fun S4 H locs h9 hle1 hG => ?_)
  replace h := h9
  clear h9
  have fa0 := gle_isA hle1 fa0
  have f3 := gle_isA hle1 f3
  have leS := leS.tr hle1
  refine gputF (S' := pQ S4 33 a0 (some q1)) hx hb hw hown hK hG kd_H fa0 rfl 0 (by decide) (gChQ fa0 rfl) tw_261 (fun _ h9 => h9) rfl hin rfl rfl rfl rfl (Nat.le_of_ble_eq_true rfl) d_H_init_12 (fun S5 H locs eS5 hle1 hG => ?_)
  replace h := h S5 eS5
  have fa0 := gle_isA hle1 fa0
  have f3 := gle_isA hle1 f3
  have leS := leS.tr hle1
  refine lv_aload_n hx hb d_H_init_15 rfl (lv_at hl0 0 rfl) ?_
  refine gnew (k := 0) hx hb hw hown hK hG kd_AL tw_80 tw_81 tw_32 rfl kf_AL (Nat.le_of_ble_eq_true rfl) (Nat.le_of_ble_eq_true rfl) d_H_init_16 (fun q6 S7 H hqq6 eS7 hle1 hG => ?_)
  replace h := h q6 S7 hqq6 eS7
  have fa0 := gle_isA hle1 fa0
  have f3 := gle_isA hle1 f3
  have leS := leS.tr hle1
  have f8 : isA S7 0 q6 := by rw [eS7]; exact isA_new
  refine lv_dup hx hb d_H_init_19 rfl ?_
  -- call AL_init
  refine gcv hK hG (va_runI (As := []) (rest := [.ref q6, .ref a0]) ⟨hx, hb, hml, hown, hw⟩ (m_AL_init l x S7 _ q6 f8 h) ⟨gcb hw tw_84 tw_32 tw_82 hd_AL_init rfl rfl ⟨(Nat.le_of_ble_eq_true rfl), (Nat.le_of_ble_eq_true rfl)⟩, rfl, hw _ tw_83⟩ (gpS hK hG) rfl rfl hl0.1 rfl (lv_room (Nat.le_of_ble_eq_true rfl)) d_H_init_20 ⟨(Nat.le_of_ble_eq_true rfl), (Nat.le_of_ble_eq_true rfl)⟩) (fun S9 H locs h9 hle1 hG => ?_)
  replace h := h9
  clear h9
  have fa0 := gle_isA hle1 fa0
  have f3 := gle_isA hle1 f3
  have f8 := gle_isA hle1 f8
  have leS := leS.tr hle1
  refine gputF (S' := pQ S9 34 a0 (some q6)) hx hb hw hown hK hG kd_H fa0 rfl 1 (by decide) (gChQ fa0 rfl) tw_262 (fun _ h9 => h9) rfl hin rfl rfl rfl rfl (Nat.le_of_ble_eq_true rfl) d_H_init_23 (fun S10 H locs eS10 hle1 hG => ?_)
  replace h := h S10 eS10
  have fa0 := gle_isA hle1 fa0
  have f3 := gle_isA hle1 f3
  have f8 := gle_isA hle1 f8
  have leS := leS.tr hle1
  refine lv_aload_n hx hb d_H_init_26 rfl (lv_at hl0 0 rfl) ?_
  refine gnew (k := 1) hx hb hw hown hK hG kd_D tw_106 tw_107 tw_33 rfl kf_D (Nat.le_of_ble_eq_true rfl) (Nat.le_of_ble_eq_true rfl) d_H_init_27 (fun q11 S12 H hqq11 eS12 hle1 hG => ?_)
  replace h := h q11 S12 hqq11 eS12
  have fa0 := gle_isA hle1 fa0
  have f3 := gle_isA hle1 f3
  have f8 := gle_isA hle1 f8
  have leS := leS.tr hle1
  have f13 : isA S12 1 q11 := by rw [eS12]; exact isA_new
  refine lv_dup hx hb d_H_init_30 rfl ?_
  refine lv_iconst (v := 0) hx hb d_H_init_31 (by decide) ?_
  refine va_ldcS hx hb hown (hK.2.2.2.1.1 ("WaltzHall", 25, "frbl", 0) (by decide)) d_H_init_32 ?_
  -- call D_init
  refine gcv hK hG (va_runI (As := [.int 0, .ref (xKa x 0)]) (rest := [.ref q11, .ref a0]) ⟨hx, hb, hml, hown, hw⟩ (m_D_init l x S12 _ q11 0 0 f13 (by decide) h) ⟨gcb hw tw_111 tw_33 tw_109 hd_D_init rfl rfl ⟨(Nat.le_of_ble_eq_true rfl), (Nat.le_of_ble_eq_true rfl)⟩, rfl, hw _ tw_110⟩ (gpS hK hG) rfl rfl hl0.1 rfl (lv_room (Nat.le_of_ble_eq_true rfl)) d_H_init_34 ⟨(Nat.le_of_ble_eq_true rfl), (Nat.le_of_ble_eq_true rfl)⟩) (fun S14 H locs h9 hle1 hG => ?_)
  replace h := h9
  clear h9
  have fa0 := gle_isA hle1 fa0
  have f3 := gle_isA hle1 f3
  have f8 := gle_isA hle1 f8
  have f13 := gle_isA hle1 f13
  have leS := leS.tr hle1
  refine gputF (S' := pQ S14 35 a0 (some q11)) hx hb hw hown hK hG kd_H fa0 rfl 2 (by decide) (gChQ fa0 rfl) tw_263 (fun _ h9 => h9) rfl hin rfl rfl rfl rfl (Nat.le_of_ble_eq_true rfl) d_H_init_37 (fun S15 H locs eS15 hle1 hG => ?_)
  replace h := h S15 eS15
  have fa0 := gle_isA hle1 fa0
  have f3 := gle_isA hle1 f3
  have f8 := gle_isA hle1 f8
  have f13 := gle_isA hle1 f13
  have leS := leS.tr hle1
  refine lv_aload_n hx hb d_H_init_40 rfl (lv_at hl0 0 rfl) ?_
  refine gnew (k := 3) hx hb hw hown hK hG kd_F tw_175 tw_176 tw_38 rfl kf_F (Nat.le_of_ble_eq_true rfl) (Nat.le_of_ble_eq_true rfl) d_H_init_41 (fun q16 S17 H hqq16 eS17 hle1 hG => ?_)
  replace h := h q16 S17 hqq16 eS17
  have fa0 := gle_isA hle1 fa0
  have f3 := gle_isA hle1 f3
  have f8 := gle_isA hle1 f8
  have f13 := gle_isA hle1 f13
  have leS := leS.tr hle1
  have f18 : isA S17 3 q16 := by rw [eS17]; exact isA_new
  refine lv_dup hx hb d_H_init_44 rfl ?_
  -- call F_init
  refine gcv hK hG (va_runIN (As := []) (rest := [.ref q16, .ref a0]) ⟨hx, hb, hml, hown, hw⟩ (m_F_init l x S17 _ q16 f18 h) ⟨gcn hw tw_179 tw_38 tw_177 hd_F_init rfl rfl ⟨(Nat.le_of_ble_eq_true rfl), (Nat.le_of_ble_eq_true rfl)⟩, rfl, hw _ tw_178⟩ (gpS hK hG) rfl rfl hl0.1 rfl (lv_room (Nat.le_of_ble_eq_true rfl)) d_H_init_45 ⟨(Nat.le_of_ble_eq_true rfl), (Nat.le_of_ble_eq_true rfl)⟩) (fun S19 H locs h9 hle1 hG => ?_)
  replace h := h9
  clear h9
  have fa0 := gle_isA hle1 fa0
  have f3 := gle_isA hle1 f3
  have f8 := gle_isA hle1 f8
  have f13 := gle_isA hle1 f13
  have f18 := gle_isA hle1 f18
  have leS := leS.tr hle1
  refine gputF (S' := pQ S19 36 a0 (some q16)) hx hb hw hown hK hG kd_H fa0 rfl 3 (by decide) (gChQ fa0 rfl) tw_264 (fun _ h9 => h9) rfl hin rfl rfl rfl rfl (Nat.le_of_ble_eq_true rfl) d_H_init_48 (fun S20 H locs eS20 hle1 hG => ?_)
  replace h := h S20 eS20
  have fa0 := gle_isA hle1 fa0
  have f3 := gle_isA hle1 f3
  have f8 := gle_isA hle1 f8
  have f13 := gle_isA hle1 f13
  have f18 := gle_isA hle1 f18
  have leS := leS.tr hle1
  refine lv_aload_n hx hb d_H_init_51 rfl (lv_at hl0 0 rfl) ?_
  refine gnew (k := 3) hx hb hw hown hK hG kd_F tw_175 tw_176 tw_38 rfl kf_F (Nat.le_of_ble_eq_true rfl) (Nat.le_of_ble_eq_true rfl) d_H_init_52 (fun q21 S22 H hqq21 eS22 hle1 hG => ?_)
  replace h := h q21 S22 hqq21 eS22
  have fa0 := gle_isA hle1 fa0
  have f3 := gle_isA hle1 f3
  have f8 := gle_isA hle1 f8
  have f13 := gle_isA hle1 f13
  have f18 := gle_isA hle1 f18
  have leS := leS.tr hle1
  have f23 : isA S22 3 q21 := by rw [eS22]; exact isA_new
  refine lv_dup hx hb d_H_init_55 rfl ?_
  -- call F_init
  refine gcv hK hG (va_runIN (As := []) (rest := [.ref q21, .ref a0]) ⟨hx, hb, hml, hown, hw⟩ (m_F_init l x S22 _ q21 f23 h) ⟨gcn hw tw_179 tw_38 tw_177 hd_F_init rfl rfl ⟨(Nat.le_of_ble_eq_true rfl), (Nat.le_of_ble_eq_true rfl)⟩, rfl, hw _ tw_178⟩ (gpS hK hG) rfl rfl hl0.1 rfl (lv_room (Nat.le_of_ble_eq_true rfl)) d_H_init_56 ⟨(Nat.le_of_ble_eq_true rfl), (Nat.le_of_ble_eq_true rfl)⟩) (fun S24 H locs h9 hle1 hG => ?_)
  replace h := h9
  clear h9
  have fa0 := gle_isA hle1 fa0
  have f3 := gle_isA hle1 f3
  have f8 := gle_isA hle1 f8
  have f13 := gle_isA hle1 f13
  have f18 := gle_isA hle1 f18
  have f23 := gle_isA hle1 f23
  have leS := leS.tr hle1
  refine gputF (S' := pQ S24 37 a0 (some q21)) hx hb hw hown hK hG kd_H fa0 rfl 4 (by decide) (gChQ fa0 rfl) tw_265 (fun _ h9 => h9) rfl hin rfl rfl rfl rfl (Nat.le_of_ble_eq_true rfl) d_H_init_59 (fun S25 H locs eS25 hle1 hG => ?_)
  replace h := h S25 eS25
  have fa0 := gle_isA hle1 fa0
  have f3 := gle_isA hle1 f3
  have f8 := gle_isA hle1 f8
  have f13 := gle_isA hle1 f13
  have f18 := gle_isA hle1 f18
  have f23 := gle_isA hle1 f23
  have leS := leS.tr hle1
  refine lv_aload_n hx hb d_H_init_62 rfl (lv_at hl0 0 rfl) ?_
  refine gget hx hb hw hown hK hG kd_H fa0 rfl 1 (by decide) rfl tw_262 (fun _ h9 => h9) d_H_init_63 ?_
  refine gtopq (fun o26 eo26 => ?_)
  replace h := h o26 eo26
  refine lv_aload_n hx hb d_H_init_66 rfl (lv_at hl0 0 rfl) ?_
  refine gget hx hb hw hown hK hG kd_H fa0 rfl 2 (by decide) rfl tw_263 (fun _ h9 => h9) d_H_init_67 ?_
  refine gtopq (fun o27 eo27 => ?_)
  replace h := h o27 eo27
  obtain ⟨y28, ey28, h⟩ := h
  subst ey28
  obtain ⟨f29, h⟩ := h
  -- call AL_add1
  refine gci hK hG (va_runV (As := [va_rf o27]) (rest := []) ⟨hx, hb, hml, hown, hw⟩ (m_AL_add1 l x S25 _ y28 o27 f29 h) ⟨gcb hw tw_198 tw_32 tw_195 hd_AL_add1 rfl rfl ⟨(Nat.le_of_ble_eq_true rfl), (Nat.le_of_ble_eq_true rfl)⟩, hw _ tw_196, hw _ tw_197⟩ (gpV hK hG kd_AL f29 rfl) rfl rfl hl0.1 rfl (lv_room (Nat.le_of_ble_eq_true rfl)) d_H_init_70 ⟨(Nat.le_of_ble_eq_true rfl), (Nat.le_of_ble_eq_true rfl)⟩) (fun r30 S31 H locs h9 hle1 hG => ?_)
  replace h := h9
  clear h9
  have fa0 := gle_isA hle1 fa0
  have f3 := gle_isA hle1 f3
  have f8 := gle_isA hle1 f8
  have f13 := gle_isA hle1 f13
  have f18 := gle_isA hle1 f18
  have f23 := gle_isA hle1 f23
  have f29 := gle_isA hle1 f29
  have leS := leS.tr hle1
  refine lv_pop hx hb d_H_init_73 rfl ?_
  refine lv_aload_n hx hb d_H_init_74 rfl (lv_at hl0 0 rfl) ?_
  refine gget hx hb hw hown hK hG kd_H fa0 rfl 1 (by decide) rfl tw_262 (fun _ h9 => h9) d_H_init_75 ?_
  refine gtopq (fun o32 eo32 => ?_)
  replace h := h o32 eo32
  refine gnew (k := 1) hx hb hw hown hK hG kd_D tw_106 tw_107 tw_33 rfl kf_D (Nat.le_of_ble_eq_true rfl) (Nat.le_of_ble_eq_true rfl) d_H_init_78 (fun q33 S34 H hqq33 eS34 hle1 hG => ?_)
  replace h := h q33 S34 hqq33 eS34
  have fa0 := gle_isA hle1 fa0
  have f3 := gle_isA hle1 f3
  have f8 := gle_isA hle1 f8
  have f13 := gle_isA hle1 f13
  have f18 := gle_isA hle1 f18
  have f23 := gle_isA hle1 f23
  have f29 := gle_isA hle1 f29
  have leS := leS.tr hle1
  have f35 : isA S34 1 q33 := by rw [eS34]; exact isA_new
  refine lv_dup hx hb d_H_init_81 rfl ?_
  refine lv_iconst (v := 1) hx hb d_H_init_82 (by decide) ?_
  refine va_ldcS hx hb hown (hK.2.2.2.1.1 ("WaltzHall", 48, "ftftftft", 1) (by decide)) d_H_init_83 ?_
  -- call D_init
  refine gcv hK hG (va_runI (As := [.int 1, .ref (xKa x 1)]) (rest := [.ref q33, va_rf o32]) ⟨hx, hb, hml, hown, hw⟩ (m_D_init l x S34 _ q33 1 1 f35 (by decide) h) ⟨gcb hw tw_111 tw_33 tw_109 hd_D_init rfl rfl ⟨(Nat.le_of_ble_eq_true rfl), (Nat.le_of_ble_eq_true rfl)⟩, rfl, hw _ tw_110⟩ (gpS hK hG) rfl rfl hl0.1 rfl (lv_room (by simp [gCat, gci1, gcr1, gcl1, gcd1])) d_H_init_85 ⟨(Nat.le_of_ble_eq_true rfl), (Nat.le_of_ble_eq_true rfl)⟩) (fun S36 H locs h9 hle1 hG => ?_)
  replace h := h9
  clear h9
  have fa0 := gle_isA hle1 fa0
  have f3 := gle_isA hle1 f3
  have f8 := gle_isA hle1 f8
  have f13 := gle_isA hle1 f13
  have f18 := gle_isA hle1 f18
  have f23 := gle_isA hle1 f23
  have f29 := gle_isA hle1 f29
  have f35 := gle_isA hle1 f35
  have leS := leS.tr hle1
  obtain ⟨y37, ey37, h⟩ := h
  subst ey37
  obtain ⟨f38, h⟩ := h
  -- call AL_add1
  refine gci hK hG (va_runV (As := [.ref q33]) (rest := []) ⟨hx, hb, hml, hown, hw⟩ (m_AL_add1 l x S36 _ y37 (some q33) f38 h) ⟨gcb hw tw_198 tw_32 tw_195 hd_AL_add1 rfl rfl ⟨(Nat.le_of_ble_eq_true rfl), (Nat.le_of_ble_eq_true rfl)⟩, hw _ tw_196, hw _ tw_197⟩ (gpV hK hG kd_AL f38 rfl) rfl rfl hl0.1 rfl (lv_room (Nat.le_of_ble_eq_true rfl)) d_H_init_88 ⟨(Nat.le_of_ble_eq_true rfl), (Nat.le_of_ble_eq_true rfl)⟩) (fun r39 S40 H locs h9 hle1 hG => ?_)
  replace h := h9
  clear h9
  have fa0 := gle_isA hle1 fa0
  have f3 := gle_isA hle1 f3
  have f8 := gle_isA hle1 f8
  have f13 := gle_isA hle1 f13
  have f18 := gle_isA hle1 f18
  have f23 := gle_isA hle1 f23
  have f29 := gle_isA hle1 f29
  have f35 := gle_isA hle1 f35
  have f38 := gle_isA hle1 f38
  have leS := leS.tr hle1
  refine lv_pop hx hb d_H_init_91 rfl ?_
  refine lv_aload_n hx hb d_H_init_92 rfl (lv_at hl0 0 rfl) ?_
  refine gget hx hb hw hown hK hG kd_H fa0 rfl 1 (by decide) rfl tw_262 (fun _ h9 => h9) d_H_init_93 ?_
  refine gtopq (fun o41 eo41 => ?_)
  replace h := h o41 eo41
  refine gnew (k := 1) hx hb hw hown hK hG kd_D tw_106 tw_107 tw_33 rfl kf_D (Nat.le_of_ble_eq_true rfl) (Nat.le_of_ble_eq_true rfl) d_H_init_96 (fun q42 S43 H hqq42 eS43 hle1 hG => ?_)
  replace h := h q42 S43 hqq42 eS43
  have fa0 := gle_isA hle1 fa0
  have f3 := gle_isA hle1 f3
  have f8 := gle_isA hle1 f8
  have f13 := gle_isA hle1 f13
  have f18 := gle_isA hle1 f18
  have f23 := gle_isA hle1 f23
  have f29 := gle_isA hle1 f29
  have f35 := gle_isA hle1 f35
  have f38 := gle_isA hle1 f38
  have leS := leS.tr hle1
  have f44 : isA S43 1 q42 := by rw [eS43]; exact isA_new
  refine lv_dup hx hb d_H_init_99 rfl ?_
  refine lv_iconst (v := 2) hx hb d_H_init_100 (by decide) ?_
  refine va_ldcS hx hb hown (hK.2.2.2.1.1 ("WaltzHall", 50, "sswl", 2) (by decide)) d_H_init_101 ?_
  -- call D_init
  refine gcv hK hG (va_runI (As := [.int 2, .ref (xKa x 2)]) (rest := [.ref q42, va_rf o41]) ⟨hx, hb, hml, hown, hw⟩ (m_D_init l x S43 _ q42 2 2 f44 (by decide) h) ⟨gcb hw tw_111 tw_33 tw_109 hd_D_init rfl rfl ⟨(Nat.le_of_ble_eq_true rfl), (Nat.le_of_ble_eq_true rfl)⟩, rfl, hw _ tw_110⟩ (gpS hK hG) rfl rfl hl0.1 rfl (lv_room (by simp [gCat, gci1, gcr1, gcl1, gcd1])) d_H_init_103 ⟨(Nat.le_of_ble_eq_true rfl), (Nat.le_of_ble_eq_true rfl)⟩) (fun S45 H locs h9 hle1 hG => ?_)
  replace h := h9
  clear h9
  have fa0 := gle_isA hle1 fa0
  have f3 := gle_isA hle1 f3
  have f8 := gle_isA hle1 f8
  have f13 := gle_isA hle1 f13
  have f18 := gle_isA hle1 f18
  have f23 := gle_isA hle1 f23
  have f29 := gle_isA hle1 f29
  have f35 := gle_isA hle1 f35
  have f38 := gle_isA hle1 f38
  have f44 := gle_isA hle1 f44
  have leS := leS.tr hle1
  obtain ⟨y46, ey46, h⟩ := h
  subst ey46
  obtain ⟨f47, h⟩ := h
  -- call AL_add1
  refine gci hK hG (va_runV (As := [.ref q42]) (rest := []) ⟨hx, hb, hml, hown, hw⟩ (m_AL_add1 l x S45 _ y46 (some q42) f47 h) ⟨gcb hw tw_198 tw_32 tw_195 hd_AL_add1 rfl rfl ⟨(Nat.le_of_ble_eq_true rfl), (Nat.le_of_ble_eq_true rfl)⟩, hw _ tw_196, hw _ tw_197⟩ (gpV hK hG kd_AL f47 rfl) rfl rfl hl0.1 rfl (lv_room (Nat.le_of_ble_eq_true rfl)) d_H_init_106 ⟨(Nat.le_of_ble_eq_true rfl), (Nat.le_of_ble_eq_true rfl)⟩) (fun r48 S49 H locs h9 hle1 hG => ?_)
  replace h := h9
  clear h9
  have fa0 := gle_isA hle1 fa0
  have f3 := gle_isA hle1 f3
  have f8 := gle_isA hle1 f8
  have f13 := gle_isA hle1 f13
  have f18 := gle_isA hle1 f18
  have f23 := gle_isA hle1 f23
  have f29 := gle_isA hle1 f29
  have f35 := gle_isA hle1 f35
  have f38 := gle_isA hle1 f38
  have f44 := gle_isA hle1 f44
  have f47 := gle_isA hle1 f47
  have leS := leS.tr hle1
  refine lv_pop hx hb d_H_init_109 rfl ?_
  refine lv_aload_n hx hb d_H_init_110 rfl (lv_at hl0 0 rfl) ?_
  refine gget hx hb hw hown hK hG kd_H fa0 rfl 1 (by decide) rfl tw_262 (fun _ h9 => h9) d_H_init_111 ?_
  refine gtopq (fun o50 eo50 => ?_)
  replace h := h o50 eo50
  refine gnew (k := 1) hx hb hw hown hK hG kd_D tw_106 tw_107 tw_33 rfl kf_D (Nat.le_of_ble_eq_true rfl) (Nat.le_of_ble_eq_true rfl) d_H_init_114 (fun q51 S52 H hqq51 eS52 hle1 hG => ?_)
  replace h := h q51 S52 hqq51 eS52
  have fa0 := gle_isA hle1 fa0
  have f3 := gle_isA hle1 f3
  have f8 := gle_isA hle1 f8
  have f13 := gle_isA hle1 f13
  have f18 := gle_isA hle1 f18
  have f23 := gle_isA hle1 f23
  have f29 := gle_isA hle1 f29
  have f35 := gle_isA hle1 f35
  have f38 := gle_isA hle1 f38
  have f44 := gle_isA hle1 f44
  have f47 := gle_isA hle1 f47
  have leS := leS.tr hle1
  have f53 : isA S52 1 q51 := by rw [eS52]; exact isA_new
  refine lv_dup hx hb d_H_init_117 rfl ?_
  refine lv_iconst (v := 3) hx hb d_H_init_118 (by decide) ?_
  refine va_ldcS hx hb hown (hK.2.2.2.1.1 ("WaltzHall", 52, "w", 3) (by decide)) d_H_init_119 ?_
  -- call D_init
  refine gcv hK hG (va_runI (As := [.int 3, .ref (xKa x 3)]) (rest := [.ref q51, va_rf o50]) ⟨hx, hb, hml, hown, hw⟩ (m_D_init l x S52 _ q51 3 3 f53 (by decide) h) ⟨gcb hw tw_111 tw_33 tw_109 hd_D_init rfl rfl ⟨(Nat.le_of_ble_eq_true rfl), (Nat.le_of_ble_eq_true rfl)⟩, rfl, hw _ tw_110⟩ (gpS hK hG) rfl rfl hl0.1 rfl (lv_room (by simp [gCat, gci1, gcr1, gcl1, gcd1])) d_H_init_121 ⟨(Nat.le_of_ble_eq_true rfl), (Nat.le_of_ble_eq_true rfl)⟩) (fun S54 H locs h9 hle1 hG => ?_)
  replace h := h9
  clear h9
  have fa0 := gle_isA hle1 fa0
  have f3 := gle_isA hle1 f3
  have f8 := gle_isA hle1 f8
  have f13 := gle_isA hle1 f13
  have f18 := gle_isA hle1 f18
  have f23 := gle_isA hle1 f23
  have f29 := gle_isA hle1 f29
  have f35 := gle_isA hle1 f35
  have f38 := gle_isA hle1 f38
  have f44 := gle_isA hle1 f44
  have f47 := gle_isA hle1 f47
  have f53 := gle_isA hle1 f53
  have leS := leS.tr hle1
  obtain ⟨y55, ey55, h⟩ := h
  subst ey55
  obtain ⟨f56, h⟩ := h
  -- call AL_add1
  refine gci hK hG (va_runV (As := [.ref q51]) (rest := []) ⟨hx, hb, hml, hown, hw⟩ (m_AL_add1 l x S54 _ y55 (some q51) f56 h) ⟨gcb hw tw_198 tw_32 tw_195 hd_AL_add1 rfl rfl ⟨(Nat.le_of_ble_eq_true rfl), (Nat.le_of_ble_eq_true rfl)⟩, hw _ tw_196, hw _ tw_197⟩ (gpV hK hG kd_AL f56 rfl) rfl rfl hl0.1 rfl (lv_room (Nat.le_of_ble_eq_true rfl)) d_H_init_124 ⟨(Nat.le_of_ble_eq_true rfl), (Nat.le_of_ble_eq_true rfl)⟩) (fun r57 S58 H locs h9 hle1 hG => ?_)
  replace h := h9
  clear h9
  have fa0 := gle_isA hle1 fa0
  have f3 := gle_isA hle1 f3
  have f8 := gle_isA hle1 f8
  have f13 := gle_isA hle1 f13
  have f18 := gle_isA hle1 f18
  have f23 := gle_isA hle1 f23
  have f29 := gle_isA hle1 f29
  have f35 := gle_isA hle1 f35
  have f38 := gle_isA hle1 f38
  have f44 := gle_isA hle1 f44
  have f47 := gle_isA hle1 f47
  have f53 := gle_isA hle1 f53
  have f56 := gle_isA hle1 f56
  have leS := leS.tr hle1
  refine lv_pop hx hb d_H_init_127 rfl ?_
  refine lv_aload_n hx hb d_H_init_128 rfl (lv_at hl0 0 rfl) ?_
  refine gget hx hb hw hown hK hG kd_H fa0 rfl 1 (by decide) rfl tw_262 (fun _ h9 => h9) d_H_init_129 ?_
  refine gtopq (fun o59 eo59 => ?_)
  replace h := h o59 eo59
  refine gnew (k := 1) hx hb hw hown hK hG kd_D tw_106 tw_107 tw_33 rfl kf_D (Nat.le_of_ble_eq_true rfl) (Nat.le_of_ble_eq_true rfl) d_H_init_132 (fun q60 S61 H hqq60 eS61 hle1 hG => ?_)
  replace h := h q60 S61 hqq60 eS61
  have fa0 := gle_isA hle1 fa0
  have f3 := gle_isA hle1 f3
  have f8 := gle_isA hle1 f8
  have f13 := gle_isA hle1 f13
  have f18 := gle_isA hle1 f18
  have f23 := gle_isA hle1 f23
  have f29 := gle_isA hle1 f29
  have f35 := gle_isA hle1 f35
  have f38 := gle_isA hle1 f38
  have f44 := gle_isA hle1 f44
  have f47 := gle_isA hle1 f47
  have f53 := gle_isA hle1 f53
  have f56 := gle_isA hle1 f56
  have leS := leS.tr hle1
  have f62 : isA S61 1 q60 := by rw [eS61]; exact isA_new
  refine lv_dup hx hb d_H_init_135 rfl ?_
  refine lv_iconst (v := 4) hx hb d_H_init_136 (by decide) ?_
  refine va_ldcS hx hb hown (hK.2.2.2.1.1 ("WaltzHall", 54, "fbfbt", 4) (by decide)) d_H_init_137 ?_
  -- call D_init
  refine gcv hK hG (va_runI (As := [.int 4, .ref (xKa x 4)]) (rest := [.ref q60, va_rf o59]) ⟨hx, hb, hml, hown, hw⟩ (m_D_init l x S61 _ q60 4 4 f62 (by decide) h) ⟨gcb hw tw_111 tw_33 tw_109 hd_D_init rfl rfl ⟨(Nat.le_of_ble_eq_true rfl), (Nat.le_of_ble_eq_true rfl)⟩, rfl, hw _ tw_110⟩ (gpS hK hG) rfl rfl hl0.1 rfl (lv_room (by simp [gCat, gci1, gcr1, gcl1, gcd1])) d_H_init_139 ⟨(Nat.le_of_ble_eq_true rfl), (Nat.le_of_ble_eq_true rfl)⟩) (fun S63 H locs h9 hle1 hG => ?_)
  replace h := h9
  clear h9
  have fa0 := gle_isA hle1 fa0
  have f3 := gle_isA hle1 f3
  have f8 := gle_isA hle1 f8
  have f13 := gle_isA hle1 f13
  have f18 := gle_isA hle1 f18
  have f23 := gle_isA hle1 f23
  have f29 := gle_isA hle1 f29
  have f35 := gle_isA hle1 f35
  have f38 := gle_isA hle1 f38
  have f44 := gle_isA hle1 f44
  have f47 := gle_isA hle1 f47
  have f53 := gle_isA hle1 f53
  have f56 := gle_isA hle1 f56
  have f62 := gle_isA hle1 f62
  have leS := leS.tr hle1
  obtain ⟨y64, ey64, h⟩ := h
  subst ey64
  obtain ⟨f65, h⟩ := h
  -- call AL_add1
  refine gci hK hG (va_runV (As := [.ref q60]) (rest := []) ⟨hx, hb, hml, hown, hw⟩ (m_AL_add1 l x S63 _ y64 (some q60) f65 h) ⟨gcb hw tw_198 tw_32 tw_195 hd_AL_add1 rfl rfl ⟨(Nat.le_of_ble_eq_true rfl), (Nat.le_of_ble_eq_true rfl)⟩, hw _ tw_196, hw _ tw_197⟩ (gpV hK hG kd_AL f65 rfl) rfl rfl hl0.1 rfl (lv_room (Nat.le_of_ble_eq_true rfl)) d_H_init_142 ⟨(Nat.le_of_ble_eq_true rfl), (Nat.le_of_ble_eq_true rfl)⟩) (fun r66 S67 H locs h9 hle1 hG => ?_)
  replace h := h9
  clear h9
  have fa0 := gle_isA hle1 fa0
  have f3 := gle_isA hle1 f3
  have f8 := gle_isA hle1 f8
  have f13 := gle_isA hle1 f13
  have f18 := gle_isA hle1 f18
  have f23 := gle_isA hle1 f23
  have f29 := gle_isA hle1 f29
  have f35 := gle_isA hle1 f35
  have f38 := gle_isA hle1 f38
  have f44 := gle_isA hle1 f44
  have f47 := gle_isA hle1 f47
  have f53 := gle_isA hle1 f53
  have f56 := gle_isA hle1 f56
  have f62 := gle_isA hle1 f62
  have f65 := gle_isA hle1 f65
  have leS := leS.tr hle1
  refine lv_pop hx hb d_H_init_145 rfl ?_
  refine lv_aload_n hx hb d_H_init_146 rfl (lv_at hl0 0 rfl) ?_
  refine gget hx hb hw hown hK hG kd_H fa0 rfl 1 (by decide) rfl tw_262 (fun _ h9 => h9) d_H_init_147 ?_
  refine gtopq (fun o68 eo68 => ?_)
  replace h := h o68 eo68
  refine gnew (k := 1) hx hb hw hown hK hG kd_D tw_106 tw_107 tw_33 rfl kf_D (Nat.le_of_ble_eq_true rfl) (Nat.le_of_ble_eq_true rfl) d_H_init_150 (fun q69 S70 H hqq69 eS70 hle1 hG => ?_)
  replace h := h q69 S70 hqq69 eS70
  have fa0 := gle_isA hle1 fa0
  have f3 := gle_isA hle1 f3
  have f8 := gle_isA hle1 f8
  have f13 := gle_isA hle1 f13
  have f18 := gle_isA hle1 f18
  have f23 := gle_isA hle1 f23
  have f29 := gle_isA hle1 f29
  have f35 := gle_isA hle1 f35
  have f38 := gle_isA hle1 f38
  have f44 := gle_isA hle1 f44
  have f47 := gle_isA hle1 f47
  have f53 := gle_isA hle1 f53
  have f56 := gle_isA hle1 f56
  have f62 := gle_isA hle1 f62
  have f65 := gle_isA hle1 f65
  have leS := leS.tr hle1
  have f71 : isA S70 1 q69 := by rw [eS70]; exact isA_new
  refine lv_dup hx hb d_H_init_153 rfl ?_
  refine lv_iconst (v := 5) hx hb d_H_init_154 (by decide) ?_
  refine va_ldcS hx hb hown (hK.2.2.2.1.1 ("WaltzHall", 56, "rrlluu", 5) (by decide)) d_H_init_155 ?_
  -- call D_init
  refine gcv hK hG (va_runI (As := [.int 5, .ref (xKa x 5)]) (rest := [.ref q69, va_rf o68]) ⟨hx, hb, hml, hown, hw⟩ (m_D_init l x S70 _ q69 5 5 f71 (by decide) h) ⟨gcb hw tw_111 tw_33 tw_109 hd_D_init rfl rfl ⟨(Nat.le_of_ble_eq_true rfl), (Nat.le_of_ble_eq_true rfl)⟩, rfl, hw _ tw_110⟩ (gpS hK hG) rfl rfl hl0.1 rfl (lv_room (by simp [gCat, gci1, gcr1, gcl1, gcd1])) d_H_init_157 ⟨(Nat.le_of_ble_eq_true rfl), (Nat.le_of_ble_eq_true rfl)⟩) (fun S72 H locs h9 hle1 hG => ?_)
  replace h := h9
  clear h9
  have fa0 := gle_isA hle1 fa0
  have f3 := gle_isA hle1 f3
  have f8 := gle_isA hle1 f8
  have f13 := gle_isA hle1 f13
  have f18 := gle_isA hle1 f18
  have f23 := gle_isA hle1 f23
  have f29 := gle_isA hle1 f29
  have f35 := gle_isA hle1 f35
  have f38 := gle_isA hle1 f38
  have f44 := gle_isA hle1 f44
  have f47 := gle_isA hle1 f47
  have f53 := gle_isA hle1 f53
  have f56 := gle_isA hle1 f56
  have f62 := gle_isA hle1 f62
  have f65 := gle_isA hle1 f65
  have f71 := gle_isA hle1 f71
  have leS := leS.tr hle1
  obtain ⟨y73, ey73, h⟩ := h
  subst ey73
  obtain ⟨f74, h⟩ := h
  -- call AL_add1
  refine gci hK hG (va_runV (As := [.ref q69]) (rest := []) ⟨hx, hb, hml, hown, hw⟩ (m_AL_add1 l x S72 _ y73 (some q69) f74 h) ⟨gcb hw tw_198 tw_32 tw_195 hd_AL_add1 rfl rfl ⟨(Nat.le_of_ble_eq_true rfl), (Nat.le_of_ble_eq_true rfl)⟩, hw _ tw_196, hw _ tw_197⟩ (gpV hK hG kd_AL f74 rfl) rfl rfl hl0.1 rfl (lv_room (Nat.le_of_ble_eq_true rfl)) d_H_init_160 ⟨(Nat.le_of_ble_eq_true rfl), (Nat.le_of_ble_eq_true rfl)⟩) (fun r75 S76 H locs h9 hle1 hG => ?_)
  replace h := h9
  clear h9
  have fa0 := gle_isA hle1 fa0
  have f3 := gle_isA hle1 f3
  have f8 := gle_isA hle1 f8
  have f13 := gle_isA hle1 f13
  have f18 := gle_isA hle1 f18
  have f23 := gle_isA hle1 f23
  have f29 := gle_isA hle1 f29
  have f35 := gle_isA hle1 f35
  have f38 := gle_isA hle1 f38
  have f44 := gle_isA hle1 f44
  have f47 := gle_isA hle1 f47
  have f53 := gle_isA hle1 f53
  have f56 := gle_isA hle1 f56
  have f62 := gle_isA hle1 f62
  have f65 := gle_isA hle1 f65
  have f71 := gle_isA hle1 f71
  have f74 := gle_isA hle1 f74
  have leS := leS.tr hle1
  refine lv_pop hx hb d_H_init_163 rfl ?_
  refine lv_aload_n hx hb d_H_init_164 rfl (lv_at hl0 0 rfl) ?_
  refine gget hx hb hw hown hK hG kd_H fa0 rfl 1 (by decide) rfl tw_262 (fun _ h9 => h9) d_H_init_165 ?_
  refine gtopq (fun o77 eo77 => ?_)
  replace h := h o77 eo77
  refine gnew (k := 1) hx hb hw hown hK hG kd_D tw_106 tw_107 tw_33 rfl kf_D (Nat.le_of_ble_eq_true rfl) (Nat.le_of_ble_eq_true rfl) d_H_init_168 (fun q78 S79 H hqq78 eS79 hle1 hG => ?_)
  replace h := h q78 S79 hqq78 eS79
  have fa0 := gle_isA hle1 fa0
  have f3 := gle_isA hle1 f3
  have f8 := gle_isA hle1 f8
  have f13 := gle_isA hle1 f13
  have f18 := gle_isA hle1 f18
  have f23 := gle_isA hle1 f23
  have f29 := gle_isA hle1 f29
  have f35 := gle_isA hle1 f35
  have f38 := gle_isA hle1 f38
  have f44 := gle_isA hle1 f44
  have f47 := gle_isA hle1 f47
  have f53 := gle_isA hle1 f53
  have f56 := gle_isA hle1 f56
  have f62 := gle_isA hle1 f62
  have f65 := gle_isA hle1 f65
  have f71 := gle_isA hle1 f71
  have f74 := gle_isA hle1 f74
  have leS := leS.tr hle1
  have f80 : isA S79 1 q78 := by rw [eS79]; exact isA_new
  refine lv_dup hx hb d_H_init_171 rfl ?_
  refine lv_bipush (v := 6) hx hb d_H_init_172 (by decide) ?_
  refine va_ldcS hx hb hown (hK.2.2.2.1.1 ("WaltzHall", 58, "flbr", 6) (by decide)) d_H_init_174 ?_
  -- call D_init
  refine gcv hK hG (va_runI (As := [.int 6, .ref (xKa x 6)]) (rest := [.ref q78, va_rf o77]) ⟨hx, hb, hml, hown, hw⟩ (m_D_init l x S79 _ q78 6 6 f80 (by decide) h) ⟨gcb hw tw_111 tw_33 tw_109 hd_D_init rfl rfl ⟨(Nat.le_of_ble_eq_true rfl), (Nat.le_of_ble_eq_true rfl)⟩, rfl, hw _ tw_110⟩ (gpS hK hG) rfl rfl hl0.1 rfl (lv_room (by simp [gCat, gci1, gcr1, gcl1, gcd1])) d_H_init_176 ⟨(Nat.le_of_ble_eq_true rfl), (Nat.le_of_ble_eq_true rfl)⟩) (fun S81 H locs h9 hle1 hG => ?_)
  replace h := h9
  clear h9
  have fa0 := gle_isA hle1 fa0
  have f3 := gle_isA hle1 f3
  have f8 := gle_isA hle1 f8
  have f13 := gle_isA hle1 f13
  have f18 := gle_isA hle1 f18
  have f23 := gle_isA hle1 f23
  have f29 := gle_isA hle1 f29
  have f35 := gle_isA hle1 f35
  have f38 := gle_isA hle1 f38
  have f44 := gle_isA hle1 f44
  have f47 := gle_isA hle1 f47
  have f53 := gle_isA hle1 f53
  have f56 := gle_isA hle1 f56
  have f62 := gle_isA hle1 f62
  have f65 := gle_isA hle1 f65
  have f71 := gle_isA hle1 f71
  have f74 := gle_isA hle1 f74
  have f80 := gle_isA hle1 f80
  have leS := leS.tr hle1
  obtain ⟨y82, ey82, h⟩ := h
  subst ey82
  obtain ⟨f83, h⟩ := h
  -- call AL_add1
  refine gci hK hG (va_runV (As := [.ref q78]) (rest := []) ⟨hx, hb, hml, hown, hw⟩ (m_AL_add1 l x S81 _ y82 (some q78) f83 h) ⟨gcb hw tw_198 tw_32 tw_195 hd_AL_add1 rfl rfl ⟨(Nat.le_of_ble_eq_true rfl), (Nat.le_of_ble_eq_true rfl)⟩, hw _ tw_196, hw _ tw_197⟩ (gpV hK hG kd_AL f83 rfl) rfl rfl hl0.1 rfl (lv_room (Nat.le_of_ble_eq_true rfl)) d_H_init_179 ⟨(Nat.le_of_ble_eq_true rfl), (Nat.le_of_ble_eq_true rfl)⟩) (fun r84 S85 H locs h9 hle1 hG => ?_)
  replace h := h9
  clear h9
  have fa0 := gle_isA hle1 fa0
  have f3 := gle_isA hle1 f3
  have f8 := gle_isA hle1 f8
  have f13 := gle_isA hle1 f13
  have f18 := gle_isA hle1 f18
  have f23 := gle_isA hle1 f23
  have f29 := gle_isA hle1 f29
  have f35 := gle_isA hle1 f35
  have f38 := gle_isA hle1 f38
  have f44 := gle_isA hle1 f44
  have f47 := gle_isA hle1 f47
  have f53 := gle_isA hle1 f53
  have f56 := gle_isA hle1 f56
  have f62 := gle_isA hle1 f62
  have f65 := gle_isA hle1 f65
  have f71 := gle_isA hle1 f71
  have f74 := gle_isA hle1 f74
  have f80 := gle_isA hle1 f80
  have f83 := gle_isA hle1 f83
  have leS := leS.tr hle1
  refine lv_pop hx hb d_H_init_182 rfl ?_
  refine lv_aload_n hx hb d_H_init_183 rfl (lv_at hl0 0 rfl) ?_
  refine gget hx hb hw hown hK hG kd_H fa0 rfl 1 (by decide) rfl tw_262 (fun _ h9 => h9) d_H_init_184 ?_
  refine gtopq (fun o86 eo86 => ?_)
  replace h := h o86 eo86
  refine gnew (k := 1) hx hb hw hown hK hG kd_D tw_106 tw_107 tw_33 rfl kf_D (Nat.le_of_ble_eq_true rfl) (Nat.le_of_ble_eq_true rfl) d_H_init_187 (fun q87 S88 H hqq87 eS88 hle1 hG => ?_)
  replace h := h q87 S88 hqq87 eS88
  have fa0 := gle_isA hle1 fa0
  have f3 := gle_isA hle1 f3
  have f8 := gle_isA hle1 f8
  have f13 := gle_isA hle1 f13
  have f18 := gle_isA hle1 f18
  have f23 := gle_isA hle1 f23
  have f29 := gle_isA hle1 f29
  have f35 := gle_isA hle1 f35
  have f38 := gle_isA hle1 f38
  have f44 := gle_isA hle1 f44
  have f47 := gle_isA hle1 f47
  have f53 := gle_isA hle1 f53
  have f56 := gle_isA hle1 f56
  have f62 := gle_isA hle1 f62
  have f65 := gle_isA hle1 f65
  have f71 := gle_isA hle1 f71
  have f74 := gle_isA hle1 f74
  have f80 := gle_isA hle1 f80
  have f83 := gle_isA hle1 f83
  have leS := leS.tr hle1
  have f89 : isA S88 1 q87 := by rw [eS88]; exact isA_new
  refine lv_dup hx hb d_H_init_190 rfl ?_
  refine lv_bipush (v := 7) hx hb d_H_init_191 (by decide) ?_
  refine va_ldcS hx hb hown (hK.2.2.2.1.1 ("WaltzHall", 60, "tutu", 7) (by decide)) d_H_init_193 ?_
  -- call D_init
  refine gcv hK hG (va_runI (As := [.int 7, .ref (xKa x 7)]) (rest := [.ref q87, va_rf o86]) ⟨hx, hb, hml, hown, hw⟩ (m_D_init l x S88 _ q87 7 7 f89 (by decide) h) ⟨gcb hw tw_111 tw_33 tw_109 hd_D_init rfl rfl ⟨(Nat.le_of_ble_eq_true rfl), (Nat.le_of_ble_eq_true rfl)⟩, rfl, hw _ tw_110⟩ (gpS hK hG) rfl rfl hl0.1 rfl (lv_room (by simp [gCat, gci1, gcr1, gcl1, gcd1])) d_H_init_195 ⟨(Nat.le_of_ble_eq_true rfl), (Nat.le_of_ble_eq_true rfl)⟩) (fun S90 H locs h9 hle1 hG => ?_)
  replace h := h9
  clear h9
  have fa0 := gle_isA hle1 fa0
  have f3 := gle_isA hle1 f3
  have f8 := gle_isA hle1 f8
  have f13 := gle_isA hle1 f13
  have f18 := gle_isA hle1 f18
  have f23 := gle_isA hle1 f23
  have f29 := gle_isA hle1 f29
  have f35 := gle_isA hle1 f35
  have f38 := gle_isA hle1 f38
  have f44 := gle_isA hle1 f44
  have f47 := gle_isA hle1 f47
  have f53 := gle_isA hle1 f53
  have f56 := gle_isA hle1 f56
  have f62 := gle_isA hle1 f62
  have f65 := gle_isA hle1 f65
  have f71 := gle_isA hle1 f71
  have f74 := gle_isA hle1 f74
  have f80 := gle_isA hle1 f80
  have f83 := gle_isA hle1 f83
  have f89 := gle_isA hle1 f89
  have leS := leS.tr hle1
  obtain ⟨y91, ey91, h⟩ := h
  subst ey91
  obtain ⟨f92, h⟩ := h
  -- call AL_add1
  refine gci hK hG (va_runV (As := [.ref q87]) (rest := []) ⟨hx, hb, hml, hown, hw⟩ (m_AL_add1 l x S90 _ y91 (some q87) f92 h) ⟨gcb hw tw_198 tw_32 tw_195 hd_AL_add1 rfl rfl ⟨(Nat.le_of_ble_eq_true rfl), (Nat.le_of_ble_eq_true rfl)⟩, hw _ tw_196, hw _ tw_197⟩ (gpV hK hG kd_AL f92 rfl) rfl rfl hl0.1 rfl (lv_room (Nat.le_of_ble_eq_true rfl)) d_H_init_198 ⟨(Nat.le_of_ble_eq_true rfl), (Nat.le_of_ble_eq_true rfl)⟩) (fun r93 S94 H locs h9 hle1 hG => ?_)
  replace h := h9
  clear h9
  have fa0 := gle_isA hle1 fa0
  have f3 := gle_isA hle1 f3
  have f8 := gle_isA hle1 f8
  have f13 := gle_isA hle1 f13
  have f18 := gle_isA hle1 f18
  have f23 := gle_isA hle1 f23
  have f29 := gle_isA hle1 f29
  have f35 := gle_isA hle1 f35
  have f38 := gle_isA hle1 f38
  have f44 := gle_isA hle1 f44
  have f47 := gle_isA hle1 f47
  have f53 := gle_isA hle1 f53
  have f56 := gle_isA hle1 f56
  have f62 := gle_isA hle1 f62
  have f65 := gle_isA hle1 f65
  have f71 := gle_isA hle1 f71
  have f74 := gle_isA hle1 f74
  have f80 := gle_isA hle1 f80
  have f83 := gle_isA hle1 f83
  have f89 := gle_isA hle1 f89
  have f92 := gle_isA hle1 f92
  have leS := leS.tr hle1
  refine lv_pop hx hb d_H_init_201 rfl ?_
  exact gvret hx hb hr hlocks hK hG leS h (Nat.le_of_ble_eq_true rfl) (Nat.le_of_ble_eq_true rfl) d_H_init_202
