theorem tw_3 : (Cond.selects "WaltzHall$Floor" (⟨"WaltzHall$Floor", "dizzyOnes", "()I"⟩ : MethodName) (⟨"WaltzHall$Floor", "dizzyOnes", "()I"⟩ : MethodName)) ∈ gG := gmm 3 (by decide +kernel) (by decide +kernel)
theorem tw_4 : (Cond.selects "WaltzHall$Floor" (⟨"WaltzHall$Floor", "spentOnes", "()I"⟩ : MethodName) (⟨"WaltzHall$Floor", "spentOnes", "()I"⟩ : MethodName)) ∈ gG := gmm 4 (by decide +kernel) (by decide +kernel)
theorem tw_9 : (Cond.selects "WaltzHall$Floor" (⟨"WaltzHall$Floor", "perform", "(LWaltzHall$Dancer;)I"⟩ : MethodName) (⟨"WaltzHall$Floor", "perform", "(LWaltzHall$Dancer;)I"⟩ : MethodName)) ∈ gG := gmm 9 (by decide +kernel) (by decide +kernel)
theorem tw_10 : (Cond.selects "WaltzHall$Floor" (⟨"WaltzHall$Floor", "whoIsInTheWayOf", "(LWaltzHall$Dancer;)LWaltzHall$Dancer;"⟩ : MethodName) (⟨"WaltzHall$Floor", "whoIsInTheWayOf", "(LWaltzHall$Dancer;)LWaltzHall$Dancer;"⟩ : MethodName)) ∈ gG := gmm 10 (by decide +kernel) (by decide +kernel)
theorem tw_38 : (Jvm.Cond.initialized "WaltzHall$Floor") ∈ gG := gmm 38 (by decide +kernel) (by decide +kernel)
theorem tw_81 : (Jvm.Cond.instantiable "java/util/ArrayList" (3 : Nat)) ∈ gG := gmm 81 (by decide +kernel) (by decide +kernel)
theorem tw_83 : (Jvm.Cond.instanceMethod ({ cls := "java/util/ArrayList", name := "<init>", desc := "()V" } : Jvm.MethodName)) ∈ gG := gmm 83 (by decide +kernel) (by decide +kernel)
theorem tw_84 : (Jvm.Cond.code ({ cls := "java/util/ArrayList", name := "<init>", desc := "()V" } : Jvm.MethodName) prog_31_method_2_code (1 : Nat) (Option.none : Option Jvm.ClassFile.FieldType)) ∈ gG := gmm 84 (by decide +kernel) (by decide +kernel)
theorem tw_167 : (Jvm.Cond.fieldLink "WaltzHall$Floor" (53 : Nat) "WaltzHall$Dance" "length" "I") ∈ gG := gmm 167 (by decide +kernel) (by decide +kernel)
theorem tw_180 : (Jvm.Cond.methodLink "WaltzHall$Floor" (3 : Nat) ({ cls := "java/lang/Object", name := "<init>", desc := "()V" } : Jvm.MethodName)) ∈ gG := gmm 180 (by decide +kernel) (by decide +kernel)
theorem tw_181 : (Jvm.Cond.classLink "WaltzHall$Floor" (9 : Nat) "java/util/ArrayList") ∈ gG := gmm 181 (by decide +kernel) (by decide +kernel)
theorem tw_182 : (Jvm.Cond.methodLink "WaltzHall$Floor" (11 : Nat) ({ cls := "java/util/ArrayList", name := "<init>", desc := "()V" } : Jvm.MethodName)) ∈ gG := gmm 182 (by decide +kernel) (by decide +kernel)
theorem tw_183 : (Jvm.Cond.fieldLink "WaltzHall$Floor" (12 : Nat) "WaltzHall$Floor" "dancers" "Ljava/util/ArrayList;") ∈ gG := gmm 183 (by decide +kernel) (by decide +kernel)
theorem tw_185 : (Jvm.Cond.fieldLink "WaltzHall$Floor" (18 : Nat) "WaltzHall$Floor" "winders" "Ljava/util/ArrayList;") ∈ gG := gmm 185 (by decide +kernel) (by decide +kernel)
theorem tw_187 : (Jvm.Cond.fieldLink "WaltzHall$Floor" (58 : Nat) "WaltzHall$Floor" "beat" "I") ∈ gG := gmm 187 (by decide +kernel) (by decide +kernel)
theorem tw_196 : (Jvm.Cond.instanceMethod ({ cls := "java/util/ArrayList", name := "add", desc := "(Ljava/lang/Object;)Z" } : Jvm.MethodName)) ∈ gG := gmm 196 (by decide +kernel) (by decide +kernel)
theorem tw_197 : (Jvm.Cond.selects "java/util/ArrayList" ({ cls := "java/util/ArrayList", name := "add", desc := "(Ljava/lang/Object;)Z" } : Jvm.MethodName) ({ cls := "java/util/ArrayList", name := "add", desc := "(Ljava/lang/Object;)Z" } : Jvm.MethodName)) ∈ gG := gmm 197 (by decide +kernel) (by decide +kernel)
theorem tw_198 : (Jvm.Cond.code ({ cls := "java/util/ArrayList", name := "add", desc := "(Ljava/lang/Object;)Z" } : Jvm.MethodName) prog_31_method_25_code (2 : Nat) (Option.some Jvm.ClassFile.FieldType.boolean)) ∈ gG := gmm 198 (by decide +kernel) (by decide +kernel)
theorem tw_282 : (Jvm.Cond.instanceMethod ({ cls := "java/util/ArrayList", name := "size", desc := "()I" } : Jvm.MethodName)) ∈ gG := gmm 282 (by decide +kernel) (by decide +kernel)
theorem tw_283 : (Jvm.Cond.selects "java/util/ArrayList" ({ cls := "java/util/ArrayList", name := "size", desc := "()I" } : Jvm.MethodName) ({ cls := "java/util/ArrayList", name := "size", desc := "()I" } : Jvm.MethodName)) ∈ gG := gmm 283 (by decide +kernel) (by decide +kernel)
theorem tw_284 : (Jvm.Cond.code ({ cls := "java/util/ArrayList", name := "size", desc := "()I" } : Jvm.MethodName) prog_31_method_8_code (1 : Nat) (Option.some Jvm.ClassFile.FieldType.int)) ∈ gG := gmm 284 (by decide +kernel) (by decide +kernel)
theorem tw_286 : (Jvm.Cond.instanceMethod ({ cls := "WaltzHall$Floor", name := "sumOfTold", desc := "(I)I" } : Jvm.MethodName)) ∈ gG := gmm 286 (by decide +kernel) (by decide +kernel)
theorem tw_287 : (Jvm.Cond.selects "WaltzHall$Floor" ({ cls := "WaltzHall$Floor", name := "sumOfTold", desc := "(I)I" } : Jvm.MethodName) ({ cls := "WaltzHall$Floor", name := "sumOfTold", desc := "(I)I" } : Jvm.MethodName)) ∈ gG := gmm 287 (by decide +kernel) (by decide +kernel)
theorem tw_288 : (Jvm.Cond.code ({ cls := "WaltzHall$Floor", name := "sumOfTold", desc := "(I)I" } : Jvm.MethodName) prog_4_method_14_code (4 : Nat) (Option.some Jvm.ClassFile.FieldType.int)) ∈ gG := gmm 288 (by decide +kernel) (by decide +kernel)
theorem tw_289 : (Jvm.Cond.methodLink "WaltzHall$Floor" (21 : Nat) ({ cls := "java/util/ArrayList", name := "size", desc := "()I" } : Jvm.MethodName)) ∈ gG := gmm 289 (by decide +kernel) (by decide +kernel)
theorem tw_290 : (Jvm.Cond.methodLink "WaltzHall$Floor" (25 : Nat) ({ cls := "java/util/ArrayList", name := "get", desc := "(I)Ljava/lang/Object;" } : Jvm.MethodName)) ∈ gG := gmm 290 (by decide +kernel) (by decide +kernel)
theorem tw_291 : (Jvm.Cond.instanceMethod ({ cls := "java/util/ArrayList", name := "get", desc := "(I)Ljava/lang/Object;" } : Jvm.MethodName)) ∈ gG := gmm 291 (by decide +kernel) (by decide +kernel)
theorem tw_292 : (Jvm.Cond.selects "java/util/ArrayList" ({ cls := "java/util/ArrayList", name := "get", desc := "(I)Ljava/lang/Object;" } : Jvm.MethodName) ({ cls := "java/util/ArrayList", name := "get", desc := "(I)Ljava/lang/Object;" } : Jvm.MethodName)) ∈ gG := gmm 292 (by decide +kernel) (by decide +kernel)
theorem tw_293 : (Jvm.Cond.code ({ cls := "java/util/ArrayList", name := "get", desc := "(I)Ljava/lang/Object;" } : Jvm.MethodName) prog_31_method_20_code (2 : Nat) (Option.some (Jvm.ClassFile.FieldType.object "java/lang/Object"))) ∈ gG := gmm 293 (by decide +kernel) (by decide +kernel)
theorem tw_302 : (Jvm.Cond.classLink "WaltzHall$Floor" (29 : Nat) "WaltzHall$Dancer") ∈ gG := gmm 302 (by decide +kernel) (by decide +kernel)
theorem tw_303 : (Jvm.Cond.methodLink "WaltzHall$Floor" (183 : Nat) ({ cls := "WaltzHall$Dancer", name := "tell", desc := "(I)I" } : Jvm.MethodName)) ∈ gG := gmm 303 (by decide +kernel) (by decide +kernel)
theorem tw_304 : (Jvm.Cond.instanceMethod ({ cls := "WaltzHall$Dancer", name := "tell", desc := "(I)I" } : Jvm.MethodName)) ∈ gG := gmm 304 (by decide +kernel) (by decide +kernel)
theorem tw_305 : (Jvm.Cond.selects "WaltzHall$Dancer" ({ cls := "WaltzHall$Dancer", name := "tell", desc := "(I)I" } : Jvm.MethodName) ({ cls := "WaltzHall$Dancer", name := "tell", desc := "(I)I" } : Jvm.MethodName)) ∈ gG := gmm 305 (by decide +kernel) (by decide +kernel)
theorem tw_306 : (Jvm.Cond.code ({ cls := "WaltzHall$Dancer", name := "tell", desc := "(I)I" } : Jvm.MethodName) prog_3_method_14_code (2 : Nat) (Option.some Jvm.ClassFile.FieldType.int)) ∈ gG := gmm 306 (by decide +kernel) (by decide +kernel)
theorem tw_317 : (Jvm.Cond.methodLink "WaltzHall$Floor" (186 : Nat) ({ cls := "WaltzHall$Floor", name := "sumOfTold", desc := "(I)I" } : Jvm.MethodName)) ∈ gG := gmm 317 (by decide +kernel) (by decide +kernel)
theorem tw_318 : (Jvm.Cond.methodLink "WaltzHall$Floor" (189 : Nat) ({ cls := "WaltzHall$Floor", name := "dizzyOnes", desc := "()I" } : Jvm.MethodName)) ∈ gG := gmm 318 (by decide +kernel) (by decide +kernel)
theorem tw_320 : (Jvm.Cond.instanceMethod ({ cls := "WaltzHall$Floor", name := "dizzyOnes", desc := "()I" } : Jvm.MethodName)) ∈ gG := gmm 320 (by decide +kernel) (by decide +kernel)
theorem tw_321 : (Jvm.Cond.code ({ cls := "WaltzHall$Floor", name := "dizzyOnes", desc := "()I" } : Jvm.MethodName) prog_4_method_15_code (3 : Nat) (Option.some Jvm.ClassFile.FieldType.int)) ∈ gG := gmm 321 (by decide +kernel) (by decide +kernel)
theorem tw_322 : (Jvm.Cond.methodLink "WaltzHall$Floor" (192 : Nat) ({ cls := "WaltzHall$Floor", name := "spentOnes", desc := "()I" } : Jvm.MethodName)) ∈ gG := gmm 322 (by decide +kernel) (by decide +kernel)
theorem tw_324 : (Jvm.Cond.instanceMethod ({ cls := "WaltzHall$Floor", name := "spentOnes", desc := "()I" } : Jvm.MethodName)) ∈ gG := gmm 324 (by decide +kernel) (by decide +kernel)
theorem tw_325 : (Jvm.Cond.code ({ cls := "WaltzHall$Floor", name := "spentOnes", desc := "()I" } : Jvm.MethodName) prog_4_method_16_code (3 : Nat) (Option.some Jvm.ClassFile.FieldType.int)) ∈ gG := gmm 325 (by decide +kernel) (by decide +kernel)
theorem tw_326 : (Jvm.Cond.methodLink "WaltzHall$Floor" (180 : Nat) ({ cls := "WaltzHall$Dancer", name := "isSpent", desc := "()Z" } : Jvm.MethodName)) ∈ gG := gmm 326 (by decide +kernel) (by decide +kernel)
theorem tw_564 : (Jvm.Cond.instanceMethod ({ cls := "WaltzHall$Floor", name := "whoIsAt", desc := "(II)LWaltzHall$Dancer;" } : Jvm.MethodName)) ∈ gG := gmm 564 (by decide +kernel) (by decide +kernel)
theorem tw_565 : (Jvm.Cond.selects "WaltzHall$Floor" ({ cls := "WaltzHall$Floor", name := "whoIsAt", desc := "(II)LWaltzHall$Dancer;" } : Jvm.MethodName) ({ cls := "WaltzHall$Floor", name := "whoIsAt", desc := "(II)LWaltzHall$Dancer;" } : Jvm.MethodName)) ∈ gG := gmm 565 (by decide +kernel) (by decide +kernel)
theorem tw_566 : (Jvm.Cond.code ({ cls := "WaltzHall$Floor", name := "whoIsAt", desc := "(II)LWaltzHall$Dancer;" } : Jvm.MethodName) prog_4_method_3_code (5 : Nat) (Option.some (Jvm.ClassFile.FieldType.object "WaltzHall$Dancer"))) ∈ gG := gmm 566 (by decide +kernel) (by decide +kernel)
theorem tw_568 : (Jvm.Cond.instantiable "WaltzHall$Dancer" (15 : Nat)) ∈ gG := gmm 568 (by decide +kernel) (by decide +kernel)
theorem tw_570 : (Jvm.Cond.instanceMethod ({ cls := "WaltzHall$Dancer", name := "<init>", desc := "(ILWaltzHall$Dance;)V" } : Jvm.MethodName)) ∈ gG := gmm 570 (by decide +kernel) (by decide +kernel)
theorem tw_571 : (Jvm.Cond.code ({ cls := "WaltzHall$Dancer", name := "<init>", desc := "(ILWaltzHall$Dance;)V" } : Jvm.MethodName) prog_3_method_1_code (3 : Nat) (Option.none : Option Jvm.ClassFile.FieldType)) ∈ gG := gmm 571 (by decide +kernel) (by decide +kernel)
theorem tw_574 : (Jvm.Cond.fieldLink "WaltzHall$Floor" (76 : Nat) "WaltzHall$Dancer" "number" "I") ∈ gG := gmm 574 (by decide +kernel) (by decide +kernel)
theorem tw_577 : (Jvm.Cond.fieldLink "WaltzHall$Floor" (31 : Nat) "WaltzHall$Dancer" "x" "I") ∈ gG := gmm 577 (by decide +kernel) (by decide +kernel)
theorem tw_581 : (Jvm.Cond.fieldLink "WaltzHall$Floor" (35 : Nat) "WaltzHall$Dancer" "y" "I") ∈ gG := gmm 581 (by decide +kernel) (by decide +kernel)
theorem tw_586 : (Jvm.Cond.fieldLink "WaltzHall$Floor" (151 : Nat) "WaltzHall$Dancer" "face" "I") ∈ gG := gmm 586 (by decide +kernel) (by decide +kernel)
theorem tw_593 : (Jvm.Cond.fieldLink "WaltzHall$Floor" (46 : Nat) "WaltzHall$Dancer" "dance" "LWaltzHall$Dance;") ∈ gG := gmm 593 (by decide +kernel) (by decide +kernel)
theorem tw_596 : (Jvm.Cond.fieldLink "WaltzHall$Floor" (50 : Nat) "WaltzHall$Dancer" "place" "I") ∈ gG := gmm 596 (by decide +kernel) (by decide +kernel)
theorem tw_599 : (Jvm.Cond.fieldLink "WaltzHall$Floor" (72 : Nat) "WaltzHall$Dancer" "partner" "LWaltzHall$Dancer;") ∈ gG := gmm 599 (by decide +kernel) (by decide +kernel)
theorem tw_602 : (Jvm.Cond.fieldLink "WaltzHall$Floor" (85 : Nat) "WaltzHall$Dancer" "follows" "Z") ∈ gG := gmm 602 (by decide +kernel) (by decide +kernel)
theorem tw_605 : (Jvm.Cond.fieldLink "WaltzHall$Floor" (102 : Nat) "WaltzHall$Dancer" "dizzy" "I") ∈ gG := gmm 605 (by decide +kernel) (by decide +kernel)
theorem tw_610 : (Jvm.Cond.fieldLink "WaltzHall$Floor" (167 : Nat) "WaltzHall$Dancer" "goalX" "I") ∈ gG := gmm 610 (by decide +kernel) (by decide +kernel)
theorem tw_612 : (Jvm.Cond.fieldLink "WaltzHall$Floor" (170 : Nat) "WaltzHall$Dancer" "goalY" "I") ∈ gG := gmm 612 (by decide +kernel) (by decide +kernel)
theorem tw_656 : (Jvm.Cond.instanceMethod ({ cls := "WaltzHall$Floor", name := "dancerOrNull", desc := "(I)LWaltzHall$Dancer;" } : Jvm.MethodName)) ∈ gG := gmm 656 (by decide +kernel) (by decide +kernel)
theorem tw_657 : (Jvm.Cond.selects "WaltzHall$Floor" ({ cls := "WaltzHall$Floor", name := "dancerOrNull", desc := "(I)LWaltzHall$Dancer;" } : Jvm.MethodName) ({ cls := "WaltzHall$Floor", name := "dancerOrNull", desc := "(I)LWaltzHall$Dancer;" } : Jvm.MethodName)) ∈ gG := gmm 657 (by decide +kernel) (by decide +kernel)
theorem tw_658 : (Jvm.Cond.code ({ cls := "WaltzHall$Floor", name := "dancerOrNull", desc := "(I)LWaltzHall$Dancer;" } : Jvm.MethodName) prog_4_method_2_code (2 : Nat) (Option.some (Jvm.ClassFile.FieldType.object "WaltzHall$Dancer"))) ∈ gG := gmm 658 (by decide +kernel) (by decide +kernel)
theorem tw_669 : (Jvm.Cond.instanceMethod ({ cls := "WaltzHall$Dancer", name := "isBeside", desc := "(LWaltzHall$Dancer;)Z" } : Jvm.MethodName)) ∈ gG := gmm 669 (by decide +kernel) (by decide +kernel)
theorem tw_670 : (Jvm.Cond.selects "WaltzHall$Dancer" ({ cls := "WaltzHall$Dancer", name := "isBeside", desc := "(LWaltzHall$Dancer;)Z" } : Jvm.MethodName) ({ cls := "WaltzHall$Dancer", name := "isBeside", desc := "(LWaltzHall$Dancer;)Z" } : Jvm.MethodName)) ∈ gG := gmm 670 (by decide +kernel) (by decide +kernel)
theorem tw_671 : (Jvm.Cond.code ({ cls := "WaltzHall$Dancer", name := "isBeside", desc := "(LWaltzHall$Dancer;)Z" } : Jvm.MethodName) prog_3_method_4_code (2 : Nat) (Option.some Jvm.ClassFile.FieldType.boolean)) ∈ gG := gmm 671 (by decide +kernel) (by decide +kernel)
theorem tw_729 : (Jvm.Cond.instantiable "WaltzHall$Winder" (7 : Nat)) ∈ gG := gmm 729 (by decide +kernel) (by decide +kernel)
theorem tw_731 : (Jvm.Cond.instanceMethod ({ cls := "WaltzHall$Winder", name := "<init>", desc := "()V" } : Jvm.MethodName)) ∈ gG := gmm 731 (by decide +kernel) (by decide +kernel)
theorem tw_732 : (Jvm.Cond.code ({ cls := "WaltzHall$Winder", name := "<init>", desc := "()V" } : Jvm.MethodName) prog_6_method_1_code (1 : Nat) (Option.none : Option Jvm.ClassFile.FieldType)) ∈ gG := gmm 732 (by decide +kernel) (by decide +kernel)
theorem tw_800 : (Jvm.Cond.methodLink "WaltzHall$Floor" (89 : Nat) ({ cls := "WaltzHall$Floor", name := "mayPerform", desc := "(LWaltzHall$Dancer;)Z" } : Jvm.MethodName)) ∈ gG := gmm 800 (by decide +kernel) (by decide +kernel)
theorem tw_801 : (Jvm.Cond.static ({ cls := "WaltzHall$Floor", name := "mayPerform", desc := "(LWaltzHall$Dancer;)Z" } : Jvm.MethodName)) ∈ gG := gmm 801 (by decide +kernel) (by decide +kernel)
theorem tw_802 : (Jvm.Cond.code ({ cls := "WaltzHall$Floor", name := "mayPerform", desc := "(LWaltzHall$Dancer;)Z" } : Jvm.MethodName) prog_4_method_8_code (1 : Nat) (Option.some Jvm.ClassFile.FieldType.boolean)) ∈ gG := gmm 802 (by decide +kernel) (by decide +kernel)
theorem tw_803 : (Jvm.Cond.methodLink "WaltzHall$Floor" (111 : Nat) ({ cls := "WaltzHall$Dancer", name := "canDance", desc := "()Z" } : Jvm.MethodName)) ∈ gG := gmm 803 (by decide +kernel) (by decide +kernel)
theorem tw_804 : (Jvm.Cond.instanceMethod ({ cls := "WaltzHall$Dancer", name := "canDance", desc := "()Z" } : Jvm.MethodName)) ∈ gG := gmm 804 (by decide +kernel) (by decide +kernel)
theorem tw_805 : (Jvm.Cond.selects "WaltzHall$Dancer" ({ cls := "WaltzHall$Dancer", name := "canDance", desc := "()Z" } : Jvm.MethodName) ({ cls := "WaltzHall$Dancer", name := "canDance", desc := "()Z" } : Jvm.MethodName)) ∈ gG := gmm 805 (by decide +kernel) (by decide +kernel)
theorem tw_806 : (Jvm.Cond.code ({ cls := "WaltzHall$Dancer", name := "canDance", desc := "()Z" } : Jvm.MethodName) prog_3_method_6_code (1 : Nat) (Option.some Jvm.ClassFile.FieldType.boolean)) ∈ gG := gmm 806 (by decide +kernel) (by decide +kernel)
theorem tw_808 : (Jvm.Cond.methodLink "WaltzHall$Floor" (92 : Nat) ({ cls := "WaltzHall$Floor", name := "perform", desc := "(LWaltzHall$Dancer;)I" } : Jvm.MethodName)) ∈ gG := gmm 808 (by decide +kernel) (by decide +kernel)
theorem tw_810 : (Jvm.Cond.instanceMethod ({ cls := "WaltzHall$Floor", name := "perform", desc := "(LWaltzHall$Dancer;)I" } : Jvm.MethodName)) ∈ gG := gmm 810 (by decide +kernel) (by decide +kernel)
theorem tw_811 : (Jvm.Cond.code ({ cls := "WaltzHall$Floor", name := "perform", desc := "(LWaltzHall$Dancer;)I" } : Jvm.MethodName) prog_4_method_9_code (7 : Nat) (Option.some Jvm.ClassFile.FieldType.int)) ∈ gG := gmm 811 (by decide +kernel) (by decide +kernel)
theorem tw_812 : (Jvm.Cond.methodLink "WaltzHall$Floor" (115 : Nat) ({ cls := "WaltzHall$Dance", name := "figureAt", desc := "(I)I" } : Jvm.MethodName)) ∈ gG := gmm 812 (by decide +kernel) (by decide +kernel)
theorem tw_813 : (Jvm.Cond.methodLink "WaltzHall$Floor" (119 : Nat) ({ cls := "WaltzHall$Dance", name := "placeBehind", desc := "(I)I" } : Jvm.MethodName)) ∈ gG := gmm 813 (by decide +kernel) (by decide +kernel)
theorem tw_814 : (Jvm.Cond.instanceMethod ({ cls := "WaltzHall$Dance", name := "placeBehind", desc := "(I)I" } : Jvm.MethodName)) ∈ gG := gmm 814 (by decide +kernel) (by decide +kernel)
theorem tw_815 : (Jvm.Cond.selects "WaltzHall$Dance" ({ cls := "WaltzHall$Dance", name := "placeBehind", desc := "(I)I" } : Jvm.MethodName) ({ cls := "WaltzHall$Dance", name := "placeBehind", desc := "(I)I" } : Jvm.MethodName)) ∈ gG := gmm 815 (by decide +kernel) (by decide +kernel)
theorem tw_816 : (Jvm.Cond.code ({ cls := "WaltzHall$Dance", name := "placeBehind", desc := "(I)I" } : Jvm.MethodName) prog_2_method_4_code (2 : Nat) (Option.some Jvm.ClassFile.FieldType.int)) ∈ gG := gmm 816 (by decide +kernel) (by decide +kernel)
theorem tw_817 : (Jvm.Cond.methodLink "WaltzHall$Floor" (122 : Nat) ({ cls := "WaltzHall$Floor", name := "aim", desc := "(LWaltzHall$Dancer;I)V" } : Jvm.MethodName)) ∈ gG := gmm 817 (by decide +kernel) (by decide +kernel)
theorem tw_818 : (Jvm.Cond.static ({ cls := "WaltzHall$Floor", name := "aim", desc := "(LWaltzHall$Dancer;I)V" } : Jvm.MethodName)) ∈ gG := gmm 818 (by decide +kernel) (by decide +kernel)
theorem tw_819 : (Jvm.Cond.code ({ cls := "WaltzHall$Floor", name := "aim", desc := "(LWaltzHall$Dancer;I)V" } : Jvm.MethodName) prog_4_method_10_code (4 : Nat) (Option.none : Option Jvm.ClassFile.FieldType)) ∈ gG := gmm 819 (by decide +kernel) (by decide +kernel)
theorem tw_820 : (Jvm.Cond.methodLink "WaltzHall$Floor" (143 : Nat) ({ cls := "WaltzHall$Dancer", name := "aimAt", desc := "(II)V" } : Jvm.MethodName)) ∈ gG := gmm 820 (by decide +kernel) (by decide +kernel)
theorem tw_824 : (Jvm.Cond.methodLinkNest "WaltzHall$Floor" (147 : Nat) ({ cls := "WaltzHall", name := "isWalk", desc := "(I)Z" } : Jvm.MethodName) "WaltzHall") ∈ gG := gmm 824 (by decide +kernel) (by decide +kernel)
theorem tw_825 : (Jvm.Cond.methodLinkNest "WaltzHall$Floor" (154 : Nat) ({ cls := "WaltzHall", name := "quartersToWayOf", desc := "(I)I" } : Jvm.MethodName) "WaltzHall") ∈ gG := gmm 825 (by decide +kernel) (by decide +kernel)
theorem tw_826 : (Jvm.Cond.methodLinkNest "WaltzHall$Floor" (157 : Nat) ({ cls := "WaltzHall", name := "turned", desc := "(II)I" } : Jvm.MethodName) "WaltzHall") ∈ gG := gmm 826 (by decide +kernel) (by decide +kernel)
theorem tw_827 : (Jvm.Cond.methodLink "WaltzHall$Floor" (160 : Nat) ({ cls := "WaltzHall$Dancer", name := "aimFrom", desc := "(III)V" } : Jvm.MethodName)) ∈ gG := gmm 827 (by decide +kernel) (by decide +kernel)
theorem tw_828 : (Jvm.Cond.instanceMethod ({ cls := "WaltzHall$Dancer", name := "aimFrom", desc := "(III)V" } : Jvm.MethodName)) ∈ gG := gmm 828 (by decide +kernel) (by decide +kernel)
theorem tw_829 : (Jvm.Cond.selects "WaltzHall$Dancer" ({ cls := "WaltzHall$Dancer", name := "aimFrom", desc := "(III)V" } : Jvm.MethodName) ({ cls := "WaltzHall$Dancer", name := "aimFrom", desc := "(III)V" } : Jvm.MethodName)) ∈ gG := gmm 829 (by decide +kernel) (by decide +kernel)
theorem tw_830 : (Jvm.Cond.code ({ cls := "WaltzHall$Dancer", name := "aimFrom", desc := "(III)V" } : Jvm.MethodName) prog_3_method_9_code (4 : Nat) (Option.none : Option Jvm.ClassFile.FieldType)) ∈ gG := gmm 830 (by decide +kernel) (by decide +kernel)
theorem tw_834 : (Jvm.Cond.methodLinkNest "WaltzHall$Floor" (136 : Nat) ({ cls := "WaltzHall", name := "quartersTurnedBy", desc := "(I)I" } : Jvm.MethodName) "WaltzHall") ∈ gG := gmm 834 (by decide +kernel) (by decide +kernel)
theorem tw_835 : (Jvm.Cond.methodLink "WaltzHall$Floor" (164 : Nat) ({ cls := "WaltzHall$Dancer", name := "directionTo", desc := "(LWaltzHall$Dancer;)I" } : Jvm.MethodName)) ∈ gG := gmm 835 (by decide +kernel) (by decide +kernel)
theorem tw_836 : (Jvm.Cond.instanceMethod ({ cls := "WaltzHall$Dancer", name := "directionTo", desc := "(LWaltzHall$Dancer;)I" } : Jvm.MethodName)) ∈ gG := gmm 836 (by decide +kernel) (by decide +kernel)
theorem tw_837 : (Jvm.Cond.selects "WaltzHall$Dancer" ({ cls := "WaltzHall$Dancer", name := "directionTo", desc := "(LWaltzHall$Dancer;)I" } : Jvm.MethodName) ({ cls := "WaltzHall$Dancer", name := "directionTo", desc := "(LWaltzHall$Dancer;)I" } : Jvm.MethodName)) ∈ gG := gmm 837 (by decide +kernel) (by decide +kernel)
theorem tw_838 : (Jvm.Cond.code ({ cls := "WaltzHall$Dancer", name := "directionTo", desc := "(LWaltzHall$Dancer;)I" } : Jvm.MethodName) prog_3_method_13_code (2 : Nat) (Option.some Jvm.ClassFile.FieldType.int)) ∈ gG := gmm 838 (by decide +kernel) (by decide +kernel)
theorem tw_839 : (Jvm.Cond.methodLink "WaltzHall$Floor" (126 : Nat) ({ cls := "WaltzHall$Floor", name := "whoIsInTheWayOf", desc := "(LWaltzHall$Dancer;)LWaltzHall$Dancer;" } : Jvm.MethodName)) ∈ gG := gmm 839 (by decide +kernel) (by decide +kernel)
theorem tw_841 : (Jvm.Cond.instanceMethod ({ cls := "WaltzHall$Floor", name := "whoIsInTheWayOf", desc := "(LWaltzHall$Dancer;)LWaltzHall$Dancer;" } : Jvm.MethodName)) ∈ gG := gmm 841 (by decide +kernel) (by decide +kernel)
theorem tw_842 : (Jvm.Cond.code ({ cls := "WaltzHall$Floor", name := "whoIsInTheWayOf", desc := "(LWaltzHall$Dancer;)LWaltzHall$Dancer;" } : Jvm.MethodName) prog_4_method_11_code (3 : Nat) (Option.some (Jvm.ClassFile.FieldType.object "WaltzHall$Dancer"))) ∈ gG := gmm 842 (by decide +kernel) (by decide +kernel)
theorem tw_843 : (Jvm.Cond.methodLink "WaltzHall$Floor" (173 : Nat) ({ cls := "WaltzHall$Floor", name := "whoIsAt", desc := "(II)LWaltzHall$Dancer;" } : Jvm.MethodName)) ∈ gG := gmm 843 (by decide +kernel) (by decide +kernel)
theorem tw_844 : (Jvm.Cond.methodLink "WaltzHall$Floor" (130 : Nat) ({ cls := "WaltzHall$Dancer", name := "aimsOffFloor", desc := "()Z" } : Jvm.MethodName)) ∈ gG := gmm 844 (by decide +kernel) (by decide +kernel)
theorem tw_845 : (Jvm.Cond.instanceMethod ({ cls := "WaltzHall$Dancer", name := "aimsOffFloor", desc := "()Z" } : Jvm.MethodName)) ∈ gG := gmm 845 (by decide +kernel) (by decide +kernel)
theorem tw_846 : (Jvm.Cond.selects "WaltzHall$Dancer" ({ cls := "WaltzHall$Dancer", name := "aimsOffFloor", desc := "()Z" } : Jvm.MethodName) ({ cls := "WaltzHall$Dancer", name := "aimsOffFloor", desc := "()Z" } : Jvm.MethodName)) ∈ gG := gmm 846 (by decide +kernel) (by decide +kernel)
theorem tw_847 : (Jvm.Cond.code ({ cls := "WaltzHall$Dancer", name := "aimsOffFloor", desc := "()Z" } : Jvm.MethodName) prog_3_method_10_code (1 : Nat) (Option.some Jvm.ClassFile.FieldType.boolean)) ∈ gG := gmm 847 (by decide +kernel) (by decide +kernel)
theorem tw_849 : (Jvm.Cond.methodLink "WaltzHall$Floor" (133 : Nat) ({ cls := "WaltzHall$Floor", name := "bump", desc := "(LWaltzHall$Dancer;)I" } : Jvm.MethodName)) ∈ gG := gmm 849 (by decide +kernel) (by decide +kernel)
theorem tw_850 : (Jvm.Cond.static ({ cls := "WaltzHall$Floor", name := "bump", desc := "(LWaltzHall$Dancer;)I" } : Jvm.MethodName)) ∈ gG := gmm 850 (by decide +kernel) (by decide +kernel)
theorem tw_851 : (Jvm.Cond.code ({ cls := "WaltzHall$Floor", name := "bump", desc := "(LWaltzHall$Dancer;)I" } : Jvm.MethodName) prog_4_method_12_code (1 : Nat) (Option.some Jvm.ClassFile.FieldType.int)) ∈ gG := gmm 851 (by decide +kernel) (by decide +kernel)
theorem tw_852 : (Jvm.Cond.methodLink "WaltzHall$Floor" (177 : Nat) ({ cls := "WaltzHall$Dancer", name := "stagger", desc := "()V" } : Jvm.MethodName)) ∈ gG := gmm 852 (by decide +kernel) (by decide +kernel)
theorem tw_853 : (Jvm.Cond.instanceMethod ({ cls := "WaltzHall$Dancer", name := "stagger", desc := "()V" } : Jvm.MethodName)) ∈ gG := gmm 853 (by decide +kernel) (by decide +kernel)
theorem tw_854 : (Jvm.Cond.selects "WaltzHall$Dancer" ({ cls := "WaltzHall$Dancer", name := "stagger", desc := "()V" } : Jvm.MethodName) ({ cls := "WaltzHall$Dancer", name := "stagger", desc := "()V" } : Jvm.MethodName)) ∈ gG := gmm 854 (by decide +kernel) (by decide +kernel)
theorem tw_855 : (Jvm.Cond.code ({ cls := "WaltzHall$Dancer", name := "stagger", desc := "()V" } : Jvm.MethodName) prog_3_method_12_code (1 : Nat) (Option.none : Option Jvm.ClassFile.FieldType)) ∈ gG := gmm 855 (by decide +kernel) (by decide +kernel)
theorem tw_856 : (Jvm.Cond.methodLink "WaltzHall$Floor" (139 : Nat) ({ cls := "WaltzHall$Dancer", name := "goAndTurn", desc := "(I)V" } : Jvm.MethodName)) ∈ gG := gmm 856 (by decide +kernel) (by decide +kernel)
theorem tw_857 : (Jvm.Cond.instanceMethod ({ cls := "WaltzHall$Dancer", name := "goAndTurn", desc := "(I)V" } : Jvm.MethodName)) ∈ gG := gmm 857 (by decide +kernel) (by decide +kernel)
theorem tw_858 : (Jvm.Cond.selects "WaltzHall$Dancer" ({ cls := "WaltzHall$Dancer", name := "goAndTurn", desc := "(I)V" } : Jvm.MethodName) ({ cls := "WaltzHall$Dancer", name := "goAndTurn", desc := "(I)V" } : Jvm.MethodName)) ∈ gG := gmm 858 (by decide +kernel) (by decide +kernel)
theorem tw_859 : (Jvm.Cond.code ({ cls := "WaltzHall$Dancer", name := "goAndTurn", desc := "(I)V" } : Jvm.MethodName) prog_3_method_11_code (2 : Nat) (Option.none : Option Jvm.ClassFile.FieldType)) ∈ gG := gmm 859 (by decide +kernel) (by decide +kernel)
theorem tw_861 : (Jvm.Cond.classLink "WaltzHall$Floor" (79 : Nat) "WaltzHall$Winder") ∈ gG := gmm 861 (by decide +kernel) (by decide +kernel)
theorem tw_862 : (Jvm.Cond.methodLink "WaltzHall$Floor" (96 : Nat) ({ cls := "WaltzHall$Winder", name := "whoseTurn", desc := "()I" } : Jvm.MethodName)) ∈ gG := gmm 862 (by decide +kernel) (by decide +kernel)
theorem tw_863 : (Jvm.Cond.methodLink "WaltzHall$Floor" (38 : Nat) ({ cls := "WaltzHall$Floor", name := "dancerOrNull", desc := "(I)LWaltzHall$Dancer;" } : Jvm.MethodName)) ∈ gG := gmm 863 (by decide +kernel) (by decide +kernel)
theorem tw_864 : (Jvm.Cond.methodLink "WaltzHall$Floor" (99 : Nat) ({ cls := "WaltzHall$Winder", name := "attend", desc := "(LWaltzHall$Dancer;)V" } : Jvm.MethodName)) ∈ gG := gmm 864 (by decide +kernel) (by decide +kernel)
theorem tw_865 : (Jvm.Cond.instanceMethod ({ cls := "WaltzHall$Winder", name := "attend", desc := "(LWaltzHall$Dancer;)V" } : Jvm.MethodName)) ∈ gG := gmm 865 (by decide +kernel) (by decide +kernel)
theorem tw_866 : (Jvm.Cond.selects "WaltzHall$Winder" ({ cls := "WaltzHall$Winder", name := "attend", desc := "(LWaltzHall$Dancer;)V" } : Jvm.MethodName) ({ cls := "WaltzHall$Winder", name := "attend", desc := "(LWaltzHall$Dancer;)V" } : Jvm.MethodName)) ∈ gG := gmm 866 (by decide +kernel) (by decide +kernel)
theorem tw_867 : (Jvm.Cond.code ({ cls := "WaltzHall$Winder", name := "attend", desc := "(LWaltzHall$Dancer;)V" } : Jvm.MethodName) prog_6_method_5_code (3 : Nat) (Option.none : Option Jvm.ClassFile.FieldType)) ∈ gG := gmm 867 (by decide +kernel) (by decide +kernel)
theorem tw_874 : (Jvm.Cond.methodLink "WaltzHall$Floor" (105 : Nat) ({ cls := "java/lang/Math", name := "max", desc := "(II)I" } : Jvm.MethodName)) ∈ gG := gmm 874 (by decide +kernel) (by decide +kernel)
theorem tw_893 : (Jvm.Cond.methodLink "WaltzHall$Floor" (61 : Nat) ({ cls := "WaltzHall$Dancer", name := "<init>", desc := "(ILWaltzHall$Dance;)V" } : Jvm.MethodName)) ∈ gG := gmm 893 (by decide +kernel) (by decide +kernel)
theorem tw_894 : (Jvm.Cond.methodLink "WaltzHall$Floor" (64 : Nat) ({ cls := "java/util/ArrayList", name := "add", desc := "(Ljava/lang/Object;)Z" } : Jvm.MethodName)) ∈ gG := gmm 894 (by decide +kernel) (by decide +kernel)
theorem tw_895 : (Jvm.Cond.methodLink "WaltzHall$Floor" (68 : Nat) ({ cls := "WaltzHall$Dancer", name := "becomeLike", desc := "(LWaltzHall$Dancer;)V" } : Jvm.MethodName)) ∈ gG := gmm 895 (by decide +kernel) (by decide +kernel)
theorem tw_896 : (Jvm.Cond.instanceMethod ({ cls := "WaltzHall$Dancer", name := "becomeLike", desc := "(LWaltzHall$Dancer;)V" } : Jvm.MethodName)) ∈ gG := gmm 896 (by decide +kernel) (by decide +kernel)
theorem tw_897 : (Jvm.Cond.selects "WaltzHall$Dancer" ({ cls := "WaltzHall$Dancer", name := "becomeLike", desc := "(LWaltzHall$Dancer;)V" } : Jvm.MethodName) ({ cls := "WaltzHall$Dancer", name := "becomeLike", desc := "(LWaltzHall$Dancer;)V" } : Jvm.MethodName)) ∈ gG := gmm 897 (by decide +kernel) (by decide +kernel)
theorem tw_898 : (Jvm.Cond.code ({ cls := "WaltzHall$Dancer", name := "becomeLike", desc := "(LWaltzHall$Dancer;)V" } : Jvm.MethodName) prog_3_method_2_code (2 : Nat) (Option.none : Option Jvm.ClassFile.FieldType)) ∈ gG := gmm 898 (by decide +kernel) (by decide +kernel)
theorem tw_899 : (Jvm.Cond.methodLinkNest "WaltzHall$Floor" (81 : Nat) ({ cls := "WaltzHall$Winder", name := "<init>", desc := "()V" } : Jvm.MethodName) "WaltzHall") ∈ gG := gmm 899 (by decide +kernel) (by decide +kernel)
theorem tw_900 : (Jvm.Cond.methodLink "WaltzHall$Floor" (82 : Nat) ({ cls := "WaltzHall$Winder", name := "becomeLike", desc := "(LWaltzHall$Winder;)V" } : Jvm.MethodName)) ∈ gG := gmm 900 (by decide +kernel) (by decide +kernel)
theorem tw_901 : (Jvm.Cond.instanceMethod ({ cls := "WaltzHall$Winder", name := "becomeLike", desc := "(LWaltzHall$Winder;)V" } : Jvm.MethodName)) ∈ gG := gmm 901 (by decide +kernel) (by decide +kernel)
theorem tw_902 : (Jvm.Cond.selects "WaltzHall$Winder" ({ cls := "WaltzHall$Winder", name := "becomeLike", desc := "(LWaltzHall$Winder;)V" } : Jvm.MethodName) ({ cls := "WaltzHall$Winder", name := "becomeLike", desc := "(LWaltzHall$Winder;)V" } : Jvm.MethodName)) ∈ gG := gmm 902 (by decide +kernel) (by decide +kernel)
theorem tw_903 : (Jvm.Cond.code ({ cls := "WaltzHall$Winder", name := "becomeLike", desc := "(LWaltzHall$Winder;)V" } : Jvm.MethodName) prog_6_method_2_code (3 : Nat) (Option.none : Option Jvm.ClassFile.FieldType)) ∈ gG := gmm 903 (by decide +kernel) (by decide +kernel)
theorem tw_927 : (Jvm.Cond.methodLink "WaltzHall$Floor" (42 : Nat) ({ cls := "WaltzHall$Dancer", name := "isBeside", desc := "(LWaltzHall$Dancer;)Z" } : Jvm.MethodName)) ∈ gG := gmm 927 (by decide +kernel) (by decide +kernel)
theorem hd_AL_add1 : y_AL_add1.cls ≠ "java/lang/invoke/MethodHandle" ∧ y_AL_add1.cls ≠ "java/lang/invoke/VarHandle" ∧ (parseMethodDescriptor y_AL_add1.desc).map (fun d => d.parameters.length) = some 1 := by decide +kernel
theorem hd_AL_get : y_AL_get.cls ≠ "java/lang/invoke/MethodHandle" ∧ y_AL_get.cls ≠ "java/lang/invoke/VarHandle" ∧ (parseMethodDescriptor y_AL_get.desc).map (fun d => d.parameters.length) = some 1 := by decide +kernel
theorem hd_AL_init : y_AL_init.cls ≠ "java/lang/invoke/MethodHandle" ∧ y_AL_init.cls ≠ "java/lang/invoke/VarHandle" ∧ (parseMethodDescriptor y_AL_init.desc).map (fun d => d.parameters.length) = some 0 := by decide +kernel
theorem hd_AL_size : y_AL_size.cls ≠ "java/lang/invoke/MethodHandle" ∧ y_AL_size.cls ≠ "java/lang/invoke/VarHandle" ∧ (parseMethodDescriptor y_AL_size.desc).map (fun d => d.parameters.length) = some 0 := by decide +kernel
theorem hd_D_placeBehind : y_D_placeBehind.cls ≠ "java/lang/invoke/MethodHandle" ∧ y_D_placeBehind.cls ≠ "java/lang/invoke/VarHandle" ∧ (parseMethodDescriptor y_D_placeBehind.desc).map (fun d => d.parameters.length) = some 1 := by decide +kernel
theorem hd_F_aim : y_F_aim.cls ≠ "java/lang/invoke/MethodHandle" ∧ y_F_aim.cls ≠ "java/lang/invoke/VarHandle" ∧ (parseMethodDescriptor y_F_aim.desc).map (fun d => d.parameters.length) = some 2 := by decide +kernel
theorem hd_F_bump : y_F_bump.cls ≠ "java/lang/invoke/MethodHandle" ∧ y_F_bump.cls ≠ "java/lang/invoke/VarHandle" ∧ (parseMethodDescriptor y_F_bump.desc).map (fun d => d.parameters.length) = some 1 := by decide +kernel
theorem hd_F_dancerOrNull : y_F_dancerOrNull.cls ≠ "java/lang/invoke/MethodHandle" ∧ y_F_dancerOrNull.cls ≠ "java/lang/invoke/VarHandle" ∧ (parseMethodDescriptor y_F_dancerOrNull.desc).map (fun d => d.parameters.length) = some 1 := by decide +kernel
theorem hd_F_dizzyOnes : y_F_dizzyOnes.cls ≠ "java/lang/invoke/MethodHandle" ∧ y_F_dizzyOnes.cls ≠ "java/lang/invoke/VarHandle" ∧ (parseMethodDescriptor y_F_dizzyOnes.desc).map (fun d => d.parameters.length) = some 0 := by decide +kernel
theorem hd_F_mayPerform : y_F_mayPerform.cls ≠ "java/lang/invoke/MethodHandle" ∧ y_F_mayPerform.cls ≠ "java/lang/invoke/VarHandle" ∧ (parseMethodDescriptor y_F_mayPerform.desc).map (fun d => d.parameters.length) = some 1 := by decide +kernel
theorem hd_F_perform : y_F_perform.cls ≠ "java/lang/invoke/MethodHandle" ∧ y_F_perform.cls ≠ "java/lang/invoke/VarHandle" ∧ (parseMethodDescriptor y_F_perform.desc).map (fun d => d.parameters.length) = some 1 := by decide +kernel
theorem hd_F_spentOnes : y_F_spentOnes.cls ≠ "java/lang/invoke/MethodHandle" ∧ y_F_spentOnes.cls ≠ "java/lang/invoke/VarHandle" ∧ (parseMethodDescriptor y_F_spentOnes.desc).map (fun d => d.parameters.length) = some 0 := by decide +kernel
theorem hd_F_sumOfTold : y_F_sumOfTold.cls ≠ "java/lang/invoke/MethodHandle" ∧ y_F_sumOfTold.cls ≠ "java/lang/invoke/VarHandle" ∧ (parseMethodDescriptor y_F_sumOfTold.desc).map (fun d => d.parameters.length) = some 1 := by decide +kernel
theorem hd_F_whoIsAt : y_F_whoIsAt.cls ≠ "java/lang/invoke/MethodHandle" ∧ y_F_whoIsAt.cls ≠ "java/lang/invoke/VarHandle" ∧ (parseMethodDescriptor y_F_whoIsAt.desc).map (fun d => d.parameters.length) = some 2 := by decide +kernel
theorem hd_F_whoIsInTheWayOf : y_F_whoIsInTheWayOf.cls ≠ "java/lang/invoke/MethodHandle" ∧ y_F_whoIsInTheWayOf.cls ≠ "java/lang/invoke/VarHandle" ∧ (parseMethodDescriptor y_F_whoIsInTheWayOf.desc).map (fun d => d.parameters.length) = some 1 := by decide +kernel
theorem hd_N_attend : y_N_attend.cls ≠ "java/lang/invoke/MethodHandle" ∧ y_N_attend.cls ≠ "java/lang/invoke/VarHandle" ∧ (parseMethodDescriptor y_N_attend.desc).map (fun d => d.parameters.length) = some 1 := by decide +kernel
theorem hd_N_becomeLike : y_N_becomeLike.cls ≠ "java/lang/invoke/MethodHandle" ∧ y_N_becomeLike.cls ≠ "java/lang/invoke/VarHandle" ∧ (parseMethodDescriptor y_N_becomeLike.desc).map (fun d => d.parameters.length) = some 1 := by decide +kernel
theorem hd_N_init : y_N_init.cls ≠ "java/lang/invoke/MethodHandle" ∧ y_N_init.cls ≠ "java/lang/invoke/VarHandle" ∧ (parseMethodDescriptor y_N_init.desc).map (fun d => d.parameters.length) = some 0 := by decide +kernel
theorem hd_R_aimFrom : y_R_aimFrom.cls ≠ "java/lang/invoke/MethodHandle" ∧ y_R_aimFrom.cls ≠ "java/lang/invoke/VarHandle" ∧ (parseMethodDescriptor y_R_aimFrom.desc).map (fun d => d.parameters.length) = some 3 := by decide +kernel
theorem hd_R_aimsOffFloor : y_R_aimsOffFloor.cls ≠ "java/lang/invoke/MethodHandle" ∧ y_R_aimsOffFloor.cls ≠ "java/lang/invoke/VarHandle" ∧ (parseMethodDescriptor y_R_aimsOffFloor.desc).map (fun d => d.parameters.length) = some 0 := by decide +kernel
theorem hd_R_becomeLike : y_R_becomeLike.cls ≠ "java/lang/invoke/MethodHandle" ∧ y_R_becomeLike.cls ≠ "java/lang/invoke/VarHandle" ∧ (parseMethodDescriptor y_R_becomeLike.desc).map (fun d => d.parameters.length) = some 1 := by decide +kernel
theorem hd_R_canDance : y_R_canDance.cls ≠ "java/lang/invoke/MethodHandle" ∧ y_R_canDance.cls ≠ "java/lang/invoke/VarHandle" ∧ (parseMethodDescriptor y_R_canDance.desc).map (fun d => d.parameters.length) = some 0 := by decide +kernel
theorem hd_R_directionTo : y_R_directionTo.cls ≠ "java/lang/invoke/MethodHandle" ∧ y_R_directionTo.cls ≠ "java/lang/invoke/VarHandle" ∧ (parseMethodDescriptor y_R_directionTo.desc).map (fun d => d.parameters.length) = some 1 := by decide +kernel
theorem hd_R_goAndTurn : y_R_goAndTurn.cls ≠ "java/lang/invoke/MethodHandle" ∧ y_R_goAndTurn.cls ≠ "java/lang/invoke/VarHandle" ∧ (parseMethodDescriptor y_R_goAndTurn.desc).map (fun d => d.parameters.length) = some 1 := by decide +kernel
theorem hd_R_init : y_R_init.cls ≠ "java/lang/invoke/MethodHandle" ∧ y_R_init.cls ≠ "java/lang/invoke/VarHandle" ∧ (parseMethodDescriptor y_R_init.desc).map (fun d => d.parameters.length) = some 2 := by decide +kernel
theorem hd_R_isBeside : y_R_isBeside.cls ≠ "java/lang/invoke/MethodHandle" ∧ y_R_isBeside.cls ≠ "java/lang/invoke/VarHandle" ∧ (parseMethodDescriptor y_R_isBeside.desc).map (fun d => d.parameters.length) = some 1 := by decide +kernel
theorem hd_R_stagger : y_R_stagger.cls ≠ "java/lang/invoke/MethodHandle" ∧ y_R_stagger.cls ≠ "java/lang/invoke/VarHandle" ∧ (parseMethodDescriptor y_R_stagger.desc).map (fun d => d.parameters.length) = some 0 := by decide +kernel
theorem hd_R_tell : y_R_tell.cls ≠ "java/lang/invoke/MethodHandle" ∧ y_R_tell.cls ≠ "java/lang/invoke/VarHandle" ∧ (parseMethodDescriptor y_R_tell.desc).map (fun d => d.parameters.length) = some 1 := by decide +kernel
def w_F_init (post : St → Prop) (S : St) (a0 : Nat) : Prop :=
  ∀ (q1 : Nat) (S2 : St), q1 ∉ sL S → S2 = pNew S q1 0 0 → w_AL_init (fun (S4 : St) => ∀ S5 : St, S5 = pQ S4 21 a0 (some q1) → ∀ (q6 : Nat) (S7 : St), q6 ∉ sL S5 → S7 = pNew S5 q6 0 0 → w_AL_init (fun (S9 : St) => ∀ S10 : St, S10 = pQ S9 22 a0 (some q6) → post S10) S7 q6) S2 q1
set_option maxHeartbeats 4000000 in
set_option maxRecDepth 100000 in
theorem m_F_init (l : Launch) (x : Cx) (S : St) (post : St → Prop) (a0 : Nat) (fa0 : isA S 3 a0) (h : w_F_init post S a0) : Met l y_F_init [.code y_F_init c_F_init 1 none] { frames := 4, cells := 2, slots := 6, locals := 80 } (va_Pc [.ref a0] (GW x S)) (va_Qv post (gB x S) (xA x)) 2 6 (xA x) := by
  refine gMet (by decide +kernel) (Nat.le_of_ble_eq_true rfl) ?_
  intro p e s m args below meth c hx hb hr hown hlocks hin hw hK H locs hG ls hlA hml
  have hown : s.vm.findClass "WaltzHall$Floor" = some m.cls := hown
  have hl0 : lv_has ls 1 [(0, .ref a0)] := hlA
  have leS : gle S S := gle.rf
  unfold w_F_init at h
  refine lv_aload_n hx hb d_F_init_0 rfl (lv_at hl0 0 rfl) ?_
  refine gobj (bytes := c_F_init) hx hb hw hown tw_180 tw_61 tw_62 (hl0.1.trans hml.symm) d_F_init_1 (Nat.le_of_ble_eq_true rfl) (Nat.le_of_ble_eq_true rfl) ?_
  refine lv_aload_n hx hb d_F_init_4 rfl (lv_at hl0 0 rfl) ?_
  refine gnew (k := 0) hx hb hw hown hK hG kd_AL tw_181 tw_81 tw_32 rfl kf_AL (Nat.le_of_ble_eq_true rfl) (Nat.le_of_ble_eq_true rfl) d_F_init_5 (fun q1 S2 H hqq1 eS2 hle1 hG => ?_)
  replace h := h q1 S2 hqq1 eS2
  have fa0 := gle_isA hle1 fa0
  have leS := leS.tr hle1
  have f3 : isA S2 0 q1 := by rw [eS2]; exact isA_new
  refine lv_dup hx hb d_F_init_8 rfl ?_
  -- call AL_init
  refine gcv hK hG (va_runI (As := []) (rest := [.ref q1, .ref a0]) ⟨hx, hb, hml, hown, hw⟩ (m_AL_init l x S2 _ q1 f3 h) ⟨gcb hw tw_84 tw_32 tw_182 hd_AL_init rfl rfl ⟨(Nat.le_of_ble_eq_true rfl), (Nat.le_of_ble_eq_true rfl)⟩, rfl, hw _ tw_83⟩ (gpS hK hG) rfl rfl hl0.1 rfl (lv_room (Nat.le_of_ble_eq_true rfl)) d_F_init_9 ⟨(Nat.le_of_ble_eq_true rfl), (Nat.le_of_ble_eq_true rfl)⟩) (fun S4 H locs h9 hle1 hG => ?_)
  replace h := h9
  clear h9
  have fa0 := gle_isA hle1 fa0
  have f3 := gle_isA hle1 f3
  have leS := leS.tr hle1
  refine gputF (S' := pQ S4 21 a0 (some q1)) hx hb hw hown hK hG kd_F fa0 rfl 0 (by decide) (gChQ fa0 rfl) tw_183 (fun _ h9 => h9) rfl hin rfl rfl rfl rfl (Nat.le_of_ble_eq_true rfl) d_F_init_12 (fun S5 H locs eS5 hle1 hG => ?_)
  replace h := h S5 eS5
  have fa0 := gle_isA hle1 fa0
  have f3 := gle_isA hle1 f3
  have leS := leS.tr hle1
  refine lv_aload_n hx hb d_F_init_15 rfl (lv_at hl0 0 rfl) ?_
  refine gnew (k := 0) hx hb hw hown hK hG kd_AL tw_181 tw_81 tw_32 rfl kf_AL (Nat.le_of_ble_eq_true rfl) (Nat.le_of_ble_eq_true rfl) d_F_init_16 (fun q6 S7 H hqq6 eS7 hle1 hG => ?_)
  replace h := h q6 S7 hqq6 eS7
  have fa0 := gle_isA hle1 fa0
  have f3 := gle_isA hle1 f3
  have leS := leS.tr hle1
  have f8 : isA S7 0 q6 := by rw [eS7]; exact isA_new
  refine lv_dup hx hb d_F_init_19 rfl ?_
  -- call AL_init
  refine gcv hK hG (va_runI (As := []) (rest := [.ref q6, .ref a0]) ⟨hx, hb, hml, hown, hw⟩ (m_AL_init l x S7 _ q6 f8 h) ⟨gcb hw tw_84 tw_32 tw_182 hd_AL_init rfl rfl ⟨(Nat.le_of_ble_eq_true rfl), (Nat.le_of_ble_eq_true rfl)⟩, rfl, hw _ tw_83⟩ (gpS hK hG) rfl rfl hl0.1 rfl (lv_room (Nat.le_of_ble_eq_true rfl)) d_F_init_20 ⟨(Nat.le_of_ble_eq_true rfl), (Nat.le_of_ble_eq_true rfl)⟩) (fun S9 H locs h9 hle1 hG => ?_)
  replace h := h9
  clear h9
  have fa0 := gle_isA hle1 fa0
  have f3 := gle_isA hle1 f3
  have f8 := gle_isA hle1 f8
  have leS := leS.tr hle1
  refine gputF (S' := pQ S9 22 a0 (some q6)) hx hb hw hown hK hG kd_F fa0 rfl 1 (by decide) (gChQ fa0 rfl) tw_185 (fun _ h9 => h9) rfl hin rfl rfl rfl rfl (Nat.le_of_ble_eq_true rfl) d_F_init_23 (fun S10 H locs eS10 hle1 hG => ?_)
  replace h := h S10 eS10
  have fa0 := gle_isA hle1 fa0
  have f3 := gle_isA hle1 f3
  have f8 := gle_isA hle1 f8
  have leS := leS.tr hle1
  exact gvret hx hb hr hlocks hK hG leS h (Nat.le_of_ble_eq_true rfl) (Nat.le_of_ble_eq_true rfl) d_F_init_26
def w_F_dancerOrNull (post : Option Nat → Prop) (S : St) (a0 : Nat) (a1 : Int32) : Prop :=
  (a1 < 0 → post none) ∧ (¬ a1 < 0 → ∀ o1 : Option Nat, o1 = sQ S 21 a0 → ∃ y2 : Nat, o1 = some y2 ∧ isA S 0 y2 ∧ w_AL_size (fun (r4 : Int32) => (r4 ≤ a1 → post none) ∧ (¬ r4 ≤ a1 → ∀ o5 : Option Nat, o5 = sQ S 21 a0 → ∃ y6 : Nat, o5 = some y6 ∧ isA S 0 y6 ∧ w_AL_get (fun (o8 : Option Nat) => ∃ y9 : Nat, o8 = some y9 ∧ isA S 2 y9 ∧ post (some y9)) S y6 a1)) S y2)
set_option maxHeartbeats 4000000 in
set_option maxRecDepth 100000 in
theorem m_F_dancerOrNull (l : Launch) (x : Cx) (S : St) (post : Option Nat → Prop) (a0 : Nat) (a1 : Int32) (fa0 : isA S 3 a0) (h : w_F_dancerOrNull post S a0 a1) : Met l y_F_dancerOrNull [.code y_F_dancerOrNull c_F_dancerOrNull 2 (some (.object "WaltzHall$Dancer"))] { frames := 3, cells := 0, slots := 0, locals := 64 } (va_Pc [.ref a0, .int a1] (GW x S)) (va_Qq (gPu post S) (gB x S) (xA x)) 0 0 (xA x) := by
  refine gMet (by decide +kernel) (Nat.le_of_ble_eq_true rfl) ?_
  intro p e s m args below meth c hx hb hr hown hlocks hin hw hK H locs hG ls hlA hml
  have hown : s.vm.findClass "WaltzHall$Floor" = some m.cls := hown
  have hl0 : lv_has ls 2 [(0, .ref a0), (1, .int a1)] := hlA
  unfold w_F_dancerOrNull at h
  refine lv_iload_n hx hb d_F_dancerOrNull_0 rfl (lv_at hl0 1 rfl) ?_
  refine lv_if_lt (tgt := 29) hx hb d_F_dancerOrNull_1 (by decide) (fun hc12 => ?_) (fun hc12 => ?_)
  · replace h := h.1 hc12
    refine gnull hx hb d_F_dancerOrNull_29 ?_
    exact garet (o := none) hx hb hr (Or.inl ⟨_, rfl⟩) hlocks hK hG gle.rf ⟨h, rfl⟩ (Nat.le_of_ble_eq_true rfl) (Nat.le_of_ble_eq_true rfl) d_F_dancerOrNull_30
  · replace h := h.2 hc12
    refine lv_iload_n hx hb d_F_dancerOrNull_4 rfl (lv_at hl0 1 rfl) ?_
    refine lv_aload_n hx hb d_F_dancerOrNull_5 rfl (lv_at hl0 0 rfl) ?_
    refine gget hx hb hw hown hK hG kd_F fa0 rfl 0 (by decide) rfl tw_183 (fun _ h9 => h9) d_F_dancerOrNull_6 ?_
    refine gtopq (fun o1 eo1 => ?_)
    replace h := h o1 eo1
    obtain ⟨y2, ey2, h⟩ := h
    subst ey2
    obtain ⟨f3, h⟩ := h
    -- call AL_size
    refine gpi hK hG (va_runV (As := []) (rest := [.int a1]) ⟨hx, hb, hml, hown, hw⟩ (m_AL_size l x S _ y2 f3 h) ⟨gcb hw tw_284 tw_32 tw_289 hd_AL_size rfl rfl ⟨(Nat.le_of_ble_eq_true rfl), (Nat.le_of_ble_eq_true rfl)⟩, hw _ tw_282, hw _ tw_283⟩ (gpV hK hG kd_AL f3 rfl) rfl rfl hl0.1 rfl (lv_room (Nat.le_of_ble_eq_true rfl)) d_F_dancerOrNull_9 ⟨(Nat.le_of_ble_eq_true rfl), (Nat.le_of_ble_eq_true rfl)⟩) (fun r4 H locs h9 hG => ?_)
    replace h := h9
    clear h9
    refine lv_icmp_ge (tgt := 29) hx hb d_F_dancerOrNull_12 (by decide) (fun hc11 => ?_) (fun hc11 => ?_)
    · replace h := h.1 hc11
      refine gnull hx hb d_F_dancerOrNull_29 ?_
      exact garet (o := none) hx hb hr (Or.inl ⟨_, rfl⟩) hlocks hK hG gle.rf ⟨h, rfl⟩ (Nat.le_of_ble_eq_true rfl) (Nat.le_of_ble_eq_true rfl) d_F_dancerOrNull_30
    · replace h := h.2 hc11
      refine lv_aload_n hx hb d_F_dancerOrNull_15 rfl (lv_at hl0 0 rfl) ?_
      refine gget hx hb hw hown hK hG kd_F fa0 rfl 0 (by decide) rfl tw_183 (fun _ h9 => h9) d_F_dancerOrNull_16 ?_
      refine gtopq (fun o5 eo5 => ?_)
      replace h := h o5 eo5
      refine lv_iload_n hx hb d_F_dancerOrNull_19 rfl (lv_at hl0 1 rfl) ?_
      obtain ⟨y6, ey6, h⟩ := h
      subst ey6
      obtain ⟨f7, h⟩ := h
      -- call AL_get
      refine gpq hK hG (va_runV (As := [.int a1]) (rest := []) ⟨hx, hb, hml, hown, hw⟩ (m_AL_get l x S _ y6 a1 f7 h) ⟨gcb hw tw_293 tw_32 tw_290 hd_AL_get rfl rfl ⟨(Nat.le_of_ble_eq_true rfl), (Nat.le_of_ble_eq_true rfl)⟩, hw _ tw_291, hw _ tw_292⟩ (gpV hK hG kd_AL f7 rfl) rfl rfl hl0.1 rfl (lv_room (Nat.le_of_ble_eq_true rfl)) d_F_dancerOrNull_20 ⟨(Nat.le_of_ble_eq_true rfl), (Nat.le_of_ble_eq_true rfl)⟩) (fun o8 H locs h9 hG => ?_)
      replace h := h9
      clear h9
      obtain ⟨y9, ey9, h⟩ := h
      subst ey9
      obtain ⟨f10, h⟩ := h
      refine gcast hx hb hw hown hK hG kd_R tw_302 f10 rfl d_F_dancerOrNull_23 ?_
      refine lv_goto (tgt := 30) hx hb d_F_dancerOrNull_26 (by decide) ?_
      exact garet (o := (some y9)) hx hb hr (Or.inl ⟨_, rfl⟩) hlocks hK hG gle.rf ⟨h, rfl⟩ (Nat.le_of_ble_eq_true rfl) (Nat.le_of_ble_eq_true rfl) d_F_dancerOrNull_30
def w_F_whoIsAt (post : Option Nat → Prop) (S : St) (a0 : Nat) (a1 : Int32) (a2 : Int32) : Prop :=
  ∃ J2 : Nat → Int32 → Prop, (∃ n : Nat, J2 n 0) ∧ ∀ (n2 : Nat) (v3_2 : Int32), J2 n2 v3_2 → ∀ o3 : Option Nat, o3 = sQ S 21 a0 → ∃ y4 : Nat, o3 = some y4 ∧ isA S 0 y4 ∧ w_AL_size (fun (r6 : Int32) => (r6 ≤ v3_2 → post none) ∧ (¬ r6 ≤ v3_2 → ∀ o7 : Option Nat, o7 = sQ S 21 a0 → ∃ y8 : Nat, o7 = some y8 ∧ isA S 0 y8 ∧ w_AL_get (fun (o10 : Option Nat) => ∃ y11 : Nat, o10 = some y11 ∧ isA S 2 y11 ∧ ∃ J47 : Prop, (J47 → ∀ v15 : Int32, v15 = v3_2 + 1 → ∃ nx : Nat, nx < n2 ∧ J2 nx v15) ∧ ((sI S 7 y11) = a1 → ((sI S 8 y11) = a2 → post (some y11)) ∧ (¬ (sI S 8 y11) = a2 → J47)) ∧ (¬ (sI S 7 y11) = a1 → J47)) S y8 v3_2)) S y4
set_option maxHeartbeats 4000000 in
set_option maxRecDepth 100000 in
theorem m_F_whoIsAt (l : Launch) (x : Cx) (S : St) (post : Option Nat → Prop) (a0 : Nat) (a1 : Int32) (a2 : Int32) (fa0 : isA S 3 a0) (h : w_F_whoIsAt post S a0 a1 a2) : Met l y_F_whoIsAt [.code y_F_whoIsAt c_F_whoIsAt 5 (some (.object "WaltzHall$Dancer"))] { frames := 3, cells := 0, slots := 0, locals := 64 } (va_Pc [.ref a0, .int a1, .int a2] (GW x S)) (va_Qq (gPu post S) (gB x S) (xA x)) 0 0 (xA x) := by
  refine gMet (by decide +kernel) (Nat.le_of_ble_eq_true rfl) ?_
  intro p e s m args below meth c hx hb hr hown hlocks hin hw hK H locs hG ls hlA hml
  have hown : s.vm.findClass "WaltzHall$Floor" = some m.cls := hown
  have hl0 : lv_has ls 5 [(0, .ref a0), (1, .int a1), (2, .int a2)] := hlA
  unfold w_F_whoIsAt at h
  refine lv_iconst (v := 0) hx hb d_F_whoIsAt_0 (by decide) ?_
  refine lv_istore_n (i := 3) (lv' := [(3, .int 0), (0, .ref a0), (1, .int a1), (2, .int a2)]) hx hb d_F_whoIsAt_1 rfl hl0 (by decide) rfl (fun ls hl1 => ?_)
  have leS : gle S S := gle.rf
  obtain ⟨J2, ⟨n0_2, h0_2⟩, hJ2⟩ := h
  have k2 : ∀ (n2 : Nat) (v3_2 : Int32) (H : Heap) (locs : List Loc) (ls : Array Slot), GH x S s H locs → lv_has ls 5 [(0, .ref a0), (1, .int a1), (2, .int a2), (3, .int v3_2)] → J2 n2 v3_2 → W p l e { frames := 3, cells := 0, slots := 0, locals := 64 } s m args below meth c H locs 0 0 (MQ below (va_Qq (gPu post S) (gB x S) (xA x)) args s 0 0 (xA x)) (F0 m 2 ls []) := by
    intro n2
    induction n2 using Nat.strongRecOn with
    | _ n2 ih2 =>
      intro v3_2 H locs ls hG hl2 hj
      replace h := hJ2 n2 v3_2 hj
      refine lv_iload_n hx hb d_F_whoIsAt_2 rfl (lv_at hl2 3 rfl) ?_
      refine lv_aload_n hx hb d_F_whoIsAt_3 rfl (lv_at hl2 0 rfl) ?_
      refine gget hx hb hw hown hK hG kd_F fa0 rfl 0 (by decide) rfl tw_183 (fun _ h9 => h9) d_F_whoIsAt_4 ?_
      refine gtopq (fun o3 eo3 => ?_)
      replace h := h o3 eo3
      obtain ⟨y4, ey4, h⟩ := h
      subst ey4
      obtain ⟨f5, h⟩ := h
      -- call AL_size
      refine gpi hK hG (va_runV (As := []) (rest := [.int v3_2]) ⟨hx, hb, hml, hown, hw⟩ (m_AL_size l x S _ y4 f5 h) ⟨gcb hw tw_284 tw_32 tw_289 hd_AL_size rfl rfl ⟨(Nat.le_of_ble_eq_true rfl), (Nat.le_of_ble_eq_true rfl)⟩, hw _ tw_282, hw _ tw_283⟩ (gpV hK hG kd_AL f5 rfl) rfl rfl hl2.1 rfl (lv_room (Nat.le_of_ble_eq_true rfl)) d_F_whoIsAt_7 ⟨(Nat.le_of_ble_eq_true rfl), (Nat.le_of_ble_eq_true rfl)⟩) (fun r6 H locs h9 hG => ?_)
      replace h := h9
      clear h9
      refine lv_icmp_ge (tgt := 53) hx hb d_F_whoIsAt_10 (by decide) (fun hc19 => ?_) (fun hc19 => ?_)
      · replace h := h.1 hc19
        refine gnull hx hb d_F_whoIsAt_53 ?_
        exact garet (o := none) hx hb hr (Or.inl ⟨_, rfl⟩) hlocks hK hG leS ⟨h, rfl⟩ (Nat.le_of_ble_eq_true rfl) (Nat.le_of_ble_eq_true rfl) d_F_whoIsAt_54
      · replace h := h.2 hc19
        refine lv_aload_n hx hb d_F_whoIsAt_13 rfl (lv_at hl2 0 rfl) ?_
        refine gget hx hb hw hown hK hG kd_F fa0 rfl 0 (by decide) rfl tw_183 (fun _ h9 => h9) d_F_whoIsAt_14 ?_
        refine gtopq (fun o7 eo7 => ?_)
        replace h := h o7 eo7
        refine lv_iload_n hx hb d_F_whoIsAt_17 rfl (lv_at hl2 3 rfl) ?_
        obtain ⟨y8, ey8, h⟩ := h
        subst ey8
        obtain ⟨f9, h⟩ := h
        -- call AL_get
        refine gpq hK hG (va_runV (As := [.int v3_2]) (rest := []) ⟨hx, hb, hml, hown, hw⟩ (m_AL_get l x S _ y8 v3_2 f9 h) ⟨gcb hw tw_293 tw_32 tw_290 hd_AL_get rfl rfl ⟨(Nat.le_of_ble_eq_true rfl), (Nat.le_of_ble_eq_true rfl)⟩, hw _ tw_291, hw _ tw_292⟩ (gpV hK hG kd_AL f9 rfl) rfl rfl hl2.1 rfl (lv_room (Nat.le_of_ble_eq_true rfl)) d_F_whoIsAt_18 ⟨(Nat.le_of_ble_eq_true rfl), (Nat.le_of_ble_eq_true rfl)⟩) (fun o10 H locs h9 hG => ?_)
        replace h := h9
        clear h9
        obtain ⟨y11, ey11, h⟩ := h
        subst ey11
        obtain ⟨f12, h⟩ := h
        refine gcast hx hb hw hown hK hG kd_R tw_302 f12 rfl d_F_whoIsAt_21 ?_
        refine lv_astore (lv' := [(4, .ref y11), (0, .ref a0), (1, .int a1), (2, .int a2), (3, .int v3_2)]) hx hb d_F_whoIsAt_24 hl2 (by decide) rfl (fun ls hl13 => ?_)
        refine lv_aload hx hb d_F_whoIsAt_26 (lv_at hl13 0 rfl) ?_
        refine gget hx hb hw hown hK hG kd_R f12 rfl 1 (by decide) rfl tw_577 (fun _ h9 => h9) d_F_whoIsAt_28 ?_
        refine lv_iload_n hx hb d_F_whoIsAt_31 rfl (lv_at hl13 2 rfl) ?_
        obtain ⟨J47, hJ47, h⟩ := h
        have k47 : ∀ (H : Heap) (locs : List Loc) (ls : Array Slot), GH x S s H locs → lv_has ls 5 [(0, .ref a0), (1, .int a1), (2, .int a2), (3, .int v3_2)] → J47 → W p l e { frames := 3, cells := 0, slots := 0, locals := 64 } s m args below meth c H locs 0 0 (MQ below (va_Qq (gPu post S) (gB x S) (xA x)) args s 0 0 (xA x)) (F0 m 47 ls []) := by
          intro  H locs ls hG hl14 hj
          replace h := hJ47 hj
          obtain ⟨v15, ev15⟩ : ∃ z : Int32, z = v3_2 + 1 := ⟨_, rfl⟩
          replace h := h v15 ev15
          refine lv_iinc (v := v15) (lv' := [(3, .int v15), (0, .ref a0), (1, .int a1), (2, .int a2)]) hx hb d_F_whoIsAt_47 hl14 (k := 3) rfl (by rw [ev15]; rfl) (by decide) rfl (fun ls hl16 => ?_)
          refine lv_goto (tgt := 2) hx hb d_F_whoIsAt_50 (by decide) ?_
          obtain ⟨nx, hnx, h⟩ := h
          exact ih2 nx hnx v15 H locs ls hG (lv_sub hl16 [1, 2, 3, 0] rfl) h
        refine lv_icmp_ne (tgt := 47) hx hb d_F_whoIsAt_32 (by decide) (fun hc18 => ?_) (fun hc18 => ?_)
        · replace h := h.2 hc18
          exact k47 H locs ls hG (lv_sub hl13 [1, 2, 3, 4] rfl) h
        · replace h := h.1 hc18
          refine lv_aload hx hb d_F_whoIsAt_35 (lv_at hl13 0 rfl) ?_
          refine gget hx hb hw hown hK hG kd_R f12 rfl 2 (by decide) rfl tw_581 (fun _ h9 => h9) d_F_whoIsAt_37 ?_
          refine lv_iload_n hx hb d_F_whoIsAt_40 rfl (lv_at hl13 3 rfl) ?_
          refine lv_icmp_ne (tgt := 47) hx hb d_F_whoIsAt_41 (by decide) (fun hc17 => ?_) (fun hc17 => ?_)
          · replace h := h.2 hc17
            exact k47 H locs ls hG (lv_sub hl13 [1, 2, 3, 4] rfl) h
          · replace h := h.1 hc17
            refine lv_aload hx hb d_F_whoIsAt_44 (lv_at hl13 0 rfl) ?_
            exact garet (o := (some y11)) hx hb hr (Or.inl ⟨_, rfl⟩) hlocks hK hG leS ⟨h, rfl⟩ (Nat.le_of_ble_eq_true rfl) (Nat.le_of_ble_eq_true rfl) d_F_whoIsAt_46
  exact k2 n0_2 0 H locs ls hG (lv_sub hl1 [1, 2, 3, 0] rfl) h0_2
def w_F_areBeside (post : Int32 → Prop) (S : St) (a0 : Nat) (a1 : Int32) (a2 : Int32) : Prop :=
  w_F_dancerOrNull (fun (o1 : Option Nat) => w_F_dancerOrNull (fun (o3 : Option Nat) => (o1 = none → post 0) ∧ (∀ y5 : Nat, o1 = some y5 → (o3 = none → post 0) ∧ (∀ y6 : Nat, o3 = some y6 → isA S 2 y5 ∧ w_R_isBeside (fun (r8 : Int32) => (r8 = 0 → post 0) ∧ (¬ r8 = 0 → post 1)) S y5 (some y6)))) S a0 a2) S a0 a1
set_option maxHeartbeats 4000000 in
set_option maxRecDepth 100000 in
theorem m_F_areBeside (l : Launch) (x : Cx) (S : St) (post : Int32 → Prop) (a0 : Nat) (a1 : Int32) (a2 : Int32) (fa0 : isA S 3 a0) (h : w_F_areBeside post S a0 a1 a2) : Met l y_F_areBeside [.code y_F_areBeside c_F_areBeside 5 (some .boolean)] { frames := 4, cells := 0, slots := 0, locals := 85 } (va_Pc [.ref a0, .int a1, .int a2] (GW x S)) (va_Qi (gPu post S) (gB x S) (xA x)) 0 0 (xA x) := by
  refine gMet (by decide +kernel) (Nat.le_of_ble_eq_true rfl) ?_
  intro p e s m args below meth c hx hb hr hown hlocks hin hw hK H locs hG ls hlA hml
  have hown : s.vm.findClass "WaltzHall$Floor" = some m.cls := hown
  have hl0 : lv_has ls 5 [(0, .ref a0), (1, .int a1), (2, .int a2)] := hlA
  unfold w_F_areBeside at h
  refine lv_aload_n hx hb d_F_areBeside_0 rfl (lv_at hl0 0 rfl) ?_
  refine lv_iload_n hx hb d_F_areBeside_1 rfl (lv_at hl0 1 rfl) ?_
  -- call F_dancerOrNull
  refine gpq hK hG (va_runV (As := [.int a1]) (rest := []) ⟨hx, hb, hml, hown, hw⟩ (m_F_dancerOrNull l x S _ a0 a1 fa0 h) ⟨gcb hw tw_658 tw_38 tw_863 hd_F_dancerOrNull rfl rfl ⟨(Nat.le_of_ble_eq_true rfl), (Nat.le_of_ble_eq_true rfl)⟩, hw _ tw_656, hw _ tw_657⟩ (gpV hK hG kd_F fa0 rfl) rfl rfl hl0.1 rfl (lv_room (Nat.le_of_ble_eq_true rfl)) d_F_areBeside_2 ⟨(Nat.le_of_ble_eq_true rfl), (Nat.le_of_ble_eq_true rfl)⟩) (fun o1 H locs h9 hG => ?_)
  replace h := h9
  clear h9
  refine gastore_n (i := 3) (lv' := [(3, va_rf o1), (0, .ref a0), (1, .int a1), (2, .int a2)]) hx hb d_F_areBeside_5 rfl hl0 (by decide) rfl (fun ls hl2 => ?_)
  refine lv_aload_n hx hb d_F_areBeside_6 rfl (lv_at hl2 1 rfl) ?_
  refine lv_iload_n hx hb d_F_areBeside_7 rfl (lv_at hl2 3 rfl) ?_
  -- call F_dancerOrNull
  refine gpq hK hG (va_runV (As := [.int a2]) (rest := []) ⟨hx, hb, hml, hown, hw⟩ (m_F_dancerOrNull l x S _ a0 a2 fa0 h) ⟨gcb hw tw_658 tw_38 tw_863 hd_F_dancerOrNull rfl rfl ⟨(Nat.le_of_ble_eq_true rfl), (Nat.le_of_ble_eq_true rfl)⟩, hw _ tw_656, hw _ tw_657⟩ (gpV hK hG kd_F fa0 rfl) rfl rfl hl2.1 rfl (lv_room (Nat.le_of_ble_eq_true rfl)) d_F_areBeside_8 ⟨(Nat.le_of_ble_eq_true rfl), (Nat.le_of_ble_eq_true rfl)⟩) (fun o3 H locs h9 hG => ?_)
  replace h := h9
  clear h9
  refine gastore (lv' := [(4, va_rf o3), (3, va_rf o1), (0, .ref a0), (1, .int a1), (2, .int a2)]) hx hb d_F_areBeside_11 hl2 (by decide) (by simp [gCat, gCatB, gci1, gcr1, gcl1, gcd1] <;> rfl) (fun ls hl4 => ?_)
  refine gaload_n hx hb d_F_areBeside_13 rfl (lv_at hl4 1 rfl) ?_
  refine gifnull (tgt := 35) hx hb d_F_areBeside_14 (by decide) (fun e9 => ?_) (fun y5 e9 => ?_)
  · replace h := h.1 e9
    subst e9
    refine lv_iconst (v := 0) hx hb d_F_areBeside_35 (by decide) ?_
    exact gzret hx hb hr rfl hlocks hK hG gle.rf ⟨h, rfl⟩ (Nat.le_of_ble_eq_true rfl) (Nat.le_of_ble_eq_true rfl) d_F_areBeside_36
  · replace h := h.2 y5 e9
    subst e9
    refine gaload hx hb d_F_areBeside_17 (lv_at hl4 0 rfl) ?_
    refine gifnull (tgt := 35) hx hb d_F_areBeside_19 (by decide) (fun e9 => ?_) (fun y6 e9 => ?_)
    · replace h := h.1 e9
      subst e9
      refine lv_iconst (v := 0) hx hb d_F_areBeside_35 (by decide) ?_
      exact gzret hx hb hr rfl hlocks hK hG gle.rf ⟨h, rfl⟩ (Nat.le_of_ble_eq_true rfl) (Nat.le_of_ble_eq_true rfl) d_F_areBeside_36
    · replace h := h.2 y6 e9
      subst e9
      refine lv_aload_n hx hb d_F_areBeside_22 rfl (lv_at hl4 1 rfl) ?_
      refine lv_aload hx hb d_F_areBeside_23 (lv_at hl4 0 rfl) ?_
      obtain ⟨f7, h⟩ := h
      -- call R_isBeside
      refine gpi hK hG (va_runV (As := [.ref y6]) (rest := []) ⟨hx, hb, hml, hown, hw⟩ (m_R_isBeside l x S _ y5 (some y6) f7 h) ⟨gcb hw tw_671 tw_52 tw_927 hd_R_isBeside rfl rfl ⟨(Nat.le_of_ble_eq_true rfl), (Nat.le_of_ble_eq_true rfl)⟩, hw _ tw_669, hw _ tw_670⟩ (gpV hK hG kd_R f7 rfl) rfl rfl hl4.1 rfl (lv_room (Nat.le_of_ble_eq_true rfl)) d_F_areBeside_25 ⟨(Nat.le_of_ble_eq_true rfl), (Nat.le_of_ble_eq_true rfl)⟩) (fun r8 H locs h9 hG => ?_)
      replace h := h9
      clear h9
      refine lv_if_eq (tgt := 35) hx hb d_F_areBeside_28 (by decide) (fun hc9 => ?_) (fun hc9 => ?_)
      · replace h := h.1 hc9
        refine lv_iconst (v := 0) hx hb d_F_areBeside_35 (by decide) ?_
        exact gzret hx hb hr rfl hlocks hK hG gle.rf ⟨h, rfl⟩ (Nat.le_of_ble_eq_true rfl) (Nat.le_of_ble_eq_true rfl) d_F_areBeside_36
      · replace h := h.2 hc9
        refine lv_iconst (v := 1) hx hb d_F_areBeside_31 (by decide) ?_
        refine lv_goto (tgt := 36) hx hb d_F_areBeside_32 (by decide) ?_
        exact gzret hx hb hr rfl hlocks hK hG gle.rf ⟨h, rfl⟩ (Nat.le_of_ble_eq_true rfl) (Nat.le_of_ble_eq_true rfl) d_F_areBeside_36
def w_F_restartBehindTheEndOf (post : St → Prop) (S : St) (a0 : Nat) (a1 : Option Nat) : Prop :=
  ∃ J2 : Nat → St → Int32 → Prop, (∃ n : Nat, J2 n S 0) ∧ ∀ (n2 : Nat) (S_2 : St) (v2_2 : Int32), J2 n2 S_2 v2_2 → ∀ o3 : Option Nat, o3 = sQ S_2 21 a0 → ∃ y4 : Nat, o3 = some y4 ∧ isA S_2 0 y4 ∧ w_AL_size (fun (r6 : Int32) => (r6 ≤ v2_2 → post S_2) ∧ (¬ r6 ≤ v2_2 → ∀ o7 : Option Nat, o7 = sQ S_2 21 a0 → ∃ y8 : Nat, o7 = some y8 ∧ isA S_2 0 y8 ∧ w_AL_get (fun (o10 : Option Nat) => ∃ y11 : Nat, o10 = some y11 ∧ isA S_2 2 y11 ∧ ∀ o14 : Option Nat, o14 = sQ S_2 12 y11 → ∃ J49 : St → Prop, (∀ (S_49 : St), J49 S_49 → ∀ v16 : Int32, v16 = v2_2 + 1 → ∃ nx : Nat, nx < n2 ∧ J2 nx S_49 v16) ∧ (o14 = a1 → ∃ y18 : Nat, a1 = some y18 ∧ isA S_2 1 y18 ∧ ((sI S_2 13 y11) < (sI S_2 5 y18) → J49 S_2) ∧ (¬ (sI S_2 13 y11) < (sI S_2 5 y18) → ∀ S20 : St, S20 = pI S_2 13 y11 0 → J49 S20)) ∧ (¬ o14 = a1 → J49 S_2)) S_2 y8 v2_2)) S_2 y4
set_option maxHeartbeats 4000000 in
set_option maxRecDepth 100000 in
theorem m_F_restartBehindTheEndOf (l : Launch) (x : Cx) (S : St) (post : St → Prop) (a0 : Nat) (a1 : Option Nat) (fa0 : isA S 3 a0) (h : w_F_restartBehindTheEndOf post S a0 a1) : Met l y_F_restartBehindTheEndOf [.code y_F_restartBehindTheEndOf c_F_restartBehindTheEndOf 4 none] { frames := 3, cells := 0, slots := 0, locals := 64 } (va_Pc [.ref a0, va_rf a1] (GW x S)) (va_Qv post (gB x S) (xA x)) 0 0 (xA x) := by
  refine gMet (by decide +kernel) (by simp [lg_sl, gCat, gci1, gcr1, gcl1, gcd1]) ?_
  intro p e s m args below meth c hx hb hr hown hlocks hin hw hK H locs hG ls hlA hml
  have hown : s.vm.findClass "WaltzHall$Floor" = some m.cls := hown
  have hl0 : lv_has ls 4 [(0, .ref a0), (1, va_rf a1)] := hlA
  have leS : gle S S := gle.rf
  unfold w_F_restartBehindTheEndOf at h
  refine lv_iconst (v := 0) hx hb d_F_restartBehindTheEndOf_0 (by decide) ?_
  refine lv_istore_n (i := 2) (lv' := [(2, .int 0), (0, .ref a0), (1, va_rf a1)]) hx hb d_F_restartBehindTheEndOf_1 rfl hl0 (by decide) (by simp [gCat, gCatB, gci1, gcr1, gcl1, gcd1] <;> rfl) (fun ls hl1 => ?_)
  obtain ⟨J2, ⟨n0_2, h0_2⟩, hJ2⟩ := h
  have k2 : ∀ (n2 : Nat) (S_2 : St) (v2_2 : Int32) (H : Heap) (locs : List Loc) (ls : Array Slot), gle S S_2 → GH x S_2 s H locs → lv_has ls 4 [(0, .ref a0), (1, va_rf a1), (2, .int v2_2)] → J2 n2 S_2 v2_2 → W p l e { frames := 3, cells := 0, slots := 0, locals := 64 } s m args below meth c H locs 0 0 (MQ below (va_Qv post (gB x S) (xA x)) args s 0 0 (xA x)) (F0 m 2 ls []) := by
    intro n2
    induction n2 using Nat.strongRecOn with
    | _ n2 ih2 =>
      intro S_2 v2_2 H locs ls hle1 hG hl2 hj
      replace h := hJ2 n2 S_2 v2_2 hj
      have fa0 := gle_isA hle1 fa0
      have leS := leS.tr hle1
      refine lv_iload_n hx hb d_F_restartBehindTheEndOf_2 rfl (lv_at hl2 2 rfl) ?_
      refine lv_aload_n hx hb d_F_restartBehindTheEndOf_3 rfl (lv_at hl2 0 rfl) ?_
      refine gget hx hb hw hown hK hG kd_F fa0 rfl 0 (by decide) rfl tw_183 (fun _ h9 => h9) d_F_restartBehindTheEndOf_4 ?_
      refine gtopq (fun o3 eo3 => ?_)
      replace h := h o3 eo3
      obtain ⟨y4, ey4, h⟩ := h
      subst ey4
      obtain ⟨f5, h⟩ := h
      -- call AL_size
      refine gpi hK hG (va_runV (As := []) (rest := [.int v2_2]) ⟨hx, hb, hml, hown, hw⟩ (m_AL_size l x S_2 _ y4 f5 h) ⟨gcb hw tw_284 tw_32 tw_289 hd_AL_size rfl rfl ⟨(Nat.le_of_ble_eq_true rfl), (Nat.le_of_ble_eq_true rfl)⟩, hw _ tw_282, hw _ tw_283⟩ (gpV hK hG kd_AL f5 rfl) rfl rfl hl2.1 rfl (lv_room (Nat.le_of_ble_eq_true rfl)) d_F_restartBehindTheEndOf_7 ⟨(Nat.le_of_ble_eq_true rfl), (Nat.le_of_ble_eq_true rfl)⟩) (fun r6 H locs h9 hG => ?_)
      replace h := h9
      clear h9
      refine lv_icmp_ge (tgt := 55) hx hb d_F_restartBehindTheEndOf_10 (by decide) (fun hc23 => ?_) (fun hc23 => ?_)
      · replace h := h.1 hc23
        exact gvret hx hb hr hlocks hK hG leS h (Nat.le_of_ble_eq_true rfl) (Nat.le_of_ble_eq_true rfl) d_F_restartBehindTheEndOf_55
      · replace h := h.2 hc23
        refine lv_aload_n hx hb d_F_restartBehindTheEndOf_13 rfl (lv_at hl2 0 rfl) ?_
        refine gget hx hb hw hown hK hG kd_F fa0 rfl 0 (by decide) rfl tw_183 (fun _ h9 => h9) d_F_restartBehindTheEndOf_14 ?_
        refine gtopq (fun o7 eo7 => ?_)
        replace h := h o7 eo7
        refine lv_iload_n hx hb d_F_restartBehindTheEndOf_17 rfl (lv_at hl2 2 rfl) ?_
        obtain ⟨y8, ey8, h⟩ := h
        subst ey8
        obtain ⟨f9, h⟩ := h
        -- call AL_get
        refine gpq hK hG (va_runV (As := [.int v2_2]) (rest := []) ⟨hx, hb, hml, hown, hw⟩ (m_AL_get l x S_2 _ y8 v2_2 f9 h) ⟨gcb hw tw_293 tw_32 tw_290 hd_AL_get rfl rfl ⟨(Nat.le_of_ble_eq_true rfl), (Nat.le_of_ble_eq_true rfl)⟩, hw _ tw_291, hw _ tw_292⟩ (gpV hK hG kd_AL f9 rfl) rfl rfl hl2.1 rfl (lv_room (Nat.le_of_ble_eq_true rfl)) d_F_restartBehindTheEndOf_18 ⟨(Nat.le_of_ble_eq_true rfl), (Nat.le_of_ble_eq_true rfl)⟩) (fun o10 H locs h9 hG => ?_)
        replace h := h9
        clear h9
        obtain ⟨y11, ey11, h⟩ := h
        subst ey11
        obtain ⟨f12, h⟩ := h
        refine gcast hx hb hw hown hK hG kd_R tw_302 f12 rfl d_F_restartBehindTheEndOf_21 ?_
        refine lv_astore_n (i := 3) (lv' := [(3, .ref y11), (0, .ref a0), (1, va_rf a1), (2, .int v2_2)]) hx hb d_F_restartBehindTheEndOf_24 rfl hl2 (by decide) rfl (fun ls hl13 => ?_)
        refine lv_aload_n hx hb d_F_restartBehindTheEndOf_25 rfl (lv_at hl13 0 rfl) ?_
        refine gget hx hb hw hown hK hG kd_R f12 rfl 6 (by decide) rfl tw_593 (fun _ h9 => h9) d_F_restartBehindTheEndOf_26 ?_
        refine gtopq (fun o14 eo14 => ?_)
        replace h := h o14 eo14
        refine gaload_n hx hb d_F_restartBehindTheEndOf_29 rfl (lv_at hl13 2 rfl) ?_
        have leS_2 : gle S_2 S_2 := gle.rf
        obtain ⟨J49, hJ49, h⟩ := h
        have k49 : ∀ (S_49 : St) (H : Heap) (locs : List Loc) (ls : Array Slot), gle S_2 S_49 → GH x S_49 s H locs → lv_has ls 4 [(0, .ref a0), (1, va_rf a1), (2, .int v2_2)] → J49 S_49 → W p l e { frames := 3, cells := 0, slots := 0, locals := 64 } s m args below meth c H locs 0 0 (MQ below (va_Qv post (gB x S) (xA x)) args s 0 0 (xA x)) (F0 m 49 ls []) := by
          intro S_49  H locs ls hle1 hG hl15 hj
          replace h := hJ49 S_49 hj
          have fa0 := gle_isA hle1 fa0
          have f5 := gle_isA hle1 f5
          have f9 := gle_isA hle1 f9
          have f12 := gle_isA hle1 f12
          have leS := leS.tr hle1
          have leS_2 := leS_2.tr hle1
          obtain ⟨v16, ev16⟩ : ∃ z : Int32, z = v2_2 + 1 := ⟨_, rfl⟩
          replace h := h v16 ev16
          refine lv_iinc (v := v16) (lv' := [(2, .int v16), (0, .ref a0), (1, va_rf a1)]) hx hb d_F_restartBehindTheEndOf_49 hl15 (k := 2) rfl (by rw [ev16]; rfl) (by decide) (by simp [gCat, gCatB, gci1, gcr1, gcl1, gcd1] <;> rfl) (fun ls hl17 => ?_)
          refine lv_goto (tgt := 2) hx hb d_F_restartBehindTheEndOf_52 (by decide) ?_
          obtain ⟨nx, hnx, h⟩ := h
          exact ih2 nx hnx S_49 v16 H locs ls leS hG (lv_sub hl17 [1, 2, 0] rfl) h
        refine lv_acmp_ne (rx := o14) (ry := a1) (tgt := 49) hx hb d_F_restartBehindTheEndOf_30 (by decide) (fun hc22 => ?_) (fun hc22 => ?_)
        · replace h := h.2 hc22
          exact k49 S_2 H locs ls leS_2 hG (lv_sub hl13 [1, 2, 3] rfl) h
        · replace h := h.1 hc22
          refine lv_aload_n hx hb d_F_restartBehindTheEndOf_33 rfl (lv_at hl13 0 rfl) ?_
          refine gget hx hb hw hown hK hG kd_R f12 rfl 7 (by decide) rfl tw_596 (fun _ h9 => h9) d_F_restartBehindTheEndOf_34 ?_
          refine gaload_n hx hb d_F_restartBehindTheEndOf_37 rfl (lv_at hl13 2 rfl) ?_
          obtain ⟨y18, ey18, h⟩ := h
          subst ey18
          obtain ⟨f19, h⟩ := h
          refine gget hx hb hw hown hK hG kd_D f19 rfl 2 (by decide) rfl tw_167 (fun _ h9 => h9) d_F_restartBehindTheEndOf_38 ?_
          refine lv_icmp_lt (tgt := 49) hx hb d_F_restartBehindTheEndOf_41 (by decide) (fun hc21 => ?_) (fun hc21 => ?_)
          · replace h := h.1 hc21
            exact k49 S_2 H locs ls leS_2 hG (lv_sub hl13 [1, 2, 3] rfl) h
          · replace h := h.2 hc21
            refine lv_aload_n hx hb d_F_restartBehindTheEndOf_44 rfl (lv_at hl13 0 rfl) ?_
            refine lv_iconst (v := 0) hx hb d_F_restartBehindTheEndOf_45 (by decide) ?_
            refine gput (S' := pI S_2 13 y11 0) hx hb hw hown hK hG kd_R f12 rfl 7 (by decide) (gChI f12 rfl) tw_596 (fun _ h9 => h9) rfl rfl rfl rfl (Nat.le_of_ble_eq_true rfl) d_F_restartBehindTheEndOf_46 (fun S20 H locs eS20 hle1 hG => ?_)
            replace h := h S20 eS20
            have fa0 := gle_isA hle1 fa0
            have f5 := gle_isA hle1 f5
            have f9 := gle_isA hle1 f9
            have f12 := gle_isA hle1 f12
            have f19 := gle_isA hle1 f19
            have leS := leS.tr hle1
            have leS_2 := leS_2.tr hle1
            exact k49 S20 H locs ls leS_2 hG (lv_sub hl13 [1, 2, 3] rfl) h
  exact k2 n0_2 S 0 H locs ls gle.rf hG (lv_sub hl1 [1, 2, 0] rfl) h0_2
def w_F_mayPerform (post : Int32 → Prop) (S : St) (a0 : Option Nat) : Prop :=
  ∃ y1 : Nat, a0 = some y1 ∧ isA S 2 y1 ∧ w_R_canDance (fun (r3 : Int32) => (r3 = 0 → post 0) ∧ (¬ r3 = 0 → ∀ o4 : Option Nat, o4 = sQ S 14 y1 → (o4 = none → post 1) ∧ (∀ y5 : Nat, o4 = some y5 → ∀ o6 : Option Nat, o6 = sQ S 14 y1 → ∃ y7 : Nat, o6 = some y7 ∧ isA S 2 y7 ∧ w_R_canDance (fun (r9 : Int32) => (r9 = 0 → post 0) ∧ (¬ r9 = 0 → post 1)) S y7))) S y1
set_option maxHeartbeats 4000000 in
set_option maxRecDepth 100000 in
theorem m_F_mayPerform (l : Launch) (x : Cx) (S : St) (post : Int32 → Prop) (a0 : Option Nat) (h : w_F_mayPerform post S a0) : Met l y_F_mayPerform [.code y_F_mayPerform c_F_mayPerform 1 (some .boolean)] { frames := 2, cells := 0, slots := 0, locals := 40 } (va_Pc [va_rf a0] (GW x S)) (va_Qi (gPu post S) (gB x S) (xA x)) 0 0 (xA x) := by
  refine gMet (by decide +kernel) (by simp [lg_sl, gCat, gci1, gcr1, gcl1, gcd1]) ?_
  intro p e s m args below meth c hx hb hr hown hlocks hin hw hK H locs hG ls hlA hml
  have hown : s.vm.findClass "WaltzHall$Floor" = some m.cls := hown
  have hl0 : lv_has ls 1 [(0, va_rf a0)] := hlA
  unfold w_F_mayPerform at h
  refine gaload_n hx hb d_F_mayPerform_0 rfl (lv_at hl0 0 rfl) ?_
  obtain ⟨y1, ey1, h⟩ := h
  subst ey1
  obtain ⟨f2, h⟩ := h
  -- call R_canDance
  refine gpi hK hG (va_runV (As := []) (rest := []) ⟨hx, hb, hml, hown, hw⟩ (m_R_canDance l x S _ y1 f2 h) ⟨gcb hw tw_806 tw_52 tw_803 hd_R_canDance rfl rfl ⟨(Nat.le_of_ble_eq_true rfl), (Nat.le_of_ble_eq_true rfl)⟩, hw _ tw_804, hw _ tw_805⟩ (gpV hK hG kd_R f2 rfl) rfl rfl hl0.1 rfl (lv_room (Nat.le_of_ble_eq_true rfl)) d_F_mayPerform_1 ⟨(Nat.le_of_ble_eq_true rfl), (Nat.le_of_ble_eq_true rfl)⟩) (fun r3 H locs h9 hG => ?_)
  replace h := h9
  clear h9
  refine lv_if_eq (tgt := 28) hx hb d_F_mayPerform_4 (by decide) (fun hc11 => ?_) (fun hc11 => ?_)
  · replace h := h.1 hc11
    refine lv_iconst (v := 0) hx hb d_F_mayPerform_28 (by decide) ?_
    exact gzret hx hb hr rfl hlocks hK hG gle.rf ⟨h, rfl⟩ (Nat.le_of_ble_eq_true rfl) (Nat.le_of_ble_eq_true rfl) d_F_mayPerform_29
  · replace h := h.2 hc11
    refine lv_aload_n hx hb d_F_mayPerform_7 rfl (lv_at hl0 0 rfl) ?_
    refine gget hx hb hw hown hK hG kd_R f2 rfl 8 (by decide) rfl tw_599 (fun _ h9 => h9) d_F_mayPerform_8 ?_
    refine gtopq (fun o4 eo4 => ?_)
    replace h := h o4 eo4
    refine gifnull (tgt := 24) hx hb d_F_mayPerform_11 (by decide) (fun e9 => ?_) (fun y5 e9 => ?_)
    · replace h := h.1 e9
      subst e9
      refine lv_iconst (v := 1) hx hb d_F_mayPerform_24 (by decide) ?_
      refine lv_goto (tgt := 29) hx hb d_F_mayPerform_25 (by decide) ?_
      exact gzret hx hb hr rfl hlocks hK hG gle.rf ⟨h, rfl⟩ (Nat.le_of_ble_eq_true rfl) (Nat.le_of_ble_eq_true rfl) d_F_mayPerform_29
    · replace h := h.2 y5 e9
      subst e9
      refine lv_aload_n hx hb d_F_mayPerform_14 rfl (lv_at hl0 0 rfl) ?_
      refine gget hx hb hw hown hK hG kd_R f2 rfl 8 (by decide) rfl tw_599 (fun _ h9 => h9) d_F_mayPerform_15 ?_
      refine gtopq (fun o6 eo6 => ?_)
      replace h := h o6 eo6
      obtain ⟨y7, ey7, h⟩ := h
      subst ey7
      obtain ⟨f8, h⟩ := h
      -- call R_canDance
      refine gpi hK hG (va_runV (As := []) (rest := []) ⟨hx, hb, hml, hown, hw⟩ (m_R_canDance l x S _ y7 f8 h) ⟨gcb hw tw_806 tw_52 tw_803 hd_R_canDance rfl rfl ⟨(Nat.le_of_ble_eq_true rfl), (Nat.le_of_ble_eq_true rfl)⟩, hw _ tw_804, hw _ tw_805⟩ (gpV hK hG kd_R f8 rfl) rfl rfl hl0.1 rfl (lv_room (Nat.le_of_ble_eq_true rfl)) d_F_mayPerform_18 ⟨(Nat.le_of_ble_eq_true rfl), (Nat.le_of_ble_eq_true rfl)⟩) (fun r9 H locs h9 hG => ?_)
      replace h := h9
      clear h9
      refine lv_if_eq (tgt := 28) hx hb d_F_mayPerform_21 (by decide) (fun hc10 => ?_) (fun hc10 => ?_)
      · replace h := h.1 hc10
        refine lv_iconst (v := 0) hx hb d_F_mayPerform_28 (by decide) ?_
        exact gzret hx hb hr rfl hlocks hK hG gle.rf ⟨h, rfl⟩ (Nat.le_of_ble_eq_true rfl) (Nat.le_of_ble_eq_true rfl) d_F_mayPerform_29
      · replace h := h.2 hc10
        refine lv_iconst (v := 1) hx hb d_F_mayPerform_24 (by decide) ?_
        refine lv_goto (tgt := 29) hx hb d_F_mayPerform_25 (by decide) ?_
        exact gzret hx hb hr rfl hlocks hK hG gle.rf ⟨h, rfl⟩ (Nat.le_of_ble_eq_true rfl) (Nat.le_of_ble_eq_true rfl) d_F_mayPerform_29
def w_F_aim (post : St → Prop) (S : St) (a0 : Option Nat) (a1 : Int32) : Prop :=
  ∃ y1 : Nat, a0 = some y1 ∧ isA S 2 y1 ∧ ∀ o3 : Option Nat, o3 = sQ S 14 y1 → w_R_aimAt (fun (S5 : St) => w_H_isWalk (fun (r6 : Int32) => ∃ J47 : St → Prop, (∀ (S_47 : St), J47 S_47 → (o3 = none → post S_47) ∧ (∀ y8 : Nat, o3 = some y8 → isA S_47 2 y8 ∧ w_R_aimAt (fun (S10 : St) => w_H_isWalk (fun (r11 : Int32) => (r11 = 0 → (a1 = 115 → w_R_aimAt (fun (S19 : St) => w_R_aimAt (fun (S20 : St) => post S20) S19 y8 (sI S19 7 y1) (sI S19 8 y1)) S10 y1 (sI S10 7 y8) (sI S10 8 y8)) ∧ (¬ a1 = 115 → w_H_quartersTurnedBy (fun (r12 : Int32) => (r12 = 0 → post S10) ∧ (¬ r12 = 0 → w_R_directionTo (fun (r13 : Int32) => w_H_quartersTurnedBy (fun (r14 : Int32) => w_H_turned (fun (r15 : Int32) => w_R_aimFrom (fun (S17 : St) => post S17) S10 y8 (sI S10 7 y1) (sI S10 8 y1) r15) S10 r13 r14) S10 a1) S10 y1 (some y8))) S10 a1)) ∧ (¬ r11 = 0 → w_H_quartersToWayOf (fun (r22 : Int32) => w_H_turned (fun (r23 : Int32) => w_R_aimFrom (fun (S24 : St) => post S24) S10 y8 (sI S10 7 y8) (sI S10 8 y8) r23) S10 (sI S10 9 y1) r22) S10 a1)) S10 a1) S_47 y8 (sI S_47 7 y8) (sI S_47 8 y8))) ∧ (r6 = 0 → J47 S5) ∧ (¬ r6 = 0 → w_H_quartersToWayOf (fun (r26 : Int32) => w_H_turned (fun (r27 : Int32) => w_R_aimFrom (fun (S28 : St) => J47 S28) S5 y1 (sI S5 7 y1) (sI S5 8 y1) r27) S5 (sI S5 9 y1) r26) S5 a1)) S5 a1) S y1 (sI S 7 y1) (sI S 8 y1)
set_option maxHeartbeats 4000000 in
set_option maxRecDepth 100000 in
theorem m_F_aim (l : Launch) (x : Cx) (S : St) (post : St → Prop) (a0 : Option Nat) (a1 : Int32) (h : w_F_aim post S a0 a1) : Met l y_F_aim [.code y_F_aim c_F_aim 4 none] { frames := 2, cells := 0, slots := 0, locals := 45 } (va_Pc [va_rf a0, .int a1] (GW x S)) (va_Qv post (gB x S) (xA x)) 0 0 (xA x) := by
  refine gMet (by decide +kernel) (by simp [lg_sl, gCat, gci1, gcr1, gcl1, gcd1]) ?_
  intro p e s m args below meth c hx hb hr hown hlocks hin hw hK H locs hG ls hlA hml
  have hown : s.vm.findClass "WaltzHall$Floor" = some m.cls := hown
  have hl0 : lv_has ls 4 [(0, va_rf a0), (1, .int a1)] := by simpa [lv_args, gCat, gci1, gcr1, gcl1, gcd1] using hlA
  have leS : gle S S := gle.rf
  unfold w_F_aim at h
  refine gaload_n hx hb d_F_aim_0 rfl (lv_at hl0 0 rfl) ?_
  obtain ⟨y1, ey1, h⟩ := h
  subst ey1
  obtain ⟨f2, h⟩ := h
  refine gget hx hb hw hown hK hG kd_R f2 rfl 8 (by decide) rfl tw_599 (fun _ h9 => h9) d_F_aim_1 ?_
  refine gtopq (fun o3 eo3 => ?_)
  replace h := h o3 eo3
  refine gastore_n (i := 2) (lv' := [(2, va_rf o3), (0, .ref y1), (1, .int a1)]) hx hb d_F_aim_4 rfl hl0 (by decide) rfl (fun ls hl4 => ?_)
  refine lv_aload_n hx hb d_F_aim_5 rfl (lv_at hl4 1 rfl) ?_
  refine lv_aload_n hx hb d_F_aim_6 rfl (lv_at hl4 1 rfl) ?_
  refine gget hx hb hw hown hK hG kd_R f2 rfl 1 (by decide) rfl tw_577 (fun _ h9 => h9) d_F_aim_7 ?_
  refine lv_aload_n hx hb d_F_aim_10 rfl (lv_at hl4 1 rfl) ?_
  refine gget hx hb hw hown hK hG kd_R f2 rfl 2 (by decide) rfl tw_581 (fun _ h9 => h9) d_F_aim_11 ?_
  -- call R_aimAt
  refine gcv hK hG (va_runV (As := [.int (sI S 7 y1), .int (sI S 8 y1)]) (rest := []) ⟨hx, hb, hml, hown, hw⟩ (m_R_aimAt l x S _ y1 (sI S 7 y1) (sI S 8 y1) f2 h) ⟨gcb hw tw_823 tw_52 tw_820 hd_R_aimAt rfl rfl ⟨(Nat.le_of_ble_eq_true rfl), (Nat.le_of_ble_eq_true rfl)⟩, hw _ tw_821, hw _ tw_822⟩ (gpV hK hG kd_R f2 rfl) rfl rfl hl4.1 rfl (lv_room (Nat.le_of_ble_eq_true rfl)) d_F_aim_14 ⟨(Nat.le_of_ble_eq_true rfl), (Nat.le_of_ble_eq_true rfl)⟩) (fun S5 H locs h9 hle1 hG => ?_)
  replace h := h9
  clear h9
  have f2 := gle_isA hle1 f2
  have leS := leS.tr hle1
  refine lv_iload_n hx hb d_F_aim_17 rfl (lv_at hl4 2 rfl) ?_
  -- call H_isWalk
  refine gpi hK hG (va_runSN (As := [.int a1]) (rest := []) ⟨hx, hb, hml, hown, hw⟩ (m_H_isWalk l x S5 _ a1  h) ⟨gcn hw tw_499 tw_28 tw_824 hd_H_isWalk rfl rfl ⟨(Nat.le_of_ble_eq_true rfl), (Nat.le_of_ble_eq_true rfl)⟩, hw _ tw_498, trivial⟩ (gpS hK hG) rfl rfl hl4.1 rfl (lv_room (Nat.le_of_ble_eq_true rfl)) d_F_aim_18 ⟨(Nat.le_of_ble_eq_true rfl), (Nat.le_of_ble_eq_true rfl)⟩) (fun r6 H locs h9 hG => ?_)
  replace h := h9
  clear h9
  have leS5 : gle S5 S5 := gle.rf
  obtain ⟨J47, hJ47, h⟩ := h
  have k47 : ∀ (S_47 : St) (H : Heap) (locs : List Loc) (ls : Array Slot), gle S5 S_47 → GH x S_47 s H locs → lv_has ls 4 [(0, .ref y1), (1, .int a1), (2, va_rf o3)] → J47 S_47 → W p l e { frames := 2, cells := 0, slots := 0, locals := 45 } s m args below meth c H locs 0 0 (MQ below (va_Qv post (gB x S) (xA x)) args s 0 0 (xA x)) (F0 m 47 ls []) := by
    intro S_47  H locs ls hle1 hG hl7 hj
    replace h := hJ47 S_47 hj
    have f2 := gle_isA hle1 f2
    have leS := leS.tr hle1
    have leS5 := leS5.tr hle1
    refine gaload_n hx hb d_F_aim_47 rfl (lv_at hl7 2 rfl) ?_
    refine gifnonnull (tgt := 52) hx hb d_F_aim_48 (by decide) (fun y8 e9 => ?_) (fun e9 => ?_)
    · replace h := h.2 y8 e9
      subst e9
      refine lv_aload_n hx hb d_F_aim_52 rfl (lv_at hl7 2 rfl) ?_
      refine lv_aload_n hx hb d_F_aim_53 rfl (lv_at hl7 2 rfl) ?_
      obtain ⟨f9, h⟩ := h
      refine gget hx hb hw hown hK hG kd_R f9 rfl 1 (by decide) rfl tw_577 (fun _ h9 => h9) d_F_aim_54 ?_
      refine lv_aload_n hx hb d_F_aim_57 rfl (lv_at hl7 2 rfl) ?_
      refine gget hx hb hw hown hK hG kd_R f9 rfl 2 (by decide) rfl tw_581 (fun _ h9 => h9) d_F_aim_58 ?_
      -- call R_aimAt
      refine gcv hK hG (va_runV (As := [.int (sI S_47 7 y8), .int (sI S_47 8 y8)]) (rest := []) ⟨hx, hb, hml, hown, hw⟩ (m_R_aimAt l x S_47 _ y8 (sI S_47 7 y8) (sI S_47 8 y8) f9 h) ⟨gcb hw tw_823 tw_52 tw_820 hd_R_aimAt rfl rfl ⟨(Nat.le_of_ble_eq_true rfl), (Nat.le_of_ble_eq_true rfl)⟩, hw _ tw_821, hw _ tw_822⟩ (gpV hK hG kd_R f9 rfl) rfl rfl hl7.1 rfl (lv_room (Nat.le_of_ble_eq_true rfl)) d_F_aim_61 ⟨(Nat.le_of_ble_eq_true rfl), (Nat.le_of_ble_eq_true rfl)⟩) (fun S10 H locs h9 hle1 hG => ?_)
      replace h := h9
      clear h9
      have f2 := gle_isA hle1 f2
      have f9 := gle_isA hle1 f9
      have leS := leS.tr hle1
      have leS5 := leS5.tr hle1
      refine lv_iload_n hx hb d_F_aim_64 rfl (lv_at hl7 1 rfl) ?_
      -- call H_isWalk
      refine gpi hK hG (va_runSN (As := [.int a1]) (rest := []) ⟨hx, hb, hml, hown, hw⟩ (m_H_isWalk l x S10 _ a1  h) ⟨gcn hw tw_499 tw_28 tw_824 hd_H_isWalk rfl rfl ⟨(Nat.le_of_ble_eq_true rfl), (Nat.le_of_ble_eq_true rfl)⟩, hw _ tw_498, trivial⟩ (gpS hK hG) rfl rfl hl7.1 rfl (lv_room (Nat.le_of_ble_eq_true rfl)) d_F_aim_65 ⟨(Nat.le_of_ble_eq_true rfl), (Nat.le_of_ble_eq_true rfl)⟩) (fun r11 H locs h9 hG => ?_)
      replace h := h9
      clear h9
      refine lv_if_eq (tgt := 97) hx hb d_F_aim_68 (by decide) (fun hc25 => ?_) (fun hc25 => ?_)
      · replace h := h.1 hc25
        refine lv_iload_n hx hb d_F_aim_97 rfl (lv_at hl7 1 rfl) ?_
        refine lv_bipush (v := 115) hx hb d_F_aim_98 (by decide) ?_
        refine lv_icmp_ne (tgt := 130) hx hb d_F_aim_100 (by decide) (fun hc21 => ?_) (fun hc21 => ?_)
        · replace h := h.2 hc21
          refine lv_iload_n hx hb d_F_aim_130 rfl (lv_at hl7 1 rfl) ?_
          -- call H_quartersTurnedBy
          refine gpi hK hG (va_runSN (As := [.int a1]) (rest := []) ⟨hx, hb, hml, hown, hw⟩ (m_H_quartersTurnedBy l x S10 _ a1  h) ⟨gcn hw tw_502 tw_28 tw_834 hd_H_quartersTurnedBy rfl rfl ⟨(Nat.le_of_ble_eq_true rfl), (Nat.le_of_ble_eq_true rfl)⟩, hw _ tw_501, trivial⟩ (gpS hK hG) rfl rfl hl7.1 rfl (lv_room (Nat.le_of_ble_eq_true rfl)) d_F_aim_131 ⟨(Nat.le_of_ble_eq_true rfl), (Nat.le_of_ble_eq_true rfl)⟩) (fun r12 H locs h9 hG => ?_)
          replace h := h9
          clear h9
          refine lv_if_eq (tgt := 163) hx hb d_F_aim_134 (by decide) (fun hc18 => ?_) (fun hc18 => ?_)
          · replace h := h.1 hc18
            exact gvret hx hb hr hlocks hK hG leS h (Nat.le_of_ble_eq_true rfl) (Nat.le_of_ble_eq_true rfl) d_F_aim_163
          · replace h := h.2 hc18
            refine lv_aload_n hx hb d_F_aim_137 rfl (lv_at hl7 0 rfl) ?_
            refine lv_aload_n hx hb d_F_aim_138 rfl (lv_at hl7 2 rfl) ?_
            -- call R_directionTo
            refine gpi hK hG (va_runV (As := [.ref y8]) (rest := []) ⟨hx, hb, hml, hown, hw⟩ (m_R_directionTo l x S10 _ y1 (some y8) f2 h) ⟨gcb hw tw_838 tw_52 tw_835 hd_R_directionTo rfl rfl ⟨(Nat.le_of_ble_eq_true rfl), (Nat.le_of_ble_eq_true rfl)⟩, hw _ tw_836, hw _ tw_837⟩ (gpV hK hG kd_R f2 rfl) rfl rfl hl7.1 rfl (lv_room (Nat.le_of_ble_eq_true rfl)) d_F_aim_139 ⟨(Nat.le_of_ble_eq_true rfl), (Nat.le_of_ble_eq_true rfl)⟩) (fun r13 H locs h9 hG => ?_)
            replace h := h9
            clear h9
            refine lv_iload_n hx hb d_F_aim_142 rfl (lv_at hl7 1 rfl) ?_
            -- call H_quartersTurnedBy
            refine gpi hK hG (va_runSN (As := [.int a1]) (rest := [.int r13]) ⟨hx, hb, hml, hown, hw⟩ (m_H_quartersTurnedBy l x S10 _ a1  h) ⟨gcn hw tw_502 tw_28 tw_834 hd_H_quartersTurnedBy rfl rfl ⟨(Nat.le_of_ble_eq_true rfl), (Nat.le_of_ble_eq_true rfl)⟩, hw _ tw_501, trivial⟩ (gpS hK hG) rfl rfl hl7.1 rfl (lv_room (Nat.le_of_ble_eq_true rfl)) d_F_aim_143 ⟨(Nat.le_of_ble_eq_true rfl), (Nat.le_of_ble_eq_true rfl)⟩) (fun r14 H locs h9 hG => ?_)
            replace h := h9
            clear h9
            -- call H_turned
            refine gpi hK hG (va_runSN (As := [.int r13, .int r14]) (rest := []) ⟨hx, hb, hml, hown, hw⟩ (m_H_turned l x S10 _ r13 r14  h) ⟨gcn hw tw_538 tw_28 tw_826 hd_H_turned rfl rfl ⟨(Nat.le_of_ble_eq_true rfl), (Nat.le_of_ble_eq_true rfl)⟩, hw _ tw_537, trivial⟩ (gpS hK hG) rfl rfl hl7.1 rfl (lv_room (Nat.le_of_ble_eq_true rfl)) d_F_aim_146 ⟨(Nat.le_of_ble_eq_true rfl), (Nat.le_of_ble_eq_true rfl)⟩) (fun r15 H locs h9 hG => ?_)
            replace h := h9
            clear h9
            refine lv_istore_n (i := 3) (lv' := [(3, .int r15), (0, .ref y1), (1, .int a1), (2, .ref y8)]) hx hb d_F_aim_149 rfl hl7 (by decide) rfl (fun ls hl16 => ?_)
            refine lv_aload_n hx hb d_F_aim_150 rfl (lv_at hl16 3 rfl) ?_
            refine lv_aload_n hx hb d_F_aim_151 rfl (lv_at hl16 1 rfl) ?_
            refine gget hx hb hw hown hK hG kd_R f2 rfl 1 (by decide) rfl tw_577 (fun _ h9 => h9) d_F_aim_152 ?_
            refine lv_aload_n hx hb d_F_aim_155 rfl (lv_at hl16 1 rfl) ?_
            refine gget hx hb hw hown hK hG kd_R f2 rfl 2 (by decide) rfl tw_581 (fun _ h9 => h9) d_F_aim_156 ?_
            refine lv_iload_n hx hb d_F_aim_159 rfl (lv_at hl16 0 rfl) ?_
            -- call R_aimFrom
            refine gcv hK hG (va_runV (As := [.int (sI S10 7 y1), .int (sI S10 8 y1), .int r15]) (rest := []) ⟨hx, hb, hml, hown, hw⟩ (m_R_aimFrom l x S10 _ y8 (sI S10 7 y1) (sI S10 8 y1) r15 f9 h) ⟨gcb hw tw_830 tw_52 tw_827 hd_R_aimFrom rfl rfl ⟨(Nat.le_of_ble_eq_true rfl), (Nat.le_of_ble_eq_true rfl)⟩, hw _ tw_828, hw _ tw_829⟩ (gpV hK hG kd_R f9 rfl) rfl rfl hl16.1 rfl (lv_room (Nat.le_of_ble_eq_true rfl)) d_F_aim_160 ⟨(Nat.le_of_ble_eq_true rfl), (Nat.le_of_ble_eq_true rfl)⟩) (fun S17 H locs h9 hle1 hG => ?_)
            replace h := h9
            clear h9
            have f2 := gle_isA hle1 f2
            have f9 := gle_isA hle1 f9
            have leS := leS.tr hle1
            have leS5 := leS5.tr hle1
            exact gvret hx hb hr hlocks hK hG leS h (Nat.le_of_ble_eq_true rfl) (Nat.le_of_ble_eq_true rfl) d_F_aim_163
        · replace h := h.1 hc21
          refine lv_aload_n hx hb d_F_aim_103 rfl (lv_at hl7 0 rfl) ?_
          refine lv_aload_n hx hb d_F_aim_104 rfl (lv_at hl7 2 rfl) ?_
          refine gget hx hb hw hown hK hG kd_R f9 rfl 1 (by decide) rfl tw_577 (fun _ h9 => h9) d_F_aim_105 ?_
          refine lv_aload_n hx hb d_F_aim_108 rfl (lv_at hl7 2 rfl) ?_
          refine gget hx hb hw hown hK hG kd_R f9 rfl 2 (by decide) rfl tw_581 (fun _ h9 => h9) d_F_aim_109 ?_
          -- call R_aimAt
          refine gcv hK hG (va_runV (As := [.int (sI S10 7 y8), .int (sI S10 8 y8)]) (rest := []) ⟨hx, hb, hml, hown, hw⟩ (m_R_aimAt l x S10 _ y1 (sI S10 7 y8) (sI S10 8 y8) f2 h) ⟨gcb hw tw_823 tw_52 tw_820 hd_R_aimAt rfl rfl ⟨(Nat.le_of_ble_eq_true rfl), (Nat.le_of_ble_eq_true rfl)⟩, hw _ tw_821, hw _ tw_822⟩ (gpV hK hG kd_R f2 rfl) rfl rfl hl7.1 rfl (lv_room (Nat.le_of_ble_eq_true rfl)) d_F_aim_112 ⟨(Nat.le_of_ble_eq_true rfl), (Nat.le_of_ble_eq_true rfl)⟩) (fun S19 H locs h9 hle1 hG => ?_)
          replace h := h9
          clear h9
          have f2 := gle_isA hle1 f2
          have f9 := gle_isA hle1 f9
          have leS := leS.tr hle1
          have leS5 := leS5.tr hle1
          refine lv_aload_n hx hb d_F_aim_115 rfl (lv_at hl7 2 rfl) ?_
          refine lv_aload_n hx hb d_F_aim_116 rfl (lv_at hl7 0 rfl) ?_
          refine gget hx hb hw hown hK hG kd_R f2 rfl 1 (by decide) rfl tw_577 (fun _ h9 => h9) d_F_aim_117 ?_
          refine lv_aload_n hx hb d_F_aim_120 rfl (lv_at hl7 0 rfl) ?_
          refine gget hx hb hw hown hK hG kd_R f2 rfl 2 (by decide) rfl tw_581 (fun _ h9 => h9) d_F_aim_121 ?_
          -- call R_aimAt
          refine gcv hK hG (va_runV (As := [.int (sI S19 7 y1), .int (sI S19 8 y1)]) (rest := []) ⟨hx, hb, hml, hown, hw⟩ (m_R_aimAt l x S19 _ y8 (sI S19 7 y1) (sI S19 8 y1) f9 h) ⟨gcb hw tw_823 tw_52 tw_820 hd_R_aimAt rfl rfl ⟨(Nat.le_of_ble_eq_true rfl), (Nat.le_of_ble_eq_true rfl)⟩, hw _ tw_821, hw _ tw_822⟩ (gpV hK hG kd_R f9 rfl) rfl rfl hl7.1 rfl (lv_room (Nat.le_of_ble_eq_true rfl)) d_F_aim_124 ⟨(Nat.le_of_ble_eq_true rfl), (Nat.le_of_ble_eq_true rfl)⟩) (fun S20 H locs h9 hle1 hG => ?_)
          replace h := h9
          clear h9
          have f2 := gle_isA hle1 f2
          have f9 := gle_isA hle1 f9
          have leS := leS.tr hle1
          have leS5 := leS5.tr hle1
          refine lv_goto (tgt := 163) hx hb d_F_aim_127 (by decide) ?_
          exact gvret hx hb hr hlocks hK hG leS h (Nat.le_of_ble_eq_true rfl) (Nat.le_of_ble_eq_true rfl) d_F_aim_163
      · replace h := h.2 hc25
        refine lv_aload_n hx hb d_F_aim_71 rfl (lv_at hl7 2 rfl) ?_
        refine lv_aload_n hx hb d_F_aim_72 rfl (lv_at hl7 2 rfl) ?_
        refine gget hx hb hw hown hK hG kd_R f9 rfl 1 (by decide) rfl tw_577 (fun _ h9 => h9) d_F_aim_73 ?_
        refine lv_aload_n hx hb d_F_aim_76 rfl (lv_at hl7 2 rfl) ?_
        refine gget hx hb hw hown hK hG kd_R f9 rfl 2 (by decide) rfl tw_581 (fun _ h9 => h9) d_F_aim_77 ?_
        refine lv_aload_n hx hb d_F_aim_80 rfl (lv_at hl7 0 rfl) ?_
        refine gget hx hb hw hown hK hG kd_R f2 rfl 3 (by decide) rfl tw_586 (fun _ h9 => h9) d_F_aim_81 ?_
        refine lv_iload_n hx hb d_F_aim_84 rfl (lv_at hl7 1 rfl) ?_
        -- call H_quartersToWayOf
        refine gpi hK hG (va_runSN (As := [.int a1]) (rest := [.int (sI S10 9 y1), .int (sI S10 8 y8), .int (sI S10 7 y8), .ref y8]) ⟨hx, hb, hml, hown, hw⟩ (m_H_quartersToWayOf l x S10 _ a1  h) ⟨gcn hw tw_535 tw_28 tw_825 hd_H_quartersToWayOf rfl rfl ⟨(Nat.le_of_ble_eq_true rfl), (Nat.le_of_ble_eq_true rfl)⟩, hw _ tw_534, trivial⟩ (gpS hK hG) rfl rfl hl7.1 rfl (lv_room (Nat.le_of_ble_eq_true rfl)) d_F_aim_85 ⟨(Nat.le_of_ble_eq_true rfl), (Nat.le_of_ble_eq_true rfl)⟩) (fun r22 H locs h9 hG => ?_)
        replace h := h9
        clear h9
        -- call H_turned
        refine gpi hK hG (va_runSN (As := [.int (sI S10 9 y1), .int r22]) (rest := [.int (sI S10 8 y8), .int (sI S10 7 y8), .ref y8]) ⟨hx, hb, hml, hown, hw⟩ (m_H_turned l x S10 _ (sI S10 9 y1) r22  h) ⟨gcn hw tw_538 tw_28 tw_826 hd_H_turned rfl rfl ⟨(Nat.le_of_ble_eq_true rfl), (Nat.le_of_ble_eq_true rfl)⟩, hw _ tw_537, trivial⟩ (gpS hK hG) rfl rfl hl7.1 rfl (lv_room (Nat.le_of_ble_eq_true rfl)) d_F_aim_88 ⟨(Nat.le_of_ble_eq_true rfl), (Nat.le_of_ble_eq_true rfl)⟩) (fun r23 H locs h9 hG => ?_)
        replace h := h9
        clear h9
        -- call R_aimFrom
        refine gcv hK hG (va_runV (As := [.int (sI S10 7 y8), .int (sI S10 8 y8), .int r23]) (rest := []) ⟨hx, hb, hml, hown, hw⟩ (m_R_aimFrom l x S10 _ y8 (sI S10 7 y8) (sI S10 8 y8) r23 f9 h) ⟨gcb hw tw_830 tw_52 tw_827 hd_R_aimFrom rfl rfl ⟨(Nat.le_of_ble_eq_true rfl), (Nat.le_of_ble_eq_true rfl)⟩, hw _ tw_828, hw _ tw_829⟩ (gpV hK hG kd_R f9 rfl) rfl rfl hl7.1 rfl (lv_room (Nat.le_of_ble_eq_true rfl)) d_F_aim_91 ⟨(Nat.le_of_ble_eq_true rfl), (Nat.le_of_ble_eq_true rfl)⟩) (fun S24 H locs h9 hle1 hG => ?_)
        replace h := h9
        clear h9
        have f2 := gle_isA hle1 f2
        have f9 := gle_isA hle1 f9
        have leS := leS.tr hle1
        have leS5 := leS5.tr hle1
        refine lv_goto (tgt := 163) hx hb d_F_aim_94 (by decide) ?_
        exact gvret hx hb hr hlocks hK hG leS h (Nat.le_of_ble_eq_true rfl) (Nat.le_of_ble_eq_true rfl) d_F_aim_163
    · replace h := h.1 e9
      subst e9
      exact gvret hx hb hr hlocks hK hG leS h (Nat.le_of_ble_eq_true rfl) (Nat.le_of_ble_eq_true rfl) d_F_aim_51
  refine lv_if_eq (tgt := 47) hx hb d_F_aim_21 (by decide) (fun hc29 => ?_) (fun hc29 => ?_)
  · replace h := h.1 hc29
    exact k47 S5 H locs ls leS5 hG (lv_sub hl4 [1, 2, 0] rfl) h
  · replace h := h.2 hc29
    refine lv_aload_n hx hb d_F_aim_24 rfl (lv_at hl4 1 rfl) ?_
    refine lv_aload_n hx hb d_F_aim_25 rfl (lv_at hl4 1 rfl) ?_
    refine gget hx hb hw hown hK hG kd_R f2 rfl 1 (by decide) rfl tw_577 (fun _ h9 => h9) d_F_aim_26 ?_
    refine lv_aload_n hx hb d_F_aim_29 rfl (lv_at hl4 1 rfl) ?_
    refine gget hx hb hw hown hK hG kd_R f2 rfl 2 (by decide) rfl tw_581 (fun _ h9 => h9) d_F_aim_30 ?_
    refine lv_aload_n hx hb d_F_aim_33 rfl (lv_at hl4 1 rfl) ?_
    refine gget hx hb hw hown hK hG kd_R f2 rfl 3 (by decide) rfl tw_586 (fun _ h9 => h9) d_F_aim_34 ?_
    refine lv_iload_n hx hb d_F_aim_37 rfl (lv_at hl4 2 rfl) ?_
    -- call H_quartersToWayOf
    refine gpi hK hG (va_runSN (As := [.int a1]) (rest := [.int (sI S5 9 y1), .int (sI S5 8 y1), .int (sI S5 7 y1), .ref y1]) ⟨hx, hb, hml, hown, hw⟩ (m_H_quartersToWayOf l x S5 _ a1  h) ⟨gcn hw tw_535 tw_28 tw_825 hd_H_quartersToWayOf rfl rfl ⟨(Nat.le_of_ble_eq_true rfl), (Nat.le_of_ble_eq_true rfl)⟩, hw _ tw_534, trivial⟩ (gpS hK hG) rfl rfl hl4.1 rfl (lv_room (Nat.le_of_ble_eq_true rfl)) d_F_aim_38 ⟨(Nat.le_of_ble_eq_true rfl), (Nat.le_of_ble_eq_true rfl)⟩) (fun r26 H locs h9 hG => ?_)
    replace h := h9
    clear h9
    -- call H_turned
    refine gpi hK hG (va_runSN (As := [.int (sI S5 9 y1), .int r26]) (rest := [.int (sI S5 8 y1), .int (sI S5 7 y1), .ref y1]) ⟨hx, hb, hml, hown, hw⟩ (m_H_turned l x S5 _ (sI S5 9 y1) r26  h) ⟨gcn hw tw_538 tw_28 tw_826 hd_H_turned rfl rfl ⟨(Nat.le_of_ble_eq_true rfl), (Nat.le_of_ble_eq_true rfl)⟩, hw _ tw_537, trivial⟩ (gpS hK hG) rfl rfl hl4.1 rfl (lv_room (Nat.le_of_ble_eq_true rfl)) d_F_aim_41 ⟨(Nat.le_of_ble_eq_true rfl), (Nat.le_of_ble_eq_true rfl)⟩) (fun r27 H locs h9 hG => ?_)
    replace h := h9
    clear h9
    -- call R_aimFrom
    refine gcv hK hG (va_runV (As := [.int (sI S5 7 y1), .int (sI S5 8 y1), .int r27]) (rest := []) ⟨hx, hb, hml, hown, hw⟩ (m_R_aimFrom l x S5 _ y1 (sI S5 7 y1) (sI S5 8 y1) r27 f2 h) ⟨gcb hw tw_830 tw_52 tw_827 hd_R_aimFrom rfl rfl ⟨(Nat.le_of_ble_eq_true rfl), (Nat.le_of_ble_eq_true rfl)⟩, hw _ tw_828, hw _ tw_829⟩ (gpV hK hG kd_R f2 rfl) rfl rfl hl4.1 rfl (lv_room (Nat.le_of_ble_eq_true rfl)) d_F_aim_44 ⟨(Nat.le_of_ble_eq_true rfl), (Nat.le_of_ble_eq_true rfl)⟩) (fun S28 H locs h9 hle1 hG => ?_)
    replace h := h9
    clear h9
    have f2 := gle_isA hle1 f2
    have leS := leS.tr hle1
    have leS5 := leS5.tr hle1
    exact k47 S28 H locs ls leS5 hG (lv_sub hl4 [1, 2, 0] rfl) h
def w_F_bump (post : Int32 → St → Prop) (S : St) (a0 : Option Nat) : Prop :=
  (a0 = none → post 0 S) ∧ (∀ y1 : Nat, a0 = some y1 → isA S 2 y1 ∧ w_R_stagger (fun (S3 : St) => post 1 S3) S y1)
set_option maxHeartbeats 4000000 in
set_option maxRecDepth 100000 in
theorem m_F_bump (l : Launch) (x : Cx) (S : St) (post : Int32 → St → Prop) (a0 : Option Nat) (h : w_F_bump post S a0) : Met l y_F_bump [.code y_F_bump c_F_bump 1 (some .int)] { frames := 1, cells := 0, slots := 0, locals := 20 } (va_Pc [va_rf a0] (GW x S)) (va_Qi post (gB x S) (xA x)) 0 0 (xA x) := by
  refine gMet (by decide +kernel) (by simp [lg_sl, gCat, gci1, gcr1, gcl1, gcd1]) ?_
  intro p e s m args below meth c hx hb hr hown hlocks hin hw hK H locs hG ls hlA hml
  have hown : s.vm.findClass "WaltzHall$Floor" = some m.cls := hown
  have hl0 : lv_has ls 1 [(0, va_rf a0)] := hlA
  have leS : gle S S := gle.rf
  unfold w_F_bump at h
  refine gaload_n hx hb d_F_bump_0 rfl (lv_at hl0 0 rfl) ?_
  refine gifnonnull (tgt := 6) hx hb d_F_bump_1 (by decide) (fun y1 e9 => ?_) (fun e9 => ?_)
  · replace h := h.2 y1 e9
    subst e9
    refine lv_aload_n hx hb d_F_bump_6 rfl (lv_at hl0 0 rfl) ?_
    obtain ⟨f2, h⟩ := h
    -- call R_stagger
    refine gcv hK hG (va_runV (As := []) (rest := []) ⟨hx, hb, hml, hown, hw⟩ (m_R_stagger l x S _ y1 f2 h) ⟨gcb hw tw_855 tw_52 tw_852 hd_R_stagger rfl rfl ⟨(Nat.le_of_ble_eq_true rfl), (Nat.le_of_ble_eq_true rfl)⟩, hw _ tw_853, hw _ tw_854⟩ (gpV hK hG kd_R f2 rfl) rfl rfl hl0.1 rfl (lv_room (Nat.le_of_ble_eq_true rfl)) d_F_bump_7 ⟨(Nat.le_of_ble_eq_true rfl), (Nat.le_of_ble_eq_true rfl)⟩) (fun S3 H locs h9 hle1 hG => ?_)
    replace h := h9
    clear h9
    have f2 := gle_isA hle1 f2
    have leS := leS.tr hle1
    refine lv_iconst (v := 1) hx hb d_F_bump_10 (by decide) ?_
    exact giret hx hb hr hlocks hK hG leS h (Nat.le_of_ble_eq_true rfl) (Nat.le_of_ble_eq_true rfl) d_F_bump_11
  · replace h := h.1 e9
    subst e9
    refine lv_iconst (v := 0) hx hb d_F_bump_4 (by decide) ?_
    exact giret hx hb hr hlocks hK hG leS h (Nat.le_of_ble_eq_true rfl) (Nat.le_of_ble_eq_true rfl) d_F_bump_5
def w_F_whoIsInTheWayOf (post : Option Nat → Prop) (S : St) (a0 : Nat) (a1 : Option Nat) : Prop :=
  ∃ y1 : Nat, a1 = some y1 ∧ isA S 2 y1 ∧ w_F_whoIsAt (fun (o3 : Option Nat) => (o3 = (some y1) → post none) ∧ (¬ o3 = (some y1) → ∀ o5 : Option Nat, o5 = sQ S 14 y1 → (o3 = o5 → post none) ∧ (¬ o3 = o5 → post o3))) S a0 (sI S 19 y1) (sI S 20 y1)
set_option maxHeartbeats 4000000 in
set_option maxRecDepth 100000 in
theorem m_F_whoIsInTheWayOf (l : Launch) (x : Cx) (S : St) (post : Option Nat → Prop) (a0 : Nat) (a1 : Option Nat) (fa0 : isA S 3 a0) (h : w_F_whoIsInTheWayOf post S a0 a1) : Met l y_F_whoIsInTheWayOf [.code y_F_whoIsInTheWayOf c_F_whoIsInTheWayOf 3 (some (.object "WaltzHall$Dancer"))] { frames := 4, cells := 0, slots := 0, locals := 88 } (va_Pc [.ref a0, va_rf a1] (GW x S)) (va_Qq (gPu post S) (gB x S) (xA x)) 0 0 (xA x) := by
  refine gMet (by decide +kernel) (by simp [lg_sl, gCat, gci1, gcr1, gcl1, gcd1]) ?_
  intro p e s m args below meth c hx hb hr hown hlocks hin hw hK H locs hG ls hlA hml
  have hown : s.vm.findClass "WaltzHall$Floor" = some m.cls := hown
  have hl0 : lv_has ls 3 [(0, .ref a0), (1, va_rf a1)] := hlA
  unfold w_F_whoIsInTheWayOf at h
  refine lv_aload_n hx hb d_F_whoIsInTheWayOf_0 rfl (lv_at hl0 0 rfl) ?_
  refine gaload_n hx hb d_F_whoIsInTheWayOf_1 rfl (lv_at hl0 1 rfl) ?_
  obtain ⟨y1, ey1, h⟩ := h
  subst ey1
  obtain ⟨f2, h⟩ := h
  refine gget hx hb hw hown hK hG kd_R f2 rfl 13 (by decide) rfl tw_610 (fun _ h9 => h9) d_F_whoIsInTheWayOf_2 ?_
  refine lv_aload_n hx hb d_F_whoIsInTheWayOf_5 rfl (lv_at hl0 1 rfl) ?_
  refine gget hx hb hw hown hK hG kd_R f2 rfl 14 (by decide) rfl tw_612 (fun _ h9 => h9) d_F_whoIsInTheWayOf_6 ?_
  -- call F_whoIsAt
  refine gpq hK hG (va_runV (As := [.int (sI S 19 y1), .int (sI S 20 y1)]) (rest := []) ⟨hx, hb, hml, hown, hw⟩ (m_F_whoIsAt l x S _ a0 (sI S 19 y1) (sI S 20 y1) fa0 h) ⟨gcb hw tw_566 tw_38 tw_843 hd_F_whoIsAt rfl rfl ⟨(Nat.le_of_ble_eq_true rfl), (Nat.le_of_ble_eq_true rfl)⟩, hw _ tw_564, hw _ tw_565⟩ (gpV hK hG kd_F fa0 rfl) rfl rfl hl0.1 rfl (lv_room (Nat.le_of_ble_eq_true rfl)) d_F_whoIsInTheWayOf_9 ⟨(Nat.le_of_ble_eq_true rfl), (Nat.le_of_ble_eq_true rfl)⟩) (fun o3 H locs h9 hG => ?_)
  replace h := h9
  clear h9
  refine gastore_n (i := 2) (lv' := [(2, va_rf o3), (0, .ref a0), (1, .ref y1)]) hx hb d_F_whoIsInTheWayOf_12 rfl hl0 (by decide) rfl (fun ls hl4 => ?_)
  refine gaload_n hx hb d_F_whoIsInTheWayOf_13 rfl (lv_at hl4 0 rfl) ?_
  refine lv_aload_n hx hb d_F_whoIsInTheWayOf_14 rfl (lv_at hl4 2 rfl) ?_
  refine lv_acmp_eq (rx := o3) (ry := (some y1)) (tgt := 26) hx hb d_F_whoIsInTheWayOf_15 (by decide) (fun hc7 => ?_) (fun hc7 => ?_)
  · replace h := h.1 hc7
    refine gnull hx hb d_F_whoIsInTheWayOf_26 ?_
    refine lv_goto (tgt := 31) hx hb d_F_whoIsInTheWayOf_27 (by decide) ?_
    exact garet (o := none) hx hb hr (Or.inl ⟨_, rfl⟩) hlocks hK hG gle.rf ⟨h, rfl⟩ (Nat.le_of_ble_eq_true rfl) (Nat.le_of_ble_eq_true rfl) d_F_whoIsInTheWayOf_31
  · replace h := h.2 hc7
    refine gaload_n hx hb d_F_whoIsInTheWayOf_18 rfl (lv_at hl4 0 rfl) ?_
    refine lv_aload_n hx hb d_F_whoIsInTheWayOf_19 rfl (lv_at hl4 2 rfl) ?_
    refine gget hx hb hw hown hK hG kd_R f2 rfl 8 (by decide) rfl tw_599 (fun _ h9 => h9) d_F_whoIsInTheWayOf_20 ?_
    refine gtopq (fun o5 eo5 => ?_)
    replace h := h o5 eo5
    refine lv_acmp_ne (rx := o3) (ry := o5) (tgt := 30) hx hb d_F_whoIsInTheWayOf_23 (by decide) (fun hc6 => ?_) (fun hc6 => ?_)
    · replace h := h.2 hc6
      refine gaload_n hx hb d_F_whoIsInTheWayOf_30 rfl (lv_at hl4 0 rfl) ?_
      exact garet (o := o3) hx hb hr (Or.inl ⟨_, rfl⟩) hlocks hK hG gle.rf ⟨h, rfl⟩ (Nat.le_of_ble_eq_true rfl) (Nat.le_of_ble_eq_true rfl) d_F_whoIsInTheWayOf_31
    · replace h := h.1 hc6
      refine gnull hx hb d_F_whoIsInTheWayOf_26 ?_
      refine lv_goto (tgt := 31) hx hb d_F_whoIsInTheWayOf_27 (by decide) ?_
      exact garet (o := none) hx hb hr (Or.inl ⟨_, rfl⟩) hlocks hK hG gle.rf ⟨h, rfl⟩ (Nat.le_of_ble_eq_true rfl) (Nat.le_of_ble_eq_true rfl) d_F_whoIsInTheWayOf_31
def w_F_perform (post : Int32 → St → Prop) (S : St) (a0 : Nat) (a1 : Option Nat) : Prop :=
  ∃ y1 : Nat, a1 = some y1 ∧ isA S 2 y1 ∧ ∀ o3 : Option Nat, o3 = sQ S 14 y1 → ∀ o5 : Option Nat, o5 = sQ S 12 y1 → ∃ y6 : Nat, o5 = some y6 ∧ isA S 1 y6 ∧ w_D_figureAt (fun (r8 : Int32) => ∀ o10 : Option Nat, o10 = sQ S 12 y1 → ∃ y11 : Nat, o10 = some y11 ∧ isA S 1 y11 ∧ w_D_placeBehind (fun (r13 : Int32) => ∀ S14 : St, S14 = pI S 13 y1 r13 → w_F_aim (fun (S15 : St) => w_F_whoIsInTheWayOf (fun (o16 : Option Nat) => ∃ J57 : Option Nat → Prop, (∀ (k0_57 : Option Nat), J57 k0_57 → w_R_aimsOffFloor (fun (r20 : Int32) => ∃ J82 : Int32 → Prop, (∀ (k0_82 : Int32), J82 k0_82 → ∃ J99 : Prop, (J99 → w_F_bump (fun (r24 : Int32) (S25 : St) => w_F_bump (fun (r26 : Int32) (S27 : St) => w_F_bump (fun (r28 : Int32) (S29 : St) => w_F_bump (fun (r30 : Int32) (S31 : St) => post (((r24 + r26) + r28) + r30) S31) S29 k0_57) S27 o16) S25 o3) S15 (some y1)) ∧ (k0_82 = 0 → (o16 = none → (k0_57 = none → w_H_quartersTurnedBy (fun (r32 : Int32) => w_R_goAndTurn (fun (S33 : St) => (o3 = none → post 0 S33) ∧ (∀ y34 : Nat, o3 = some y34 → w_H_quartersTurnedBy (fun (r35 : Int32) => isA S33 2 y34 ∧ w_R_goAndTurn (fun (S37 : St) => post 0 S37) S33 y34 r35) S33 r8)) S15 y1 r32) S15 r8) ∧ (∀ y38 : Nat, k0_57 = some y38 → J99)) ∧ (∀ y39 : Nat, o16 = some y39 → J99)) ∧ (¬ k0_82 = 0 → J99)) ∧ ∃ J77 : Prop, (J77 → J82 1) ∧ (r20 = 0 → ∃ J81 : Prop, (J81 → J82 0) ∧ (o3 = none → J81) ∧ (∀ y43 : Nat, o3 = some y43 → isA S15 2 y43 ∧ w_R_aimsOffFloor (fun (r45 : Int32) => (r45 = 0 → J81) ∧ (¬ r45 = 0 → J77)) S15 y43)) ∧ (¬ r20 = 0 → J77)) S15 y1) ∧ (o3 = none → J57 none) ∧ (∀ y48 : Nat, o3 = some y48 → w_F_whoIsInTheWayOf (fun (o49 : Option Nat) => J57 o49) S15 a0 (some y48))) S15 a0 (some y1)) S14 (some y1) r8) S y11 (sI S 13 y1)) S y6 (sI S 13 y1)
set_option maxHeartbeats 4000000 in
set_option maxRecDepth 100000 in
theorem m_F_perform (l : Launch) (x : Cx) (S : St) (post : Int32 → St → Prop) (a0 : Nat) (a1 : Option Nat) (fa0 : isA S 3 a0) (h : w_F_perform post S a0 a1) : Met l y_F_perform [.code y_F_perform c_F_perform 7 (some .int)] { frames := 5, cells := 0, slots := 0, locals := 110 } (va_Pc [.ref a0, va_rf a1] (GW x S)) (va_Qi post (gB x S) (xA x)) 0 0 (xA x) := by
  refine gMet (by decide +kernel) (by simp [lg_sl, gCat, gci1, gcr1, gcl1, gcd1]) ?_
  intro p e s m args below meth c hx hb hr hown hlocks hin hw hK H locs hG ls hlA hml
  have hown : s.vm.findClass "WaltzHall$Floor" = some m.cls := hown
  have hl0 : lv_has ls 7 [(0, .ref a0), (1, va_rf a1)] := hlA
  have leS : gle S S := gle.rf
  unfold w_F_perform at h
  refine gaload_n hx hb d_F_perform_0 rfl (lv_at hl0 1 rfl) ?_
  obtain ⟨y1, ey1, h⟩ := h
  subst ey1
  obtain ⟨f2, h⟩ := h
  refine gget hx hb hw hown hK hG kd_R f2 rfl 8 (by decide) rfl tw_599 (fun _ h9 => h9) d_F_perform_1 ?_
  refine gtopq (fun o3 eo3 => ?_)
  replace h := h o3 eo3
  refine gastore_n (i := 2) (lv' := [(2, va_rf o3), (0, .ref a0), (1, .ref y1)]) hx hb d_F_perform_4 rfl hl0 (by decide) rfl (fun ls hl4 => ?_)
  refine lv_aload_n hx hb d_F_perform_5 rfl (lv_at hl4 2 rfl) ?_
  refine gget hx hb hw hown hK hG kd_R f2 rfl 6 (by decide) rfl tw_593 (fun _ h9 => h9) d_F_perform_6 ?_
  refine gtopq (fun o5 eo5 => ?_)
  replace h := h o5 eo5
  refine lv_aload_n hx hb d_F_perform_9 rfl (lv_at hl4 2 rfl) ?_
  refine gget hx hb hw hown hK hG kd_R f2 rfl 7 (by decide) rfl tw_596 (fun _ h9 => h9) d_F_perform_10 ?_
  obtain ⟨y6, ey6, h⟩ := h
  subst ey6
  obtain ⟨f7, h⟩ := h
  -- call D_figureAt
  refine gpi hK hG (va_runV (As := [.int (sI S 13 y1)]) (rest := []) ⟨hx, hb, hml, hown, hw⟩ (m_D_figureAt l x S _ y6 (sI S 13 y1) f7 h) ⟨gcb hw tw_339 tw_33 tw_812 hd_D_figureAt rfl rfl ⟨(Nat.le_of_ble_eq_true rfl), (Nat.le_of_ble_eq_true rfl)⟩, hw _ tw_337, hw _ tw_338⟩ (gpV hK hG kd_D f7 rfl) rfl rfl hl4.1 rfl (lv_room (Nat.le_of_ble_eq_true rfl)) d_F_perform_13 ⟨(Nat.le_of_ble_eq_true rfl), (Nat.le_of_ble_eq_true rfl)⟩) (fun r8 H locs h9 hG => ?_)
  replace h := h9
  clear h9
  refine lv_istore_n (i := 3) (lv' := [(3, .int r8), (2, va_rf o3), (0, .ref a0), (1, .ref y1)]) hx hb d_F_perform_16 rfl hl4 (by decide) (by simp [gCat, gCatB, gci1, gcr1, gcl1, gcd1] <;> rfl) (fun ls hl9 => ?_)
  refine lv_aload_n hx hb d_F_perform_17 rfl (lv_at hl9 3 rfl) ?_
  refine lv_aload_n hx hb d_F_perform_18 rfl (lv_at hl9 3 rfl) ?_
  refine gget hx hb hw hown hK hG kd_R f2 rfl 6 (by decide) rfl tw_593 (fun _ h9 => h9) d_F_perform_19 ?_
  refine gtopq (fun o10 eo10 => ?_)
  replace h := h o10 eo10
  refine lv_aload_n hx hb d_F_perform_22 rfl (lv_at hl9 3 rfl) ?_
  refine gget hx hb hw hown hK hG kd_R f2 rfl 7 (by decide) rfl tw_596 (fun _ h9 => h9) d_F_perform_23 ?_
  obtain ⟨y11, ey11, h⟩ := h
  subst ey11
  obtain ⟨f12, h⟩ := h
  -- call D_placeBehind
  refine gpi hK hG (va_runV (As := [.int (sI S 13 y1)]) (rest := [.ref y1]) ⟨hx, hb, hml, hown, hw⟩ (m_D_placeBehind l x S _ y11 (sI S 13 y1) f12 h) ⟨gcb hw tw_816 tw_33 tw_813 hd_D_placeBehind rfl rfl ⟨(Nat.le_of_ble_eq_true rfl), (Nat.le_of_ble_eq_true rfl)⟩, hw _ tw_814, hw _ tw_815⟩ (gpV hK hG kd_D f12 rfl) rfl rfl hl9.1 rfl (lv_room (Nat.le_of_ble_eq_true rfl)) d_F_perform_26 ⟨(Nat.le_of_ble_eq_true rfl), (Nat.le_of_ble_eq_true rfl)⟩) (fun r13 H locs h9 hG => ?_)
  replace h := h9
  clear h9
  refine gput (S' := pI S 13 y1 r13) hx hb hw hown hK hG kd_R f2 rfl 7 (by decide) (gChI f2 rfl) tw_596 (fun _ h9 => h9) rfl rfl rfl rfl (Nat.le_of_ble_eq_true rfl) d_F_perform_29 (fun S14 H locs eS14 hle1 hG => ?_)
  replace h := h S14 eS14
  have fa0 := gle_isA hle1 fa0
  have f2 := gle_isA hle1 f2
  have f7 := gle_isA hle1 f7
  have f12 := gle_isA hle1 f12
  have leS := leS.tr hle1
  refine lv_aload_n hx hb d_F_perform_32 rfl (lv_at hl9 3 rfl) ?_
  refine lv_iload_n hx hb d_F_perform_33 rfl (lv_at hl9 0 rfl) ?_
  -- call F_aim
  refine gcv hK hG (va_runS (As := [.ref y1, .int r8]) (rest := []) ⟨hx, hb, hml, hown, hw⟩ (m_F_aim l x S14 _ (some y1) r8  h) ⟨gcb hw tw_819 tw_38 tw_817 hd_F_aim rfl rfl ⟨(Nat.le_of_ble_eq_true rfl), (Nat.le_of_ble_eq_true rfl)⟩, hw _ tw_818⟩ (gpS hK hG) rfl rfl hl9.1 rfl (lv_room (Nat.le_of_ble_eq_true rfl)) d_F_perform_34 ⟨(Nat.le_of_ble_eq_true rfl), (Nat.le_of_ble_eq_true rfl)⟩) (fun S15 H locs h9 hle1 hG => ?_)
  replace h := h9
  clear h9
  have fa0 := gle_isA hle1 fa0
  have f2 := gle_isA hle1 f2
  have f7 := gle_isA hle1 f7
  have f12 := gle_isA hle1 f12
  have leS := leS.tr hle1
  refine lv_aload_n hx hb d_F_perform_37 rfl (lv_at hl9 2 rfl) ?_
  refine lv_aload_n hx hb d_F_perform_38 rfl (lv_at hl9 3 rfl) ?_
  -- call F_whoIsInTheWayOf
  refine gpq hK hG (va_runV (As := [.ref y1]) (rest := []) ⟨hx, hb, hml, hown, hw⟩ (m_F_whoIsInTheWayOf l x S15 _ a0 (some y1) fa0 h) ⟨gcb hw tw_842 tw_38 tw_839 hd_F_whoIsInTheWayOf rfl rfl ⟨(Nat.le_of_ble_eq_true rfl), (Nat.le_of_ble_eq_true rfl)⟩, hw _ tw_841, hw _ tw_10⟩ (gpV hK hG kd_F fa0 rfl) rfl rfl hl9.1 rfl (lv_room (Nat.le_of_ble_eq_true rfl)) d_F_perform_39 ⟨(Nat.le_of_ble_eq_true rfl), (Nat.le_of_ble_eq_true rfl)⟩) (fun o16 H locs h9 hG => ?_)
  replace h := h9
  clear h9
  refine gastore (lv' := [(4, va_rf o16), (3, .int r8), (2, va_rf o3), (0, .ref a0), (1, .ref y1)]) hx hb d_F_perform_42 hl9 (by decide) rfl (fun ls hl17 => ?_)
  refine gaload_n hx hb d_F_perform_44 rfl (lv_at hl17 2 rfl) ?_
  have leS15 : gle S15 S15 := gle.rf
  obtain ⟨J57, hJ57, h⟩ := h
  have k57 : ∀ (k0_57 : Option Nat) (H : Heap) (locs : List Loc) (ls : Array Slot), GH x S15 s H locs → lv_has ls 7 [(1, .ref y1), (2, va_rf o3), (3, .int r8), (4, va_rf o16)] → J57 k0_57 → W p l e { frames := 5, cells := 0, slots := 0, locals := 110 } s m args below meth c H locs 0 0 (MQ below (va_Qi post (gB x S) (xA x)) args s 0 0 (xA x)) (F0 m 57 ls [va_rf k0_57]) := by
    intro k0_57  H locs ls hG hl18 hj
    replace h := hJ57 k0_57 hj
    refine gastore (lv' := [(5, va_rf k0_57), (1, .ref y1), (2, va_rf o3), (3, .int r8), (4, va_rf o16)]) hx hb d_F_perform_57 hl18 (by decide) (by simp [gCat, gCatB, gci1, gcr1, gcl1, gcd1] <;> rfl) (fun ls hl19 => ?_)
    refine lv_aload_n hx hb d_F_perform_59 rfl (lv_at hl19 1 rfl) ?_
    -- call R_aimsOffFloor
    refine gpi hK hG (va_runV (As := []) (rest := []) ⟨hx, hb, hml, hown, hw⟩ (m_R_aimsOffFloor l x S15 _ y1 f2 h) ⟨gcb hw tw_847 tw_52 tw_844 hd_R_aimsOffFloor rfl rfl ⟨(Nat.le_of_ble_eq_true rfl), (Nat.le_of_ble_eq_true rfl)⟩, hw _ tw_845, hw _ tw_846⟩ (gpV hK hG kd_R f2 rfl) rfl rfl hl19.1 rfl (lv_room (Nat.le_of_ble_eq_true rfl)) d_F_perform_60 ⟨(Nat.le_of_ble_eq_true rfl), (Nat.le_of_ble_eq_true rfl)⟩) (fun r20 H locs h9 hG => ?_)
    replace h := h9
    clear h9
    obtain ⟨J82, hJ82, h⟩ := h
    have k82 : ∀ (k0_82 : Int32) (H : Heap) (locs : List Loc) (ls : Array Slot), GH x S15 s H locs → lv_has ls 7 [(1, .ref y1), (2, va_rf o3), (3, .int r8), (4, va_rf o16), (5, va_rf k0_57)] → J82 k0_82 → W p l e { frames := 5, cells := 0, slots := 0, locals := 110 } s m args below meth c H locs 0 0 (MQ below (va_Qi post (gB x S) (xA x)) args s 0 0 (xA x)) (F0 m 82 ls [.int k0_82]) := by
      intro k0_82  H locs ls hG hl21 hj
      replace h := hJ82 k0_82 hj
      refine lv_istore (lv' := [(6, .int k0_82), (1, .ref y1), (2, va_rf o3), (3, .int r8), (4, va_rf o16), (5, va_rf k0_57)]) hx hb d_F_perform_82 hl21 (by decide) (by simp [gCat, gCatB, gci1, gcr1, gcl1, gcd1] <;> rfl) (fun ls hl22 => ?_)
      refine lv_iload hx hb d_F_perform_84 (lv_at hl22 0 rfl) ?_
      obtain ⟨J99, hJ99, h⟩ := h
      have k99 : ∀ (H : Heap) (locs : List Loc) (ls : Array Slot), GH x S15 s H locs → lv_has ls 7 [(1, .ref y1), (2, va_rf o3), (4, va_rf o16), (5, va_rf k0_57)] → J99 → W p l e { frames := 5, cells := 0, slots := 0, locals := 110 } s m args below meth c H locs 0 0 (MQ below (va_Qi post (gB x S) (xA x)) args s 0 0 (xA x)) (F0 m 99 ls []) := by
        intro  H locs ls hG hl23 hj
        replace h := hJ99 hj
        refine lv_aload_n hx hb d_F_perform_99 rfl (lv_at hl23 0 rfl) ?_
        -- call F_bump
        refine gci hK hG (va_runS (As := [.ref y1]) (rest := []) ⟨hx, hb, hml, hown, hw⟩ (m_F_bump l x S15 _ (some y1)  h) ⟨gcb hw tw_851 tw_38 tw_849 hd_F_bump rfl rfl ⟨(Nat.le_of_ble_eq_true rfl), (Nat.le_of_ble_eq_true rfl)⟩, hw _ tw_850⟩ (gpS hK hG) rfl rfl hl23.1 rfl (lv_room (Nat.le_of_ble_eq_true rfl)) d_F_perform_100 ⟨(Nat.le_of_ble_eq_true rfl), (Nat.le_of_ble_eq_true rfl)⟩) (fun r24 S25 H locs h9 hle1 hG => ?_)
        replace h := h9
        clear h9
        have fa0 := gle_isA hle1 fa0
        have f2 := gle_isA hle1 f2
        have f7 := gle_isA hle1 f7
        have f12 := gle_isA hle1 f12
        have leS := leS.tr hle1
        have leS15 := leS15.tr hle1
        refine gaload_n hx hb d_F_perform_103 rfl (lv_at hl23 1 rfl) ?_
        -- call F_bump
        refine gci hK hG (va_runS (As := [va_rf o3]) (rest := [.int r24]) ⟨hx, hb, hml, hown, hw⟩ (m_F_bump l x S25 _ o3  h) ⟨gcb hw tw_851 tw_38 tw_849 hd_F_bump rfl rfl ⟨(Nat.le_of_ble_eq_true rfl), (Nat.le_of_ble_eq_true rfl)⟩, hw _ tw_850⟩ (gpS hK hG) rfl rfl hl23.1 rfl (lv_room (Nat.le_of_ble_eq_true rfl)) d_F_perform_104 ⟨(Nat.le_of_ble_eq_true rfl), (Nat.le_of_ble_eq_true rfl)⟩) (fun r26 S27 H locs h9 hle1 hG => ?_)
        replace h := h9
        clear h9
        have fa0 := gle_isA hle1 fa0
        have f2 := gle_isA hle1 f2
        have f7 := gle_isA hle1 f7
        have f12 := gle_isA hle1 f12
        have leS := leS.tr hle1
        have leS15 := leS15.tr hle1
        refine lv_iadd hx hb d_F_perform_107 ?_
        refine gaload hx hb d_F_perform_108 (lv_at hl23 2 rfl) ?_
        -- call F_bump
        refine gci hK hG (va_runS (As := [va_rf o16]) (rest := [.int (r24 + r26)]) ⟨hx, hb, hml, hown, hw⟩ (m_F_bump l x S27 _ o16  h) ⟨gcb hw tw_851 tw_38 tw_849 hd_F_bump rfl rfl ⟨(Nat.le_of_ble_eq_true rfl), (Nat.le_of_ble_eq_true rfl)⟩, hw _ tw_850⟩ (gpS hK hG) rfl rfl hl23.1 rfl (lv_room (Nat.le_of_ble_eq_true rfl)) d_F_perform_110 ⟨(Nat.le_of_ble_eq_true rfl), (Nat.le_of_ble_eq_true rfl)⟩) (fun r28 S29 H locs h9 hle1 hG => ?_)
        replace h := h9
        clear h9
        have fa0 := gle_isA hle1 fa0
        have f2 := gle_isA hle1 f2
        have f7 := gle_isA hle1 f7
        have f12 := gle_isA hle1 f12
        have leS := leS.tr hle1
        have leS15 := leS15.tr hle1
        refine lv_iadd hx hb d_F_perform_113 ?_
        refine gaload hx hb d_F_perform_114 (lv_at hl23 3 rfl) ?_
        -- call F_bump
        refine gci hK hG (va_runS (As := [va_rf k0_57]) (rest := [.int ((r24 + r26) + r28)]) ⟨hx, hb, hml, hown, hw⟩ (m_F_bump l x S29 _ k0_57  h) ⟨gcb hw tw_851 tw_38 tw_849 hd_F_bump rfl rfl ⟨(Nat.le_of_ble_eq_true rfl), (Nat.le_of_ble_eq_true rfl)⟩, hw _ tw_850⟩ (gpS hK hG) rfl rfl hl23.1 rfl (lv_room (Nat.le_of_ble_eq_true rfl)) d_F_perform_116 ⟨(Nat.le_of_ble_eq_true rfl), (Nat.le_of_ble_eq_true rfl)⟩) (fun r30 S31 H locs h9 hle1 hG => ?_)
        replace h := h9
        clear h9
        have fa0 := gle_isA hle1 fa0
        have f2 := gle_isA hle1 f2
        have f7 := gle_isA hle1 f7
        have f12 := gle_isA hle1 f12
        have leS := leS.tr hle1
        have leS15 := leS15.tr hle1
        refine lv_iadd hx hb d_F_perform_119 ?_
        exact giret hx hb hr hlocks hK hG leS h (Nat.le_of_ble_eq_true rfl) (Nat.le_of_ble_eq_true rfl) d_F_perform_120
      refine lv_if_ne (tgt := 99) hx hb d_F_perform_86 (by decide) (fun hc40 => ?_) (fun hc40 => ?_)
      · replace h := h.2 hc40
        exact k99 H locs ls hG (lv_sub hl22 [1, 2, 4, 5] rfl) h
      · replace h := h.1 hc40
        refine gaload hx hb d_F_perform_89 (lv_at hl22 4 rfl) ?_
        refine gifnonnull (tgt := 99) hx hb d_F_perform_91 (by decide) (fun y39 e9 => ?_) (fun e9 => ?_)
        · replace h := h.2 y39 e9
          subst e9
          exact k99 H locs ls hG (lv_sub hl22 [1, 2, 4, 5] rfl) h
        · replace h := h.1 e9
          subst e9
          refine gaload hx hb d_F_perform_94 (lv_at hl22 5 rfl) ?_
          refine gifnull (tgt := 121) hx hb d_F_perform_96 (by decide) (fun e9 => ?_) (fun y38 e9 => ?_)
          · replace h := h.1 e9
            subst e9
            refine lv_aload_n hx hb d_F_perform_121 rfl (lv_at hl22 1 rfl) ?_
            refine lv_iload_n hx hb d_F_perform_122 rfl (lv_at hl22 3 rfl) ?_
            -- call H_quartersTurnedBy
            refine gpi hK hG (va_runSN (As := [.int r8]) (rest := [.ref y1]) ⟨hx, hb, hml, hown, hw⟩ (m_H_quartersTurnedBy l x S15 _ r8  h) ⟨gcn hw tw_502 tw_28 tw_834 hd_H_quartersTurnedBy rfl rfl ⟨(Nat.le_of_ble_eq_true rfl), (Nat.le_of_ble_eq_true rfl)⟩, hw _ tw_501, trivial⟩ (gpS hK hG) rfl rfl hl22.1 rfl (lv_room (Nat.le_of_ble_eq_true rfl)) d_F_perform_123 ⟨(Nat.le_of_ble_eq_true rfl), (Nat.le_of_ble_eq_true rfl)⟩) (fun r32 H locs h9 hG => ?_)
            replace h := h9
            clear h9
            -- call R_goAndTurn
            refine gcv hK hG (va_runV (As := [.int r32]) (rest := []) ⟨hx, hb, hml, hown, hw⟩ (m_R_goAndTurn l x S15 _ y1 r32 f2 h) ⟨gcb hw tw_859 tw_52 tw_856 hd_R_goAndTurn rfl rfl ⟨(Nat.le_of_ble_eq_true rfl), (Nat.le_of_ble_eq_true rfl)⟩, hw _ tw_857, hw _ tw_858⟩ (gpV hK hG kd_R f2 rfl) rfl rfl hl22.1 rfl (lv_room (Nat.le_of_ble_eq_true rfl)) d_F_perform_126 ⟨(Nat.le_of_ble_eq_true rfl), (Nat.le_of_ble_eq_true rfl)⟩) (fun S33 H locs h9 hle1 hG => ?_)
            replace h := h9
            clear h9
            have fa0 := gle_isA hle1 fa0
            have f2 := gle_isA hle1 f2
            have f7 := gle_isA hle1 f7
            have f12 := gle_isA hle1 f12
            have leS := leS.tr hle1
            have leS15 := leS15.tr hle1
            refine gaload_n hx hb d_F_perform_129 rfl (lv_at hl22 2 rfl) ?_
            refine gifnull (tgt := 141) hx hb d_F_perform_130 (by decide) (fun e9 => ?_) (fun y34 e9 => ?_)
            · replace h := h.1 e9
              subst e9
              refine lv_iconst (v := 0) hx hb d_F_perform_141 (by decide) ?_
              exact giret hx hb hr hlocks hK hG leS h (Nat.le_of_ble_eq_true rfl) (Nat.le_of_ble_eq_true rfl) d_F_perform_142
            · replace h := h.2 y34 e9
              subst e9
              refine lv_aload_n hx hb d_F_perform_133 rfl (lv_at hl22 2 rfl) ?_
              refine lv_iload_n hx hb d_F_perform_134 rfl (lv_at hl22 3 rfl) ?_
              -- call H_quartersTurnedBy
              refine gpi hK hG (va_runSN (As := [.int r8]) (rest := [.ref y34]) ⟨hx, hb, hml, hown, hw⟩ (m_H_quartersTurnedBy l x S33 _ r8  h) ⟨gcn hw tw_502 tw_28 tw_834 hd_H_quartersTurnedBy rfl rfl ⟨(Nat.le_of_ble_eq_true rfl), (Nat.le_of_ble_eq_true rfl)⟩, hw _ tw_501, trivial⟩ (gpS hK hG) rfl rfl hl22.1 rfl (lv_room (Nat.le_of_ble_eq_true rfl)) d_F_perform_135 ⟨(Nat.le_of_ble_eq_true rfl), (Nat.le_of_ble_eq_true rfl)⟩) (fun r35 H locs h9 hG => ?_)
              replace h := h9
              clear h9
              obtain ⟨f36, h⟩ := h
              -- call R_goAndTurn
              refine gcv hK hG (va_runV (As := [.int r35]) (rest := []) ⟨hx, hb, hml, hown, hw⟩ (m_R_goAndTurn l x S33 _ y34 r35 f36 h) ⟨gcb hw tw_859 tw_52 tw_856 hd_R_goAndTurn rfl rfl ⟨(Nat.le_of_ble_eq_true rfl), (Nat.le_of_ble_eq_true rfl)⟩, hw _ tw_857, hw _ tw_858⟩ (gpV hK hG kd_R f36 rfl) rfl rfl hl22.1 rfl (lv_room (Nat.le_of_ble_eq_true rfl)) d_F_perform_138 ⟨(Nat.le_of_ble_eq_true rfl), (Nat.le_of_ble_eq_true rfl)⟩) (fun S37 H locs h9 hle1 hG => ?_)
              replace h := h9
              clear h9
              have fa0 := gle_isA hle1 fa0
              have f2 := gle_isA hle1 f2
              have f7 := gle_isA hle1 f7
              have f12 := gle_isA hle1 f12
              have f36 := gle_isA hle1 f36
              have leS := leS.tr hle1
              have leS15 := leS15.tr hle1
              refine lv_iconst (v := 0) hx hb d_F_perform_141 (by decide) ?_
              exact giret hx hb hr hlocks hK hG leS h (Nat.le_of_ble_eq_true rfl) (Nat.le_of_ble_eq_true rfl) d_F_perform_142
          · replace h := h.2 y38 e9
            subst e9
            exact k99 H locs ls hG (lv_sub hl22 [1, 2, 4, 5] rfl) h
    obtain ⟨J77, hJ77, h⟩ := h
    have k77 : ∀ (H : Heap) (locs : List Loc) (ls : Array Slot), GH x S15 s H locs → lv_has ls 7 [(1, .ref y1), (2, va_rf o3), (3, .int r8), (4, va_rf o16), (5, va_rf k0_57)] → J77 → W p l e { frames := 5, cells := 0, slots := 0, locals := 110 } s m args below meth c H locs 0 0 (MQ below (va_Qi post (gB x S) (xA x)) args s 0 0 (xA x)) (F0 m 77 ls []) := by
      intro  H locs ls hG hl41 hj
      replace h := hJ77 hj
      refine lv_iconst (v := 1) hx hb d_F_perform_77 (by decide) ?_
      refine lv_goto (tgt := 82) hx hb d_F_perform_78 (by decide) ?_
      exact k82 1 H locs ls hG (lv_sub hl41 [0, 1, 2, 3, 4] rfl) h
    refine lv_if_ne (tgt := 77) hx hb d_F_perform_63 (by decide) (fun hc47 => ?_) (fun hc47 => ?_)
    · replace h := h.2 hc47
      exact k77 H locs ls hG (lv_sub hl19 [1, 2, 3, 4, 0] rfl) h
    · replace h := h.1 hc47
      refine gaload_n hx hb d_F_perform_66 rfl (lv_at hl19 2 rfl) ?_
      obtain ⟨J81, hJ81, h⟩ := h
      have k81 : ∀ (H : Heap) (locs : List Loc) (ls : Array Slot), GH x S15 s H locs → lv_has ls 7 [(1, .ref y1), (2, va_rf o3), (3, .int r8), (4, va_rf o16), (5, va_rf k0_57)] → J81 → W p l e { frames := 5, cells := 0, slots := 0, locals := 110 } s m args below meth c H locs 0 0 (MQ below (va_Qi post (gB x S) (xA x)) args s 0 0 (xA x)) (F0 m 81 ls []) := by
        intro  H locs ls hG hl42 hj
        replace h := hJ81 hj
        refine lv_iconst (v := 0) hx hb d_F_perform_81 (by decide) ?_
        exact k82 0 H locs ls hG (lv_sub hl42 [0, 1, 2, 3, 4] rfl) h
      refine gifnull (tgt := 81) hx hb d_F_perform_67 (by decide) (fun e9 => ?_) (fun y43 e9 => ?_)
      · replace h := h.1 e9
        subst e9
        exact k81 H locs ls hG (lv_sub hl19 [1, 2, 3, 4, 0] rfl) h
      · replace h := h.2 y43 e9
        subst e9
        refine lv_aload_n hx hb d_F_perform_70 rfl (lv_at hl19 2 rfl) ?_
        obtain ⟨f44, h⟩ := h
        -- call R_aimsOffFloor
        refine gpi hK hG (va_runV (As := []) (rest := []) ⟨hx, hb, hml, hown, hw⟩ (m_R_aimsOffFloor l x S15 _ y43 f44 h) ⟨gcb hw tw_847 tw_52 tw_844 hd_R_aimsOffFloor rfl rfl ⟨(Nat.le_of_ble_eq_true rfl), (Nat.le_of_ble_eq_true rfl)⟩, hw _ tw_845, hw _ tw_846⟩ (gpV hK hG kd_R f44 rfl) rfl rfl hl19.1 rfl (lv_room (Nat.le_of_ble_eq_true rfl)) d_F_perform_71 ⟨(Nat.le_of_ble_eq_true rfl), (Nat.le_of_ble_eq_true rfl)⟩) (fun r45 H locs h9 hG => ?_)
        replace h := h9
        clear h9
        refine lv_if_eq (tgt := 81) hx hb d_F_perform_74 (by decide) (fun hc46 => ?_) (fun hc46 => ?_)
        · replace h := h.1 hc46
          exact k81 H locs ls hG (lv_sub hl19 [1, 2, 3, 4, 0] rfl) h
        · replace h := h.2 hc46
          exact k77 H locs ls hG (lv_sub hl19 [1, 2, 3, 4, 0] rfl) h
  refine gifnonnull (tgt := 52) hx hb d_F_perform_45 (by decide) (fun y48 e9 => ?_) (fun e9 => ?_)
  · replace h := h.2 y48 e9
    subst e9
    refine lv_aload_n hx hb d_F_perform_52 rfl (lv_at hl17 3 rfl) ?_
    refine lv_aload_n hx hb d_F_perform_53 rfl (lv_at hl17 2 rfl) ?_
    -- call F_whoIsInTheWayOf
    refine gpq hK hG (va_runV (As := [.ref y48]) (rest := []) ⟨hx, hb, hml, hown, hw⟩ (m_F_whoIsInTheWayOf l x S15 _ a0 (some y48) fa0 h) ⟨gcb hw tw_842 tw_38 tw_839 hd_F_whoIsInTheWayOf rfl rfl ⟨(Nat.le_of_ble_eq_true rfl), (Nat.le_of_ble_eq_true rfl)⟩, hw _ tw_841, hw _ tw_10⟩ (gpV hK hG kd_F fa0 rfl) rfl rfl hl17.1 rfl (lv_room (Nat.le_of_ble_eq_true rfl)) d_F_perform_54 ⟨(Nat.le_of_ble_eq_true rfl), (Nat.le_of_ble_eq_true rfl)⟩) (fun o49 H locs h9 hG => ?_)
    replace h := h9
    clear h9
    exact k57 o49 H locs ls hG (lv_sub hl17 [4, 2, 1, 0] rfl) h
  · replace h := h.1 e9
    subst e9
    refine gnull hx hb d_F_perform_48 ?_
    refine lv_goto (tgt := 57) hx hb d_F_perform_49 (by decide) ?_
    exact k57 none H locs ls hG (lv_sub hl17 [4, 2, 1, 0] rfl) h
def w_F_playBeat (post : Int32 → St → Prop) (S : St) (a0 : Nat) : Prop :=
  ∃ J4 : Nat → St → Int32 → Int32 → Prop, (∃ n : Nat, J4 n S 0 0) ∧ ∀ (n4 : Nat) (S_4 : St) (v1_4 : Int32) (v2_4 : Int32), J4 n4 S_4 v1_4 v2_4 → ∀ o4 : Option Nat, o4 = sQ S_4 21 a0 → ∃ y5 : Nat, o4 = some y5 ∧ isA S_4 0 y5 ∧ w_AL_size (fun (r7 : Int32) => (r7 ≤ v2_4 → ∃ J57 : Nat → St → Int32 → Prop, (∃ n : Nat, J57 n S_4 0) ∧ ∀ (n57 : Nat) (S_57 : St) (v2_57 : Int32), J57 n57 S_57 v2_57 → ∀ o10 : Option Nat, o10 = sQ S_57 22 a0 → ∃ y11 : Nat, o10 = some y11 ∧ isA S_57 0 y11 ∧ w_AL_size (fun (r13 : Int32) => (r13 ≤ v2_57 → ∃ J114 : Nat → St → Int32 → Prop, (∃ n : Nat, J114 n S_57 0) ∧ ∀ (n114 : Nat) (S_114 : St) (v2_114 : Int32), J114 n114 S_114 v2_114 → ∀ o16 : Option Nat, o16 = sQ S_114 21 a0 → ∃ y17 : Nat, o16 = some y17 ∧ isA S_114 0 y17 ∧ w_AL_size (fun (r19 : Int32) => (r19 ≤ v2_114 → ∀ S20 : St, S20 = pI S_114 23 a0 ((sI S_114 23 a0) + 1) → post v1_4 S20) ∧ (¬ r19 ≤ v2_114 → ∀ o21 : Option Nat, o21 = sQ S_114 21 a0 → ∃ y22 : Nat, o21 = some y22 ∧ isA S_114 0 y22 ∧ w_AL_get (fun (o24 : Option Nat) => ∃ y25 : Nat, o24 = some y25 ∧ isA S_114 2 y25 ∧ ∀ v28 : Int32, v28 = (if 0 < ((sI S_114 16 y25) - 1) then ((sI S_114 16 y25) - 1) else 0) → ∀ S29 : St, S29 = pI S_114 16 y25 v28 → ∀ v30 : Int32, v30 = v2_114 + 1 → ∃ nx : Nat, nx < n114 ∧ J114 nx S29 v30) S_114 y22 v2_114)) S_114 y17) ∧ (¬ r13 ≤ v2_57 → ∀ o33 : Option Nat, o33 = sQ S_57 22 a0 → ∃ y34 : Nat, o33 = some y34 ∧ isA S_57 0 y34 ∧ w_AL_get (fun (o36 : Option Nat) => ∃ y37 : Nat, o36 = some y37 ∧ isA S_57 5 y37 ∧ w_N_whoseTurn (fun (r39 : Int32) => w_F_dancerOrNull (fun (o40 : Option Nat) => ∃ J106 : St → Prop, (∀ (S_106 : St), J106 S_106 → ∀ v43 : Int32, v43 = v2_57 + 1 → ∃ nx : Nat, nx < n57 ∧ J57 nx S_106 v43) ∧ (o40 = none → J106 S_57) ∧ (∀ y45 : Nat, o40 = some y45 → ∀ o46 : Option Nat, o46 = sQ S_57 22 a0 → ∃ y47 : Nat, o46 = some y47 ∧ isA S_57 0 y47 ∧ w_AL_get (fun (o49 : Option Nat) => ∃ y50 : Nat, o49 = some y50 ∧ isA S_57 5 y50 ∧ w_N_attend (fun (S52 : St) => J106 S52) S_57 y50 (some y45)) S_57 y47 v2_57)) S_57 a0 r39) S_57 y37) S_57 y34 v2_57)) S_57 y11) ∧ (¬ r7 ≤ v2_4 → ∀ o54 : Option Nat, o54 = sQ S_4 21 a0 → ∃ y55 : Nat, o54 = some y55 ∧ isA S_4 0 y55 ∧ w_AL_get (fun (o57 : Option Nat) => ∃ y58 : Nat, o57 = some y58 ∧ isA S_4 2 y58 ∧ ∃ J49 : St → Int32 → Prop, (∀ (S_49 : St) (v1_49 : Int32), J49 S_49 v1_49 → ∀ v62 : Int32, v62 = v2_4 + 1 → ∃ nx : Nat, nx < n4 ∧ J4 nx S_49 v1_49 v62) ∧ ((sI S_4 15 y58) = 0 → w_F_mayPerform (fun (r64 : Int32) => (r64 = 0 → J49 S_4 v1_4) ∧ (¬ r64 = 0 → w_F_perform (fun (r65 : Int32) (S66 : St) => ∀ v67 : Int32, v67 = v1_4 + r65 → J49 S66 v67) S_4 a0 (some y58))) S_4 (some y58)) ∧ (¬ (sI S_4 15 y58) = 0 → J49 S_4 v1_4)) S_4 y55 v2_4)) S_4 y5
set_option maxHeartbeats 4000000 in
set_option maxRecDepth 100000 in
theorem m_F_playBeat (l : Launch) (x : Cx) (S : St) (post : Int32 → St → Prop) (a0 : Nat) (fa0 : isA S 3 a0) (h : w_F_playBeat post S a0) : Met l y_F_playBeat [.code y_F_playBeat c_F_playBeat 4 (some .int)] { frames := 6, cells := 0, slots := 0, locals := 136 } (va_Pc [.ref a0] (GW x S)) (va_Qi post (gB x S) (xA x)) 0 0 (xA x) := by
  refine gMet (by decide +kernel) (Nat.le_of_ble_eq_true rfl) ?_
  intro p e s m args below meth c hx hb hr hown hlocks hin hw hK H locs hG ls hlA hml
  have hown : s.vm.findClass "WaltzHall$Floor" = some m.cls := hown
  have hl0 : lv_has ls 4 [(0, .ref a0)] := hlA
  have leS : gle S S := gle.rf
  unfold w_F_playBeat at h
  refine lv_iconst (v := 0) hx hb d_F_playBeat_0 (by decide) ?_
  refine lv_istore_n (i := 1) (lv' := [(1, .int 0), (0, .ref a0)]) hx hb d_F_playBeat_1 rfl hl0 (by decide) rfl (fun ls hl1 => ?_)
  refine lv_iconst (v := 0) hx hb d_F_playBeat_2 (by decide) ?_
  refine lv_istore_n (i := 2) (lv' := [(2, .int 0), (1, .int 0), (0, .ref a0)]) hx hb d_F_playBeat_3 rfl hl1 (by decide) rfl (fun ls hl2 => ?_)
  obtain ⟨J4, ⟨n0_4, h0_4⟩, hJ4⟩ := h
  have k4 : ∀ (n4 : Nat) (S_4 : St) (v1_4 : Int32) (v2_4 : Int32) (H : Heap) (locs : List Loc) (ls : Array Slot), gle S S_4 → GH x S_4 s H locs → lv_has ls 4 [(0, .ref a0), (1, .int v1_4), (2, .int v2_4)] → J4 n4 S_4 v1_4 v2_4 → W p l e { frames := 6, cells := 0, slots := 0, locals := 136 } s m args below meth c H locs 0 0 (MQ below (va_Qi post (gB x S) (xA x)) args s 0 0 (xA x)) (F0 m 4 ls []) := by
    intro n4
    induction n4 using Nat.strongRecOn with
    | _ n4 ih4 =>
      intro S_4 v1_4 v2_4 H locs ls hle1 hG hl3 hj
      replace h := hJ4 n4 S_4 v1_4 v2_4 hj
      have fa0 := gle_isA hle1 fa0
      have leS := leS.tr hle1
      refine lv_iload_n hx hb d_F_playBeat_4 rfl (lv_at hl3 2 rfl) ?_
      refine lv_aload_n hx hb d_F_playBeat_5 rfl (lv_at hl3 0 rfl) ?_
      refine gget hx hb hw hown hK hG kd_F fa0 rfl 0 (by decide) rfl tw_183 (fun _ h9 => h9) d_F_playBeat_6 ?_
      refine gtopq (fun o4 eo4 => ?_)
      replace h := h o4 eo4
      obtain ⟨y5, ey5, h⟩ := h
      subst ey5
      obtain ⟨f6, h⟩ := h
      -- call AL_size
      refine gpi hK hG (va_runV (As := []) (rest := [.int v2_4]) ⟨hx, hb, hml, hown, hw⟩ (m_AL_size l x S_4 _ y5 f6 h) ⟨gcb hw tw_284 tw_32 tw_289 hd_AL_size rfl rfl ⟨(Nat.le_of_ble_eq_true rfl), (Nat.le_of_ble_eq_true rfl)⟩, hw _ tw_282, hw _ tw_283⟩ (gpV hK hG kd_AL f6 rfl) rfl rfl hl3.1 rfl (lv_room (Nat.le_of_ble_eq_true rfl)) d_F_playBeat_9 ⟨(Nat.le_of_ble_eq_true rfl), (Nat.le_of_ble_eq_true rfl)⟩) (fun r7 H locs h9 hG => ?_)
      replace h := h9
      clear h9
      refine lv_icmp_ge (tgt := 55) hx hb d_F_playBeat_12 (by decide) (fun hc71 => ?_) (fun hc71 => ?_)
      · replace h := h.1 hc71
        refine lv_iconst (v := 0) hx hb d_F_playBeat_55 (by decide) ?_
        refine lv_istore_n (i := 2) (lv' := [(2, .int 0), (0, .ref a0), (1, .int v1_4)]) hx hb d_F_playBeat_56 rfl hl3 (by decide) rfl (fun ls hl8 => ?_)
        have leS_4 : gle S_4 S_4 := gle.rf
        obtain ⟨J57, ⟨n0_57, h0_57⟩, hJ57⟩ := h
        have k57 : ∀ (n57 : Nat) (S_57 : St) (v2_57 : Int32) (H : Heap) (locs : List Loc) (ls : Array Slot), gle S_4 S_57 → GH x S_57 s H locs → lv_has ls 4 [(0, .ref a0), (1, .int v1_4), (2, .int v2_57)] → J57 n57 S_57 v2_57 → W p l e { frames := 6, cells := 0, slots := 0, locals := 136 } s m args below meth c H locs 0 0 (MQ below (va_Qi post (gB x S) (xA x)) args s 0 0 (xA x)) (F0 m 57 ls []) := by
          intro n57
          induction n57 using Nat.strongRecOn with
          | _ n57 ih57 =>
            intro S_57 v2_57 H locs ls hle1 hG hl9 hj
            replace h := hJ57 n57 S_57 v2_57 hj
            have fa0 := gle_isA hle1 fa0
            have f6 := gle_isA hle1 f6
            have leS := leS.tr hle1
            have leS_4 := leS_4.tr hle1
            refine lv_iload_n hx hb d_F_playBeat_57 rfl (lv_at hl9 2 rfl) ?_
            refine lv_aload_n hx hb d_F_playBeat_58 rfl (lv_at hl9 0 rfl) ?_
            refine gget hx hb hw hown hK hG kd_F fa0 rfl 1 (by decide) rfl tw_185 (fun _ h9 => h9) d_F_playBeat_59 ?_
            refine gtopq (fun o10 eo10 => ?_)
            replace h := h o10 eo10
            obtain ⟨y11, ey11, h⟩ := h
            subst ey11
            obtain ⟨f12, h⟩ := h
            -- call AL_size
            refine gpi hK hG (va_runV (As := []) (rest := [.int v2_57]) ⟨hx, hb, hml, hown, hw⟩ (m_AL_size l x S_57 _ y11 f12 h) ⟨gcb hw tw_284 tw_32 tw_289 hd_AL_size rfl rfl ⟨(Nat.le_of_ble_eq_true rfl), (Nat.le_of_ble_eq_true rfl)⟩, hw _ tw_282, hw _ tw_283⟩ (gpV hK hG kd_AL f12 rfl) rfl rfl hl9.1 rfl (lv_room (Nat.le_of_ble_eq_true rfl)) d_F_playBeat_62 ⟨(Nat.le_of_ble_eq_true rfl), (Nat.le_of_ble_eq_true rfl)⟩) (fun r13 H locs h9 hG => ?_)
            replace h := h9
            clear h9
            refine lv_icmp_ge (tgt := 112) hx hb d_F_playBeat_65 (by decide) (fun hc53 => ?_) (fun hc53 => ?_)
            · replace h := h.1 hc53
              refine lv_iconst (v := 0) hx hb d_F_playBeat_112 (by decide) ?_
              refine lv_istore_n (i := 2) (lv' := [(2, .int 0), (0, .ref a0), (1, .int v1_4)]) hx hb d_F_playBeat_113 rfl hl9 (by decide) rfl (fun ls hl14 => ?_)
              have leS_57 : gle S_57 S_57 := gle.rf
              obtain ⟨J114, ⟨n0_114, h0_114⟩, hJ114⟩ := h
              have k114 : ∀ (n114 : Nat) (S_114 : St) (v2_114 : Int32) (H : Heap) (locs : List Loc) (ls : Array Slot), gle S_57 S_114 → GH x S_114 s H locs → lv_has ls 4 [(0, .ref a0), (1, .int v1_4), (2, .int v2_114)] → J114 n114 S_114 v2_114 → W p l e { frames := 6, cells := 0, slots := 0, locals := 136 } s m args below meth c H locs 0 0 (MQ below (va_Qi post (gB x S) (xA x)) args s 0 0 (xA x)) (F0 m 114 ls []) := by
                intro n114
                induction n114 using Nat.strongRecOn with
                | _ n114 ih114 =>
                  intro S_114 v2_114 H locs ls hle1 hG hl15 hj
                  replace h := hJ114 n114 S_114 v2_114 hj
                  have fa0 := gle_isA hle1 fa0
                  have f6 := gle_isA hle1 f6
                  have f12 := gle_isA hle1 f12
                  have leS := leS.tr hle1
                  have leS_4 := leS_4.tr hle1
                  have leS_57 := leS_57.tr hle1
                  refine lv_iload_n hx hb d_F_playBeat_114 rfl (lv_at hl15 2 rfl) ?_
                  refine lv_aload_n hx hb d_F_playBeat_115 rfl (lv_at hl15 0 rfl) ?_
                  refine gget hx hb hw hown hK hG kd_F fa0 rfl 0 (by decide) rfl tw_183 (fun _ h9 => h9) d_F_playBeat_116 ?_
                  refine gtopq (fun o16 eo16 => ?_)
                  replace h := h o16 eo16
                  obtain ⟨y17, ey17, h⟩ := h
                  subst ey17
                  obtain ⟨f18, h⟩ := h
                  -- call AL_size
                  refine gpi hK hG (va_runV (As := []) (rest := [.int v2_114]) ⟨hx, hb, hml, hown, hw⟩ (m_AL_size l x S_114 _ y17 f18 h) ⟨gcb hw tw_284 tw_32 tw_289 hd_AL_size rfl rfl ⟨(Nat.le_of_ble_eq_true rfl), (Nat.le_of_ble_eq_true rfl)⟩, hw _ tw_282, hw _ tw_283⟩ (gpV hK hG kd_AL f18 rfl) rfl rfl hl15.1 rfl (lv_room (Nat.le_of_ble_eq_true rfl)) d_F_playBeat_119 ⟨(Nat.le_of_ble_eq_true rfl), (Nat.le_of_ble_eq_true rfl)⟩) (fun r19 H locs h9 hG => ?_)
                  replace h := h9
                  clear h9
                  refine lv_icmp_ge (tgt := 157) hx hb d_F_playBeat_122 (by decide) (fun hc32 => ?_) (fun hc32 => ?_)
                  · replace h := h.1 hc32
                    refine lv_aload_n hx hb d_F_playBeat_157 rfl (lv_at hl15 0 rfl) ?_
                    refine lv_dup hx hb d_F_playBeat_158 rfl ?_
                    refine gget hx hb hw hown hK hG kd_F fa0 rfl 2 (by decide) rfl tw_187 (fun _ h9 => h9) d_F_playBeat_159 ?_
                    refine lv_iconst (v := 1) hx hb d_F_playBeat_162 (by decide) ?_
                    refine lv_iadd hx hb d_F_playBeat_163 ?_
                    refine gput (S' := pI S_114 23 a0 ((sI S_114 23 a0) + 1)) hx hb hw hown hK hG kd_F fa0 rfl 2 (by decide) (gChI fa0 rfl) tw_187 (fun _ h9 => h9) rfl rfl rfl rfl (Nat.le_of_ble_eq_true rfl) d_F_playBeat_164 (fun S20 H locs eS20 hle1 hG => ?_)
                    replace h := h S20 eS20
                    have fa0 := gle_isA hle1 fa0
                    have f6 := gle_isA hle1 f6
                    have f12 := gle_isA hle1 f12
                    have f18 := gle_isA hle1 f18
                    have leS := leS.tr hle1
                    have leS_4 := leS_4.tr hle1
                    have leS_57 := leS_57.tr hle1
                    refine lv_iload_n hx hb d_F_playBeat_167 rfl (lv_at hl15 1 rfl) ?_
                    exact giret hx hb hr hlocks hK hG leS h (Nat.le_of_ble_eq_true rfl) (Nat.le_of_ble_eq_true rfl) d_F_playBeat_168
                  · replace h := h.2 hc32
                    refine lv_aload_n hx hb d_F_playBeat_125 rfl (lv_at hl15 0 rfl) ?_
                    refine gget hx hb hw hown hK hG kd_F fa0 rfl 0 (by decide) rfl tw_183 (fun _ h9 => h9) d_F_playBeat_126 ?_
                    refine gtopq (fun o21 eo21 => ?_)
                    replace h := h o21 eo21
                    refine lv_iload_n hx hb d_F_playBeat_129 rfl (lv_at hl15 2 rfl) ?_
                    obtain ⟨y22, ey22, h⟩ := h
                    subst ey22
                    obtain ⟨f23, h⟩ := h
                    -- call AL_get
                    refine gpq hK hG (va_runV (As := [.int v2_114]) (rest := []) ⟨hx, hb, hml, hown, hw⟩ (m_AL_get l x S_114 _ y22 v2_114 f23 h) ⟨gcb hw tw_293 tw_32 tw_290 hd_AL_get rfl rfl ⟨(Nat.le_of_ble_eq_true rfl), (Nat.le_of_ble_eq_true rfl)⟩, hw _ tw_291, hw _ tw_292⟩ (gpV hK hG kd_AL f23 rfl) rfl rfl hl15.1 rfl (lv_room (Nat.le_of_ble_eq_true rfl)) d_F_playBeat_130 ⟨(Nat.le_of_ble_eq_true rfl), (Nat.le_of_ble_eq_true rfl)⟩) (fun o24 H locs h9 hG => ?_)
                    replace h := h9
                    clear h9
                    obtain ⟨y25, ey25, h⟩ := h
                    subst ey25
                    obtain ⟨f26, h⟩ := h
                    refine gcast hx hb hw hown hK hG kd_R tw_302 f26 rfl d_F_playBeat_133 ?_
                    refine lv_astore_n (i := 3) (lv' := [(3, .ref y25), (0, .ref a0), (1, .int v1_4), (2, .int v2_114)]) hx hb d_F_playBeat_136 rfl hl15 (by decide) rfl (fun ls hl27 => ?_)
                    refine lv_aload_n hx hb d_F_playBeat_137 rfl (lv_at hl27 0 rfl) ?_
                    refine lv_iconst (v := 0) hx hb d_F_playBeat_138 (by decide) ?_
                    refine lv_aload_n hx hb d_F_playBeat_139 rfl (lv_at hl27 0 rfl) ?_
                    refine gget hx hb hw hown hK hG kd_R f26 rfl 10 (by decide) rfl tw_605 (fun _ h9 => h9) d_F_playBeat_140 ?_
                    refine lv_iconst (v := 1) hx hb d_F_playBeat_143 (by decide) ?_
                    refine lv_isub hx hb d_F_playBeat_144 ?_
                    refine va_mmax hx hb (hml.trans hl27.1.symm) hown (hw _ tw_874) (hw _ tw_215) (hw _ tw_40) (hw _ tw_216) (Nat.le_of_ble_eq_true rfl) (Nat.le_of_ble_eq_true rfl) (Nat.le_of_ble_eq_true rfl) (Nat.le_of_ble_eq_true rfl) d_F_playBeat_145 ?_
                    refine lv_topi (fun v28 ev28 => ?_)
                    replace h := h v28 ev28
                    refine gput (S' := pI S_114 16 y25 v28) hx hb hw hown hK hG kd_R f26 rfl 10 (by decide) (gChI f26 rfl) tw_605 (fun _ h9 => h9) rfl rfl rfl rfl (Nat.le_of_ble_eq_true rfl) d_F_playBeat_148 (fun S29 H locs eS29 hle1 hG => ?_)
                    replace h := h S29 eS29
                    have fa0 := gle_isA hle1 fa0
                    have f6 := gle_isA hle1 f6
                    have f12 := gle_isA hle1 f12
                    have f18 := gle_isA hle1 f18
                    have f23 := gle_isA hle1 f23
                    have f26 := gle_isA hle1 f26
                    have leS := leS.tr hle1
                    have leS_4 := leS_4.tr hle1
                    have leS_57 := leS_57.tr hle1
                    obtain ⟨v30, ev30⟩ : ∃ z : Int32, z = v2_114 + 1 := ⟨_, rfl⟩
                    replace h := h v30 ev30
                    refine lv_iinc (v := v30) (lv' := [(2, .int v30), (3, .ref y25), (0, .ref a0), (1, .int v1_4)]) hx hb d_F_playBeat_151 hl27 (k := 3) rfl (by rw [ev30]; rfl) (by decide) rfl (fun ls hl31 => ?_)
                    refine lv_goto (tgt := 114) hx hb d_F_playBeat_154 (by decide) ?_
                    obtain ⟨nx, hnx, h⟩ := h
                    exact ih114 nx hnx S29 v30 H locs ls leS_57 hG (lv_sub hl31 [2, 3, 0] rfl) h
              exact k114 n0_114 S_57 0 H locs ls gle.rf hG (lv_sub hl14 [1, 2, 0] rfl) h0_114
            · replace h := h.2 hc53
              refine lv_aload_n hx hb d_F_playBeat_68 rfl (lv_at hl9 0 rfl) ?_
              refine lv_aload_n hx hb d_F_playBeat_69 rfl (lv_at hl9 0 rfl) ?_
              refine gget hx hb hw hown hK hG kd_F fa0 rfl 1 (by decide) rfl tw_185 (fun _ h9 => h9) d_F_playBeat_70 ?_
              refine gtopq (fun o33 eo33 => ?_)
              replace h := h o33 eo33
              refine lv_iload_n hx hb d_F_playBeat_73 rfl (lv_at hl9 2 rfl) ?_
              obtain ⟨y34, ey34, h⟩ := h
              subst ey34
              obtain ⟨f35, h⟩ := h
              -- call AL_get
              refine gpq hK hG (va_runV (As := [.int v2_57]) (rest := [.ref a0]) ⟨hx, hb, hml, hown, hw⟩ (m_AL_get l x S_57 _ y34 v2_57 f35 h) ⟨gcb hw tw_293 tw_32 tw_290 hd_AL_get rfl rfl ⟨(Nat.le_of_ble_eq_true rfl), (Nat.le_of_ble_eq_true rfl)⟩, hw _ tw_291, hw _ tw_292⟩ (gpV hK hG kd_AL f35 rfl) rfl rfl hl9.1 rfl (lv_room (Nat.le_of_ble_eq_true rfl)) d_F_playBeat_74 ⟨(Nat.le_of_ble_eq_true rfl), (Nat.le_of_ble_eq_true rfl)⟩) (fun o36 H locs h9 hG => ?_)
              replace h := h9
              clear h9
              obtain ⟨y37, ey37, h⟩ := h
              subst ey37
              obtain ⟨f38, h⟩ := h
              refine gcast hx hb hw hown hK hG kd_N tw_861 f38 rfl d_F_playBeat_77 ?_
              -- call N_whoseTurn
              refine gpi hK hG (va_runV (As := []) (rest := [.ref a0]) ⟨hx, hb, hml, hown, hw⟩ (m_N_whoseTurn l x S_57 _ y37 f38 h) ⟨gcb hw tw_350 tw_53 tw_862 hd_N_whoseTurn rfl rfl ⟨(Nat.le_of_ble_eq_true rfl), (Nat.le_of_ble_eq_true rfl)⟩, hw _ tw_348, hw _ tw_349⟩ (gpV hK hG kd_N f38 rfl) rfl rfl hl9.1 rfl (lv_room (Nat.le_of_ble_eq_true rfl)) d_F_playBeat_80 ⟨(Nat.le_of_ble_eq_true rfl), (Nat.le_of_ble_eq_true rfl)⟩) (fun r39 H locs h9 hG => ?_)
              replace h := h9
              clear h9
              -- call F_dancerOrNull
              refine gpq hK hG (va_runV (As := [.int r39]) (rest := []) ⟨hx, hb, hml, hown, hw⟩ (m_F_dancerOrNull l x S_57 _ a0 r39 fa0 h) ⟨gcb hw tw_658 tw_38 tw_863 hd_F_dancerOrNull rfl rfl ⟨(Nat.le_of_ble_eq_true rfl), (Nat.le_of_ble_eq_true rfl)⟩, hw _ tw_656, hw _ tw_657⟩ (gpV hK hG kd_F fa0 rfl) rfl rfl hl9.1 rfl (lv_room (Nat.le_of_ble_eq_true rfl)) d_F_playBeat_83 ⟨(Nat.le_of_ble_eq_true rfl), (Nat.le_of_ble_eq_true rfl)⟩) (fun o40 H locs h9 hG => ?_)
              replace h := h9
              clear h9
              refine gastore_n (i := 3) (lv' := [(3, va_rf o40), (0, .ref a0), (1, .int v1_4), (2, .int v2_57)]) hx hb d_F_playBeat_86 rfl hl9 (by decide) rfl (fun ls hl41 => ?_)
              refine gaload_n hx hb d_F_playBeat_87 rfl (lv_at hl41 0 rfl) ?_
              have leS_57 : gle S_57 S_57 := gle.rf
              obtain ⟨J106, hJ106, h⟩ := h
              have k106 : ∀ (S_106 : St) (H : Heap) (locs : List Loc) (ls : Array Slot), gle S_57 S_106 → GH x S_106 s H locs → lv_has ls 4 [(0, .ref a0), (1, .int v1_4), (2, .int v2_57)] → J106 S_106 → W p l e { frames := 6, cells := 0, slots := 0, locals := 136 } s m args below meth c H locs 0 0 (MQ below (va_Qi post (gB x S) (xA x)) args s 0 0 (xA x)) (F0 m 106 ls []) := by
                intro S_106  H locs ls hle1 hG hl42 hj
                replace h := hJ106 S_106 hj
                have fa0 := gle_isA hle1 fa0
                have f6 := gle_isA hle1 f6
                have f12 := gle_isA hle1 f12
                have f35 := gle_isA hle1 f35
                have f38 := gle_isA hle1 f38
                have leS := leS.tr hle1
                have leS_4 := leS_4.tr hle1
                have leS_57 := leS_57.tr hle1
                obtain ⟨v43, ev43⟩ : ∃ z : Int32, z = v2_57 + 1 := ⟨_, rfl⟩
                replace h := h v43 ev43
                refine lv_iinc (v := v43) (lv' := [(2, .int v43), (0, .ref a0), (1, .int v1_4)]) hx hb d_F_playBeat_106 hl42 (k := 2) rfl (by rw [ev43]; rfl) (by decide) rfl (fun ls hl44 => ?_)
                refine lv_goto (tgt := 57) hx hb d_F_playBeat_109 (by decide) ?_
                obtain ⟨nx, hnx, h⟩ := h
                exact ih57 nx hnx S_106 v43 H locs ls leS_4 hG (lv_sub hl44 [1, 2, 0] rfl) h
              refine gifnull (tgt := 106) hx hb d_F_playBeat_88 (by decide) (fun e9 => ?_) (fun y45 e9 => ?_)
              · replace h := h.1 e9
                subst e9
                exact k106 S_57 H locs ls leS_57 hG (lv_sub hl41 [1, 2, 3] rfl) h
              · replace h := h.2 y45 e9
                subst e9
                refine lv_aload_n hx hb d_F_playBeat_91 rfl (lv_at hl41 1 rfl) ?_
                refine gget hx hb hw hown hK hG kd_F fa0 rfl 1 (by decide) rfl tw_185 (fun _ h9 => h9) d_F_playBeat_92 ?_
                refine gtopq (fun o46 eo46 => ?_)
                replace h := h o46 eo46
                refine lv_iload_n hx hb d_F_playBeat_95 rfl (lv_at hl41 3 rfl) ?_
                obtain ⟨y47, ey47, h⟩ := h
                subst ey47
                obtain ⟨f48, h⟩ := h
                -- call AL_get
                refine gpq hK hG (va_runV (As := [.int v2_57]) (rest := []) ⟨hx, hb, hml, hown, hw⟩ (m_AL_get l x S_57 _ y47 v2_57 f48 h) ⟨gcb hw tw_293 tw_32 tw_290 hd_AL_get rfl rfl ⟨(Nat.le_of_ble_eq_true rfl), (Nat.le_of_ble_eq_true rfl)⟩, hw _ tw_291, hw _ tw_292⟩ (gpV hK hG kd_AL f48 rfl) rfl rfl hl41.1 rfl (lv_room (Nat.le_of_ble_eq_true rfl)) d_F_playBeat_96 ⟨(Nat.le_of_ble_eq_true rfl), (Nat.le_of_ble_eq_true rfl)⟩) (fun o49 H locs h9 hG => ?_)
                replace h := h9
                clear h9
                obtain ⟨y50, ey50, h⟩ := h
                subst ey50
                obtain ⟨f51, h⟩ := h
                refine gcast hx hb hw hown hK hG kd_N tw_861 f51 rfl d_F_playBeat_99 ?_
                refine lv_aload_n hx hb d_F_playBeat_102 rfl (lv_at hl41 0 rfl) ?_
                -- call N_attend
                refine gcv hK hG (va_runV (As := [.ref y45]) (rest := []) ⟨hx, hb, hml, hown, hw⟩ (m_N_attend l x S_57 _ y50 (some y45) f51 h) ⟨gcb hw tw_867 tw_53 tw_864 hd_N_attend rfl rfl ⟨(Nat.le_of_ble_eq_true rfl), (Nat.le_of_ble_eq_true rfl)⟩, hw _ tw_865, hw _ tw_866⟩ (gpV hK hG kd_N f51 rfl) rfl rfl hl41.1 rfl (lv_room (Nat.le_of_ble_eq_true rfl)) d_F_playBeat_103 ⟨(Nat.le_of_ble_eq_true rfl), (Nat.le_of_ble_eq_true rfl)⟩) (fun S52 H locs h9 hle1 hG => ?_)
                replace h := h9
                clear h9
                have fa0 := gle_isA hle1 fa0
                have f6 := gle_isA hle1 f6
                have f12 := gle_isA hle1 f12
                have f35 := gle_isA hle1 f35
                have f38 := gle_isA hle1 f38
                have f48 := gle_isA hle1 f48
                have f51 := gle_isA hle1 f51
                have leS := leS.tr hle1
                have leS_4 := leS_4.tr hle1
                have leS_57 := leS_57.tr hle1
                exact k106 S52 H locs ls leS_57 hG (lv_sub hl41 [1, 2, 3] rfl) h
        exact k57 n0_57 S_4 0 H locs ls gle.rf hG (lv_sub hl8 [1, 2, 0] rfl) h0_57
      · replace h := h.2 hc71
        refine lv_aload_n hx hb d_F_playBeat_15 rfl (lv_at hl3 0 rfl) ?_
        refine gget hx hb hw hown hK hG kd_F fa0 rfl 0 (by decide) rfl tw_183 (fun _ h9 => h9) d_F_playBeat_16 ?_
        refine gtopq (fun o54 eo54 => ?_)
        replace h := h o54 eo54
        refine lv_iload_n hx hb d_F_playBeat_19 rfl (lv_at hl3 2 rfl) ?_
        obtain ⟨y55, ey55, h⟩ := h
        subst ey55
        obtain ⟨f56, h⟩ := h
        -- call AL_get
        refine gpq hK hG (va_runV (As := [.int v2_4]) (rest := []) ⟨hx, hb, hml, hown, hw⟩ (m_AL_get l x S_4 _ y55 v2_4 f56 h) ⟨gcb hw tw_293 tw_32 tw_290 hd_AL_get rfl rfl ⟨(Nat.le_of_ble_eq_true rfl), (Nat.le_of_ble_eq_true rfl)⟩, hw _ tw_291, hw _ tw_292⟩ (gpV hK hG kd_AL f56 rfl) rfl rfl hl3.1 rfl (lv_room (Nat.le_of_ble_eq_true rfl)) d_F_playBeat_20 ⟨(Nat.le_of_ble_eq_true rfl), (Nat.le_of_ble_eq_true rfl)⟩) (fun o57 H locs h9 hG => ?_)
        replace h := h9
        clear h9
        obtain ⟨y58, ey58, h⟩ := h
        subst ey58
        obtain ⟨f59, h⟩ := h
        refine gcast hx hb hw hown hK hG kd_R tw_302 f59 rfl d_F_playBeat_23 ?_
        refine lv_astore_n (i := 3) (lv' := [(3, .ref y58), (0, .ref a0), (1, .int v1_4), (2, .int v2_4)]) hx hb d_F_playBeat_26 rfl hl3 (by decide) rfl (fun ls hl60 => ?_)
        refine lv_aload_n hx hb d_F_playBeat_27 rfl (lv_at hl60 0 rfl) ?_
        refine gget hx hb hw hown hK hG kd_R f59 rfl 9 (by decide) rfl tw_602 (fun _ h9 => h9) d_F_playBeat_28 ?_
        have leS_4 : gle S_4 S_4 := gle.rf
        obtain ⟨J49, hJ49, h⟩ := h
        have k49 : ∀ (S_49 : St) (v1_49 : Int32) (H : Heap) (locs : List Loc) (ls : Array Slot), gle S_4 S_49 → GH x S_49 s H locs → lv_has ls 4 [(0, .ref a0), (1, .int v1_49), (2, .int v2_4)] → J49 S_49 v1_49 → W p l e { frames := 6, cells := 0, slots := 0, locals := 136 } s m args below meth c H locs 0 0 (MQ below (va_Qi post (gB x S) (xA x)) args s 0 0 (xA x)) (F0 m 49 ls []) := by
          intro S_49 v1_49  H locs ls hle1 hG hl61 hj
          replace h := hJ49 S_49 v1_49 hj
          have fa0 := gle_isA hle1 fa0
          have f6 := gle_isA hle1 f6
          have f56 := gle_isA hle1 f56
          have f59 := gle_isA hle1 f59
          have leS := leS.tr hle1
          have leS_4 := leS_4.tr hle1
          obtain ⟨v62, ev62⟩ : ∃ z : Int32, z = v2_4 + 1 := ⟨_, rfl⟩
          replace h := h v62 ev62
          refine lv_iinc (v := v62) (lv' := [(2, .int v62), (0, .ref a0), (1, .int v1_49)]) hx hb d_F_playBeat_49 hl61 (k := 2) rfl (by rw [ev62]; rfl) (by decide) rfl (fun ls hl63 => ?_)
          refine lv_goto (tgt := 4) hx hb d_F_playBeat_52 (by decide) ?_
          obtain ⟨nx, hnx, h⟩ := h
          exact ih4 nx hnx S_49 v1_49 v62 H locs ls leS hG (lv_sub hl63 [1, 2, 0] rfl) h
        refine lv_if_ne (tgt := 49) hx hb d_F_playBeat_31 (by decide) (fun hc70 => ?_) (fun hc70 => ?_)
        · replace h := h.2 hc70
          exact k49 S_4 v1_4 H locs ls leS_4 hG (lv_sub hl60 [1, 2, 3] rfl) h
        · replace h := h.1 hc70
          refine lv_aload_n hx hb d_F_playBeat_34 rfl (lv_at hl60 0 rfl) ?_
          -- call F_mayPerform
          refine gpi hK hG (va_runS (As := [.ref y58]) (rest := []) ⟨hx, hb, hml, hown, hw⟩ (m_F_mayPerform l x S_4 _ (some y58)  h) ⟨gcb hw tw_802 tw_38 tw_800 hd_F_mayPerform rfl rfl ⟨(Nat.le_of_ble_eq_true rfl), (Nat.le_of_ble_eq_true rfl)⟩, hw _ tw_801⟩ (gpS hK hG) rfl rfl hl60.1 rfl (lv_room (Nat.le_of_ble_eq_true rfl)) d_F_playBeat_35 ⟨(Nat.le_of_ble_eq_true rfl), (Nat.le_of_ble_eq_true rfl)⟩) (fun r64 H locs h9 hG => ?_)
          replace h := h9
          clear h9
          refine lv_if_eq (tgt := 49) hx hb d_F_playBeat_38 (by decide) (fun hc69 => ?_) (fun hc69 => ?_)
          · replace h := h.1 hc69
            exact k49 S_4 v1_4 H locs ls leS_4 hG (lv_sub hl60 [1, 2, 3] rfl) h
          · replace h := h.2 hc69
            refine lv_iload_n hx hb d_F_playBeat_41 rfl (lv_at hl60 2 rfl) ?_
            refine lv_aload_n hx hb d_F_playBeat_42 rfl (lv_at hl60 1 rfl) ?_
            refine lv_aload_n hx hb d_F_playBeat_43 rfl (lv_at hl60 0 rfl) ?_
            -- call F_perform
            refine gci hK hG (va_runV (As := [.ref y58]) (rest := [.int v1_4]) ⟨hx, hb, hml, hown, hw⟩ (m_F_perform l x S_4 _ a0 (some y58) fa0 h) ⟨gcb hw tw_811 tw_38 tw_808 hd_F_perform rfl rfl ⟨(Nat.le_of_ble_eq_true rfl), (Nat.le_of_ble_eq_true rfl)⟩, hw _ tw_810, hw _ tw_9⟩ (gpV hK hG kd_F fa0 rfl) rfl rfl hl60.1 rfl (lv_room (Nat.le_of_ble_eq_true rfl)) d_F_playBeat_44 ⟨(Nat.le_of_ble_eq_true rfl), (Nat.le_of_ble_eq_true rfl)⟩) (fun r65 S66 H locs h9 hle1 hG => ?_)
            replace h := h9
            clear h9
            have fa0 := gle_isA hle1 fa0
            have f6 := gle_isA hle1 f6
            have f56 := gle_isA hle1 f56
            have f59 := gle_isA hle1 f59
            have leS := leS.tr hle1
            have leS_4 := leS_4.tr hle1
            refine lv_iadd hx hb d_F_playBeat_47 ?_
            refine lv_topi (fun v67 ev67 => ?_)
            replace h := h v67 ev67
            refine lv_istore_n (i := 1) (lv' := [(1, .int v67), (3, .ref y58), (0, .ref a0), (2, .int v2_4)]) hx hb d_F_playBeat_48 rfl hl60 (by decide) rfl (fun ls hl68 => ?_)
            exact k49 S66 v67 H locs ls leS_4 hG (lv_sub hl68 [2, 0, 3] rfl) h
  exact k4 n0_4 S 0 0 H locs ls gle.rf hG (lv_sub hl2 [2, 1, 0] rfl) h0_4
def w_F_firstNewlySpentSince (post : Int32 → Prop) (S : St) (a0 : Nat) (a1 : Option Nat) : Prop :=
  ∃ J2 : Nat → Int32 → Prop, (∃ n : Nat, J2 n 0) ∧ ∀ (n2 : Nat) (v2_2 : Int32), J2 n2 v2_2 → ∀ o3 : Option Nat, o3 = sQ S 21 a0 → ∃ y4 : Nat, o3 = some y4 ∧ isA S 0 y4 ∧ w_AL_size (fun (r6 : Int32) => (r6 ≤ v2_2 → post (-1)) ∧ (¬ r6 ≤ v2_2 → ∃ y7 : Nat, a1 = some y7 ∧ isA S 3 y7 ∧ ∀ o9 : Option Nat, o9 = sQ S 21 y7 → ∃ y10 : Nat, o9 = some y10 ∧ isA S 0 y10 ∧ w_AL_size (fun (r12 : Int32) => (r12 ≤ v2_2 → post (-1)) ∧ (¬ r12 ≤ v2_2 → ∀ o13 : Option Nat, o13 = sQ S 21 a0 → ∃ y14 : Nat, o13 = some y14 ∧ isA S 0 y14 ∧ w_AL_get (fun (o16 : Option Nat) => ∃ y17 : Nat, o16 = some y17 ∧ isA S 2 y17 ∧ w_R_isSpent (fun (r19 : Int32) => ∃ J60 : Prop, (J60 → ∀ v21 : Int32, v21 = v2_2 + 1 → ∃ nx : Nat, nx < n2 ∧ J2 nx v21) ∧ (r19 = 0 → J60) ∧ (¬ r19 = 0 → ∀ o23 : Option Nat, o23 = sQ S 21 y7 → ∃ y24 : Nat, o23 = some y24 ∧ isA S 0 y24 ∧ w_AL_get (fun (o26 : Option Nat) => ∃ y27 : Nat, o26 = some y27 ∧ isA S 2 y27 ∧ w_R_isSpent (fun (r29 : Int32) => (r29 = 0 → post v2_2) ∧ (¬ r29 = 0 → J60)) S y27) S y24 v2_2)) S y17) S y14 v2_2)) S y10)) S y4
set_option maxHeartbeats 4000000 in
set_option maxRecDepth 100000 in
theorem m_F_firstNewlySpentSince (l : Launch) (x : Cx) (S : St) (post : Int32 → Prop) (a0 : Nat) (a1 : Option Nat) (fa0 : isA S 3 a0) (h : w_F_firstNewlySpentSince post S a0 a1) : Met l y_F_firstNewlySpentSince [.code y_F_firstNewlySpentSince c_F_firstNewlySpentSince 3 (some .int)] { frames := 3, cells := 0, slots := 0, locals := 64 } (va_Pc [.ref a0, va_rf a1] (GW x S)) (va_Qi (gPu post S) (gB x S) (xA x)) 0 0 (xA x) := by
  refine gMet (by decide +kernel) (by simp [lg_sl, gCat, gci1, gcr1, gcl1, gcd1]) ?_
  intro p e s m args below meth c hx hb hr hown hlocks hin hw hK H locs hG ls hlA hml
  have hown : s.vm.findClass "WaltzHall$Floor" = some m.cls := hown
  have hl0 : lv_has ls 3 [(0, .ref a0), (1, va_rf a1)] := hlA
  unfold w_F_firstNewlySpentSince at h
  refine lv_iconst (v := 0) hx hb d_F_firstNewlySpentSince_0 (by decide) ?_
  refine lv_istore_n (i := 2) (lv' := [(2, .int 0), (0, .ref a0), (1, va_rf a1)]) hx hb d_F_firstNewlySpentSince_1 rfl hl0 (by decide) (by simp [gCat, gCatB, gci1, gcr1, gcl1, gcd1] <;> rfl) (fun ls hl1 => ?_)
  have leS : gle S S := gle.rf
  obtain ⟨J2, ⟨n0_2, h0_2⟩, hJ2⟩ := h
  have k2 : ∀ (n2 : Nat) (v2_2 : Int32) (H : Heap) (locs : List Loc) (ls : Array Slot), GH x S s H locs → lv_has ls 3 [(0, .ref a0), (1, va_rf a1), (2, .int v2_2)] → J2 n2 v2_2 → W p l e { frames := 3, cells := 0, slots := 0, locals := 64 } s m args below meth c H locs 0 0 (MQ below (va_Qi (gPu post S) (gB x S) (xA x)) args s 0 0 (xA x)) (F0 m 2 ls []) := by
    intro n2
    induction n2 using Nat.strongRecOn with
    | _ n2 ih2 =>
      intro v2_2 H locs ls hG hl2 hj
      replace h := hJ2 n2 v2_2 hj
      refine lv_iload_n hx hb d_F_firstNewlySpentSince_2 rfl (lv_at hl2 2 rfl) ?_
      refine lv_aload_n hx hb d_F_firstNewlySpentSince_3 rfl (lv_at hl2 0 rfl) ?_
      refine gget hx hb hw hown hK hG kd_F fa0 rfl 0 (by decide) rfl tw_183 (fun _ h9 => h9) d_F_firstNewlySpentSince_4 ?_
      refine gtopq (fun o3 eo3 => ?_)
      replace h := h o3 eo3
      obtain ⟨y4, ey4, h⟩ := h
      subst ey4
      obtain ⟨f5, h⟩ := h
      -- call AL_size
      refine gpi hK hG (va_runV (As := []) (rest := [.int v2_2]) ⟨hx, hb, hml, hown, hw⟩ (m_AL_size l x S _ y4 f5 h) ⟨gcb hw tw_284 tw_32 tw_289 hd_AL_size rfl rfl ⟨(Nat.le_of_ble_eq_true rfl), (Nat.le_of_ble_eq_true rfl)⟩, hw _ tw_282, hw _ tw_283⟩ (gpV hK hG kd_AL f5 rfl) rfl rfl hl2.1 rfl (lv_room (Nat.le_of_ble_eq_true rfl)) d_F_firstNewlySpentSince_7 ⟨(Nat.le_of_ble_eq_true rfl), (Nat.le_of_ble_eq_true rfl)⟩) (fun r6 H locs h9 hG => ?_)
      replace h := h9
      clear h9
      refine lv_icmp_ge (tgt := 66) hx hb d_F_firstNewlySpentSince_10 (by decide) (fun hc33 => ?_) (fun hc33 => ?_)
      · replace h := h.1 hc33
        refine lv_iconst (v := (-1)) hx hb d_F_firstNewlySpentSince_66 (by decide) ?_
        exact giret hx hb hr hlocks hK hG leS ⟨h, rfl⟩ (Nat.le_of_ble_eq_true rfl) (Nat.le_of_ble_eq_true rfl) d_F_firstNewlySpentSince_67
      · replace h := h.2 hc33
        refine lv_iload_n hx hb d_F_firstNewlySpentSince_13 rfl (lv_at hl2 2 rfl) ?_
        refine gaload_n hx hb d_F_firstNewlySpentSince_14 rfl (lv_at hl2 1 rfl) ?_
        obtain ⟨y7, ey7, h⟩ := h
        subst ey7
        obtain ⟨f8, h⟩ := h
        refine gget hx hb hw hown hK hG kd_F f8 rfl 0 (by decide) rfl tw_183 (fun _ h9 => h9) d_F_firstNewlySpentSince_15 ?_
        refine gtopq (fun o9 eo9 => ?_)
        replace h := h o9 eo9
        obtain ⟨y10, ey10, h⟩ := h
        subst ey10
        obtain ⟨f11, h⟩ := h
        -- call AL_size
        refine gpi hK hG (va_runV (As := []) (rest := [.int v2_2]) ⟨hx, hb, hml, hown, hw⟩ (m_AL_size l x S _ y10 f11 h) ⟨gcb hw tw_284 tw_32 tw_289 hd_AL_size rfl rfl ⟨(Nat.le_of_ble_eq_true rfl), (Nat.le_of_ble_eq_true rfl)⟩, hw _ tw_282, hw _ tw_283⟩ (gpV hK hG kd_AL f11 rfl) rfl rfl hl2.1 rfl (lv_room (Nat.le_of_ble_eq_true rfl)) d_F_firstNewlySpentSince_18 ⟨(Nat.le_of_ble_eq_true rfl), (Nat.le_of_ble_eq_true rfl)⟩) (fun r12 H locs h9 hG => ?_)
        replace h := h9
        clear h9
        refine lv_icmp_ge (tgt := 66) hx hb d_F_firstNewlySpentSince_21 (by decide) (fun hc32 => ?_) (fun hc32 => ?_)
        · replace h := h.1 hc32
          refine lv_iconst (v := (-1)) hx hb d_F_firstNewlySpentSince_66 (by decide) ?_
          exact giret hx hb hr hlocks hK hG leS ⟨h, rfl⟩ (Nat.le_of_ble_eq_true rfl) (Nat.le_of_ble_eq_true rfl) d_F_firstNewlySpentSince_67
        · replace h := h.2 hc32
          refine lv_aload_n hx hb d_F_firstNewlySpentSince_24 rfl (lv_at hl2 0 rfl) ?_
          refine gget hx hb hw hown hK hG kd_F fa0 rfl 0 (by decide) rfl tw_183 (fun _ h9 => h9) d_F_firstNewlySpentSince_25 ?_
          refine gtopq (fun o13 eo13 => ?_)
          replace h := h o13 eo13
          refine lv_iload_n hx hb d_F_firstNewlySpentSince_28 rfl (lv_at hl2 2 rfl) ?_
          obtain ⟨y14, ey14, h⟩ := h
          subst ey14
          obtain ⟨f15, h⟩ := h
          -- call AL_get
          refine gpq hK hG (va_runV (As := [.int v2_2]) (rest := []) ⟨hx, hb, hml, hown, hw⟩ (m_AL_get l x S _ y14 v2_2 f15 h) ⟨gcb hw tw_293 tw_32 tw_290 hd_AL_get rfl rfl ⟨(Nat.le_of_ble_eq_true rfl), (Nat.le_of_ble_eq_true rfl)⟩, hw _ tw_291, hw _ tw_292⟩ (gpV hK hG kd_AL f15 rfl) rfl rfl hl2.1 rfl (lv_room (Nat.le_of_ble_eq_true rfl)) d_F_firstNewlySpentSince_29 ⟨(Nat.le_of_ble_eq_true rfl), (Nat.le_of_ble_eq_true rfl)⟩) (fun o16 H locs h9 hG => ?_)
          replace h := h9
          clear h9
          obtain ⟨y17, ey17, h⟩ := h
          subst ey17
          obtain ⟨f18, h⟩ := h
          refine gcast hx hb hw hown hK hG kd_R tw_302 f18 rfl d_F_firstNewlySpentSince_32 ?_
          -- call R_isSpent
          refine gpi hK hG (va_runV (As := []) (rest := []) ⟨hx, hb, hml, hown, hw⟩ (m_R_isSpent l x S _ y17 f18 h) ⟨gcb hw tw_329 tw_52 tw_326 hd_R_isSpent rfl rfl ⟨(Nat.le_of_ble_eq_true rfl), (Nat.le_of_ble_eq_true rfl)⟩, hw _ tw_327, hw _ tw_328⟩ (gpV hK hG kd_R f18 rfl) rfl rfl hl2.1 rfl (lv_room (Nat.le_of_ble_eq_true rfl)) d_F_firstNewlySpentSince_35 ⟨(Nat.le_of_ble_eq_true rfl), (Nat.le_of_ble_eq_true rfl)⟩) (fun r19 H locs h9 hG => ?_)
          replace h := h9
          clear h9
          obtain ⟨J60, hJ60, h⟩ := h
          have k60 : ∀ (H : Heap) (locs : List Loc) (ls : Array Slot), GH x S s H locs → lv_has ls 3 [(0, .ref a0), (1, .ref y7), (2, .int v2_2)] → J60 → W p l e { frames := 3, cells := 0, slots := 0, locals := 64 } s m args below meth c H locs 0 0 (MQ below (va_Qi (gPu post S) (gB x S) (xA x)) args s 0 0 (xA x)) (F0 m 60 ls []) := by
            intro  H locs ls hG hl20 hj
            replace h := hJ60 hj
            obtain ⟨v21, ev21⟩ : ∃ z : Int32, z = v2_2 + 1 := ⟨_, rfl⟩
            replace h := h v21 ev21
            refine lv_iinc (v := v21) (lv' := [(2, .int v21), (0, .ref a0), (1, .ref y7)]) hx hb d_F_firstNewlySpentSince_60 hl20 (k := 2) rfl (by rw [ev21]; rfl) (by decide) rfl (fun ls hl22 => ?_)
            refine lv_goto (tgt := 2) hx hb d_F_firstNewlySpentSince_63 (by decide) ?_
            obtain ⟨nx, hnx, h⟩ := h
            exact ih2 nx hnx v21 H locs ls hG (lv_sub hl22 [1, 2, 0] rfl) h
          refine lv_if_eq (tgt := 60) hx hb d_F_firstNewlySpentSince_38 (by decide) (fun hc31 => ?_) (fun hc31 => ?_)
          · replace h := h.1 hc31
            exact k60 H locs ls hG (lv_sub hl2 [0, 1, 2] rfl) h
          · replace h := h.2 hc31
            refine lv_aload_n hx hb d_F_firstNewlySpentSince_41 rfl (lv_at hl2 1 rfl) ?_
            refine gget hx hb hw hown hK hG kd_F f8 rfl 0 (by decide) rfl tw_183 (fun _ h9 => h9) d_F_firstNewlySpentSince_42 ?_
            refine gtopq (fun o23 eo23 => ?_)
            replace h := h o23 eo23
            refine lv_iload_n hx hb d_F_firstNewlySpentSince_45 rfl (lv_at hl2 2 rfl) ?_
            obtain ⟨y24, ey24, h⟩ := h
            subst ey24
            obtain ⟨f25, h⟩ := h
            -- call AL_get
            refine gpq hK hG (va_runV (As := [.int v2_2]) (rest := []) ⟨hx, hb, hml, hown, hw⟩ (m_AL_get l x S _ y24 v2_2 f25 h) ⟨gcb hw tw_293 tw_32 tw_290 hd_AL_get rfl rfl ⟨(Nat.le_of_ble_eq_true rfl), (Nat.le_of_ble_eq_true rfl)⟩, hw _ tw_291, hw _ tw_292⟩ (gpV hK hG kd_AL f25 rfl) rfl rfl hl2.1 rfl (lv_room (Nat.le_of_ble_eq_true rfl)) d_F_firstNewlySpentSince_46 ⟨(Nat.le_of_ble_eq_true rfl), (Nat.le_of_ble_eq_true rfl)⟩) (fun o26 H locs h9 hG => ?_)
            replace h := h9
            clear h9
            obtain ⟨y27, ey27, h⟩ := h
            subst ey27
            obtain ⟨f28, h⟩ := h
            refine gcast hx hb hw hown hK hG kd_R tw_302 f28 rfl d_F_firstNewlySpentSince_49 ?_
            -- call R_isSpent
            refine gpi hK hG (va_runV (As := []) (rest := []) ⟨hx, hb, hml, hown, hw⟩ (m_R_isSpent l x S _ y27 f28 h) ⟨gcb hw tw_329 tw_52 tw_326 hd_R_isSpent rfl rfl ⟨(Nat.le_of_ble_eq_true rfl), (Nat.le_of_ble_eq_true rfl)⟩, hw _ tw_327, hw _ tw_328⟩ (gpV hK hG kd_R f28 rfl) rfl rfl hl2.1 rfl (lv_room (Nat.le_of_ble_eq_true rfl)) d_F_firstNewlySpentSince_52 ⟨(Nat.le_of_ble_eq_true rfl), (Nat.le_of_ble_eq_true rfl)⟩) (fun r29 H locs h9 hG => ?_)
            replace h := h9
            clear h9
            refine lv_if_ne (tgt := 60) hx hb d_F_firstNewlySpentSince_55 (by decide) (fun hc30 => ?_) (fun hc30 => ?_)
            · replace h := h.2 hc30
              exact k60 H locs ls hG (lv_sub hl2 [0, 1, 2] rfl) h
            · replace h := h.1 hc30
              refine lv_iload_n hx hb d_F_firstNewlySpentSince_58 rfl (lv_at hl2 2 rfl) ?_
              exact giret hx hb hr hlocks hK hG leS ⟨h, rfl⟩ (Nat.le_of_ble_eq_true rfl) (Nat.le_of_ble_eq_true rfl) d_F_firstNewlySpentSince_59
  exact k2 n0_2 0 H locs ls hG (lv_sub hl1 [1, 2, 0] rfl) h0_2
def w_F_sumOfTold (post : Int32 → Prop) (S : St) (a0 : Nat) (a1 : Int32) : Prop :=
  ∃ J4 : Nat → Int32 → Int32 → Prop, (∃ n : Nat, J4 n 0 0) ∧ ∀ (n4 : Nat) (v2_4 : Int32) (v3_4 : Int32), J4 n4 v2_4 v3_4 → ∀ o4 : Option Nat, o4 = sQ S 21 a0 → ∃ y5 : Nat, o4 = some y5 ∧ isA S 0 y5 ∧ w_AL_size (fun (r7 : Int32) => (r7 ≤ v3_4 → post v2_4) ∧ (¬ r7 ≤ v3_4 → ∀ o8 : Option Nat, o8 = sQ S 21 a0 → ∃ y9 : Nat, o8 = some y9 ∧ isA S 0 y9 ∧ w_AL_get (fun (o11 : Option Nat) => ∃ y12 : Nat, o11 = some y12 ∧ isA S 2 y12 ∧ w_R_tell (fun (r14 : Int32) => ∀ v15 : Int32, v15 = v2_4 + r14 → ∀ v17 : Int32, v17 = v3_4 + 1 → ∃ nx : Nat, nx < n4 ∧ J4 nx v15 v17) S y12 a1) S y9 v3_4)) S y5
set_option maxHeartbeats 4000000 in
set_option maxRecDepth 100000 in
theorem m_F_sumOfTold (l : Launch) (x : Cx) (S : St) (post : Int32 → Prop) (a0 : Nat) (a1 : Int32) (fa0 : isA S 3 a0) (h : w_F_sumOfTold post S a0 a1) : Met l y_F_sumOfTold [.code y_F_sumOfTold c_F_sumOfTold 4 (some .int)] { frames := 3, cells := 0, slots := 0, locals := 64 } (va_Pc [.ref a0, .int a1] (GW x S)) (va_Qi (gPu post S) (gB x S) (xA x)) 0 0 (xA x) := by
  refine gMet (by decide +kernel) (Nat.le_of_ble_eq_true rfl) ?_
  intro p e s m args below meth c hx hb hr hown hlocks hin hw hK H locs hG ls hlA hml
  have hown : s.vm.findClass "WaltzHall$Floor" = some m.cls := hown
  have hl0 : lv_has ls 4 [(0, .ref a0), (1, .int a1)] := hlA
  unfold w_F_sumOfTold at h
  refine lv_iconst (v := 0) hx hb d_F_sumOfTold_0 (by decide) ?_
  refine lv_istore_n (i := 2) (lv' := [(2, .int 0), (0, .ref a0), (1, .int a1)]) hx hb d_F_sumOfTold_1 rfl hl0 (by decide) rfl (fun ls hl1 => ?_)
  refine lv_iconst (v := 0) hx hb d_F_sumOfTold_2 (by decide) ?_
  refine lv_istore_n (i := 3) (lv' := [(3, .int 0), (2, .int 0), (0, .ref a0), (1, .int a1)]) hx hb d_F_sumOfTold_3 rfl hl1 (by decide) rfl (fun ls hl2 => ?_)
  have leS : gle S S := gle.rf
  obtain ⟨J4, ⟨n0_4, h0_4⟩, hJ4⟩ := h
  have k4 : ∀ (n4 : Nat) (v2_4 : Int32) (v3_4 : Int32) (H : Heap) (locs : List Loc) (ls : Array Slot), GH x S s H locs → lv_has ls 4 [(0, .ref a0), (1, .int a1), (2, .int v2_4), (3, .int v3_4)] → J4 n4 v2_4 v3_4 → W p l e { frames := 3, cells := 0, slots := 0, locals := 64 } s m args below meth c H locs 0 0 (MQ below (va_Qi (gPu post S) (gB x S) (xA x)) args s 0 0 (xA x)) (F0 m 4 ls []) := by
    intro n4
    induction n4 using Nat.strongRecOn with
    | _ n4 ih4 =>
      intro v2_4 v3_4 H locs ls hG hl3 hj
      replace h := hJ4 n4 v2_4 v3_4 hj
      refine lv_iload_n hx hb d_F_sumOfTold_4 rfl (lv_at hl3 3 rfl) ?_
      refine lv_aload_n hx hb d_F_sumOfTold_5 rfl (lv_at hl3 0 rfl) ?_
      refine gget hx hb hw hown hK hG kd_F fa0 rfl 0 (by decide) rfl tw_183 (fun _ h9 => h9) d_F_sumOfTold_6 ?_
      refine gtopq (fun o4 eo4 => ?_)
      replace h := h o4 eo4
      obtain ⟨y5, ey5, h⟩ := h
      subst ey5
      obtain ⟨f6, h⟩ := h
      -- call AL_size
      refine gpi hK hG (va_runV (As := []) (rest := [.int v3_4]) ⟨hx, hb, hml, hown, hw⟩ (m_AL_size l x S _ y5 f6 h) ⟨gcb hw tw_284 tw_32 tw_289 hd_AL_size rfl rfl ⟨(Nat.le_of_ble_eq_true rfl), (Nat.le_of_ble_eq_true rfl)⟩, hw _ tw_282, hw _ tw_283⟩ (gpV hK hG kd_AL f6 rfl) rfl rfl hl3.1 rfl (lv_room (Nat.le_of_ble_eq_true rfl)) d_F_sumOfTold_9 ⟨(Nat.le_of_ble_eq_true rfl), (Nat.le_of_ble_eq_true rfl)⟩) (fun r7 H locs h9 hG => ?_)
      replace h := h9
      clear h9
      refine lv_icmp_ge (tgt := 39) hx hb d_F_sumOfTold_12 (by decide) (fun hc19 => ?_) (fun hc19 => ?_)
      · replace h := h.1 hc19
        refine lv_iload_n hx hb d_F_sumOfTold_39 rfl (lv_at hl3 2 rfl) ?_
        exact giret hx hb hr hlocks hK hG leS ⟨h, rfl⟩ (Nat.le_of_ble_eq_true rfl) (Nat.le_of_ble_eq_true rfl) d_F_sumOfTold_40
      · replace h := h.2 hc19
        refine lv_iload_n hx hb d_F_sumOfTold_15 rfl (lv_at hl3 2 rfl) ?_
        refine lv_aload_n hx hb d_F_sumOfTold_16 rfl (lv_at hl3 0 rfl) ?_
        refine gget hx hb hw hown hK hG kd_F fa0 rfl 0 (by decide) rfl tw_183 (fun _ h9 => h9) d_F_sumOfTold_17 ?_
        refine gtopq (fun o8 eo8 => ?_)
        replace h := h o8 eo8
        refine lv_iload_n hx hb d_F_sumOfTold_20 rfl (lv_at hl3 3 rfl) ?_
        obtain ⟨y9, ey9, h⟩ := h
        subst ey9
        obtain ⟨f10, h⟩ := h
        -- call AL_get
        refine gpq hK hG (va_runV (As := [.int v3_4]) (rest := [.int v2_4]) ⟨hx, hb, hml, hown, hw⟩ (m_AL_get l x S _ y9 v3_4 f10 h) ⟨gcb hw tw_293 tw_32 tw_290 hd_AL_get rfl rfl ⟨(Nat.le_of_ble_eq_true rfl), (Nat.le_of_ble_eq_true rfl)⟩, hw _ tw_291, hw _ tw_292⟩ (gpV hK hG kd_AL f10 rfl) rfl rfl hl3.1 rfl (lv_room (Nat.le_of_ble_eq_true rfl)) d_F_sumOfTold_21 ⟨(Nat.le_of_ble_eq_true rfl), (Nat.le_of_ble_eq_true rfl)⟩) (fun o11 H locs h9 hG => ?_)
        replace h := h9
        clear h9
        obtain ⟨y12, ey12, h⟩ := h
        subst ey12
        obtain ⟨f13, h⟩ := h
        refine gcast hx hb hw hown hK hG kd_R tw_302 f13 rfl d_F_sumOfTold_24 ?_
        refine lv_iload_n hx hb d_F_sumOfTold_27 rfl (lv_at hl3 1 rfl) ?_
        -- call R_tell
        refine gpi hK hG (va_runV (As := [.int a1]) (rest := [.int v2_4]) ⟨hx, hb, hml, hown, hw⟩ (m_R_tell l x S _ y12 a1 f13 h) ⟨gcb hw tw_306 tw_52 tw_303 hd_R_tell rfl rfl ⟨(Nat.le_of_ble_eq_true rfl), (Nat.le_of_ble_eq_true rfl)⟩, hw _ tw_304, hw _ tw_305⟩ (gpV hK hG kd_R f13 rfl) rfl rfl hl3.1 rfl (lv_room (Nat.le_of_ble_eq_true rfl)) d_F_sumOfTold_28 ⟨(Nat.le_of_ble_eq_true rfl), (Nat.le_of_ble_eq_true rfl)⟩) (fun r14 H locs h9 hG => ?_)
        replace h := h9
        clear h9
        refine lv_iadd hx hb d_F_sumOfTold_31 ?_
        refine lv_topi (fun v15 ev15 => ?_)
        replace h := h v15 ev15
        refine lv_istore_n (i := 2) (lv' := [(2, .int v15), (0, .ref a0), (1, .int a1), (3, .int v3_4)]) hx hb d_F_sumOfTold_32 rfl hl3 (by decide) rfl (fun ls hl16 => ?_)
        obtain ⟨v17, ev17⟩ : ∃ z : Int32, z = v3_4 + 1 := ⟨_, rfl⟩
        replace h := h v17 ev17
        refine lv_iinc (v := v17) (lv' := [(3, .int v17), (2, .int v15), (0, .ref a0), (1, .int a1)]) hx hb d_F_sumOfTold_33 hl16 (k := 3) rfl (by rw [ev17]; rfl) (by decide) rfl (fun ls hl18 => ?_)
        refine lv_goto (tgt := 4) hx hb d_F_sumOfTold_36 (by decide) ?_
        obtain ⟨nx, hnx, h⟩ := h
        exact ih4 nx hnx v15 v17 H locs ls hG (lv_sub hl18 [2, 3, 1, 0] rfl) h
  exact k4 n0_4 0 0 H locs ls hG (lv_sub hl2 [2, 3, 1, 0] rfl) h0_4
def w_F_dizzyOnes (post : Int32 → Prop) (S : St) (a0 : Nat) : Prop :=
  ∃ J4 : Nat → Int32 → Int32 → Prop, (∃ n : Nat, J4 n 0 0) ∧ ∀ (n4 : Nat) (v1_4 : Int32) (v2_4 : Int32), J4 n4 v1_4 v2_4 → ∀ o4 : Option Nat, o4 = sQ S 21 a0 → ∃ y5 : Nat, o4 = some y5 ∧ isA S 0 y5 ∧ w_AL_size (fun (r7 : Int32) => (r7 ≤ v2_4 → post v1_4) ∧ (¬ r7 ≤ v2_4 → ∀ o8 : Option Nat, o8 = sQ S 21 a0 → ∃ y9 : Nat, o8 = some y9 ∧ isA S 0 y9 ∧ w_AL_get (fun (o11 : Option Nat) => ∃ y12 : Nat, o11 = some y12 ∧ isA S 2 y12 ∧ ∃ J38 : Int32 → Prop, (∀ (k1_38 : Int32), J38 k1_38 → ∀ v15 : Int32, v15 = v1_4 + k1_38 → ∀ v17 : Int32, v17 = v2_4 + 1 → ∃ nx : Nat, nx < n4 ∧ J4 nx v15 v17) ∧ ((sI S 16 y12) ≤ 0 → J38 0) ∧ (¬ (sI S 16 y12) ≤ 0 → J38 1)) S y9 v2_4)) S y5
set_option maxHeartbeats 4000000 in
set_option maxRecDepth 100000 in
theorem m_F_dizzyOnes (l : Launch) (x : Cx) (S : St) (post : Int32 → Prop) (a0 : Nat) (fa0 : isA S 3 a0) (h : w_F_dizzyOnes post S a0) : Met l y_F_dizzyOnes [.code y_F_dizzyOnes c_F_dizzyOnes 3 (some .int)] { frames := 3, cells := 0, slots := 0, locals := 64 } (va_Pc [.ref a0] (GW x S)) (va_Qi (gPu post S) (gB x S) (xA x)) 0 0 (xA x) := by
  refine gMet (by decide +kernel) (Nat.le_of_ble_eq_true rfl) ?_
  intro p e s m args below meth c hx hb hr hown hlocks hin hw hK H locs hG ls hlA hml
  have hown : s.vm.findClass "WaltzHall$Floor" = some m.cls := hown
  have hl0 : lv_has ls 3 [(0, .ref a0)] := hlA
  unfold w_F_dizzyOnes at h
  refine lv_iconst (v := 0) hx hb d_F_dizzyOnes_0 (by decide) ?_
  refine lv_istore_n (i := 1) (lv' := [(1, .int 0), (0, .ref a0)]) hx hb d_F_dizzyOnes_1 rfl hl0 (by decide) rfl (fun ls hl1 => ?_)
  refine lv_iconst (v := 0) hx hb d_F_dizzyOnes_2 (by decide) ?_
  refine lv_istore_n (i := 2) (lv' := [(2, .int 0), (1, .int 0), (0, .ref a0)]) hx hb d_F_dizzyOnes_3 rfl hl1 (by decide) rfl (fun ls hl2 => ?_)
  have leS : gle S S := gle.rf
  obtain ⟨J4, ⟨n0_4, h0_4⟩, hJ4⟩ := h
  have k4 : ∀ (n4 : Nat) (v1_4 : Int32) (v2_4 : Int32) (H : Heap) (locs : List Loc) (ls : Array Slot), GH x S s H locs → lv_has ls 3 [(0, .ref a0), (1, .int v1_4), (2, .int v2_4)] → J4 n4 v1_4 v2_4 → W p l e { frames := 3, cells := 0, slots := 0, locals := 64 } s m args below meth c H locs 0 0 (MQ below (va_Qi (gPu post S) (gB x S) (xA x)) args s 0 0 (xA x)) (F0 m 4 ls []) := by
    intro n4
    induction n4 using Nat.strongRecOn with
    | _ n4 ih4 =>
      intro v1_4 v2_4 H locs ls hG hl3 hj
      replace h := hJ4 n4 v1_4 v2_4 hj
      refine lv_iload_n hx hb d_F_dizzyOnes_4 rfl (lv_at hl3 2 rfl) ?_
      refine lv_aload_n hx hb d_F_dizzyOnes_5 rfl (lv_at hl3 0 rfl) ?_
      refine gget hx hb hw hown hK hG kd_F fa0 rfl 0 (by decide) rfl tw_183 (fun _ h9 => h9) d_F_dizzyOnes_6 ?_
      refine gtopq (fun o4 eo4 => ?_)
      replace h := h o4 eo4
      obtain ⟨y5, ey5, h⟩ := h
      subst ey5
      obtain ⟨f6, h⟩ := h
      -- call AL_size
      refine gpi hK hG (va_runV (As := []) (rest := [.int v2_4]) ⟨hx, hb, hml, hown, hw⟩ (m_AL_size l x S _ y5 f6 h) ⟨gcb hw tw_284 tw_32 tw_289 hd_AL_size rfl rfl ⟨(Nat.le_of_ble_eq_true rfl), (Nat.le_of_ble_eq_true rfl)⟩, hw _ tw_282, hw _ tw_283⟩ (gpV hK hG kd_AL f6 rfl) rfl rfl hl3.1 rfl (lv_room (Nat.le_of_ble_eq_true rfl)) d_F_dizzyOnes_9 ⟨(Nat.le_of_ble_eq_true rfl), (Nat.le_of_ble_eq_true rfl)⟩) (fun r7 H locs h9 hG => ?_)
      replace h := h9
      clear h9
      refine lv_icmp_ge (tgt := 46) hx hb d_F_dizzyOnes_12 (by decide) (fun hc20 => ?_) (fun hc20 => ?_)
      · replace h := h.1 hc20
        refine lv_iload_n hx hb d_F_dizzyOnes_46 rfl (lv_at hl3 1 rfl) ?_
        exact giret hx hb hr hlocks hK hG leS ⟨h, rfl⟩ (Nat.le_of_ble_eq_true rfl) (Nat.le_of_ble_eq_true rfl) d_F_dizzyOnes_47
      · replace h := h.2 hc20
        refine lv_iload_n hx hb d_F_dizzyOnes_15 rfl (lv_at hl3 1 rfl) ?_
        refine lv_aload_n hx hb d_F_dizzyOnes_16 rfl (lv_at hl3 0 rfl) ?_
        refine gget hx hb hw hown hK hG kd_F fa0 rfl 0 (by decide) rfl tw_183 (fun _ h9 => h9) d_F_dizzyOnes_17 ?_
        refine gtopq (fun o8 eo8 => ?_)
        replace h := h o8 eo8
        refine lv_iload_n hx hb d_F_dizzyOnes_20 rfl (lv_at hl3 2 rfl) ?_
        obtain ⟨y9, ey9, h⟩ := h
        subst ey9
        obtain ⟨f10, h⟩ := h
        -- call AL_get
        refine gpq hK hG (va_runV (As := [.int v2_4]) (rest := [.int v1_4]) ⟨hx, hb, hml, hown, hw⟩ (m_AL_get l x S _ y9 v2_4 f10 h) ⟨gcb hw tw_293 tw_32 tw_290 hd_AL_get rfl rfl ⟨(Nat.le_of_ble_eq_true rfl), (Nat.le_of_ble_eq_true rfl)⟩, hw _ tw_291, hw _ tw_292⟩ (gpV hK hG kd_AL f10 rfl) rfl rfl hl3.1 rfl (lv_room (Nat.le_of_ble_eq_true rfl)) d_F_dizzyOnes_21 ⟨(Nat.le_of_ble_eq_true rfl), (Nat.le_of_ble_eq_true rfl)⟩) (fun o11 H locs h9 hG => ?_)
        replace h := h9
        clear h9
        obtain ⟨y12, ey12, h⟩ := h
        subst ey12
        obtain ⟨f13, h⟩ := h
        refine gcast hx hb hw hown hK hG kd_R tw_302 f13 rfl d_F_dizzyOnes_24 ?_
        refine gget hx hb hw hown hK hG kd_R f13 rfl 10 (by decide) rfl tw_605 (fun _ h9 => h9) d_F_dizzyOnes_27 ?_
        obtain ⟨J38, hJ38, h⟩ := h
        have k38 : ∀ (k1_38 : Int32) (H : Heap) (locs : List Loc) (ls : Array Slot), GH x S s H locs → lv_has ls 3 [(0, .ref a0), (2, .int v2_4)] → J38 k1_38 → W p l e { frames := 3, cells := 0, slots := 0, locals := 64 } s m args below meth c H locs 0 0 (MQ below (va_Qi (gPu post S) (gB x S) (xA x)) args s 0 0 (xA x)) (F0 m 38 ls [.int k1_38, .int v1_4]) := by
          intro k1_38  H locs ls hG hl14 hj
          replace h := hJ38 k1_38 hj
          refine lv_iadd hx hb d_F_dizzyOnes_38 ?_
          refine lv_topi (fun v15 ev15 => ?_)
          replace h := h v15 ev15
          refine lv_istore_n (i := 1) (lv' := [(1, .int v15), (0, .ref a0), (2, .int v2_4)]) hx hb d_F_dizzyOnes_39 rfl hl14 (by decide) rfl (fun ls hl16 => ?_)
          obtain ⟨v17, ev17⟩ : ∃ z : Int32, z = v2_4 + 1 := ⟨_, rfl⟩
          replace h := h v17 ev17
          refine lv_iinc (v := v17) (lv' := [(2, .int v17), (1, .int v15), (0, .ref a0)]) hx hb d_F_dizzyOnes_40 hl16 (k := 2) rfl (by rw [ev17]; rfl) (by decide) rfl (fun ls hl18 => ?_)
          refine lv_goto (tgt := 4) hx hb d_F_dizzyOnes_43 (by decide) ?_
          obtain ⟨nx, hnx, h⟩ := h
          exact ih4 nx hnx v15 v17 H locs ls hG (lv_sub hl18 [2, 1, 0] rfl) h
        refine lv_if_le (tgt := 37) hx hb d_F_dizzyOnes_30 (by decide) (fun hc19 => ?_) (fun hc19 => ?_)
        · replace h := h.1 hc19
          refine lv_iconst (v := 0) hx hb d_F_dizzyOnes_37 (by decide) ?_
          exact k38 0 H locs ls hG (lv_sub hl3 [0, 2] rfl) h
        · replace h := h.2 hc19
          refine lv_iconst (v := 1) hx hb d_F_dizzyOnes_33 (by decide) ?_
          refine lv_goto (tgt := 38) hx hb d_F_dizzyOnes_34 (by decide) ?_
          exact k38 1 H locs ls hG (lv_sub hl3 [0, 2] rfl) h
  exact k4 n0_4 0 0 H locs ls hG (lv_sub hl2 [2, 1, 0] rfl) h0_4
def w_F_spentOnes (post : Int32 → Prop) (S : St) (a0 : Nat) : Prop :=
  ∃ J4 : Nat → Int32 → Int32 → Prop, (∃ n : Nat, J4 n 0 0) ∧ ∀ (n4 : Nat) (v1_4 : Int32) (v2_4 : Int32), J4 n4 v1_4 v2_4 → ∀ o4 : Option Nat, o4 = sQ S 21 a0 → ∃ y5 : Nat, o4 = some y5 ∧ isA S 0 y5 ∧ w_AL_size (fun (r7 : Int32) => (r7 ≤ v2_4 → post v1_4) ∧ (¬ r7 ≤ v2_4 → ∀ o8 : Option Nat, o8 = sQ S 21 a0 → ∃ y9 : Nat, o8 = some y9 ∧ isA S 0 y9 ∧ w_AL_get (fun (o11 : Option Nat) => ∃ y12 : Nat, o11 = some y12 ∧ isA S 2 y12 ∧ w_R_isSpent (fun (r14 : Int32) => ∃ J38 : Int32 → Prop, (∀ (k1_38 : Int32), J38 k1_38 → ∀ v16 : Int32, v16 = v1_4 + k1_38 → ∀ v18 : Int32, v18 = v2_4 + 1 → ∃ nx : Nat, nx < n4 ∧ J4 nx v16 v18) ∧ (r14 = 0 → J38 0) ∧ (¬ r14 = 0 → J38 1)) S y12) S y9 v2_4)) S y5
set_option maxHeartbeats 4000000 in
set_option maxRecDepth 100000 in
theorem m_F_spentOnes (l : Launch) (x : Cx) (S : St) (post : Int32 → Prop) (a0 : Nat) (fa0 : isA S 3 a0) (h : w_F_spentOnes post S a0) : Met l y_F_spentOnes [.code y_F_spentOnes c_F_spentOnes 3 (some .int)] { frames := 3, cells := 0, slots := 0, locals := 64 } (va_Pc [.ref a0] (GW x S)) (va_Qi (gPu post S) (gB x S) (xA x)) 0 0 (xA x) := by
  refine gMet (by decide +kernel) (Nat.le_of_ble_eq_true rfl) ?_
  intro p e s m args below meth c hx hb hr hown hlocks hin hw hK H locs hG ls hlA hml
  have hown : s.vm.findClass "WaltzHall$Floor" = some m.cls := hown
  have hl0 : lv_has ls 3 [(0, .ref a0)] := hlA
  unfold w_F_spentOnes at h
  refine lv_iconst (v := 0) hx hb d_F_spentOnes_0 (by decide) ?_
  refine lv_istore_n (i := 1) (lv' := [(1, .int 0), (0, .ref a0)]) hx hb d_F_spentOnes_1 rfl hl0 (by decide) rfl (fun ls hl1 => ?_)
  refine lv_iconst (v := 0) hx hb d_F_spentOnes_2 (by decide) ?_
  refine lv_istore_n (i := 2) (lv' := [(2, .int 0), (1, .int 0), (0, .ref a0)]) hx hb d_F_spentOnes_3 rfl hl1 (by decide) rfl (fun ls hl2 => ?_)
  have leS : gle S S := gle.rf
  obtain ⟨J4, ⟨n0_4, h0_4⟩, hJ4⟩ := h
  have k4 : ∀ (n4 : Nat) (v1_4 : Int32) (v2_4 : Int32) (H : Heap) (locs : List Loc) (ls : Array Slot), GH x S s H locs → lv_has ls 3 [(0, .ref a0), (1, .int v1_4), (2, .int v2_4)] → J4 n4 v1_4 v2_4 → W p l e { frames := 3, cells := 0, slots := 0, locals := 64 } s m args below meth c H locs 0 0 (MQ below (va_Qi (gPu post S) (gB x S) (xA x)) args s 0 0 (xA x)) (F0 m 4 ls []) := by
    intro n4
    induction n4 using Nat.strongRecOn with
    | _ n4 ih4 =>
      intro v1_4 v2_4 H locs ls hG hl3 hj
      replace h := hJ4 n4 v1_4 v2_4 hj
      refine lv_iload_n hx hb d_F_spentOnes_4 rfl (lv_at hl3 2 rfl) ?_
      refine lv_aload_n hx hb d_F_spentOnes_5 rfl (lv_at hl3 0 rfl) ?_
      refine gget hx hb hw hown hK hG kd_F fa0 rfl 0 (by decide) rfl tw_183 (fun _ h9 => h9) d_F_spentOnes_6 ?_
      refine gtopq (fun o4 eo4 => ?_)
      replace h := h o4 eo4
      obtain ⟨y5, ey5, h⟩ := h
      subst ey5
      obtain ⟨f6, h⟩ := h
      -- call AL_size
      refine gpi hK hG (va_runV (As := []) (rest := [.int v2_4]) ⟨hx, hb, hml, hown, hw⟩ (m_AL_size l x S _ y5 f6 h) ⟨gcb hw tw_284 tw_32 tw_289 hd_AL_size rfl rfl ⟨(Nat.le_of_ble_eq_true rfl), (Nat.le_of_ble_eq_true rfl)⟩, hw _ tw_282, hw _ tw_283⟩ (gpV hK hG kd_AL f6 rfl) rfl rfl hl3.1 rfl (lv_room (Nat.le_of_ble_eq_true rfl)) d_F_spentOnes_9 ⟨(Nat.le_of_ble_eq_true rfl), (Nat.le_of_ble_eq_true rfl)⟩) (fun r7 H locs h9 hG => ?_)
      replace h := h9
      clear h9
      refine lv_icmp_ge (tgt := 46) hx hb d_F_spentOnes_12 (by decide) (fun hc21 => ?_) (fun hc21 => ?_)
      · replace h := h.1 hc21
        refine lv_iload_n hx hb d_F_spentOnes_46 rfl (lv_at hl3 1 rfl) ?_
        exact giret hx hb hr hlocks hK hG leS ⟨h, rfl⟩ (Nat.le_of_ble_eq_true rfl) (Nat.le_of_ble_eq_true rfl) d_F_spentOnes_47
      · replace h := h.2 hc21
        refine lv_iload_n hx hb d_F_spentOnes_15 rfl (lv_at hl3 1 rfl) ?_
        refine lv_aload_n hx hb d_F_spentOnes_16 rfl (lv_at hl3 0 rfl) ?_
        refine gget hx hb hw hown hK hG kd_F fa0 rfl 0 (by decide) rfl tw_183 (fun _ h9 => h9) d_F_spentOnes_17 ?_
        refine gtopq (fun o8 eo8 => ?_)
        replace h := h o8 eo8
        refine lv_iload_n hx hb d_F_spentOnes_20 rfl (lv_at hl3 2 rfl) ?_
        obtain ⟨y9, ey9, h⟩ := h
        subst ey9
        obtain ⟨f10, h⟩ := h
        -- call AL_get
        refine gpq hK hG (va_runV (As := [.int v2_4]) (rest := [.int v1_4]) ⟨hx, hb, hml, hown, hw⟩ (m_AL_get l x S _ y9 v2_4 f10 h) ⟨gcb hw tw_293 tw_32 tw_290 hd_AL_get rfl rfl ⟨(Nat.le_of_ble_eq_true rfl), (Nat.le_of_ble_eq_true rfl)⟩, hw _ tw_291, hw _ tw_292⟩ (gpV hK hG kd_AL f10 rfl) rfl rfl hl3.1 rfl (lv_room (Nat.le_of_ble_eq_true rfl)) d_F_spentOnes_21 ⟨(Nat.le_of_ble_eq_true rfl), (Nat.le_of_ble_eq_true rfl)⟩) (fun o11 H locs h9 hG => ?_)
        replace h := h9
        clear h9
        obtain ⟨y12, ey12, h⟩ := h
        subst ey12
        obtain ⟨f13, h⟩ := h
        refine gcast hx hb hw hown hK hG kd_R tw_302 f13 rfl d_F_spentOnes_24 ?_
        -- call R_isSpent
        refine gpi hK hG (va_runV (As := []) (rest := [.int v1_4]) ⟨hx, hb, hml, hown, hw⟩ (m_R_isSpent l x S _ y12 f13 h) ⟨gcb hw tw_329 tw_52 tw_326 hd_R_isSpent rfl rfl ⟨(Nat.le_of_ble_eq_true rfl), (Nat.le_of_ble_eq_true rfl)⟩, hw _ tw_327, hw _ tw_328⟩ (gpV hK hG kd_R f13 rfl) rfl rfl hl3.1 rfl (lv_room (Nat.le_of_ble_eq_true rfl)) d_F_spentOnes_27 ⟨(Nat.le_of_ble_eq_true rfl), (Nat.le_of_ble_eq_true rfl)⟩) (fun r14 H locs h9 hG => ?_)
        replace h := h9
        clear h9
        obtain ⟨J38, hJ38, h⟩ := h
        have k38 : ∀ (k1_38 : Int32) (H : Heap) (locs : List Loc) (ls : Array Slot), GH x S s H locs → lv_has ls 3 [(0, .ref a0), (2, .int v2_4)] → J38 k1_38 → W p l e { frames := 3, cells := 0, slots := 0, locals := 64 } s m args below meth c H locs 0 0 (MQ below (va_Qi (gPu post S) (gB x S) (xA x)) args s 0 0 (xA x)) (F0 m 38 ls [.int k1_38, .int v1_4]) := by
          intro k1_38  H locs ls hG hl15 hj
          replace h := hJ38 k1_38 hj
          refine lv_iadd hx hb d_F_spentOnes_38 ?_
          refine lv_topi (fun v16 ev16 => ?_)
          replace h := h v16 ev16
          refine lv_istore_n (i := 1) (lv' := [(1, .int v16), (0, .ref a0), (2, .int v2_4)]) hx hb d_F_spentOnes_39 rfl hl15 (by decide) rfl (fun ls hl17 => ?_)
          obtain ⟨v18, ev18⟩ : ∃ z : Int32, z = v2_4 + 1 := ⟨_, rfl⟩
          replace h := h v18 ev18
          refine lv_iinc (v := v18) (lv' := [(2, .int v18), (1, .int v16), (0, .ref a0)]) hx hb d_F_spentOnes_40 hl17 (k := 2) rfl (by rw [ev18]; rfl) (by decide) rfl (fun ls hl19 => ?_)
          refine lv_goto (tgt := 4) hx hb d_F_spentOnes_43 (by decide) ?_
          obtain ⟨nx, hnx, h⟩ := h
          exact ih4 nx hnx v16 v18 H locs ls hG (lv_sub hl19 [2, 1, 0] rfl) h
        refine lv_if_eq (tgt := 37) hx hb d_F_spentOnes_30 (by decide) (fun hc20 => ?_) (fun hc20 => ?_)
        · replace h := h.1 hc20
          refine lv_iconst (v := 0) hx hb d_F_spentOnes_37 (by decide) ?_
          exact k38 0 H locs ls hG (lv_sub hl3 [0, 2] rfl) h
        · replace h := h.2 hc20
          refine lv_iconst (v := 1) hx hb d_F_spentOnes_33 (by decide) ?_
          refine lv_goto (tgt := 38) hx hb d_F_spentOnes_34 (by decide) ?_
          exact k38 1 H locs ls hG (lv_sub hl3 [0, 2] rfl) h
  exact k4 n0_4 0 0 H locs ls hG (lv_sub hl2 [2, 1, 0] rfl) h0_4
def w_F_countOf (post : Int32 → Prop) (S : St) (a0 : Nat) (a1 : Int32) : Prop :=
  (a1 = 0 → post (sI S 23 a0)) ∧ (a1 = 1 → ∀ o3 : Option Nat, o3 = sQ S 21 a0 → ∃ y4 : Nat, o3 = some y4 ∧ isA S 0 y4 ∧ w_AL_size (fun (r6 : Int32) => post r6) S y4) ∧ (a1 = 2 → w_F_sumOfTold (fun (r8 : Int32) => post r8) S a0 8) ∧ (a1 = 3 → ∀ o10 : Option Nat, o10 = sQ S 22 a0 → ∃ y11 : Nat, o10 = some y11 ∧ isA S 0 y11 ∧ w_AL_size (fun (r13 : Int32) => post r13) S y11) ∧ (a1 = 4 → w_F_dizzyOnes (fun (r15 : Int32) => post r15) S a0) ∧ (a1 = 5 → w_F_sumOfTold (fun (r17 : Int32) => post r17) S a0 3) ∧ (a1 = 6 → w_F_sumOfTold (fun (r19 : Int32) => post r19) S a0 10) ∧ (a1 = 7 → w_F_sumOfTold (fun (r21 : Int32) => post r21) S a0 11) ∧ (¬ a1 = 0 → ¬ a1 = 1 → ¬ a1 = 2 → ¬ a1 = 3 → ¬ a1 = 4 → ¬ a1 = 5 → ¬ a1 = 6 → ¬ a1 = 7 → w_F_spentOnes (fun (r22 : Int32) => post r22) S a0)
set_option maxHeartbeats 4000000 in
set_option maxRecDepth 100000 in
theorem m_F_countOf (l : Launch) (x : Cx) (S : St) (post : Int32 → Prop) (a0 : Nat) (a1 : Int32) (fa0 : isA S 3 a0) (h : w_F_countOf post S a0 a1) : Met l y_F_countOf [.code y_F_countOf c_F_countOf 2 (some .int)] { frames := 4, cells := 0, slots := 0, locals := 87 } (va_Pc [.ref a0, .int a1] (GW x S)) (va_Qi (gPu post S) (gB x S) (xA x)) 0 0 (xA x) := by
  refine gMet (by decide +kernel) (Nat.le_of_ble_eq_true rfl) ?_
  intro p e s m args below meth c hx hb hr hown hlocks hin hw hK H locs hG ls hlA hml
  have hown : s.vm.findClass "WaltzHall$Floor" = some m.cls := hown
  have hl0 : lv_has ls 2 [(0, .ref a0), (1, .int a1)] := hlA
  unfold w_F_countOf at h
  refine lv_iload_n hx hb d_F_countOf_0 rfl (lv_at hl0 1 rfl) ?_
  by_cases hc1 : a1 = 0
  · replace h := h.1 hc1
    refine lv_tableIn (tgt := 48) hx hb d_F_countOf_1 (by rw [hc1]; decide) (by rw [hc1]; decide) (by rw [hc1]; rfl) (by decide) ?_
    refine lv_aload_n hx hb d_F_countOf_48 rfl (lv_at hl0 0 rfl) ?_
    refine gget hx hb hw hown hK hG kd_F fa0 rfl 2 (by decide) rfl tw_187 (fun _ h9 => h9) d_F_countOf_49 ?_
    exact giret hx hb hr hlocks hK hG gle.rf ⟨h, rfl⟩ (Nat.le_of_ble_eq_true rfl) (Nat.le_of_ble_eq_true rfl) d_F_countOf_52
  · skip
    by_cases hc2 : a1 = 1
    · replace h := h.2.1 hc2
      refine lv_tableIn (tgt := 53) hx hb d_F_countOf_1 (by rw [hc2]; decide) (by rw [hc2]; decide) (by rw [hc2]; rfl) (by decide) ?_
      refine lv_aload_n hx hb d_F_countOf_53 rfl (lv_at hl0 0 rfl) ?_
      refine gget hx hb hw hown hK hG kd_F fa0 rfl 0 (by decide) rfl tw_183 (fun _ h9 => h9) d_F_countOf_54 ?_
      refine gtopq (fun o3 eo3 => ?_)
      replace h := h o3 eo3
      obtain ⟨y4, ey4, h⟩ := h
      subst ey4
      obtain ⟨f5, h⟩ := h
      -- call AL_size
      refine gpi hK hG (va_runV (As := []) (rest := []) ⟨hx, hb, hml, hown, hw⟩ (m_AL_size l x S _ y4 f5 h) ⟨gcb hw tw_284 tw_32 tw_289 hd_AL_size rfl rfl ⟨(Nat.le_of_ble_eq_true rfl), (Nat.le_of_ble_eq_true rfl)⟩, hw _ tw_282, hw _ tw_283⟩ (gpV hK hG kd_AL f5 rfl) rfl rfl hl0.1 rfl (lv_room (Nat.le_of_ble_eq_true rfl)) d_F_countOf_57 ⟨(Nat.le_of_ble_eq_true rfl), (Nat.le_of_ble_eq_true rfl)⟩) (fun r6 H locs h9 hG => ?_)
      replace h := h9
      clear h9
      exact giret hx hb hr hlocks hK hG gle.rf ⟨h, rfl⟩ (Nat.le_of_ble_eq_true rfl) (Nat.le_of_ble_eq_true rfl) d_F_countOf_60
    · skip
      by_cases hc7 : a1 = 2
      · replace h := h.2.2.1 hc7
        refine lv_tableIn (tgt := 61) hx hb d_F_countOf_1 (by rw [hc7]; decide) (by rw [hc7]; decide) (by rw [hc7]; rfl) (by decide) ?_
        refine lv_aload_n hx hb d_F_countOf_61 rfl (lv_at hl0 0 rfl) ?_
        refine lv_bipush (v := 8) hx hb d_F_countOf_62 (by decide) ?_
        -- call F_sumOfTold
        refine gpi hK hG (va_runV (As := [.int 8]) (rest := []) ⟨hx, hb, hml, hown, hw⟩ (m_F_sumOfTold l x S _ a0 8 fa0 h) ⟨gcb hw tw_288 tw_38 tw_317 hd_F_sumOfTold rfl rfl ⟨(Nat.le_of_ble_eq_true rfl), (Nat.le_of_ble_eq_true rfl)⟩, hw _ tw_286, hw _ tw_287⟩ (gpV hK hG kd_F fa0 rfl) rfl rfl hl0.1 rfl (lv_room (Nat.le_of_ble_eq_true rfl)) d_F_countOf_64 ⟨(Nat.le_of_ble_eq_true rfl), (Nat.le_of_ble_eq_true rfl)⟩) (fun r8 H locs h9 hG => ?_)
        replace h := h9
        clear h9
        exact giret hx hb hr hlocks hK hG gle.rf ⟨h, rfl⟩ (Nat.le_of_ble_eq_true rfl) (Nat.le_of_ble_eq_true rfl) d_F_countOf_67
      · skip
        by_cases hc9 : a1 = 3
        · replace h := h.2.2.2.1 hc9
          refine lv_tableIn (tgt := 68) hx hb d_F_countOf_1 (by rw [hc9]; decide) (by rw [hc9]; decide) (by rw [hc9]; rfl) (by decide) ?_
          refine lv_aload_n hx hb d_F_countOf_68 rfl (lv_at hl0 0 rfl) ?_
          refine gget hx hb hw hown hK hG kd_F fa0 rfl 1 (by decide) rfl tw_185 (fun _ h9 => h9) d_F_countOf_69 ?_
          refine gtopq (fun o10 eo10 => ?_)
          replace h := h o10 eo10
          obtain ⟨y11, ey11, h⟩ := h
          subst ey11
          obtain ⟨f12, h⟩ := h
          -- call AL_size
          refine gpi hK hG (va_runV (As := []) (rest := []) ⟨hx, hb, hml, hown, hw⟩ (m_AL_size l x S _ y11 f12 h) ⟨gcb hw tw_284 tw_32 tw_289 hd_AL_size rfl rfl ⟨(Nat.le_of_ble_eq_true rfl), (Nat.le_of_ble_eq_true rfl)⟩, hw _ tw_282, hw _ tw_283⟩ (gpV hK hG kd_AL f12 rfl) rfl rfl hl0.1 rfl (lv_room (Nat.le_of_ble_eq_true rfl)) d_F_countOf_72 ⟨(Nat.le_of_ble_eq_true rfl), (Nat.le_of_ble_eq_true rfl)⟩) (fun r13 H locs h9 hG => ?_)
          replace h := h9
          clear h9
          exact giret hx hb hr hlocks hK hG gle.rf ⟨h, rfl⟩ (Nat.le_of_ble_eq_true rfl) (Nat.le_of_ble_eq_true rfl) d_F_countOf_75
        · skip
          by_cases hc14 : a1 = 4
          · replace h := h.2.2.2.2.1 hc14
            refine lv_tableIn (tgt := 76) hx hb d_F_countOf_1 (by rw [hc14]; decide) (by rw [hc14]; decide) (by rw [hc14]; rfl) (by decide) ?_
            refine lv_aload_n hx hb d_F_countOf_76 rfl (lv_at hl0 0 rfl) ?_
            -- call F_dizzyOnes
            refine gpi hK hG (va_runV (As := []) (rest := []) ⟨hx, hb, hml, hown, hw⟩ (m_F_dizzyOnes l x S _ a0 fa0 h) ⟨gcb hw tw_321 tw_38 tw_318 hd_F_dizzyOnes rfl rfl ⟨(Nat.le_of_ble_eq_true rfl), (Nat.le_of_ble_eq_true rfl)⟩, hw _ tw_320, hw _ tw_3⟩ (gpV hK hG kd_F fa0 rfl) rfl rfl hl0.1 rfl (lv_room (Nat.le_of_ble_eq_true rfl)) d_F_countOf_77 ⟨(Nat.le_of_ble_eq_true rfl), (Nat.le_of_ble_eq_true rfl)⟩) (fun r15 H locs h9 hG => ?_)
            replace h := h9
            clear h9
            exact giret hx hb hr hlocks hK hG gle.rf ⟨h, rfl⟩ (Nat.le_of_ble_eq_true rfl) (Nat.le_of_ble_eq_true rfl) d_F_countOf_80
          · skip
            by_cases hc16 : a1 = 5
            · replace h := h.2.2.2.2.2.1 hc16
              refine lv_tableIn (tgt := 81) hx hb d_F_countOf_1 (by rw [hc16]; decide) (by rw [hc16]; decide) (by rw [hc16]; rfl) (by decide) ?_
              refine lv_aload_n hx hb d_F_countOf_81 rfl (lv_at hl0 0 rfl) ?_
              refine lv_iconst (v := 3) hx hb d_F_countOf_82 (by decide) ?_
              -- call F_sumOfTold
              refine gpi hK hG (va_runV (As := [.int 3]) (rest := []) ⟨hx, hb, hml, hown, hw⟩ (m_F_sumOfTold l x S _ a0 3 fa0 h) ⟨gcb hw tw_288 tw_38 tw_317 hd_F_sumOfTold rfl rfl ⟨(Nat.le_of_ble_eq_true rfl), (Nat.le_of_ble_eq_true rfl)⟩, hw _ tw_286, hw _ tw_287⟩ (gpV hK hG kd_F fa0 rfl) rfl rfl hl0.1 rfl (lv_room (Nat.le_of_ble_eq_true rfl)) d_F_countOf_83 ⟨(Nat.le_of_ble_eq_true rfl), (Nat.le_of_ble_eq_true rfl)⟩) (fun r17 H locs h9 hG => ?_)
              replace h := h9
              clear h9
              exact giret hx hb hr hlocks hK hG gle.rf ⟨h, rfl⟩ (Nat.le_of_ble_eq_true rfl) (Nat.le_of_ble_eq_true rfl) d_F_countOf_86
            · skip
              by_cases hc18 : a1 = 6
              · replace h := h.2.2.2.2.2.2.1 hc18
                refine lv_tableIn (tgt := 87) hx hb d_F_countOf_1 (by rw [hc18]; decide) (by rw [hc18]; decide) (by rw [hc18]; rfl) (by decide) ?_
                refine lv_aload_n hx hb d_F_countOf_87 rfl (lv_at hl0 0 rfl) ?_
                refine lv_bipush (v := 10) hx hb d_F_countOf_88 (by decide) ?_
                -- call F_sumOfTold
                refine gpi hK hG (va_runV (As := [.int 10]) (rest := []) ⟨hx, hb, hml, hown, hw⟩ (m_F_sumOfTold l x S _ a0 10 fa0 h) ⟨gcb hw tw_288 tw_38 tw_317 hd_F_sumOfTold rfl rfl ⟨(Nat.le_of_ble_eq_true rfl), (Nat.le_of_ble_eq_true rfl)⟩, hw _ tw_286, hw _ tw_287⟩ (gpV hK hG kd_F fa0 rfl) rfl rfl hl0.1 rfl (lv_room (Nat.le_of_ble_eq_true rfl)) d_F_countOf_90 ⟨(Nat.le_of_ble_eq_true rfl), (Nat.le_of_ble_eq_true rfl)⟩) (fun r19 H locs h9 hG => ?_)
                replace h := h9
                clear h9
                exact giret hx hb hr hlocks hK hG gle.rf ⟨h, rfl⟩ (Nat.le_of_ble_eq_true rfl) (Nat.le_of_ble_eq_true rfl) d_F_countOf_93
              · skip
                by_cases hc20 : a1 = 7
                · replace h := h.2.2.2.2.2.2.2.1 hc20
                  refine lv_tableIn (tgt := 94) hx hb d_F_countOf_1 (by rw [hc20]; decide) (by rw [hc20]; decide) (by rw [hc20]; rfl) (by decide) ?_
                  refine lv_aload_n hx hb d_F_countOf_94 rfl (lv_at hl0 0 rfl) ?_
                  refine lv_bipush (v := 11) hx hb d_F_countOf_95 (by decide) ?_
                  -- call F_sumOfTold
                  refine gpi hK hG (va_runV (As := [.int 11]) (rest := []) ⟨hx, hb, hml, hown, hw⟩ (m_F_sumOfTold l x S _ a0 11 fa0 h) ⟨gcb hw tw_288 tw_38 tw_317 hd_F_sumOfTold rfl rfl ⟨(Nat.le_of_ble_eq_true rfl), (Nat.le_of_ble_eq_true rfl)⟩, hw _ tw_286, hw _ tw_287⟩ (gpV hK hG kd_F fa0 rfl) rfl rfl hl0.1 rfl (lv_room (Nat.le_of_ble_eq_true rfl)) d_F_countOf_97 ⟨(Nat.le_of_ble_eq_true rfl), (Nat.le_of_ble_eq_true rfl)⟩) (fun r21 H locs h9 hG => ?_)
                  replace h := h9
                  clear h9
                  exact giret hx hb hr hlocks hK hG gle.rf ⟨h, rfl⟩ (Nat.le_of_ble_eq_true rfl) (Nat.le_of_ble_eq_true rfl) d_F_countOf_100
                · skip
                  replace h := h.2.2.2.2.2.2.2.2 hc1 hc2 hc7 hc9 hc14 hc16 hc18 hc20
                  refine lv_tableOut (tgt := 101) hx hb d_F_countOf_1 (gtabOut 8 (by decide) (fun j9 hj9 => by
                    match j9, hj9 with
                    | 0, _ => exact hc1
                    | 1, _ => exact hc2
                    | 2, _ => exact hc7
                    | 3, _ => exact hc9
                    | 4, _ => exact hc14
                    | 5, _ => exact hc16
                    | 6, _ => exact hc18
                    | 7, _ => exact hc20
                    | k9 + 8, hk9 => exact absurd hk9 (by omega))) (by decide) ?_
                  refine lv_aload_n hx hb d_F_countOf_101 rfl (lv_at hl0 0 rfl) ?_
                  -- call F_spentOnes
                  refine gpi hK hG (va_runV (As := []) (rest := []) ⟨hx, hb, hml, hown, hw⟩ (m_F_spentOnes l x S _ a0 fa0 h) ⟨gcb hw tw_325 tw_38 tw_322 hd_F_spentOnes rfl rfl ⟨(Nat.le_of_ble_eq_true rfl), (Nat.le_of_ble_eq_true rfl)⟩, hw _ tw_324, hw _ tw_4⟩ (gpV hK hG kd_F fa0 rfl) rfl rfl hl0.1 rfl (lv_room (Nat.le_of_ble_eq_true rfl)) d_F_countOf_102 ⟨(Nat.le_of_ble_eq_true rfl), (Nat.le_of_ble_eq_true rfl)⟩) (fun r22 H locs h9 hG => ?_)
                  replace h := h9
                  clear h9
                  exact giret hx hb hr hlocks hK hG gle.rf ⟨h, rfl⟩ (Nat.le_of_ble_eq_true rfl) (Nat.le_of_ble_eq_true rfl) d_F_countOf_105
def w_F_startLike (post : St → Prop) (S : St) (a0 : Nat) (a1 : Option Nat) : Prop :=
  ∃ y1 : Nat, a1 = some y1 ∧ isA S 3 y1 ∧ ∀ S3 : St, S3 = pI S 23 a0 (sI S 23 y1) → ∀ o4 : Option Nat, o4 = sQ S3 21 a0 → ∃ y5 : Nat, o4 = some y5 ∧ isA S3 0 y5 ∧ w_AL_size (fun (r7 : Int32) => ∃ J16 : Nat → St → Int32 → Nat → Nat → Prop, (∃ n : Nat, J16 n S3 r7 0 0) ∧ ∀ (n16 : Nat) (S_16 : St) (v2_16 : Int32) (kc_16 ks_16 : Nat), J16 n16 S_16 v2_16 kc_16 ks_16 → (kc_16 ≤ 64 ∧ ks_16 ≤ 1024) ∧ ∀ o10 : Option Nat, o10 = sQ S_16 21 y1 → ∃ y11 : Nat, o10 = some y11 ∧ isA S_16 0 y11 ∧ w_AL_size (fun (r13 : Int32) => (r13 ≤ v2_16 → ∃ J65 : Nat → St → Int32 → Prop, (∃ n : Nat, J65 n S_16 0) ∧ ∀ (n65 : Nat) (S_65 : St) (v2_65 : Int32), J65 n65 S_65 v2_65 → ∀ o16 : Option Nat, o16 = sQ S_65 21 a0 → ∃ y17 : Nat, o16 = some y17 ∧ isA S_65 0 y17 ∧ w_AL_size (fun (r19 : Int32) => ∃ J156 : Prop, (J156 → ∀ o21 : Option Nat, o21 = sQ S_65 22 a0 → ∃ y22 : Nat, o21 = some y22 ∧ isA S_65 0 y22 ∧ w_AL_size (fun (r24 : Int32) => ∃ J164 : Nat → St → Int32 → Nat → Nat → Prop, (∃ n : Nat, J164 n S_65 r24 kc_16 ks_16) ∧ ∀ (n164 : Nat) (S_164 : St) (v2_164 : Int32) (kc_164 ks_164 : Nat), J164 n164 S_164 v2_164 kc_164 ks_164 → (kc_164 ≤ 64 ∧ ks_164 ≤ 1024) ∧ ∀ o27 : Option Nat, o27 = sQ S_164 22 y1 → ∃ y28 : Nat, o27 = some y28 ∧ isA S_164 0 y28 ∧ w_AL_size (fun (r30 : Int32) => (r30 ≤ v2_164 → ∃ J198 : Nat → St → Int32 → Prop, (∃ n : Nat, J198 n S_164 0) ∧ ∀ (n198 : Nat) (S_198 : St) (v2_198 : Int32), J198 n198 S_198 v2_198 → ∀ o33 : Option Nat, o33 = sQ S_198 22 a0 → ∃ y34 : Nat, o33 = some y34 ∧ isA S_198 0 y34 ∧ w_AL_size (fun (r36 : Int32) => (r36 ≤ v2_198 → post S_198) ∧ (¬ r36 ≤ v2_198 → ∀ o37 : Option Nat, o37 = sQ S_198 22 y1 → ∃ y38 : Nat, o37 = some y38 ∧ isA S_198 0 y38 ∧ w_AL_size (fun (r40 : Int32) => (r40 ≤ v2_198 → post S_198) ∧ (¬ r40 ≤ v2_198 → ∀ o41 : Option Nat, o41 = sQ S_198 22 a0 → ∃ y42 : Nat, o41 = some y42 ∧ isA S_198 0 y42 ∧ w_AL_get (fun (o44 : Option Nat) => ∃ y45 : Nat, o44 = some y45 ∧ isA S_198 5 y45 ∧ ∀ o47 : Option Nat, o47 = sQ S_198 22 y1 → ∃ y48 : Nat, o47 = some y48 ∧ isA S_198 0 y48 ∧ w_AL_get (fun (o50 : Option Nat) => ∃ y51 : Nat, o50 = some y51 ∧ isA S_198 5 y51 ∧ w_N_becomeLike (fun (S53 : St) => ∀ v54 : Int32, v54 = v2_198 + 1 → ∃ nx : Nat, nx < n198 ∧ J198 nx S53 v54) S_198 y45 (some y51)) S_198 y48 v2_198) S_198 y42 v2_198)) S_198 y38)) S_198 y34) ∧ (¬ r30 ≤ v2_164 → ∀ o58 : Option Nat, o58 = sQ S_164 22 a0 → (kc_164 + 1 ≤ 64 ∧ ks_164 + 7 ≤ 1024) ∧ ∀ (q59 : Nat) (S60 : St), q59 ∉ sL S_164 → S60 = pNew S_164 q59 5 0 → (kc_164 + 2 ≤ 64 ∧ ks_164 + 15 ≤ 1024) ∧ w_N_init (fun (S63 : St) => ∃ y65 : Nat, o58 = some y65 ∧ isA S63 0 y65 ∧ (kc_164 + 3 ≤ 64 ∧ ks_164 + 25 ≤ 1024) ∧ w_AL_add1 (fun (r67 : Int32) (S68 : St) => ∀ v70 : Int32, v70 = v2_164 + 1 → ∃ nx : Nat, nx < n164 ∧ J164 nx S68 v70 (kc_164 + 3) (ks_164 + 25)) S63 y65 (some q59)) S60 q59)) S_164 y28) S_65 y22) ∧ (r19 ≤ v2_65 → J156) ∧ (¬ r19 ≤ v2_65 → ∀ o73 : Option Nat, o73 = sQ S_65 21 y1 → ∃ y74 : Nat, o73 = some y74 ∧ isA S_65 0 y74 ∧ w_AL_size (fun (r76 : Int32) => (r76 ≤ v2_65 → J156) ∧ (¬ r76 ≤ v2_65 → ∀ o77 : Option Nat, o77 = sQ S_65 21 y1 → ∃ y78 : Nat, o77 = some y78 ∧ isA S_65 0 y78 ∧ w_AL_get (fun (o80 : Option Nat) => ∃ y81 : Nat, o80 = some y81 ∧ isA S_65 2 y81 ∧ ∀ o84 : Option Nat, o84 = sQ S_65 21 a0 → ∃ y85 : Nat, o84 = some y85 ∧ isA S_65 0 y85 ∧ w_AL_get (fun (o87 : Option Nat) => ∃ y88 : Nat, o87 = some y88 ∧ isA S_65 2 y88 ∧ w_R_becomeLike (fun (S90 : St) => ∀ o91 : Option Nat, o91 = sQ S90 21 a0 → ∃ y92 : Nat, o91 = some y92 ∧ isA S90 0 y92 ∧ w_AL_get (fun (o94 : Option Nat) => ∃ y95 : Nat, o94 = some y95 ∧ isA S90 2 y95 ∧ ∀ o97 : Option Nat, o97 = sQ S90 14 y81 → ∃ J147 : Option Nat → Prop, (∀ (k1_147 : Option Nat), J147 k1_147 → ∀ S99 : St, S99 = pQ S90 14 y95 k1_147 → ∀ v100 : Int32, v100 = v2_65 + 1 → ∃ nx : Nat, nx < n65 ∧ J65 nx S99 v100) ∧ (o97 = none → J147 none) ∧ (∀ y102 : Nat, o97 = some y102 → ∀ o103 : Option Nat, o103 = sQ S90 14 y81 → ∃ y104 : Nat, o103 = some y104 ∧ isA S90 2 y104 ∧ w_F_dancerOrNull (fun (o106 : Option Nat) => J147 o106) S90 a0 (sI S90 6 y104))) S90 y92 v2_65) S_65 y88 (some y81)) S_65 y85 v2_65) S_65 y78 v2_65)) S_65 y74)) S_65 y17) ∧ (¬ r13 ≤ v2_16 → ∀ o109 : Option Nat, o109 = sQ S_16 21 a0 → (kc_16 + 1 ≤ 64 ∧ ks_16 + 15 ≤ 1024) ∧ ∀ (q110 : Nat) (S111 : St), q110 ∉ sL S_16 → S111 = pNew S_16 q110 2 0 → ∀ o114 : Option Nat, o114 = sQ S111 21 y1 → ∃ y115 : Nat, o114 = some y115 ∧ isA S111 0 y115 ∧ w_AL_get (fun (o117 : Option Nat) => ∃ y118 : Nat, o117 = some y118 ∧ isA S111 2 y118 ∧ ∀ o120 : Option Nat, o120 = sQ S111 12 y118 → w_R_init (fun (S121 : St) => ∃ y122 : Nat, o109 = some y122 ∧ isA S121 0 y122 ∧ (kc_16 + 2 ≤ 64 ∧ ks_16 + 25 ≤ 1024) ∧ w_AL_add1 (fun (r124 : Int32) (S125 : St) => ∀ v127 : Int32, v127 = v2_16 + 1 → ∃ nx : Nat, nx < n16 ∧ J16 nx S125 v127 (kc_16 + 2) (ks_16 + 25)) S121 y122 (some q110)) S111 q110 v2_16 o120) S111 y115 v2_16)) S_16 y11) S3 y5
set_option maxHeartbeats 4000000 in
set_option maxRecDepth 100000 in
theorem m_F_startLike (l : Launch) (x : Cx) (S : St) (post : St → Prop) (a0 : Nat) (a1 : Option Nat) (fa0 : isA S 3 a0) (h : w_F_startLike post S a0 a1) : Met l y_F_startLike [.code y_F_startLike c_F_startLike 4 none] { frames := 5, cells := 64, slots := 1024, locals := 108 } (va_Pc [.ref a0, va_rf a1] (GW x S)) (va_Qv post (gB x S) (xA x)) 64 1024 (xA x) := by
  refine gMet (by decide +kernel) (by simp [lg_sl, gCat, gci1, gcr1, gcl1, gcd1]) ?_
  intro p e s m args below meth c hx hb hr hown hlocks hin hw hK H locs hG ls hlA hml
  have hown : s.vm.findClass "WaltzHall$Floor" = some m.cls := hown
  have hl0 : lv_has ls 4 [(0, .ref a0), (1, va_rf a1)] := hlA
  have leS : gle S S := gle.rf
  unfold w_F_startLike at h
  refine lv_aload_n hx hb d_F_startLike_0 rfl (lv_at hl0 0 rfl) ?_
  refine gaload_n hx hb d_F_startLike_1 rfl (lv_at hl0 1 rfl) ?_
  obtain ⟨y1, ey1, h⟩ := h
  subst ey1
  obtain ⟨f2, h⟩ := h
  refine gget hx hb hw hown hK hG kd_F f2 rfl 2 (by decide) rfl tw_187 (fun _ h9 => h9) d_F_startLike_2 ?_
  refine gput (S' := pI S 23 a0 (sI S 23 y1)) hx hb hw hown hK hG kd_F fa0 rfl 2 (by decide) (gChI fa0 rfl) tw_187 (fun _ h9 => h9) rfl rfl rfl rfl (Nat.le_of_ble_eq_true rfl) d_F_startLike_5 (fun S3 H locs eS3 hle1 hG => ?_)
  replace h := h S3 eS3
  have fa0 := gle_isA hle1 fa0
  have f2 := gle_isA hle1 f2
  have leS := leS.tr hle1
  refine lv_aload_n hx hb d_F_startLike_8 rfl (lv_at hl0 0 rfl) ?_
  refine gget hx hb hw hown hK hG kd_F fa0 rfl 0 (by decide) rfl tw_183 (fun _ h9 => h9) d_F_startLike_9 ?_
  refine gtopq (fun o4 eo4 => ?_)
  replace h := h o4 eo4
  obtain ⟨y5, ey5, h⟩ := h
  subst ey5
  obtain ⟨f6, h⟩ := h
  -- call AL_size
  refine gpi hK hG (va_runV (As := []) (rest := []) ⟨hx, hb, hml, hown, hw⟩ (m_AL_size l x S3 _ y5 f6 h) ⟨gcb hw tw_284 tw_32 tw_289 hd_AL_size rfl rfl ⟨(Nat.le_of_ble_eq_true rfl), (Nat.le_of_ble_eq_true rfl)⟩, hw _ tw_282, hw _ tw_283⟩ (gpV hK hG kd_AL f6 rfl) rfl rfl hl0.1 rfl (lv_room (Nat.le_of_ble_eq_true rfl)) d_F_startLike_12 ⟨(Nat.le_of_ble_eq_true rfl), (Nat.le_of_ble_eq_true rfl)⟩) (fun r7 H locs h9 hG => ?_)
  replace h := h9
  clear h9
  refine lv_istore_n (i := 2) (lv' := [(2, .int r7), (0, .ref a0), (1, .ref y1)]) hx hb d_F_startLike_15 rfl hl0 (by decide) rfl (fun ls hl8 => ?_)
  have leS3 : gle S3 S3 := gle.rf
  obtain ⟨J16, ⟨n0_16, h0_16⟩, hJ16⟩ := h
  have k16 : ∀ (n16 : Nat) (S_16 : St) (v2_16 : Int32) (kc_16 ks_16 : Nat) (H : Heap) (locs : List Loc) (ls : Array Slot), gle S3 S_16 → GH x S_16 s H locs → lv_has ls 4 [(0, .ref a0), (1, .ref y1), (2, .int v2_16)] → J16 n16 S_16 v2_16 kc_16 ks_16 → W p l e { frames := 5, cells := 64, slots := 1024, locals := 108 } s m args below meth c H locs kc_16 ks_16 (MQ below (va_Qv post (gB x S) (xA x)) args s 64 1024 (xA x)) (F0 m 16 ls []) := by
    intro n16
    induction n16 using Nat.strongRecOn with
    | _ n16 ih16 =>
      intro S_16 v2_16 kc_16 ks_16 H locs ls hle1 hG hl9 hj
      replace h := hJ16 n16 S_16 v2_16 kc_16 ks_16 hj
      obtain ⟨⟨hk16, hkb16⟩, h⟩ := h
      have fa0 := gle_isA hle1 fa0
      have f2 := gle_isA hle1 f2
      have f6 := gle_isA hle1 f6
      have leS := leS.tr hle1
      have leS3 := leS3.tr hle1
      refine lv_iload_n hx hb d_F_startLike_16 rfl (lv_at hl9 2 rfl) ?_
      refine lv_aload_n hx hb d_F_startLike_17 rfl (lv_at hl9 1 rfl) ?_
      refine gget hx hb hw hown hK hG kd_F f2 rfl 0 (by decide) rfl tw_183 (fun _ h9 => h9) d_F_startLike_18 ?_
      refine gtopq (fun o10 eo10 => ?_)
      replace h := h o10 eo10
      obtain ⟨y11, ey11, h⟩ := h
      subst ey11
      obtain ⟨f12, h⟩ := h
      -- call AL_size
      refine gpi hK hG (va_runV (As := []) (rest := [.int v2_16]) ⟨hx, hb, hml, hown, hw⟩ (m_AL_size l x S_16 _ y11 f12 h) ⟨gcb hw tw_284 tw_32 tw_289 hd_AL_size rfl rfl ⟨(Nat.le_of_ble_eq_true rfl), (Nat.le_of_ble_eq_true rfl)⟩, hw _ tw_282, hw _ tw_283⟩ (gpV hK hG kd_AL f12 rfl) rfl rfl hl9.1 rfl (lv_room (Nat.le_of_ble_eq_true rfl)) d_F_startLike_21 ⟨(by show _ ≤ (64 : Nat); omega), (by show _ ≤ (1024 : Nat); omega)⟩) (fun r13 H locs h9 hG => ?_)
      replace h := h9
      clear h9
      refine lv_icmp_ge (tgt := 63) hx hb d_F_startLike_24 (by decide) (fun hc129 => ?_) (fun hc129 => ?_)
      · replace h := h.1 hc129
        refine lv_iconst (v := 0) hx hb d_F_startLike_63 (by decide) ?_
        refine lv_istore_n (i := 2) (lv' := [(2, .int 0), (0, .ref a0), (1, .ref y1)]) hx hb d_F_startLike_64 rfl hl9 (by decide) rfl (fun ls hl14 => ?_)
        have leS_16 : gle S_16 S_16 := gle.rf
        obtain ⟨J65, ⟨n0_65, h0_65⟩, hJ65⟩ := h
        have k65 : ∀ (n65 : Nat) (S_65 : St) (v2_65 : Int32) (H : Heap) (locs : List Loc) (ls : Array Slot), gle S_16 S_65 → GH x S_65 s H locs → lv_has ls 4 [(0, .ref a0), (1, .ref y1), (2, .int v2_65)] → J65 n65 S_65 v2_65 → W p l e { frames := 5, cells := 64, slots := 1024, locals := 108 } s m args below meth c H locs kc_16 ks_16 (MQ below (va_Qv post (gB x S) (xA x)) args s 64 1024 (xA x)) (F0 m 65 ls []) := by
          intro n65
          induction n65 using Nat.strongRecOn with
          | _ n65 ih65 =>
            intro S_65 v2_65 H locs ls hle1 hG hl15 hj
            replace h := hJ65 n65 S_65 v2_65 hj
            have fa0 := gle_isA hle1 fa0
            have f2 := gle_isA hle1 f2
            have f6 := gle_isA hle1 f6
            have f12 := gle_isA hle1 f12
            have leS := leS.tr hle1
            have leS3 := leS3.tr hle1
            have leS_16 := leS_16.tr hle1
            refine lv_iload_n hx hb d_F_startLike_65 rfl (lv_at hl15 2 rfl) ?_
            refine lv_aload_n hx hb d_F_startLike_66 rfl (lv_at hl15 0 rfl) ?_
            refine gget hx hb hw hown hK hG kd_F fa0 rfl 0 (by decide) rfl tw_183 (fun _ h9 => h9) d_F_startLike_67 ?_
            refine gtopq (fun o16 eo16 => ?_)
            replace h := h o16 eo16
            obtain ⟨y17, ey17, h⟩ := h
            subst ey17
            obtain ⟨f18, h⟩ := h
            -- call AL_size
            refine gpi hK hG (va_runV (As := []) (rest := [.int v2_65]) ⟨hx, hb, hml, hown, hw⟩ (m_AL_size l x S_65 _ y17 f18 h) ⟨gcb hw tw_284 tw_32 tw_289 hd_AL_size rfl rfl ⟨(Nat.le_of_ble_eq_true rfl), (Nat.le_of_ble_eq_true rfl)⟩, hw _ tw_282, hw _ tw_283⟩ (gpV hK hG kd_AL f18 rfl) rfl rfl hl15.1 rfl (lv_room (Nat.le_of_ble_eq_true rfl)) d_F_startLike_70 ⟨(by show _ ≤ (64 : Nat); omega), (by show _ ≤ (1024 : Nat); omega)⟩) (fun r19 H locs h9 hG => ?_)
            replace h := h9
            clear h9
            have leS_65 : gle S_65 S_65 := gle.rf
            obtain ⟨J156, hJ156, h⟩ := h
            have k156 : ∀ (H : Heap) (locs : List Loc) (ls : Array Slot), GH x S_65 s H locs → lv_has ls 4 [(0, .ref a0), (1, .ref y1)] → J156 → W p l e { frames := 5, cells := 64, slots := 1024, locals := 108 } s m args below meth c H locs kc_16 ks_16 (MQ below (va_Qv post (gB x S) (xA x)) args s 64 1024 (xA x)) (F0 m 156 ls []) := by
              intro  H locs ls hG hl20 hj
              replace h := hJ156 hj
              refine lv_aload_n hx hb d_F_startLike_156 rfl (lv_at hl20 0 rfl) ?_
              refine gget hx hb hw hown hK hG kd_F fa0 rfl 1 (by decide) rfl tw_185 (fun _ h9 => h9) d_F_startLike_157 ?_
              refine gtopq (fun o21 eo21 => ?_)
              replace h := h o21 eo21
              obtain ⟨y22, ey22, h⟩ := h
              subst ey22
              obtain ⟨f23, h⟩ := h
              -- call AL_size
              refine gpi hK hG (va_runV (As := []) (rest := []) ⟨hx, hb, hml, hown, hw⟩ (m_AL_size l x S_65 _ y22 f23 h) ⟨gcb hw tw_284 tw_32 tw_289 hd_AL_size rfl rfl ⟨(Nat.le_of_ble_eq_true rfl), (Nat.le_of_ble_eq_true rfl)⟩, hw _ tw_282, hw _ tw_283⟩ (gpV hK hG kd_AL f23 rfl) rfl rfl hl20.1 rfl (lv_room (Nat.le_of_ble_eq_true rfl)) d_F_startLike_160 ⟨(by show _ ≤ (64 : Nat); omega), (by show _ ≤ (1024 : Nat); omega)⟩) (fun r24 H locs h9 hG => ?_)
              replace h := h9
              clear h9
              refine lv_istore_n (i := 2) (lv' := [(2, .int r24), (0, .ref a0), (1, .ref y1)]) hx hb d_F_startLike_163 rfl hl20 (by decide) rfl (fun ls hl25 => ?_)
              obtain ⟨J164, ⟨n0_164, h0_164⟩, hJ164⟩ := h
              have k164 : ∀ (n164 : Nat) (S_164 : St) (v2_164 : Int32) (kc_164 ks_164 : Nat) (H : Heap) (locs : List Loc) (ls : Array Slot), gle S_65 S_164 → GH x S_164 s H locs → lv_has ls 4 [(0, .ref a0), (1, .ref y1), (2, .int v2_164)] → J164 n164 S_164 v2_164 kc_164 ks_164 → W p l e { frames := 5, cells := 64, slots := 1024, locals := 108 } s m args below meth c H locs kc_164 ks_164 (MQ below (va_Qv post (gB x S) (xA x)) args s 64 1024 (xA x)) (F0 m 164 ls []) := by
                intro n164
                induction n164 using Nat.strongRecOn with
                | _ n164 ih164 =>
                  intro S_164 v2_164 kc_164 ks_164 H locs ls hle1 hG hl26 hj
                  replace h := hJ164 n164 S_164 v2_164 kc_164 ks_164 hj
                  obtain ⟨⟨hk164, hkb164⟩, h⟩ := h
                  have fa0 := gle_isA hle1 fa0
                  have f2 := gle_isA hle1 f2
                  have f6 := gle_isA hle1 f6
                  have f12 := gle_isA hle1 f12
                  have f18 := gle_isA hle1 f18
                  have f23 := gle_isA hle1 f23
                  have leS := leS.tr hle1
                  have leS3 := leS3.tr hle1
                  have leS_16 := leS_16.tr hle1
                  have leS_65 := leS_65.tr hle1
                  refine lv_iload_n hx hb d_F_startLike_164 rfl (lv_at hl26 2 rfl) ?_
                  refine lv_aload_n hx hb d_F_startLike_165 rfl (lv_at hl26 1 rfl) ?_
                  refine gget hx hb hw hown hK hG kd_F f2 rfl 1 (by decide) rfl tw_185 (fun _ h9 => h9) d_F_startLike_166 ?_
                  refine gtopq (fun o27 eo27 => ?_)
                  replace h := h o27 eo27
                  obtain ⟨y28, ey28, h⟩ := h
                  subst ey28
                  obtain ⟨f29, h⟩ := h
                  -- call AL_size
                  refine gpi hK hG (va_runV (As := []) (rest := [.int v2_164]) ⟨hx, hb, hml, hown, hw⟩ (m_AL_size l x S_164 _ y28 f29 h) ⟨gcb hw tw_284 tw_32 tw_289 hd_AL_size rfl rfl ⟨(Nat.le_of_ble_eq_true rfl), (Nat.le_of_ble_eq_true rfl)⟩, hw _ tw_282, hw _ tw_283⟩ (gpV hK hG kd_AL f29 rfl) rfl rfl hl26.1 rfl (lv_room (Nat.le_of_ble_eq_true rfl)) d_F_startLike_169 ⟨(by show _ ≤ (64 : Nat); omega), (by show _ ≤ (1024 : Nat); omega)⟩) (fun r30 H locs h9 hG => ?_)
                  replace h := h9
                  clear h9
                  refine lv_icmp_ge (tgt := 196) hx hb d_F_startLike_172 (by decide) (fun hc72 => ?_) (fun hc72 => ?_)
                  · replace h := h.1 hc72
                    refine lv_iconst (v := 0) hx hb d_F_startLike_196 (by decide) ?_
                    refine lv_istore_n (i := 2) (lv' := [(2, .int 0), (0, .ref a0), (1, .ref y1)]) hx hb d_F_startLike_197 rfl hl26 (by decide) rfl (fun ls hl31 => ?_)
                    have leS_164 : gle S_164 S_164 := gle.rf
                    obtain ⟨J198, ⟨n0_198, h0_198⟩, hJ198⟩ := h
                    have k198 : ∀ (n198 : Nat) (S_198 : St) (v2_198 : Int32) (H : Heap) (locs : List Loc) (ls : Array Slot), gle S_164 S_198 → GH x S_198 s H locs → lv_has ls 4 [(0, .ref a0), (1, .ref y1), (2, .int v2_198)] → J198 n198 S_198 v2_198 → W p l e { frames := 5, cells := 64, slots := 1024, locals := 108 } s m args below meth c H locs kc_164 ks_164 (MQ below (va_Qv post (gB x S) (xA x)) args s 64 1024 (xA x)) (F0 m 198 ls []) := by
                      intro n198
                      induction n198 using Nat.strongRecOn with
                      | _ n198 ih198 =>
                        intro S_198 v2_198 H locs ls hle1 hG hl32 hj
                        replace h := hJ198 n198 S_198 v2_198 hj
                        have fa0 := gle_isA hle1 fa0
                        have f2 := gle_isA hle1 f2
                        have f6 := gle_isA hle1 f6
                        have f12 := gle_isA hle1 f12
                        have f18 := gle_isA hle1 f18
                        have f23 := gle_isA hle1 f23
                        have f29 := gle_isA hle1 f29
                        have leS := leS.tr hle1
                        have leS3 := leS3.tr hle1
                        have leS_16 := leS_16.tr hle1
                        have leS_65 := leS_65.tr hle1
                        have leS_164 := leS_164.tr hle1
                        refine lv_iload_n hx hb d_F_startLike_198 rfl (lv_at hl32 2 rfl) ?_
                        refine lv_aload_n hx hb d_F_startLike_199 rfl (lv_at hl32 0 rfl) ?_
                        refine gget hx hb hw hown hK hG kd_F fa0 rfl 1 (by decide) rfl tw_185 (fun _ h9 => h9) d_F_startLike_200 ?_
                        refine gtopq (fun o33 eo33 => ?_)
                        replace h := h o33 eo33
                        obtain ⟨y34, ey34, h⟩ := h
                        subst ey34
                        obtain ⟨f35, h⟩ := h
                        -- call AL_size
                        refine gpi hK hG (va_runV (As := []) (rest := [.int v2_198]) ⟨hx, hb, hml, hown, hw⟩ (m_AL_size l x S_198 _ y34 f35 h) ⟨gcb hw tw_284 tw_32 tw_289 hd_AL_size rfl rfl ⟨(Nat.le_of_ble_eq_true rfl), (Nat.le_of_ble_eq_true rfl)⟩, hw _ tw_282, hw _ tw_283⟩ (gpV hK hG kd_AL f35 rfl) rfl rfl hl32.1 rfl (lv_room (Nat.le_of_ble_eq_true rfl)) d_F_startLike_203 ⟨(by show _ ≤ (64 : Nat); omega), (by show _ ≤ (1024 : Nat); omega)⟩) (fun r36 H locs h9 hG => ?_)
                        replace h := h9
                        clear h9
                        refine lv_icmp_ge (tgt := 251) hx hb d_F_startLike_206 (by decide) (fun hc57 => ?_) (fun hc57 => ?_)
                        · replace h := h.1 hc57
                          exact gvret hx hb hr hlocks hK hG leS h (by omega) (by omega) d_F_startLike_251
                        · replace h := h.2 hc57
                          refine lv_iload_n hx hb d_F_startLike_209 rfl (lv_at hl32 2 rfl) ?_
                          refine lv_aload_n hx hb d_F_startLike_210 rfl (lv_at hl32 1 rfl) ?_
                          refine gget hx hb hw hown hK hG kd_F f2 rfl 1 (by decide) rfl tw_185 (fun _ h9 => h9) d_F_startLike_211 ?_
                          refine gtopq (fun o37 eo37 => ?_)
                          replace h := h o37 eo37
                          obtain ⟨y38, ey38, h⟩ := h
                          subst ey38
                          obtain ⟨f39, h⟩ := h
                          -- call AL_size
                          refine gpi hK hG (va_runV (As := []) (rest := [.int v2_198]) ⟨hx, hb, hml, hown, hw⟩ (m_AL_size l x S_198 _ y38 f39 h) ⟨gcb hw tw_284 tw_32 tw_289 hd_AL_size rfl rfl ⟨(Nat.le_of_ble_eq_true rfl), (Nat.le_of_ble_eq_true rfl)⟩, hw _ tw_282, hw _ tw_283⟩ (gpV hK hG kd_AL f39 rfl) rfl rfl hl32.1 rfl (lv_room (Nat.le_of_ble_eq_true rfl)) d_F_startLike_214 ⟨(by show _ ≤ (64 : Nat); omega), (by show _ ≤ (1024 : Nat); omega)⟩) (fun r40 H locs h9 hG => ?_)
                          replace h := h9
                          clear h9
                          refine lv_icmp_ge (tgt := 251) hx hb d_F_startLike_217 (by decide) (fun hc56 => ?_) (fun hc56 => ?_)
                          · replace h := h.1 hc56
                            exact gvret hx hb hr hlocks hK hG leS h (by omega) (by omega) d_F_startLike_251
                          · replace h := h.2 hc56
                            refine lv_aload_n hx hb d_F_startLike_220 rfl (lv_at hl32 0 rfl) ?_
                            refine gget hx hb hw hown hK hG kd_F fa0 rfl 1 (by decide) rfl tw_185 (fun _ h9 => h9) d_F_startLike_221 ?_
                            refine gtopq (fun o41 eo41 => ?_)
                            replace h := h o41 eo41
                            refine lv_iload_n hx hb d_F_startLike_224 rfl (lv_at hl32 2 rfl) ?_
                            obtain ⟨y42, ey42, h⟩ := h
                            subst ey42
                            obtain ⟨f43, h⟩ := h
                            -- call AL_get
                            refine gpq hK hG (va_runV (As := [.int v2_198]) (rest := []) ⟨hx, hb, hml, hown, hw⟩ (m_AL_get l x S_198 _ y42 v2_198 f43 h) ⟨gcb hw tw_293 tw_32 tw_290 hd_AL_get rfl rfl ⟨(Nat.le_of_ble_eq_true rfl), (Nat.le_of_ble_eq_true rfl)⟩, hw _ tw_291, hw _ tw_292⟩ (gpV hK hG kd_AL f43 rfl) rfl rfl hl32.1 rfl (lv_room (Nat.le_of_ble_eq_true rfl)) d_F_startLike_225 ⟨(by show _ ≤ (64 : Nat); omega), (by show _ ≤ (1024 : Nat); omega)⟩) (fun o44 H locs h9 hG => ?_)
                            replace h := h9
                            clear h9
                            obtain ⟨y45, ey45, h⟩ := h
                            subst ey45
                            obtain ⟨f46, h⟩ := h
                            refine gcast hx hb hw hown hK hG kd_N tw_861 f46 rfl d_F_startLike_228 ?_
                            refine lv_aload_n hx hb d_F_startLike_231 rfl (lv_at hl32 1 rfl) ?_
                            refine gget hx hb hw hown hK hG kd_F f2 rfl 1 (by decide) rfl tw_185 (fun _ h9 => h9) d_F_startLike_232 ?_
                            refine gtopq (fun o47 eo47 => ?_)
                            replace h := h o47 eo47
                            refine lv_iload_n hx hb d_F_startLike_235 rfl (lv_at hl32 2 rfl) ?_
                            obtain ⟨y48, ey48, h⟩ := h
                            subst ey48
                            obtain ⟨f49, h⟩ := h
                            -- call AL_get
                            refine gpq hK hG (va_runV (As := [.int v2_198]) (rest := [.ref y45]) ⟨hx, hb, hml, hown, hw⟩ (m_AL_get l x S_198 _ y48 v2_198 f49 h) ⟨gcb hw tw_293 tw_32 tw_290 hd_AL_get rfl rfl ⟨(Nat.le_of_ble_eq_true rfl), (Nat.le_of_ble_eq_true rfl)⟩, hw _ tw_291, hw _ tw_292⟩ (gpV hK hG kd_AL f49 rfl) rfl rfl hl32.1 rfl (lv_room (Nat.le_of_ble_eq_true rfl)) d_F_startLike_236 ⟨(by show _ ≤ (64 : Nat); omega), (by show _ ≤ (1024 : Nat); omega)⟩) (fun o50 H locs h9 hG => ?_)
                            replace h := h9
                            clear h9
                            obtain ⟨y51, ey51, h⟩ := h
                            subst ey51
                            obtain ⟨f52, h⟩ := h
                            refine gcast hx hb hw hown hK hG kd_N tw_861 f52 rfl d_F_startLike_239 ?_
                            -- call N_becomeLike
                            refine gcv hK hG (va_runV (As := [.ref y51]) (rest := []) ⟨hx, hb, hml, hown, hw⟩ (m_N_becomeLike l x S_198 _ y45 (some y51) f46 h) ⟨gcb hw tw_903 tw_53 tw_900 hd_N_becomeLike rfl rfl ⟨(Nat.le_of_ble_eq_true rfl), (Nat.le_of_ble_eq_true rfl)⟩, hw _ tw_901, hw _ tw_902⟩ (gpV hK hG kd_N f46 rfl) rfl rfl hl32.1 rfl (lv_room (Nat.le_of_ble_eq_true rfl)) d_F_startLike_242 ⟨(by show _ ≤ (64 : Nat); omega), (by show _ ≤ (1024 : Nat); omega)⟩) (fun S53 H locs h9 hle1 hG => ?_)
                            replace h := h9
                            clear h9
                            have fa0 := gle_isA hle1 fa0
                            have f2 := gle_isA hle1 f2
                            have f6 := gle_isA hle1 f6
                            have f12 := gle_isA hle1 f12
                            have f18 := gle_isA hle1 f18
                            have f23 := gle_isA hle1 f23
                            have f29 := gle_isA hle1 f29
                            have f35 := gle_isA hle1 f35
                            have f39 := gle_isA hle1 f39
                            have f43 := gle_isA hle1 f43
                            have f46 := gle_isA hle1 f46
                            have f49 := gle_isA hle1 f49
                            have f52 := gle_isA hle1 f52
                            have leS := leS.tr hle1
                            have leS3 := leS3.tr hle1
                            have leS_16 := leS_16.tr hle1
                            have leS_65 := leS_65.tr hle1
                            have leS_164 := leS_164.tr hle1
                            obtain ⟨v54, ev54⟩ : ∃ z : Int32, z = v2_198 + 1 := ⟨_, rfl⟩
                            replace h := h v54 ev54
                            refine lv_iinc (v := v54) (lv' := [(2, .int v54), (0, .ref a0), (1, .ref y1)]) hx hb d_F_startLike_245 hl32 (k := 2) rfl (by rw [ev54]; rfl) (by decide) rfl (fun ls hl55 => ?_)
                            refine lv_goto (tgt := 198) hx hb d_F_startLike_248 (by decide) ?_
                            obtain ⟨nx, hnx, h⟩ := h
                            exact ih198 nx hnx S53 v54 H locs ls leS_164 hG (lv_sub hl55 [1, 2, 0] rfl) h
                    exact k198 n0_198 S_164 0 H locs ls gle.rf hG (lv_sub hl31 [1, 2, 0] rfl) h0_198
                  · replace h := h.2 hc72
                    refine lv_aload_n hx hb d_F_startLike_175 rfl (lv_at hl26 0 rfl) ?_
                    refine gget hx hb hw hown hK hG kd_F fa0 rfl 1 (by decide) rfl tw_185 (fun _ h9 => h9) d_F_startLike_176 ?_
                    refine gtopq (fun o58 eo58 => ?_)
                    replace h := h o58 eo58
                    obtain ⟨⟨hk61, hk61b⟩, h⟩ := h
                    refine gnew (k := 5) hx hb hw hown hK hG kd_N tw_861 tw_729 tw_53 rfl kf_N (by show _ ≤ (64 : Nat); omega) (by show _ ≤ (1024 : Nat); omega) d_F_startLike_179 (fun q59 S60 H hqq59 eS60 hle1 hG => ?_)
                    replace h := h q59 S60 hqq59 eS60
                    have fa0 := gle_isA hle1 fa0
                    have f2 := gle_isA hle1 f2
                    have f6 := gle_isA hle1 f6
                    have f12 := gle_isA hle1 f12
                    have f18 := gle_isA hle1 f18
                    have f23 := gle_isA hle1 f23
                    have f29 := gle_isA hle1 f29
                    have leS := leS.tr hle1
                    have leS3 := leS3.tr hle1
                    have leS_16 := leS_16.tr hle1
                    have leS_65 := leS_65.tr hle1
                    have f62 : isA S60 5 q59 := by rw [eS60]; exact isA_new
                    refine lv_dup hx hb d_F_startLike_182 rfl ?_
                    obtain ⟨⟨hk64, hk64b⟩, h⟩ := h
                    -- call N_init
                    refine gcv hK hG (va_runIN (As := []) (rest := [.ref q59, va_rf o58]) ⟨hx, hb, hml, hown, hw⟩ (m_N_init l x S60 _ q59 f62 h) ⟨gcn hw tw_732 tw_53 tw_899 hd_N_init rfl rfl ⟨(Nat.le_of_ble_eq_true rfl), (Nat.le_of_ble_eq_true rfl)⟩, rfl, hw _ tw_731⟩ (gpS hK hG) rfl rfl hl26.1 rfl (lv_room (by simp [gCat, gci1, gcr1, gcl1, gcd1])) d_F_startLike_183 ⟨(by show _ ≤ (64 : Nat); omega), (by show _ ≤ (1024 : Nat); omega)⟩) (fun S63 H locs h9 hle1 hG => ?_)
                    replace h := h9
                    clear h9
                    have fa0 := gle_isA hle1 fa0
                    have f2 := gle_isA hle1 f2
                    have f6 := gle_isA hle1 f6
                    have f12 := gle_isA hle1 f12
                    have f18 := gle_isA hle1 f18
                    have f23 := gle_isA hle1 f23
                    have f29 := gle_isA hle1 f29
                    have f62 := gle_isA hle1 f62
                    have leS := leS.tr hle1
                    have leS3 := leS3.tr hle1
                    have leS_16 := leS_16.tr hle1
                    have leS_65 := leS_65.tr hle1
                    obtain ⟨y65, ey65, h⟩ := h
                    subst ey65
                    obtain ⟨f66, h⟩ := h
                    obtain ⟨⟨hk69, hk69b⟩, h⟩ := h
                    -- call AL_add1
                    refine gci hK hG (va_runV (As := [.ref q59]) (rest := []) ⟨hx, hb, hml, hown, hw⟩ (m_AL_add1 l x S63 _ y65 (some q59) f66 h) ⟨gcb hw tw_198 tw_32 tw_894 hd_AL_add1 rfl rfl ⟨(Nat.le_of_ble_eq_true rfl), (Nat.le_of_ble_eq_true rfl)⟩, hw _ tw_196, hw _ tw_197⟩ (gpV hK hG kd_AL f66 rfl) rfl rfl hl26.1 rfl (lv_room (Nat.le_of_ble_eq_true rfl)) d_F_startLike_186 ⟨(by show _ ≤ (64 : Nat); omega), (by show _ ≤ (1024 : Nat); omega)⟩) (fun r67 S68 H locs h9 hle1 hG => ?_)
                    replace h := h9
                    clear h9
                    have fa0 := gle_isA hle1 fa0
                    have f2 := gle_isA hle1 f2
                    have f6 := gle_isA hle1 f6
                    have f12 := gle_isA hle1 f12
                    have f18 := gle_isA hle1 f18
                    have f23 := gle_isA hle1 f23
                    have f29 := gle_isA hle1 f29
                    have f62 := gle_isA hle1 f62
                    have f66 := gle_isA hle1 f66
                    have leS := leS.tr hle1
                    have leS3 := leS3.tr hle1
                    have leS_16 := leS_16.tr hle1
                    have leS_65 := leS_65.tr hle1
                    refine lv_pop hx hb d_F_startLike_189 rfl ?_
                    obtain ⟨v70, ev70⟩ : ∃ z : Int32, z = v2_164 + 1 := ⟨_, rfl⟩
                    replace h := h v70 ev70
                    refine lv_iinc (v := v70) (lv' := [(2, .int v70), (0, .ref a0), (1, .ref y1)]) hx hb d_F_startLike_190 hl26 (k := 2) rfl (by rw [ev70]; rfl) (by decide) rfl (fun ls hl71 => ?_)
                    refine lv_goto (tgt := 164) hx hb d_F_startLike_193 (by decide) ?_
                    obtain ⟨nx, hnx, h⟩ := h
                    exact ih164 nx hnx S68 v70 (kc_164 + 3) (ks_164 + 25) H locs ls leS_65 hG (lv_sub hl71 [1, 2, 0] rfl) h
              exact k164 n0_164 S_65 r24 kc_16 ks_16 H locs ls gle.rf hG (lv_sub hl25 [1, 2, 0] rfl) h0_164
            refine lv_icmp_ge (tgt := 156) hx hb d_F_startLike_73 (by decide) (fun hc108 => ?_) (fun hc108 => ?_)
            · replace h := h.1 hc108
              exact k156 H locs ls hG (lv_sub hl15 [0, 1] rfl) h
            · replace h := h.2 hc108
              refine lv_iload_n hx hb d_F_startLike_76 rfl (lv_at hl15 2 rfl) ?_
              refine lv_aload_n hx hb d_F_startLike_77 rfl (lv_at hl15 1 rfl) ?_
              refine gget hx hb hw hown hK hG kd_F f2 rfl 0 (by decide) rfl tw_183 (fun _ h9 => h9) d_F_startLike_78 ?_
              refine gtopq (fun o73 eo73 => ?_)
              replace h := h o73 eo73
              obtain ⟨y74, ey74, h⟩ := h
              subst ey74
              obtain ⟨f75, h⟩ := h
              -- call AL_size
              refine gpi hK hG (va_runV (As := []) (rest := [.int v2_65]) ⟨hx, hb, hml, hown, hw⟩ (m_AL_size l x S_65 _ y74 f75 h) ⟨gcb hw tw_284 tw_32 tw_289 hd_AL_size rfl rfl ⟨(Nat.le_of_ble_eq_true rfl), (Nat.le_of_ble_eq_true rfl)⟩, hw _ tw_282, hw _ tw_283⟩ (gpV hK hG kd_AL f75 rfl) rfl rfl hl15.1 rfl (lv_room (Nat.le_of_ble_eq_true rfl)) d_F_startLike_81 ⟨(by show _ ≤ (64 : Nat); omega), (by show _ ≤ (1024 : Nat); omega)⟩) (fun r76 H locs h9 hG => ?_)
              replace h := h9
              clear h9
              refine lv_icmp_ge (tgt := 156) hx hb d_F_startLike_84 (by decide) (fun hc107 => ?_) (fun hc107 => ?_)
              · replace h := h.1 hc107
                exact k156 H locs ls hG (lv_sub hl15 [0, 1] rfl) h
              · replace h := h.2 hc107
                refine lv_aload_n hx hb d_F_startLike_87 rfl (lv_at hl15 1 rfl) ?_
                refine gget hx hb hw hown hK hG kd_F f2 rfl 0 (by decide) rfl tw_183 (fun _ h9 => h9) d_F_startLike_88 ?_
                refine gtopq (fun o77 eo77 => ?_)
                replace h := h o77 eo77
                refine lv_iload_n hx hb d_F_startLike_91 rfl (lv_at hl15 2 rfl) ?_
                obtain ⟨y78, ey78, h⟩ := h
                subst ey78
                obtain ⟨f79, h⟩ := h
                -- call AL_get
                refine gpq hK hG (va_runV (As := [.int v2_65]) (rest := []) ⟨hx, hb, hml, hown, hw⟩ (m_AL_get l x S_65 _ y78 v2_65 f79 h) ⟨gcb hw tw_293 tw_32 tw_290 hd_AL_get rfl rfl ⟨(Nat.le_of_ble_eq_true rfl), (Nat.le_of_ble_eq_true rfl)⟩, hw _ tw_291, hw _ tw_292⟩ (gpV hK hG kd_AL f79 rfl) rfl rfl hl15.1 rfl (lv_room (Nat.le_of_ble_eq_true rfl)) d_F_startLike_92 ⟨(by show _ ≤ (64 : Nat); omega), (by show _ ≤ (1024 : Nat); omega)⟩) (fun o80 H locs h9 hG => ?_)
                replace h := h9
                clear h9
                obtain ⟨y81, ey81, h⟩ := h
                subst ey81
                obtain ⟨f82, h⟩ := h
                refine gcast hx hb hw hown hK hG kd_R tw_302 f82 rfl d_F_startLike_95 ?_
                refine lv_astore_n (i := 3) (lv' := [(3, .ref y81), (0, .ref a0), (1, .ref y1), (2, .int v2_65)]) hx hb d_F_startLike_98 rfl hl15 (by decide) rfl (fun ls hl83 => ?_)
                refine lv_aload_n hx hb d_F_startLike_99 rfl (lv_at hl83 1 rfl) ?_
                refine gget hx hb hw hown hK hG kd_F fa0 rfl 0 (by decide) rfl tw_183 (fun _ h9 => h9) d_F_startLike_100 ?_
                refine gtopq (fun o84 eo84 => ?_)
                replace h := h o84 eo84
                refine lv_iload_n hx hb d_F_startLike_103 rfl (lv_at hl83 3 rfl) ?_
                obtain ⟨y85, ey85, h⟩ := h
                subst ey85
                obtain ⟨f86, h⟩ := h
                -- call AL_get
                refine gpq hK hG (va_runV (As := [.int v2_65]) (rest := []) ⟨hx, hb, hml, hown, hw⟩ (m_AL_get l x S_65 _ y85 v2_65 f86 h) ⟨gcb hw tw_293 tw_32 tw_290 hd_AL_get rfl rfl ⟨(Nat.le_of_ble_eq_true rfl), (Nat.le_of_ble_eq_true rfl)⟩, hw _ tw_291, hw _ tw_292⟩ (gpV hK hG kd_AL f86 rfl) rfl rfl hl83.1 rfl (lv_room (Nat.le_of_ble_eq_true rfl)) d_F_startLike_104 ⟨(by show _ ≤ (64 : Nat); omega), (by show _ ≤ (1024 : Nat); omega)⟩) (fun o87 H locs h9 hG => ?_)
                replace h := h9
                clear h9
                obtain ⟨y88, ey88, h⟩ := h
                subst ey88
                obtain ⟨f89, h⟩ := h
                refine gcast hx hb hw hown hK hG kd_R tw_302 f89 rfl d_F_startLike_107 ?_
                refine lv_aload_n hx hb d_F_startLike_110 rfl (lv_at hl83 0 rfl) ?_
                -- call R_becomeLike
                refine gcv hK hG (va_runV (As := [.ref y81]) (rest := []) ⟨hx, hb, hml, hown, hw⟩ (m_R_becomeLike l x S_65 _ y88 (some y81) f89 h) ⟨gcb hw tw_898 tw_52 tw_895 hd_R_becomeLike rfl rfl ⟨(Nat.le_of_ble_eq_true rfl), (Nat.le_of_ble_eq_true rfl)⟩, hw _ tw_896, hw _ tw_897⟩ (gpV hK hG kd_R f89 rfl) rfl rfl hl83.1 rfl (lv_room (Nat.le_of_ble_eq_true rfl)) d_F_startLike_111 ⟨(by show _ ≤ (64 : Nat); omega), (by show _ ≤ (1024 : Nat); omega)⟩) (fun S90 H locs h9 hle1 hG => ?_)
                replace h := h9
                clear h9
                have fa0 := gle_isA hle1 fa0
                have f2 := gle_isA hle1 f2
                have f6 := gle_isA hle1 f6
                have f12 := gle_isA hle1 f12
                have f18 := gle_isA hle1 f18
                have f75 := gle_isA hle1 f75
                have f79 := gle_isA hle1 f79
                have f82 := gle_isA hle1 f82
                have f86 := gle_isA hle1 f86
                have f89 := gle_isA hle1 f89
                have leS := leS.tr hle1
                have leS3 := leS3.tr hle1
                have leS_16 := leS_16.tr hle1
                have leS_65 := leS_65.tr hle1
                refine lv_aload_n hx hb d_F_startLike_114 rfl (lv_at hl83 1 rfl) ?_
                refine gget hx hb hw hown hK hG kd_F fa0 rfl 0 (by decide) rfl tw_183 (fun _ h9 => h9) d_F_startLike_115 ?_
                refine gtopq (fun o91 eo91 => ?_)
                replace h := h o91 eo91
                refine lv_iload_n hx hb d_F_startLike_118 rfl (lv_at hl83 3 rfl) ?_
                obtain ⟨y92, ey92, h⟩ := h
                subst ey92
                obtain ⟨f93, h⟩ := h
                -- call AL_get
                refine gpq hK hG (va_runV (As := [.int v2_65]) (rest := []) ⟨hx, hb, hml, hown, hw⟩ (m_AL_get l x S90 _ y92 v2_65 f93 h) ⟨gcb hw tw_293 tw_32 tw_290 hd_AL_get rfl rfl ⟨(Nat.le_of_ble_eq_true rfl), (Nat.le_of_ble_eq_true rfl)⟩, hw _ tw_291, hw _ tw_292⟩ (gpV hK hG kd_AL f93 rfl) rfl rfl hl83.1 rfl (lv_room (Nat.le_of_ble_eq_true rfl)) d_F_startLike_119 ⟨(by show _ ≤ (64 : Nat); omega), (by show _ ≤ (1024 : Nat); omega)⟩) (fun o94 H locs h9 hG => ?_)
                replace h := h9
                clear h9
                obtain ⟨y95, ey95, h⟩ := h
                subst ey95
                obtain ⟨f96, h⟩ := h
                refine gcast hx hb hw hown hK hG kd_R tw_302 f96 rfl d_F_startLike_122 ?_
                refine lv_aload_n hx hb d_F_startLike_125 rfl (lv_at hl83 0 rfl) ?_
                refine gget hx hb hw hown hK hG kd_R f82 rfl 8 (by decide) rfl tw_599 (fun _ h9 => h9) d_F_startLike_126 ?_
                refine gtopq (fun o97 eo97 => ?_)
                replace h := h o97 eo97
                have leS90 : gle S90 S90 := gle.rf
                obtain ⟨J147, hJ147, h⟩ := h
                have k147 : ∀ (k1_147 : Option Nat) (H : Heap) (locs : List Loc) (ls : Array Slot), GH x S90 s H locs → lv_has ls 4 [(0, .ref a0), (1, .ref y1), (2, .int v2_65)] → J147 k1_147 → W p l e { frames := 5, cells := 64, slots := 1024, locals := 108 } s m args below meth c H locs kc_16 ks_16 (MQ below (va_Qv post (gB x S) (xA x)) args s 64 1024 (xA x)) (F0 m 147 ls [va_rf k1_147, .ref y95]) := by
                  intro k1_147  H locs ls hG hl98 hj
                  replace h := hJ147 k1_147 hj
                  refine gput (S' := pQ S90 14 y95 k1_147) hx hb hw hown hK hG kd_R f96 rfl 8 (by decide) (gChQ f96 rfl) tw_599 (fun _ h9 => h9) rfl rfl (gNo _ _) (gFo _ _) (Nat.le_of_ble_eq_true rfl) d_F_startLike_147 (fun S99 H locs eS99 hle1 hG => ?_)
                  replace h := h S99 eS99
                  have fa0 := gle_isA hle1 fa0
                  have f2 := gle_isA hle1 f2
                  have f6 := gle_isA hle1 f6
                  have f12 := gle_isA hle1 f12
                  have f18 := gle_isA hle1 f18
                  have f75 := gle_isA hle1 f75
                  have f79 := gle_isA hle1 f79
                  have f82 := gle_isA hle1 f82
                  have f86 := gle_isA hle1 f86
                  have f89 := gle_isA hle1 f89
                  have f93 := gle_isA hle1 f93
                  have f96 := gle_isA hle1 f96
                  have leS := leS.tr hle1
                  have leS3 := leS3.tr hle1
                  have leS_16 := leS_16.tr hle1
                  have leS_65 := leS_65.tr hle1
                  have leS90 := leS90.tr hle1
                  obtain ⟨v100, ev100⟩ : ∃ z : Int32, z = v2_65 + 1 := ⟨_, rfl⟩
                  replace h := h v100 ev100
                  refine lv_iinc (v := v100) (lv' := [(2, .int v100), (0, .ref a0), (1, .ref y1)]) hx hb d_F_startLike_150 hl98 (k := 2) rfl (by rw [ev100]; rfl) (by decide) rfl (fun ls hl101 => ?_)
                  refine lv_goto (tgt := 65) hx hb d_F_startLike_153 (by decide) ?_
                  obtain ⟨nx, hnx, h⟩ := h
                  exact ih65 nx hnx S99 v100 H locs ls leS_16 hG (lv_sub hl101 [1, 2, 0] rfl) h
                refine gifnonnull (tgt := 136) hx hb d_F_startLike_129 (by decide) (fun y102 e9 => ?_) (fun e9 => ?_)
                · replace h := h.2 y102 e9
                  subst e9
                  refine lv_aload_n hx hb d_F_startLike_136 rfl (lv_at hl83 1 rfl) ?_
                  refine lv_aload_n hx hb d_F_startLike_137 rfl (lv_at hl83 0 rfl) ?_
                  refine gget hx hb hw hown hK hG kd_R f82 rfl 8 (by decide) rfl tw_599 (fun _ h9 => h9) d_F_startLike_138 ?_
                  refine gtopq (fun o103 eo103 => ?_)
                  replace h := h o103 eo103
                  obtain ⟨y104, ey104, h⟩ := h
                  subst ey104
                  obtain ⟨f105, h⟩ := h
                  refine gget hx hb hw hown hK hG kd_R f105 rfl 0 (by decide) rfl tw_574 (fun _ h9 => h9) d_F_startLike_141 ?_
                  -- call F_dancerOrNull
                  refine gpq hK hG (va_runV (As := [.int (sI S90 6 y104)]) (rest := [.ref y95]) ⟨hx, hb, hml, hown, hw⟩ (m_F_dancerOrNull l x S90 _ a0 (sI S90 6 y104) fa0 h) ⟨gcb hw tw_658 tw_38 tw_863 hd_F_dancerOrNull rfl rfl ⟨(Nat.le_of_ble_eq_true rfl), (Nat.le_of_ble_eq_true rfl)⟩, hw _ tw_656, hw _ tw_657⟩ (gpV hK hG kd_F fa0 rfl) rfl rfl hl83.1 rfl (lv_room (Nat.le_of_ble_eq_true rfl)) d_F_startLike_144 ⟨(by show _ ≤ (64 : Nat); omega), (by show _ ≤ (1024 : Nat); omega)⟩) (fun o106 H locs h9 hG => ?_)
                  replace h := h9
                  clear h9
                  exact k147 o106 H locs ls hG (lv_sub hl83 [1, 2, 3] rfl) h
                · replace h := h.1 e9
                  subst e9
                  refine gnull hx hb d_F_startLike_132 ?_
                  refine lv_goto (tgt := 147) hx hb d_F_startLike_133 (by decide) ?_
                  exact k147 none H locs ls hG (lv_sub hl83 [1, 2, 3] rfl) h
        exact k65 n0_65 S_16 0 H locs ls gle.rf hG (lv_sub hl14 [1, 2, 0] rfl) h0_65
      · replace h := h.2 hc129
        refine lv_aload_n hx hb d_F_startLike_27 rfl (lv_at hl9 0 rfl) ?_
        refine gget hx hb hw hown hK hG kd_F fa0 rfl 0 (by decide) rfl tw_183 (fun _ h9 => h9) d_F_startLike_28 ?_
        refine gtopq (fun o109 eo109 => ?_)
        replace h := h o109 eo109
        obtain ⟨⟨hk112, hk112b⟩, h⟩ := h
        refine gnew (k := 2) hx hb hw hown hK hG kd_R tw_302 tw_568 tw_52 rfl kf_R (by show _ ≤ (64 : Nat); omega) (by show _ ≤ (1024 : Nat); omega) d_F_startLike_31 (fun q110 S111 H hqq110 eS111 hle1 hG => ?_)
        replace h := h q110 S111 hqq110 eS111
        have fa0 := gle_isA hle1 fa0
        have f2 := gle_isA hle1 f2
        have f6 := gle_isA hle1 f6
        have f12 := gle_isA hle1 f12
        have leS := leS.tr hle1
        have leS3 := leS3.tr hle1
        have f113 : isA S111 2 q110 := by rw [eS111]; exact isA_new
        refine lv_dup hx hb d_F_startLike_34 rfl ?_
        refine lv_iload_n hx hb d_F_startLike_35 rfl (lv_at hl9 2 rfl) ?_
        refine lv_aload_n hx hb d_F_startLike_36 rfl (lv_at hl9 1 rfl) ?_
        refine gget hx hb hw hown hK hG kd_F f2 rfl 0 (by decide) rfl tw_183 (fun _ h9 => h9) d_F_startLike_37 ?_
        refine gtopq (fun o114 eo114 => ?_)
        replace h := h o114 eo114
        refine lv_iload_n hx hb d_F_startLike_40 rfl (lv_at hl9 2 rfl) ?_
        obtain ⟨y115, ey115, h⟩ := h
        subst ey115
        obtain ⟨f116, h⟩ := h
        -- call AL_get
        refine gpq hK hG (va_runV (As := [.int v2_16]) (rest := [.int v2_16, .ref q110, .ref q110, va_rf o109]) ⟨hx, hb, hml, hown, hw⟩ (m_AL_get l x S111 _ y115 v2_16 f116 h) ⟨gcb hw tw_293 tw_32 tw_290 hd_AL_get rfl rfl ⟨(Nat.le_of_ble_eq_true rfl), (Nat.le_of_ble_eq_true rfl)⟩, hw _ tw_291, hw _ tw_292⟩ (gpV hK hG kd_AL f116 rfl) rfl rfl hl9.1 rfl (lv_room (by simp [gCat, gci1, gcr1, gcl1, gcd1])) d_F_startLike_41 ⟨(by show _ ≤ (64 : Nat); omega), (by show _ ≤ (1024 : Nat); omega)⟩) (fun o117 H locs h9 hG => ?_)
        replace h := h9
        clear h9
        obtain ⟨y118, ey118, h⟩ := h
        subst ey118
        obtain ⟨f119, h⟩ := h
        refine gcast hx hb hw hown hK hG kd_R tw_302 f119 rfl d_F_startLike_44 ?_
        refine gget hx hb hw hown hK hG kd_R f119 rfl 6 (by decide) rfl tw_593 (fun _ h9 => h9) d_F_startLike_47 ?_
        refine gtopq (fun o120 eo120 => ?_)
        replace h := h o120 eo120
        -- call R_init
        refine gcv hK hG (va_runI (As := [.int v2_16, va_rf o120]) (rest := [.ref q110, va_rf o109]) ⟨hx, hb, hml, hown, hw⟩ (m_R_init l x S111 _ q110 v2_16 o120 f113 h) ⟨gcb hw tw_571 tw_52 tw_893 hd_R_init rfl rfl ⟨(Nat.le_of_ble_eq_true rfl), (Nat.le_of_ble_eq_true rfl)⟩, rfl, hw _ tw_570⟩ (gpS hK hG) rfl rfl hl9.1 rfl (lv_room (by simp [gCat, gci1, gcr1, gcl1, gcd1])) d_F_startLike_50 ⟨(by show _ ≤ (64 : Nat); omega), (by show _ ≤ (1024 : Nat); omega)⟩) (fun S121 H locs h9 hle1 hG => ?_)
        replace h := h9
        clear h9
        have fa0 := gle_isA hle1 fa0
        have f2 := gle_isA hle1 f2
        have f6 := gle_isA hle1 f6
        have f12 := gle_isA hle1 f12
        have f113 := gle_isA hle1 f113
        have f116 := gle_isA hle1 f116
        have f119 := gle_isA hle1 f119
        have leS := leS.tr hle1
        have leS3 := leS3.tr hle1
        obtain ⟨y122, ey122, h⟩ := h
        subst ey122
        obtain ⟨f123, h⟩ := h
        obtain ⟨⟨hk126, hk126b⟩, h⟩ := h
        -- call AL_add1
        refine gci hK hG (va_runV (As := [.ref q110]) (rest := []) ⟨hx, hb, hml, hown, hw⟩ (m_AL_add1 l x S121 _ y122 (some q110) f123 h) ⟨gcb hw tw_198 tw_32 tw_894 hd_AL_add1 rfl rfl ⟨(Nat.le_of_ble_eq_true rfl), (Nat.le_of_ble_eq_true rfl)⟩, hw _ tw_196, hw _ tw_197⟩ (gpV hK hG kd_AL f123 rfl) rfl rfl hl9.1 rfl (lv_room (Nat.le_of_ble_eq_true rfl)) d_F_startLike_53 ⟨(by show _ ≤ (64 : Nat); omega), (by show _ ≤ (1024 : Nat); omega)⟩) (fun r124 S125 H locs h9 hle1 hG => ?_)
        replace h := h9
        clear h9
        have fa0 := gle_isA hle1 fa0
        have f2 := gle_isA hle1 f2
        have f6 := gle_isA hle1 f6
        have f12 := gle_isA hle1 f12
        have f113 := gle_isA hle1 f113
        have f116 := gle_isA hle1 f116
        have f119 := gle_isA hle1 f119
        have f123 := gle_isA hle1 f123
        have leS := leS.tr hle1
        have leS3 := leS3.tr hle1
        refine lv_pop hx hb d_F_startLike_56 rfl ?_
        obtain ⟨v127, ev127⟩ : ∃ z : Int32, z = v2_16 + 1 := ⟨_, rfl⟩
        replace h := h v127 ev127
        refine lv_iinc (v := v127) (lv' := [(2, .int v127), (0, .ref a0), (1, .ref y1)]) hx hb d_F_startLike_57 hl9 (k := 2) rfl (by rw [ev127]; rfl) (by decide) rfl (fun ls hl128 => ?_)
        refine lv_goto (tgt := 16) hx hb d_F_startLike_60 (by decide) ?_
        obtain ⟨nx, hnx, h⟩ := h
        exact ih16 nx hnx S125 v127 (kc_16 + 2) (ks_16 + 25) H locs ls leS3 hG (lv_sub hl128 [1, 2, 0] rfl) h
  exact k16 n0_16 S3 r7 0 0 H locs ls gle.rf hG (lv_sub hl8 [1, 2, 0] rfl) h0_16
