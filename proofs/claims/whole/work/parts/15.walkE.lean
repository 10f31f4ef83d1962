theorem tw_6 : (Cond.selects "WaltzHall" (⟨"WaltzHall", "neededDance", "(I)LWaltzHall$Dance;"⟩ : MethodName) (⟨"WaltzHall", "neededDance", "(I)LWaltzHall$Dance;"⟩ : MethodName)) ∈ gG := gmm 6 (by decide +kernel) (by decide +kernel)
theorem tw_7 : (Cond.selects "WaltzHall" (⟨"WaltzHall", "neededDancer", "(I)LWaltzHall$Dancer;"⟩ : MethodName) (⟨"WaltzHall", "neededDancer", "(I)LWaltzHall$Dancer;"⟩ : MethodName)) ∈ gG := gmm 7 (by decide +kernel) (by decide +kernel)
theorem tw_8 : (Cond.selects "WaltzHall" (⟨"WaltzHall", "neededWinder", "(I)LWaltzHall$Winder;"⟩ : MethodName) (⟨"WaltzHall", "neededWinder", "(I)LWaltzHall$Winder;"⟩ : MethodName)) ∈ gG := gmm 8 (by decide +kernel) (by decide +kernel)
theorem tw_48 : (Jvm.Cond.initialized "java/lang/IllegalStateException") ∈ gG := gmm 48 (by decide +kernel) (by decide +kernel)
theorem tw_49 : (Jvm.Cond.initialized "java/lang/IllegalArgumentException") ∈ gG := gmm 49 (by decide +kernel) (by decide +kernel)
theorem tw_50 : (Jvm.Cond.initialized "java/lang/IndexOutOfBoundsException") ∈ gG := gmm 50 (by decide +kernel) (by decide +kernel)
theorem tw_73 : (Jvm.Cond.fieldLink "WaltzHall" (77 : Nat) "WaltzHall$Tape" "length" "I") ∈ gG := gmm 73 (by decide +kernel) (by decide +kernel)
theorem tw_106 : (Jvm.Cond.classLink "WaltzHall" (23 : Nat) "WaltzHall$Dance") ∈ gG := gmm 106 (by decide +kernel) (by decide +kernel)
theorem tw_162 : (Jvm.Cond.fieldLink "WaltzHall" (160 : Nat) "WaltzHall$Dance" "number" "I") ∈ gG := gmm 162 (by decide +kernel) (by decide +kernel)
theorem tw_166 : (Jvm.Cond.fieldLink "WaltzHall" (98 : Nat) "WaltzHall$Dance" "length" "I") ∈ gG := gmm 166 (by decide +kernel) (by decide +kernel)
theorem tw_184 : (Jvm.Cond.fieldLink "WaltzHall" (121 : Nat) "WaltzHall$Floor" "dancers" "Ljava/util/ArrayList;") ∈ gG := gmm 184 (by decide +kernel) (by decide +kernel)
theorem tw_186 : (Jvm.Cond.fieldLink "WaltzHall" (203 : Nat) "WaltzHall$Floor" "winders" "Ljava/util/ArrayList;") ∈ gG := gmm 186 (by decide +kernel) (by decide +kernel)
theorem tw_195 : (Jvm.Cond.methodLink "WaltzHall" (44 : Nat) ({ cls := "java/util/ArrayList", name := "add", desc := "(Ljava/lang/Object;)Z" } : Jvm.MethodName)) ∈ gG := gmm 195 (by decide +kernel) (by decide +kernel)
theorem tw_261 : (Jvm.Cond.fieldLink "WaltzHall" (10 : Nat) "WaltzHall" "tape" "LWaltzHall$Tape;") ∈ gG := gmm 261 (by decide +kernel) (by decide +kernel)
theorem tw_262 : (Jvm.Cond.fieldLink "WaltzHall" (19 : Nat) "WaltzHall" "dances" "Ljava/util/ArrayList;") ∈ gG := gmm 262 (by decide +kernel) (by decide +kernel)
theorem tw_263 : (Jvm.Cond.fieldLink "WaltzHall" (30 : Nat) "WaltzHall" "firstDance" "LWaltzHall$Dance;") ∈ gG := gmm 263 (by decide +kernel) (by decide +kernel)
theorem tw_264 : (Jvm.Cond.fieldLink "WaltzHall" (37 : Nat) "WaltzHall" "now" "LWaltzHall$Floor;") ∈ gG := gmm 264 (by decide +kernel) (by decide +kernel)
theorem tw_265 : (Jvm.Cond.fieldLink "WaltzHall" (41 : Nat) "WaltzHall" "ahead" "LWaltzHall$Floor;") ∈ gG := gmm 265 (by decide +kernel) (by decide +kernel)
theorem tw_281 : (Jvm.Cond.methodLink "WaltzHall" (124 : Nat) ({ cls := "java/util/ArrayList", name := "size", desc := "()I" } : Jvm.MethodName)) ∈ gG := gmm 281 (by decide +kernel) (by decide +kernel)
theorem tw_285 : (Jvm.Cond.methodLink "WaltzHall" (180 : Nat) ({ cls := "WaltzHall$Floor", name := "sumOfTold", desc := "(I)I" } : Jvm.MethodName)) ∈ gG := gmm 285 (by decide +kernel) (by decide +kernel)
theorem tw_311 : (Jvm.Cond.constantLong "WaltzHall" (257 : Nat) (521 : Int64)) ∈ gG := gmm 311 (by decide +kernel) (by decide +kernel)
theorem tw_312 : (Jvm.Cond.constantLong "WaltzHall" (259 : Nat) (31 : Int64)) ∈ gG := gmm 312 (by decide +kernel) (by decide +kernel)
theorem tw_313 : (Jvm.Cond.methodLink "WaltzHall" (235 : Nat) ({ cls := "WaltzHall$Floor", name := "countOf", desc := "(I)I" } : Jvm.MethodName)) ∈ gG := gmm 313 (by decide +kernel) (by decide +kernel)
theorem tw_314 : (Jvm.Cond.instanceMethod ({ cls := "WaltzHall$Floor", name := "countOf", desc := "(I)I" } : Jvm.MethodName)) ∈ gG := gmm 314 (by decide +kernel) (by decide +kernel)
theorem tw_315 : (Jvm.Cond.selects "WaltzHall$Floor" ({ cls := "WaltzHall$Floor", name := "countOf", desc := "(I)I" } : Jvm.MethodName) ({ cls := "WaltzHall$Floor", name := "countOf", desc := "(I)I" } : Jvm.MethodName)) ∈ gG := gmm 315 (by decide +kernel) (by decide +kernel)
theorem tw_316 : (Jvm.Cond.code ({ cls := "WaltzHall$Floor", name := "countOf", desc := "(I)I" } : Jvm.MethodName) prog_4_method_17_code (2 : Nat) (Option.some Jvm.ClassFile.FieldType.int)) ∈ gG := gmm 316 (by decide +kernel) (by decide +kernel)
theorem tw_330 : (Jvm.Cond.methodLink "WaltzHall" (261 : Nat) ({ cls := "java/util/ArrayList", name := "get", desc := "(I)Ljava/lang/Object;" } : Jvm.MethodName)) ∈ gG := gmm 330 (by decide +kernel) (by decide +kernel)
theorem tw_331 : (Jvm.Cond.methodLink "WaltzHall" (265 : Nat) ({ cls := "WaltzHall$Dance", name := "digestFrom", desc := "(J)J" } : Jvm.MethodName)) ∈ gG := gmm 331 (by decide +kernel) (by decide +kernel)
theorem tw_332 : (Jvm.Cond.instanceMethod ({ cls := "WaltzHall$Dance", name := "digestFrom", desc := "(J)J" } : Jvm.MethodName)) ∈ gG := gmm 332 (by decide +kernel) (by decide +kernel)
theorem tw_333 : (Jvm.Cond.selects "WaltzHall$Dance" ({ cls := "WaltzHall$Dance", name := "digestFrom", desc := "(J)J" } : Jvm.MethodName) ({ cls := "WaltzHall$Dance", name := "digestFrom", desc := "(J)J" } : Jvm.MethodName)) ∈ gG := gmm 333 (by decide +kernel) (by decide +kernel)
theorem tw_334 : (Jvm.Cond.code ({ cls := "WaltzHall$Dance", name := "digestFrom", desc := "(J)J" } : Jvm.MethodName) prog_2_method_7_code (6 : Nat) (Option.some Jvm.ClassFile.FieldType.long)) ∈ gG := gmm 334 (by decide +kernel) (by decide +kernel)
theorem tw_340 : (Jvm.Cond.classLink "WaltzHall" (133 : Nat) "WaltzHall$Dancer") ∈ gG := gmm 340 (by decide +kernel) (by decide +kernel)
theorem tw_341 : (Jvm.Cond.methodLink "WaltzHall" (196 : Nat) ({ cls := "WaltzHall$Dancer", name := "tell", desc := "(I)I" } : Jvm.MethodName)) ∈ gG := gmm 341 (by decide +kernel) (by decide +kernel)
theorem tw_342 : (Jvm.Cond.classLink "WaltzHall" (208 : Nat) "WaltzHall$Winder") ∈ gG := gmm 342 (by decide +kernel) (by decide +kernel)
theorem tw_343 : (Jvm.Cond.methodLink "WaltzHall" (228 : Nat) ({ cls := "WaltzHall$Winder", name := "tell", desc := "(I)I" } : Jvm.MethodName)) ∈ gG := gmm 343 (by decide +kernel) (by decide +kernel)
theorem tw_344 : (Jvm.Cond.instanceMethod ({ cls := "WaltzHall$Winder", name := "tell", desc := "(I)I" } : Jvm.MethodName)) ∈ gG := gmm 344 (by decide +kernel) (by decide +kernel)
theorem tw_345 : (Jvm.Cond.selects "WaltzHall$Winder" ({ cls := "WaltzHall$Winder", name := "tell", desc := "(I)I" } : Jvm.MethodName) ({ cls := "WaltzHall$Winder", name := "tell", desc := "(I)I" } : Jvm.MethodName)) ∈ gG := gmm 345 (by decide +kernel) (by decide +kernel)
theorem tw_346 : (Jvm.Cond.code ({ cls := "WaltzHall$Winder", name := "tell", desc := "(I)I" } : Jvm.MethodName) prog_6_method_7_code (2 : Nat) (Option.some Jvm.ClassFile.FieldType.int)) ∈ gG := gmm 346 (by decide +kernel) (by decide +kernel)
theorem tw_359 : (Jvm.Cond.methodLink "WaltzHall" (62 : Nat) ({ cls := "WaltzHall$Tape", name := "bytesLeft", desc := "()I" } : Jvm.MethodName)) ∈ gG := gmm 359 (by decide +kernel) (by decide +kernel)
theorem tw_360 : (Jvm.Cond.instanceMethod ({ cls := "WaltzHall$Tape", name := "bytesLeft", desc := "()I" } : Jvm.MethodName)) ∈ gG := gmm 360 (by decide +kernel) (by decide +kernel)
theorem tw_361 : (Jvm.Cond.selects "WaltzHall$Tape" ({ cls := "WaltzHall$Tape", name := "bytesLeft", desc := "()I" } : Jvm.MethodName) ({ cls := "WaltzHall$Tape", name := "bytesLeft", desc := "()I" } : Jvm.MethodName)) ∈ gG := gmm 361 (by decide +kernel) (by decide +kernel)
theorem tw_362 : (Jvm.Cond.code ({ cls := "WaltzHall$Tape", name := "bytesLeft", desc := "()I" } : Jvm.MethodName) prog_5_method_2_code (1 : Nat) (Option.some Jvm.ClassFile.FieldType.int)) ∈ gG := gmm 362 (by decide +kernel) (by decide +kernel)
theorem tw_363 : (Jvm.Cond.classLink "WaltzHall" (66 : Nat) "java/lang/IllegalStateException") ∈ gG := gmm 363 (by decide +kernel) (by decide +kernel)
theorem tw_430 : (Jvm.Cond.methodLink "WaltzHall" (73 : Nat) ({ cls := "WaltzHall$Tape", name := "append", desc := "(I)V" } : Jvm.MethodName)) ∈ gG := gmm 430 (by decide +kernel) (by decide +kernel)
theorem tw_431 : (Jvm.Cond.instanceMethod ({ cls := "WaltzHall$Tape", name := "append", desc := "(I)V" } : Jvm.MethodName)) ∈ gG := gmm 431 (by decide +kernel) (by decide +kernel)
theorem tw_432 : (Jvm.Cond.selects "WaltzHall$Tape" ({ cls := "WaltzHall$Tape", name := "append", desc := "(I)V" } : Jvm.MethodName) ({ cls := "WaltzHall$Tape", name := "append", desc := "(I)V" } : Jvm.MethodName)) ∈ gG := gmm 432 (by decide +kernel) (by decide +kernel)
theorem tw_433 : (Jvm.Cond.code ({ cls := "WaltzHall$Tape", name := "append", desc := "(I)V" } : Jvm.MethodName) prog_5_method_3_code (3 : Nat) (Option.none : Option Jvm.ClassFile.FieldType)) ∈ gG := gmm 433 (by decide +kernel) (by decide +kernel)
theorem tw_442 : (Jvm.Cond.classLink "WaltzHall" (81 : Nat) "java/lang/IllegalArgumentException") ∈ gG := gmm 442 (by decide +kernel) (by decide +kernel)
theorem tw_466 : (Jvm.Cond.methodLink "WaltzHall" (86 : Nat) ({ cls := "WaltzHall", name := "neededDance", desc := "(I)LWaltzHall$Dance;" } : Jvm.MethodName)) ∈ gG := gmm 466 (by decide +kernel) (by decide +kernel)
theorem tw_468 : (Jvm.Cond.instanceMethod ({ cls := "WaltzHall", name := "neededDance", desc := "(I)LWaltzHall$Dance;" } : Jvm.MethodName)) ∈ gG := gmm 468 (by decide +kernel) (by decide +kernel)
theorem tw_469 : (Jvm.Cond.code ({ cls := "WaltzHall", name := "neededDance", desc := "(I)LWaltzHall$Dance;" } : Jvm.MethodName) prog_1_method_24_code (2 : Nat) (Option.some (Jvm.ClassFile.FieldType.object "WaltzHall$Dance"))) ∈ gG := gmm 469 (by decide +kernel) (by decide +kernel)
theorem tw_470 : (Jvm.Cond.classLink "WaltzHall" (99 : Nat) "java/lang/IndexOutOfBoundsException") ∈ gG := gmm 470 (by decide +kernel) (by decide +kernel)
theorem tw_486 : (Jvm.Cond.methodLink "WaltzHall" (90 : Nat) ({ cls := "WaltzHall$Dance", name := "takeFrom", desc := "(LWaltzHall$Tape;)Z" } : Jvm.MethodName)) ∈ gG := gmm 486 (by decide +kernel) (by decide +kernel)
theorem tw_487 : (Jvm.Cond.instanceMethod ({ cls := "WaltzHall$Dance", name := "takeFrom", desc := "(LWaltzHall$Tape;)Z" } : Jvm.MethodName)) ∈ gG := gmm 487 (by decide +kernel) (by decide +kernel)
theorem tw_488 : (Jvm.Cond.selects "WaltzHall$Dance" ({ cls := "WaltzHall$Dance", name := "takeFrom", desc := "(LWaltzHall$Tape;)Z" } : Jvm.MethodName) ({ cls := "WaltzHall$Dance", name := "takeFrom", desc := "(LWaltzHall$Tape;)Z" } : Jvm.MethodName)) ∈ gG := gmm 488 (by decide +kernel) (by decide +kernel)
theorem tw_489 : (Jvm.Cond.code ({ cls := "WaltzHall$Dance", name := "takeFrom", desc := "(LWaltzHall$Tape;)Z" } : Jvm.MethodName) prog_2_method_2_code (3 : Nat) (Option.some Jvm.ClassFile.FieldType.boolean)) ∈ gG := gmm 489 (by decide +kernel) (by decide +kernel)
theorem tw_504 : (Jvm.Cond.methodLink "WaltzHall" (94 : Nat) ({ cls := "WaltzHall$Floor", name := "restartBehindTheEndOf", desc := "(LWaltzHall$Dance;)V" } : Jvm.MethodName)) ∈ gG := gmm 504 (by decide +kernel) (by decide +kernel)
theorem tw_505 : (Jvm.Cond.instanceMethod ({ cls := "WaltzHall$Floor", name := "restartBehindTheEndOf", desc := "(LWaltzHall$Dance;)V" } : Jvm.MethodName)) ∈ gG := gmm 505 (by decide +kernel) (by decide +kernel)
theorem tw_506 : (Jvm.Cond.selects "WaltzHall$Floor" ({ cls := "WaltzHall$Floor", name := "restartBehindTheEndOf", desc := "(LWaltzHall$Dance;)V" } : Jvm.MethodName) ({ cls := "WaltzHall$Floor", name := "restartBehindTheEndOf", desc := "(LWaltzHall$Dance;)V" } : Jvm.MethodName)) ∈ gG := gmm 506 (by decide +kernel) (by decide +kernel)
theorem tw_507 : (Jvm.Cond.code ({ cls := "WaltzHall$Floor", name := "restartBehindTheEndOf", desc := "(LWaltzHall$Dance;)V" } : Jvm.MethodName) prog_4_method_5_code (4 : Nat) (Option.none : Option Jvm.ClassFile.FieldType)) ∈ gG := gmm 507 (by decide +kernel) (by decide +kernel)
theorem tw_516 : (Jvm.Cond.methodLink "WaltzHall" (104 : Nat) ({ cls := "WaltzHall$Dance", name := "figureAt", desc := "(I)I" } : Jvm.MethodName)) ∈ gG := gmm 516 (by decide +kernel) (by decide +kernel)
theorem tw_524 : (Jvm.Cond.methodLink "WaltzHall" (108 : Nat) ({ cls := "WaltzHall", name := "needKind", desc := "(II)V" } : Jvm.MethodName)) ∈ gG := gmm 524 (by decide +kernel) (by decide +kernel)
theorem tw_525 : (Jvm.Cond.static ({ cls := "WaltzHall", name := "needKind", desc := "(II)V" } : Jvm.MethodName)) ∈ gG := gmm 525 (by decide +kernel) (by decide +kernel)
theorem tw_526 : (Jvm.Cond.code ({ cls := "WaltzHall", name := "needKind", desc := "(II)V" } : Jvm.MethodName) prog_1_method_27_code (2 : Nat) (Option.none : Option Jvm.ClassFile.FieldType)) ∈ gG := gmm 526 (by decide +kernel) (by decide +kernel)
theorem tw_528 : (Jvm.Cond.methodLink "WaltzHall" (112 : Nat) ({ cls := "WaltzHall$Dance", name := "driftOf", desc := "(I)I" } : Jvm.MethodName)) ∈ gG := gmm 528 (by decide +kernel) (by decide +kernel)
theorem tw_529 : (Jvm.Cond.instanceMethod ({ cls := "WaltzHall$Dance", name := "driftOf", desc := "(I)I" } : Jvm.MethodName)) ∈ gG := gmm 529 (by decide +kernel) (by decide +kernel)
theorem tw_530 : (Jvm.Cond.selects "WaltzHall$Dance" ({ cls := "WaltzHall$Dance", name := "driftOf", desc := "(I)I" } : Jvm.MethodName) ({ cls := "WaltzHall$Dance", name := "driftOf", desc := "(I)I" } : Jvm.MethodName)) ∈ gG := gmm 530 (by decide +kernel) (by decide +kernel)
theorem tw_531 : (Jvm.Cond.code ({ cls := "WaltzHall$Dance", name := "driftOf", desc := "(I)I" } : Jvm.MethodName) prog_2_method_5_code (8 : Nat) (Option.some Jvm.ClassFile.FieldType.int)) ∈ gG := gmm 531 (by decide +kernel) (by decide +kernel)
theorem tw_559 : (Jvm.Cond.methodLink "WaltzHall" (115 : Nat) ({ cls := "WaltzHall", name := "isOnFloor", desc := "(II)Z" } : Jvm.MethodName)) ∈ gG := gmm 559 (by decide +kernel) (by decide +kernel)
theorem tw_563 : (Jvm.Cond.methodLink "WaltzHall" (127 : Nat) ({ cls := "WaltzHall$Floor", name := "whoIsAt", desc := "(II)LWaltzHall$Dancer;" } : Jvm.MethodName)) ∈ gG := gmm 563 (by decide +kernel) (by decide +kernel)
theorem tw_569 : (Jvm.Cond.methodLink "WaltzHall" (135 : Nat) ({ cls := "WaltzHall$Dancer", name := "<init>", desc := "(ILWaltzHall$Dance;)V" } : Jvm.MethodName)) ∈ gG := gmm 569 (by decide +kernel) (by decide +kernel)
theorem tw_575 : (Jvm.Cond.fieldLink "WaltzHall" (150 : Nat) "WaltzHall$Dancer" "number" "I") ∈ gG := gmm 575 (by decide +kernel) (by decide +kernel)
theorem tw_579 : (Jvm.Cond.fieldLink "WaltzHall" (138 : Nat) "WaltzHall$Dancer" "x" "I") ∈ gG := gmm 579 (by decide +kernel) (by decide +kernel)
theorem tw_583 : (Jvm.Cond.fieldLink "WaltzHall" (141 : Nat) "WaltzHall$Dancer" "y" "I") ∈ gG := gmm 583 (by decide +kernel) (by decide +kernel)
theorem tw_585 : (Jvm.Cond.fieldLink "WaltzHall" (144 : Nat) "WaltzHall$Dancer" "face" "I") ∈ gG := gmm 585 (by decide +kernel) (by decide +kernel)
theorem tw_589 : (Jvm.Cond.fieldLink "WaltzHall" (193 : Nat) "WaltzHall$Dancer" "spring" "I") ∈ gG := gmm 589 (by decide +kernel) (by decide +kernel)
theorem tw_591 : (Jvm.Cond.fieldLink "WaltzHall" (147 : Nat) "WaltzHall$Dancer" "cost" "I") ∈ gG := gmm 591 (by decide +kernel) (by decide +kernel)
theorem tw_594 : (Jvm.Cond.fieldLink "WaltzHall" (157 : Nat) "WaltzHall$Dancer" "dance" "LWaltzHall$Dance;") ∈ gG := gmm 594 (by decide +kernel) (by decide +kernel)
theorem tw_597 : (Jvm.Cond.fieldLink "WaltzHall" (161 : Nat) "WaltzHall$Dancer" "place" "I") ∈ gG := gmm 597 (by decide +kernel) (by decide +kernel)
theorem tw_600 : (Jvm.Cond.fieldLink "WaltzHall" (166 : Nat) "WaltzHall$Dancer" "partner" "LWaltzHall$Dancer;") ∈ gG := gmm 600 (by decide +kernel) (by decide +kernel)
theorem tw_603 : (Jvm.Cond.fieldLink "WaltzHall" (176 : Nat) "WaltzHall$Dancer" "follows" "Z") ∈ gG := gmm 603 (by decide +kernel) (by decide +kernel)
theorem tw_608 : (Jvm.Cond.fieldLink "WaltzHall" (245 : Nat) "WaltzHall$Dancer" "bumps" "I") ∈ gG := gmm 608 (by decide +kernel) (by decide +kernel)
theorem tw_651 : (Jvm.Cond.methodLink "WaltzHall" (153 : Nat) ({ cls := "WaltzHall", name := "neededDancer", desc := "(I)LWaltzHall$Dancer;" } : Jvm.MethodName)) ∈ gG := gmm 651 (by decide +kernel) (by decide +kernel)
theorem tw_653 : (Jvm.Cond.instanceMethod ({ cls := "WaltzHall", name := "neededDancer", desc := "(I)LWaltzHall$Dancer;" } : Jvm.MethodName)) ∈ gG := gmm 653 (by decide +kernel) (by decide +kernel)
theorem tw_654 : (Jvm.Cond.code ({ cls := "WaltzHall", name := "neededDancer", desc := "(I)LWaltzHall$Dancer;" } : Jvm.MethodName) prog_1_method_25_code (3 : Nat) (Option.some (Jvm.ClassFile.FieldType.object "WaltzHall$Dancer"))) ∈ gG := gmm 654 (by decide +kernel) (by decide +kernel)
theorem tw_655 : (Jvm.Cond.methodLink "WaltzHall" (242 : Nat) ({ cls := "WaltzHall$Floor", name := "dancerOrNull", desc := "(I)LWaltzHall$Dancer;" } : Jvm.MethodName)) ∈ gG := gmm 655 (by decide +kernel) (by decide +kernel)
theorem tw_668 : (Jvm.Cond.methodLink "WaltzHall" (170 : Nat) ({ cls := "WaltzHall$Dancer", name := "isBeside", desc := "(LWaltzHall$Dancer;)Z" } : Jvm.MethodName)) ∈ gG := gmm 668 (by decide +kernel) (by decide +kernel)
theorem tw_687 : (Jvm.Cond.methodLink "WaltzHall" (185 : Nat) ({ cls := "WaltzHall$Dancer", name := "standAlone", desc := "()V" } : Jvm.MethodName)) ∈ gG := gmm 687 (by decide +kernel) (by decide +kernel)
theorem tw_688 : (Jvm.Cond.instanceMethod ({ cls := "WaltzHall$Dancer", name := "standAlone", desc := "()V" } : Jvm.MethodName)) ∈ gG := gmm 688 (by decide +kernel) (by decide +kernel)
theorem tw_689 : (Jvm.Cond.selects "WaltzHall$Dancer" ({ cls := "WaltzHall$Dancer", name := "standAlone", desc := "()V" } : Jvm.MethodName) ({ cls := "WaltzHall$Dancer", name := "standAlone", desc := "()V" } : Jvm.MethodName)) ∈ gG := gmm 689 (by decide +kernel) (by decide +kernel)
theorem tw_690 : (Jvm.Cond.code ({ cls := "WaltzHall$Dancer", name := "standAlone", desc := "()V" } : Jvm.MethodName) prog_3_method_3_code (1 : Nat) (Option.none : Option Jvm.ClassFile.FieldType)) ∈ gG := gmm 690 (by decide +kernel) (by decide +kernel)
theorem tw_699 : (Jvm.Cond.methodLink "WaltzHall" (190 : Nat) ({ cls := "WaltzHall$Dancer", name := "windBy", desc := "(I)V" } : Jvm.MethodName)) ∈ gG := gmm 699 (by decide +kernel) (by decide +kernel)
theorem tw_730 : (Jvm.Cond.methodLinkNest "WaltzHall" (210 : Nat) ({ cls := "WaltzHall$Winder", name := "<init>", desc := "()V" } : Jvm.MethodName) "WaltzHall") ∈ gG := gmm 730 (by decide +kernel) (by decide +kernel)
theorem tw_735 : (Jvm.Cond.fieldLink "WaltzHall" (211 : Nat) "WaltzHall$Winder" "x" "I") ∈ gG := gmm 735 (by decide +kernel) (by decide +kernel)
theorem tw_737 : (Jvm.Cond.fieldLink "WaltzHall" (212 : Nat) "WaltzHall$Winder" "y" "I") ∈ gG := gmm 737 (by decide +kernel) (by decide +kernel)
theorem tw_739 : (Jvm.Cond.fieldLink "WaltzHall" (213 : Nat) "WaltzHall$Winder" "strength" "I") ∈ gG := gmm 739 (by decide +kernel) (by decide +kernel)
theorem tw_742 : (Jvm.Cond.fieldLink "WaltzHall" (220 : Nat) "WaltzHall$Winder" "roundLength" "I") ∈ gG := gmm 742 (by decide +kernel) (by decide +kernel)
theorem tw_768 : (Jvm.Cond.methodLink "WaltzHall" (216 : Nat) ({ cls := "WaltzHall", name := "neededWinder", desc := "(I)LWaltzHall$Winder;" } : Jvm.MethodName)) ∈ gG := gmm 768 (by decide +kernel) (by decide +kernel)
theorem tw_770 : (Jvm.Cond.instanceMethod ({ cls := "WaltzHall", name := "neededWinder", desc := "(I)LWaltzHall$Winder;" } : Jvm.MethodName)) ∈ gG := gmm 770 (by decide +kernel) (by decide +kernel)
theorem tw_771 : (Jvm.Cond.code ({ cls := "WaltzHall", name := "neededWinder", desc := "(I)LWaltzHall$Winder;" } : Jvm.MethodName) prog_1_method_26_code (2 : Nat) (Option.some (Jvm.ClassFile.FieldType.object "WaltzHall$Winder"))) ∈ gG := gmm 771 (by decide +kernel) (by decide +kernel)
theorem tw_774 : (Jvm.Cond.methodLink "WaltzHall" (225 : Nat) ({ cls := "WaltzHall$Winder", name := "addToRound", desc := "(I)V" } : Jvm.MethodName)) ∈ gG := gmm 774 (by decide +kernel) (by decide +kernel)
theorem tw_775 : (Jvm.Cond.instanceMethod ({ cls := "WaltzHall$Winder", name := "addToRound", desc := "(I)V" } : Jvm.MethodName)) ∈ gG := gmm 775 (by decide +kernel) (by decide +kernel)
theorem tw_776 : (Jvm.Cond.selects "WaltzHall$Winder" ({ cls := "WaltzHall$Winder", name := "addToRound", desc := "(I)V" } : Jvm.MethodName) ({ cls := "WaltzHall$Winder", name := "addToRound", desc := "(I)V" } : Jvm.MethodName)) ∈ gG := gmm 776 (by decide +kernel) (by decide +kernel)
theorem tw_777 : (Jvm.Cond.code ({ cls := "WaltzHall$Winder", name := "addToRound", desc := "(I)V" } : Jvm.MethodName) prog_6_method_3_code (2 : Nat) (Option.none : Option Jvm.ClassFile.FieldType)) ∈ gG := gmm 777 (by decide +kernel) (by decide +kernel)
theorem tw_792 : (Jvm.Cond.methodLink "WaltzHall" (229 : Nat) ({ cls := "WaltzHall", name := "needBeats", desc := "(I)V" } : Jvm.MethodName)) ∈ gG := gmm 792 (by decide +kernel) (by decide +kernel)
theorem tw_793 : (Jvm.Cond.static ({ cls := "WaltzHall", name := "needBeats", desc := "(I)V" } : Jvm.MethodName)) ∈ gG := gmm 793 (by decide +kernel) (by decide +kernel)
theorem tw_794 : (Jvm.Cond.code ({ cls := "WaltzHall", name := "needBeats", desc := "(I)V" } : Jvm.MethodName) prog_1_method_28_code (1 : Nat) (Option.none : Option Jvm.ClassFile.FieldType)) ∈ gG := gmm 794 (by decide +kernel) (by decide +kernel)
theorem tw_796 : (Jvm.Cond.methodLink "WaltzHall" (232 : Nat) ({ cls := "WaltzHall$Floor", name := "playBeat", desc := "()I" } : Jvm.MethodName)) ∈ gG := gmm 796 (by decide +kernel) (by decide +kernel)
theorem tw_797 : (Jvm.Cond.instanceMethod ({ cls := "WaltzHall$Floor", name := "playBeat", desc := "()I" } : Jvm.MethodName)) ∈ gG := gmm 797 (by decide +kernel) (by decide +kernel)
theorem tw_798 : (Jvm.Cond.selects "WaltzHall$Floor" ({ cls := "WaltzHall$Floor", name := "playBeat", desc := "()I" } : Jvm.MethodName) ({ cls := "WaltzHall$Floor", name := "playBeat", desc := "()I" } : Jvm.MethodName)) ∈ gG := gmm 798 (by decide +kernel) (by decide +kernel)
theorem tw_799 : (Jvm.Cond.code ({ cls := "WaltzHall$Floor", name := "playBeat", desc := "()I" } : Jvm.MethodName) prog_4_method_7_code (4 : Nat) (Option.some Jvm.ClassFile.FieldType.int)) ∈ gG := gmm 799 (by decide +kernel) (by decide +kernel)
theorem tw_889 : (Jvm.Cond.methodLink "WaltzHall" (238 : Nat) ({ cls := "WaltzHall$Floor", name := "startLike", desc := "(LWaltzHall$Floor;)V" } : Jvm.MethodName)) ∈ gG := gmm 889 (by decide +kernel) (by decide +kernel)
theorem tw_890 : (Jvm.Cond.instanceMethod ({ cls := "WaltzHall$Floor", name := "startLike", desc := "(LWaltzHall$Floor;)V" } : Jvm.MethodName)) ∈ gG := gmm 890 (by decide +kernel) (by decide +kernel)
theorem tw_891 : (Jvm.Cond.selects "WaltzHall$Floor" ({ cls := "WaltzHall$Floor", name := "startLike", desc := "(LWaltzHall$Floor;)V" } : Jvm.MethodName) ({ cls := "WaltzHall$Floor", name := "startLike", desc := "(LWaltzHall$Floor;)V" } : Jvm.MethodName)) ∈ gG := gmm 891 (by decide +kernel) (by decide +kernel)
theorem tw_892 : (Jvm.Cond.code ({ cls := "WaltzHall$Floor", name := "startLike", desc := "(LWaltzHall$Floor;)V" } : Jvm.MethodName) prog_4_method_6_code (4 : Nat) (Option.none : Option Jvm.ClassFile.FieldType)) ∈ gG := gmm 892 (by decide +kernel) (by decide +kernel)
theorem tw_911 : (Jvm.Cond.methodLink "WaltzHall" (248 : Nat) ({ cls := "WaltzHall$Floor", name := "firstNewlySpentSince", desc := "(LWaltzHall$Floor;)I" } : Jvm.MethodName)) ∈ gG := gmm 911 (by decide +kernel) (by decide +kernel)
theorem tw_912 : (Jvm.Cond.instanceMethod ({ cls := "WaltzHall$Floor", name := "firstNewlySpentSince", desc := "(LWaltzHall$Floor;)I" } : Jvm.MethodName)) ∈ gG := gmm 912 (by decide +kernel) (by decide +kernel)
theorem tw_913 : (Jvm.Cond.selects "WaltzHall$Floor" ({ cls := "WaltzHall$Floor", name := "firstNewlySpentSince", desc := "(LWaltzHall$Floor;)I" } : Jvm.MethodName) ({ cls := "WaltzHall$Floor", name := "firstNewlySpentSince", desc := "(LWaltzHall$Floor;)I" } : Jvm.MethodName)) ∈ gG := gmm 913 (by decide +kernel) (by decide +kernel)
theorem tw_914 : (Jvm.Cond.code ({ cls := "WaltzHall$Floor", name := "firstNewlySpentSince", desc := "(LWaltzHall$Floor;)I" } : Jvm.MethodName) prog_4_method_13_code (3 : Nat) (Option.some Jvm.ClassFile.FieldType.int)) ∈ gG := gmm 914 (by decide +kernel) (by decide +kernel)
theorem tw_923 : (Jvm.Cond.methodLink "WaltzHall" (254 : Nat) ({ cls := "WaltzHall$Floor", name := "areBeside", desc := "(II)Z" } : Jvm.MethodName)) ∈ gG := gmm 923 (by decide +kernel) (by decide +kernel)
theorem tw_924 : (Jvm.Cond.instanceMethod ({ cls := "WaltzHall$Floor", name := "areBeside", desc := "(II)Z" } : Jvm.MethodName)) ∈ gG := gmm 924 (by decide +kernel) (by decide +kernel)
theorem tw_925 : (Jvm.Cond.selects "WaltzHall$Floor" ({ cls := "WaltzHall$Floor", name := "areBeside", desc := "(II)Z" } : Jvm.MethodName) ({ cls := "WaltzHall$Floor", name := "areBeside", desc := "(II)Z" } : Jvm.MethodName)) ∈ gG := gmm 925 (by decide +kernel) (by decide +kernel)
theorem tw_926 : (Jvm.Cond.code ({ cls := "WaltzHall$Floor", name := "areBeside", desc := "(II)Z" } : Jvm.MethodName) prog_4_method_4_code (5 : Nat) (Option.some Jvm.ClassFile.FieldType.boolean)) ∈ gG := gmm 926 (by decide +kernel) (by decide +kernel)
theorem hd_D_digestFrom : y_D_digestFrom.cls ≠ "java/lang/invoke/MethodHandle" ∧ y_D_digestFrom.cls ≠ "java/lang/invoke/VarHandle" ∧ (parseMethodDescriptor y_D_digestFrom.desc).map (fun d => d.parameters.length) = some 1 := by decide +kernel
theorem hd_D_driftOf : y_D_driftOf.cls ≠ "java/lang/invoke/MethodHandle" ∧ y_D_driftOf.cls ≠ "java/lang/invoke/VarHandle" ∧ (parseMethodDescriptor y_D_driftOf.desc).map (fun d => d.parameters.length) = some 1 := by decide +kernel
theorem hd_D_takeFrom : y_D_takeFrom.cls ≠ "java/lang/invoke/MethodHandle" ∧ y_D_takeFrom.cls ≠ "java/lang/invoke/VarHandle" ∧ (parseMethodDescriptor y_D_takeFrom.desc).map (fun d => d.parameters.length) = some 1 := by decide +kernel
theorem hd_F_areBeside : y_F_areBeside.cls ≠ "java/lang/invoke/MethodHandle" ∧ y_F_areBeside.cls ≠ "java/lang/invoke/VarHandle" ∧ (parseMethodDescriptor y_F_areBeside.desc).map (fun d => d.parameters.length) = some 2 := by decide +kernel
theorem hd_F_countOf : y_F_countOf.cls ≠ "java/lang/invoke/MethodHandle" ∧ y_F_countOf.cls ≠ "java/lang/invoke/VarHandle" ∧ (parseMethodDescriptor y_F_countOf.desc).map (fun d => d.parameters.length) = some 1 := by decide +kernel
theorem hd_F_firstNewlySpentSince : y_F_firstNewlySpentSince.cls ≠ "java/lang/invoke/MethodHandle" ∧ y_F_firstNewlySpentSince.cls ≠ "java/lang/invoke/VarHandle" ∧ (parseMethodDescriptor y_F_firstNewlySpentSince.desc).map (fun d => d.parameters.length) = some 1 := by decide +kernel
theorem hd_F_playBeat : y_F_playBeat.cls ≠ "java/lang/invoke/MethodHandle" ∧ y_F_playBeat.cls ≠ "java/lang/invoke/VarHandle" ∧ (parseMethodDescriptor y_F_playBeat.desc).map (fun d => d.parameters.length) = some 0 := by decide +kernel
theorem hd_F_restartBehindTheEndOf : y_F_restartBehindTheEndOf.cls ≠ "java/lang/invoke/MethodHandle" ∧ y_F_restartBehindTheEndOf.cls ≠ "java/lang/invoke/VarHandle" ∧ (parseMethodDescriptor y_F_restartBehindTheEndOf.desc).map (fun d => d.parameters.length) = some 1 := by decide +kernel
theorem hd_F_startLike : y_F_startLike.cls ≠ "java/lang/invoke/MethodHandle" ∧ y_F_startLike.cls ≠ "java/lang/invoke/VarHandle" ∧ (parseMethodDescriptor y_F_startLike.desc).map (fun d => d.parameters.length) = some 1 := by decide +kernel
theorem hd_H_needBeats : y_H_needBeats.cls ≠ "java/lang/invoke/MethodHandle" ∧ y_H_needBeats.cls ≠ "java/lang/invoke/VarHandle" ∧ (parseMethodDescriptor y_H_needBeats.desc).map (fun d => d.parameters.length) = some 1 := by decide +kernel
theorem hd_H_needKind : y_H_needKind.cls ≠ "java/lang/invoke/MethodHandle" ∧ y_H_needKind.cls ≠ "java/lang/invoke/VarHandle" ∧ (parseMethodDescriptor y_H_needKind.desc).map (fun d => d.parameters.length) = some 2 := by decide +kernel
theorem hd_H_neededDance : y_H_neededDance.cls ≠ "java/lang/invoke/MethodHandle" ∧ y_H_neededDance.cls ≠ "java/lang/invoke/VarHandle" ∧ (parseMethodDescriptor y_H_neededDance.desc).map (fun d => d.parameters.length) = some 1 := by decide +kernel
theorem hd_H_neededDancer : y_H_neededDancer.cls ≠ "java/lang/invoke/MethodHandle" ∧ y_H_neededDancer.cls ≠ "java/lang/invoke/VarHandle" ∧ (parseMethodDescriptor y_H_neededDancer.desc).map (fun d => d.parameters.length) = some 1 := by decide +kernel
theorem hd_H_neededWinder : y_H_neededWinder.cls ≠ "java/lang/invoke/MethodHandle" ∧ y_H_neededWinder.cls ≠ "java/lang/invoke/VarHandle" ∧ (parseMethodDescriptor y_H_neededWinder.desc).map (fun d => d.parameters.length) = some 1 := by decide +kernel
theorem hd_N_addToRound : y_N_addToRound.cls ≠ "java/lang/invoke/MethodHandle" ∧ y_N_addToRound.cls ≠ "java/lang/invoke/VarHandle" ∧ (parseMethodDescriptor y_N_addToRound.desc).map (fun d => d.parameters.length) = some 1 := by decide +kernel
theorem hd_N_tell : y_N_tell.cls ≠ "java/lang/invoke/MethodHandle" ∧ y_N_tell.cls ≠ "java/lang/invoke/VarHandle" ∧ (parseMethodDescriptor y_N_tell.desc).map (fun d => d.parameters.length) = some 1 := by decide +kernel
theorem hd_R_standAlone : y_R_standAlone.cls ≠ "java/lang/invoke/MethodHandle" ∧ y_R_standAlone.cls ≠ "java/lang/invoke/VarHandle" ∧ (parseMethodDescriptor y_R_standAlone.desc).map (fun d => d.parameters.length) = some 0 := by decide +kernel
theorem hd_T_append : y_T_append.cls ≠ "java/lang/invoke/MethodHandle" ∧ y_T_append.cls ≠ "java/lang/invoke/VarHandle" ∧ (parseMethodDescriptor y_T_append.desc).map (fun d => d.parameters.length) = some 1 := by decide +kernel
theorem hd_T_bytesLeft : y_T_bytesLeft.cls ≠ "java/lang/invoke/MethodHandle" ∧ y_T_bytesLeft.cls ≠ "java/lang/invoke/VarHandle" ∧ (parseMethodDescriptor y_T_bytesLeft.desc).map (fun d => d.parameters.length) = some 0 := by decide +kernel
theorem ta_H_70 : ∀ w ∈ vx_atS "WaltzHall" 70 "java/lang/IllegalStateException" ["java/lang/RuntimeException", "java/lang/Exception"], w ∈ gG := by decide +kernel
theorem tg_H_70_66 : ∀ w ∈ Cond.classLink "WaltzHall" 66 "java/lang/IllegalStateException" :: Cond.initialized "java/lang/IllegalStateException" :: vx_atS "WaltzHall" 70 "java/lang/IllegalStateException" ["java/lang/RuntimeException", "java/lang/Exception"], vx_ot w = true := by decide +kernel
theorem ta_H_85 : ∀ w ∈ vx_atS "WaltzHall" 85 "java/lang/IllegalArgumentException" ["java/lang/RuntimeException", "java/lang/Exception"], w ∈ gG := by decide +kernel
theorem tg_H_85_81 : ∀ w ∈ Cond.classLink "WaltzHall" 81 "java/lang/IllegalArgumentException" :: Cond.initialized "java/lang/IllegalArgumentException" :: vx_atS "WaltzHall" 85 "java/lang/IllegalArgumentException" ["java/lang/RuntimeException", "java/lang/Exception"], vx_ot w = true := by decide +kernel
theorem ta_H_103 : ∀ w ∈ vx_atS "WaltzHall" 103 "java/lang/IndexOutOfBoundsException" ["java/lang/RuntimeException", "java/lang/Exception"], w ∈ gG := by decide +kernel
theorem tg_H_103_99 : ∀ w ∈ Cond.classLink "WaltzHall" 99 "java/lang/IndexOutOfBoundsException" :: Cond.initialized "java/lang/IndexOutOfBoundsException" :: vx_atS "WaltzHall" 103 "java/lang/IndexOutOfBoundsException" ["java/lang/RuntimeException", "java/lang/Exception"], vx_ot w = true := by decide +kernel
def w_H_feed (post : Int32 → St → Prop) (px : String → St → Prop) (S : St) (a0 : Nat) (a1 : Int32) (a2 : Int32) (a3 : Int32) (a4 : Int32) (a5 : Int32) : Prop :=
  ∀ o1 : Option Nat, o1 = sQ S 33 a0 → ∃ y2 : Nat, o1 = some y2 ∧ isA S 4 y2 ∧ w_T_bytesLeft (fun (r4 : Int32) => (20 ≤ r4 → ∀ o5 : Option Nat, o5 = sQ S 33 a0 → ∃ y6 : Nat, o5 = some y6 ∧ isA S 4 y6 ∧ w_T_append (fun (S8 : St) => ∀ o9 : Option Nat, o9 = sQ S8 33 a0 → ∃ y10 : Nat, o9 = some y10 ∧ isA S8 4 y10 ∧ w_T_append (fun (S12 : St) => ∀ o13 : Option Nat, o13 = sQ S12 33 a0 → ∃ y14 : Nat, o13 = some y14 ∧ isA S12 4 y14 ∧ w_T_append (fun (S16 : St) => ∀ o17 : Option Nat, o17 = sQ S16 33 a0 → ∃ y18 : Nat, o17 = some y18 ∧ isA S16 4 y18 ∧ w_T_append (fun (S20 : St) => ∀ o21 : Option Nat, o21 = sQ S20 33 a0 → ∃ y22 : Nat, o21 = some y22 ∧ isA S20 4 y22 ∧ w_T_append (fun (S24 : St) => ∀ o25 : Option Nat, o25 = sQ S24 33 a0 → ∃ y26 : Nat, o25 = some y26 ∧ isA S24 4 y26 ∧ post (sI S24 25 y26) S24) S20 y22 a5) S16 y18 a4) S12 y14 a3) S8 y10 a2) S y6 a1) ∧ (¬ 20 ≤ r4 → px "java/lang/IllegalStateException" S)) S y2
set_option maxHeartbeats 4000000 in
set_option maxRecDepth 100000 in
theorem m_H_feed (l : Launch) (hlt : l.stackTraces = false) (x : Cx) (S : St) (post : Int32 → St → Prop) (px : String → St → Prop) (a0 : Nat) (a1 : Int32) (a2 : Int32) (a3 : Int32) (a4 : Int32) (a5 : Int32) (fa0 : isA S 6 a0) (h : w_H_feed post px S a0 a1 a2 a3 a4 a5) : vx_Met l y_H_feed [.code y_H_feed c_H_feed 6 (some .int)] { frames := 6, cells := 1, slots := 6, locals := 90 } (va_Pc [.ref a0, .int a1, .int a2, .int a3, .int a4, .int a5] (GW x S)) (va_Qi post (gB x S) (xA x)) (gX x S px) 1 6 (xA x) := by
  refine gMetX (by decide +kernel) (Nat.le_of_ble_eq_true rfl) ?_
  intro p e s m args below meth c hx hb hr hown hlocks hin hw hK H locs hG ls hlA hml htab
  have hown : s.vm.findClass "WaltzHall" = some m.cls := hown
  have hl0 : lv_has ls 6 [(0, .ref a0), (1, .int a1), (2, .int a2), (3, .int a3), (4, .int a4), (5, .int a5)] := hlA
  have leS : gle S S := gle.rf
  unfold w_H_feed at h
  refine lv_aload_n hx hb d_H_feed_0 rfl (lv_at hl0 0 rfl) ?_
  refine gget hx hb hw hown hK hG kd_H fa0 rfl 0 (by decide) rfl tw_261 (fun _ h9 => h9) d_H_feed_1 ?_
  refine gtopq (fun o1 eo1 => ?_)
  replace h := h o1 eo1
  obtain ⟨y2, ey2, h⟩ := h
  subst ey2
  obtain ⟨f3, h⟩ := h
  -- call T_bytesLeft
  refine gpi hK hG (va_runV (As := []) (rest := []) ⟨hx, hb, hml, hown, hw⟩ (m_T_bytesLeft l x S _ y2 f3 h) ⟨gcb hw tw_362 tw_29 tw_359 hd_T_bytesLeft rfl rfl ⟨(Nat.le_of_ble_eq_true rfl), (Nat.le_of_ble_eq_true rfl)⟩, hw _ tw_360, hw _ tw_361⟩ (gpV hK hG kd_T f3 rfl) rfl rfl hl0.1 rfl (lv_room (Nat.le_of_ble_eq_true rfl)) d_H_feed_4 ⟨(Nat.le_of_ble_eq_true rfl), (Nat.le_of_ble_eq_true rfl)⟩) (fun r4 H locs h9 hG => ?_)
  replace h := h9
  clear h9
  refine lv_bipush (v := 20) hx hb d_H_feed_7 (by decide) ?_
  refine lv_icmp_ge (tgt := 22) hx hb d_H_feed_9 (by decide) (fun hc28 => ?_) (fun hc28 => ?_)
  · replace h := h.1 hc28
    refine lv_aload_n hx hb d_H_feed_22 rfl (lv_at hl0 0 rfl) ?_
    refine gget hx hb hw hown hK hG kd_H fa0 rfl 0 (by decide) rfl tw_261 (fun _ h9 => h9) d_H_feed_23 ?_
    refine gtopq (fun o5 eo5 => ?_)
    replace h := h o5 eo5
    refine lv_iload_n hx hb d_H_feed_26 rfl (lv_at hl0 1 rfl) ?_
    obtain ⟨y6, ey6, h⟩ := h
    subst ey6
    obtain ⟨f7, h⟩ := h
    -- call T_append
    refine gcv hK hG (va_runV (As := [.int a1]) (rest := []) ⟨hx, hb, hml, hown, hw⟩ (m_T_append l x S _ y6 a1 f7 h) ⟨gcb hw tw_433 tw_29 tw_430 hd_T_append rfl rfl ⟨(Nat.le_of_ble_eq_true rfl), (Nat.le_of_ble_eq_true rfl)⟩, hw _ tw_431, hw _ tw_432⟩ (gpV hK hG kd_T f7 rfl) rfl rfl hl0.1 rfl (lv_room (Nat.le_of_ble_eq_true rfl)) d_H_feed_27 ⟨(Nat.le_of_ble_eq_true rfl), (Nat.le_of_ble_eq_true rfl)⟩) (fun S8 H locs h9 hle1 hG => ?_)
    replace h := h9
    clear h9
    have fa0 := gle_isA hle1 fa0
    have f3 := gle_isA hle1 f3
    have f7 := gle_isA hle1 f7
    have leS := leS.tr hle1
    refine lv_aload_n hx hb d_H_feed_30 rfl (lv_at hl0 0 rfl) ?_
    refine gget hx hb hw hown hK hG kd_H fa0 rfl 0 (by decide) rfl tw_261 (fun _ h9 => h9) d_H_feed_31 ?_
    refine gtopq (fun o9 eo9 => ?_)
    replace h := h o9 eo9
    refine lv_iload_n hx hb d_H_feed_34 rfl (lv_at hl0 2 rfl) ?_
    obtain ⟨y10, ey10, h⟩ := h
    subst ey10
    obtain ⟨f11, h⟩ := h
    -- call T_append
    refine gcv hK hG (va_runV (As := [.int a2]) (rest := []) ⟨hx, hb, hml, hown, hw⟩ (m_T_append l x S8 _ y10 a2 f11 h) ⟨gcb hw tw_433 tw_29 tw_430 hd_T_append rfl rfl ⟨(Nat.le_of_ble_eq_true rfl), (Nat.le_of_ble_eq_true rfl)⟩, hw _ tw_431, hw _ tw_432⟩ (gpV hK hG kd_T f11 rfl) rfl rfl hl0.1 rfl (lv_room (Nat.le_of_ble_eq_true rfl)) d_H_feed_35 ⟨(Nat.le_of_ble_eq_true rfl), (Nat.le_of_ble_eq_true rfl)⟩) (fun S12 H locs h9 hle1 hG => ?_)
    replace h := h9
    clear h9
    have fa0 := gle_isA hle1 fa0
    have f3 := gle_isA hle1 f3
    have f7 := gle_isA hle1 f7
    have f11 := gle_isA hle1 f11
    have leS := leS.tr hle1
    refine lv_aload_n hx hb d_H_feed_38 rfl (lv_at hl0 0 rfl) ?_
    refine gget hx hb hw hown hK hG kd_H fa0 rfl 0 (by decide) rfl tw_261 (fun _ h9 => h9) d_H_feed_39 ?_
    refine gtopq (fun o13 eo13 => ?_)
    replace h := h o13 eo13
    refine lv_iload_n hx hb d_H_feed_42 rfl (lv_at hl0 3 rfl) ?_
    obtain ⟨y14, ey14, h⟩ := h
    subst ey14
    obtain ⟨f15, h⟩ := h
    -- call T_append
    refine gcv hK hG (va_runV (As := [.int a3]) (rest := []) ⟨hx, hb, hml, hown, hw⟩ (m_T_append l x S12 _ y14 a3 f15 h) ⟨gcb hw tw_433 tw_29 tw_430 hd_T_append rfl rfl ⟨(Nat.le_of_ble_eq_true rfl), (Nat.le_of_ble_eq_true rfl)⟩, hw _ tw_431, hw _ tw_432⟩ (gpV hK hG kd_T f15 rfl) rfl rfl hl0.1 rfl (lv_room (Nat.le_of_ble_eq_true rfl)) d_H_feed_43 ⟨(Nat.le_of_ble_eq_true rfl), (Nat.le_of_ble_eq_true rfl)⟩) (fun S16 H locs h9 hle1 hG => ?_)
    replace h := h9
    clear h9
    have fa0 := gle_isA hle1 fa0
    have f3 := gle_isA hle1 f3
    have f7 := gle_isA hle1 f7
    have f11 := gle_isA hle1 f11
    have f15 := gle_isA hle1 f15
    have leS := leS.tr hle1
    refine lv_aload_n hx hb d_H_feed_46 rfl (lv_at hl0 0 rfl) ?_
    refine gget hx hb hw hown hK hG kd_H fa0 rfl 0 (by decide) rfl tw_261 (fun _ h9 => h9) d_H_feed_47 ?_
    refine gtopq (fun o17 eo17 => ?_)
    replace h := h o17 eo17
    refine lv_iload hx hb d_H_feed_50 (lv_at hl0 4 rfl) ?_
    obtain ⟨y18, ey18, h⟩ := h
    subst ey18
    obtain ⟨f19, h⟩ := h
    -- call T_append
    refine gcv hK hG (va_runV (As := [.int a4]) (rest := []) ⟨hx, hb, hml, hown, hw⟩ (m_T_append l x S16 _ y18 a4 f19 h) ⟨gcb hw tw_433 tw_29 tw_430 hd_T_append rfl rfl ⟨(Nat.le_of_ble_eq_true rfl), (Nat.le_of_ble_eq_true rfl)⟩, hw _ tw_431, hw _ tw_432⟩ (gpV hK hG kd_T f19 rfl) rfl rfl hl0.1 rfl (lv_room (Nat.le_of_ble_eq_true rfl)) d_H_feed_52 ⟨(Nat.le_of_ble_eq_true rfl), (Nat.le_of_ble_eq_true rfl)⟩) (fun S20 H locs h9 hle1 hG => ?_)
    replace h := h9
    clear h9
    have fa0 := gle_isA hle1 fa0
    have f3 := gle_isA hle1 f3
    have f7 := gle_isA hle1 f7
    have f11 := gle_isA hle1 f11
    have f15 := gle_isA hle1 f15
    have f19 := gle_isA hle1 f19
    have leS := leS.tr hle1
    refine lv_aload_n hx hb d_H_feed_55 rfl (lv_at hl0 0 rfl) ?_
    refine gget hx hb hw hown hK hG kd_H fa0 rfl 0 (by decide) rfl tw_261 (fun _ h9 => h9) d_H_feed_56 ?_
    refine gtopq (fun o21 eo21 => ?_)
    replace h := h o21 eo21
    refine lv_iload hx hb d_H_feed_59 (lv_at hl0 5 rfl) ?_
    obtain ⟨y22, ey22, h⟩ := h
    subst ey22
    obtain ⟨f23, h⟩ := h
    -- call T_append
    refine gcv hK hG (va_runV (As := [.int a5]) (rest := []) ⟨hx, hb, hml, hown, hw⟩ (m_T_append l x S20 _ y22 a5 f23 h) ⟨gcb hw tw_433 tw_29 tw_430 hd_T_append rfl rfl ⟨(Nat.le_of_ble_eq_true rfl), (Nat.le_of_ble_eq_true rfl)⟩, hw _ tw_431, hw _ tw_432⟩ (gpV hK hG kd_T f23 rfl) rfl rfl hl0.1 rfl (lv_room (Nat.le_of_ble_eq_true rfl)) d_H_feed_61 ⟨(Nat.le_of_ble_eq_true rfl), (Nat.le_of_ble_eq_true rfl)⟩) (fun S24 H locs h9 hle1 hG => ?_)
    replace h := h9
    clear h9
    have fa0 := gle_isA hle1 fa0
    have f3 := gle_isA hle1 f3
    have f7 := gle_isA hle1 f7
    have f11 := gle_isA hle1 f11
    have f15 := gle_isA hle1 f15
    have f19 := gle_isA hle1 f19
    have f23 := gle_isA hle1 f23
    have leS := leS.tr hle1
    refine lv_aload_n hx hb d_H_feed_64 rfl (lv_at hl0 0 rfl) ?_
    refine gget hx hb hw hown hK hG kd_H fa0 rfl 0 (by decide) rfl tw_261 (fun _ h9 => h9) d_H_feed_65 ?_
    refine gtopq (fun o25 eo25 => ?_)
    replace h := h o25 eo25
    obtain ⟨y26, ey26, h⟩ := h
    subst ey26
    obtain ⟨f27, h⟩ := h
    refine gget hx hb hw hown hK hG kd_T f27 rfl 1 (by decide) rfl tw_73 (fun _ h9 => h9) d_H_feed_68 ?_
    refine vx_ret ?_
    exact giret hx hb hr hlocks hK hG leS h (Nat.le_of_ble_eq_true rfl) (Nat.le_of_ble_eq_true rfl) d_H_feed_71
  · replace h := h.2 hc28
    exact gthrow (own := "WaltzHall") (E := "java/lang/IllegalStateException") (text := "the tape is too full") ["java/lang/RuntimeException", "java/lang/Exception"] hx hb hlt hw hown hK hG (by decide +kernel) (by decide +kernel) tw_363 tw_48 (by decide) ta_H_70 tg_H_70_66 (hl0.1.trans hml.symm) d_H_feed_12 d_H_feed_15 d_H_feed_16 d_H_feed_18 d_H_feed_21 htab (Nat.le_of_ble_eq_true rfl) (Nat.le_of_ble_eq_true rfl) (Nat.le_of_ble_eq_true rfl) (Nat.le_of_ble_eq_true rfl) hlocks leS h (Nat.le_of_ble_eq_true rfl) (Nat.le_of_ble_eq_true rfl)
def w_H_trim (post : Int32 → St → Prop) (px : String → St → Prop) (S : St) (a0 : Nat) (a1 : Int32) : Prop :=
  (a1 < 0 → px "java/lang/IllegalArgumentException" S) ∧ (¬ a1 < 0 → ∀ o1 : Option Nat, o1 = sQ S 33 a0 → ∃ y2 : Nat, o1 = some y2 ∧ isA S 4 y2 ∧ (a1 ≤ (sI S 25 y2) → ∀ o4 : Option Nat, o4 = sQ S 33 a0 → ∃ y5 : Nat, o4 = some y5 ∧ isA S 4 y5 ∧ ∀ S7 : St, S7 = pI S 25 y5 a1 → post a1 S7) ∧ (¬ a1 ≤ (sI S 25 y2) → px "java/lang/IllegalArgumentException" S))
set_option maxHeartbeats 4000000 in
set_option maxRecDepth 100000 in
theorem m_H_trim (l : Launch) (hlt : l.stackTraces = false) (x : Cx) (S : St) (post : Int32 → St → Prop) (px : String → St → Prop) (a0 : Nat) (a1 : Int32) (fa0 : isA S 6 a0) (h : w_H_trim post px S a0 a1) : vx_Met l y_H_trim [.code y_H_trim c_H_trim 2 (some .int)] { frames := 6, cells := 1, slots := 6, locals := 90 } (va_Pc [.ref a0, .int a1] (GW x S)) (va_Qi post (gB x S) (xA x)) (gX x S px) 1 6 (xA x) := by
  refine gMetX (by decide +kernel) (Nat.le_of_ble_eq_true rfl) ?_
  intro p e s m args below meth c hx hb hr hown hlocks hin hw hK H locs hG ls hlA hml htab
  have hown : s.vm.findClass "WaltzHall" = some m.cls := hown
  have hl0 : lv_has ls 2 [(0, .ref a0), (1, .int a1)] := hlA
  have leS : gle S S := gle.rf
  unfold w_H_trim at h
  refine lv_iload_n hx hb d_H_trim_0 rfl (lv_at hl0 1 rfl) ?_
  refine lv_if_lt (tgt := 15) hx hb d_H_trim_1 (by decide) (fun hc9 => ?_) (fun hc9 => ?_)
  · replace h := h.1 hc9
    exact gthrow (own := "WaltzHall") (E := "java/lang/IllegalArgumentException") (text := "the tape has not so many bytes") ["java/lang/RuntimeException", "java/lang/Exception"] hx hb hlt hw hown hK hG (by decide +kernel) (by decide +kernel) tw_442 tw_49 (by decide) ta_H_85 tg_H_85_81 (hl0.1.trans hml.symm) d_H_trim_15 d_H_trim_18 d_H_trim_19 d_H_trim_21 d_H_trim_24 htab (Nat.le_of_ble_eq_true rfl) (Nat.le_of_ble_eq_true rfl) (Nat.le_of_ble_eq_true rfl) (Nat.le_of_ble_eq_true rfl) hlocks leS h (Nat.le_of_ble_eq_true rfl) (Nat.le_of_ble_eq_true rfl)
  · replace h := h.2 hc9
    refine lv_iload_n hx hb d_H_trim_4 rfl (lv_at hl0 1 rfl) ?_
    refine lv_aload_n hx hb d_H_trim_5 rfl (lv_at hl0 0 rfl) ?_
    refine gget hx hb hw hown hK hG kd_H fa0 rfl 0 (by decide) rfl tw_261 (fun _ h9 => h9) d_H_trim_6 ?_
    refine gtopq (fun o1 eo1 => ?_)
    replace h := h o1 eo1
    obtain ⟨y2, ey2, h⟩ := h
    subst ey2
    obtain ⟨f3, h⟩ := h
    refine gget hx hb hw hown hK hG kd_T f3 rfl 1 (by decide) rfl tw_73 (fun _ h9 => h9) d_H_trim_9 ?_
    refine lv_icmp_le (tgt := 25) hx hb d_H_trim_12 (by decide) (fun hc8 => ?_) (fun hc8 => ?_)
    · replace h := h.1 hc8
      refine lv_aload_n hx hb d_H_trim_25 rfl (lv_at hl0 0 rfl) ?_
      refine gget hx hb hw hown hK hG kd_H fa0 rfl 0 (by decide) rfl tw_261 (fun _ h9 => h9) d_H_trim_26 ?_
      refine gtopq (fun o4 eo4 => ?_)
      replace h := h o4 eo4
      refine lv_iload_n hx hb d_H_trim_29 rfl (lv_at hl0 1 rfl) ?_
      obtain ⟨y5, ey5, h⟩ := h
      subst ey5
      obtain ⟨f6, h⟩ := h
      refine gput (S' := pI S 25 y5 a1) hx hb hw hown hK hG kd_T f6 rfl 1 (by decide) (gChI f6 rfl) tw_73 (fun _ h9 => h9) rfl rfl rfl rfl (Nat.le_of_ble_eq_true rfl) d_H_trim_30 (fun S7 H locs eS7 hle1 hG => ?_)
      replace h := h S7 eS7
      have fa0 := gle_isA hle1 fa0
      have f3 := gle_isA hle1 f3
      have f6 := gle_isA hle1 f6
      have leS := leS.tr hle1
      refine lv_iload_n hx hb d_H_trim_33 rfl (lv_at hl0 1 rfl) ?_
      refine vx_ret ?_
      exact giret hx hb hr hlocks hK hG leS h (Nat.le_of_ble_eq_true rfl) (Nat.le_of_ble_eq_true rfl) d_H_trim_34
    · replace h := h.2 hc8
      exact gthrow (own := "WaltzHall") (E := "java/lang/IllegalArgumentException") (text := "the tape has not so many bytes") ["java/lang/RuntimeException", "java/lang/Exception"] hx hb hlt hw hown hK hG (by decide +kernel) (by decide +kernel) tw_442 tw_49 (by decide) ta_H_85 tg_H_85_81 (hl0.1.trans hml.symm) d_H_trim_15 d_H_trim_18 d_H_trim_19 d_H_trim_21 d_H_trim_24 htab (Nat.le_of_ble_eq_true rfl) (Nat.le_of_ble_eq_true rfl) (Nat.le_of_ble_eq_true rfl) (Nat.le_of_ble_eq_true rfl) hlocks leS h (Nat.le_of_ble_eq_true rfl) (Nat.le_of_ble_eq_true rfl)
def w_H_neededDance (post : Option Nat → Prop) (px : String → Prop) (S : St) (a0 : Nat) (a1 : Int32) : Prop :=
  (a1 < 0 → px "java/lang/IndexOutOfBoundsException") ∧ (¬ a1 < 0 → ∀ o1 : Option Nat, o1 = sQ S 34 a0 → ∃ y2 : Nat, o1 = some y2 ∧ isA S 0 y2 ∧ w_AL_size (fun (r4 : Int32) => (a1 < r4 → ∀ o5 : Option Nat, o5 = sQ S 34 a0 → ∃ y6 : Nat, o5 = some y6 ∧ isA S 0 y6 ∧ w_AL_get (fun (o8 : Option Nat) => ∃ y9 : Nat, o8 = some y9 ∧ isA S 1 y9 ∧ post (some y9)) S y6 a1) ∧ (¬ a1 < r4 → px "java/lang/IndexOutOfBoundsException")) S y2)
set_option maxHeartbeats 4000000 in
set_option maxRecDepth 100000 in
theorem m_H_neededDance (l : Launch) (hlt : l.stackTraces = false) (x : Cx) (S : St) (post : Option Nat → Prop) (px : String → Prop) (a0 : Nat) (a1 : Int32) (fa0 : isA S 6 a0) (h : w_H_neededDance post px S a0 a1) : vx_Met l y_H_neededDance [.code y_H_neededDance c_H_neededDance 2 (some (.object "WaltzHall$Dance"))] { frames := 6, cells := 1, slots := 6, locals := 90 } (va_Pc [.ref a0, .int a1] (GW x S)) (va_Qq (gPu post S) (gB x S) (xA x)) (gX x S (gPx px S)) 1 6 (xA x) := by
  refine gMetX (by decide +kernel) (Nat.le_of_ble_eq_true rfl) ?_
  intro p e s m args below meth c hx hb hr hown hlocks hin hw hK H locs hG ls hlA hml htab
  have hown : s.vm.findClass "WaltzHall" = some m.cls := hown
  have hl0 : lv_has ls 2 [(0, .ref a0), (1, .int a1)] := hlA
  unfold w_H_neededDance at h
  refine lv_iload_n hx hb d_H_neededDance_0 rfl (lv_at hl0 1 rfl) ?_
  refine lv_if_lt (tgt := 15) hx hb d_H_neededDance_1 (by decide) (fun hc12 => ?_) (fun hc12 => ?_)
  · replace h := h.1 hc12
    exact gthrowW (own := "WaltzHall") (E := "java/lang/IndexOutOfBoundsException") (text := "no such dance") ["java/lang/RuntimeException", "java/lang/Exception"] hx hb hlt hw hown hK hG (by decide +kernel) (by decide +kernel) tw_470 tw_50 (by decide) ta_H_103 tg_H_103_99 (hl0.1.trans hml.symm) d_H_neededDance_15 d_H_neededDance_18 d_H_neededDance_19 d_H_neededDance_22 d_H_neededDance_25 htab (Nat.le_of_ble_eq_true rfl) (Nat.le_of_ble_eq_true rfl) (Nat.le_of_ble_eq_true rfl) (Nat.le_of_ble_eq_true rfl) hlocks gle.rf ⟨h, rfl⟩ (Nat.le_of_ble_eq_true rfl) (Nat.le_of_ble_eq_true rfl)
  · replace h := h.2 hc12
    refine lv_iload_n hx hb d_H_neededDance_4 rfl (lv_at hl0 1 rfl) ?_
    refine lv_aload_n hx hb d_H_neededDance_5 rfl (lv_at hl0 0 rfl) ?_
    refine gget hx hb hw hown hK hG kd_H fa0 rfl 1 (by decide) rfl tw_262 (fun _ h9 => h9) d_H_neededDance_6 ?_
    refine gtopq (fun o1 eo1 => ?_)
    replace h := h o1 eo1
    obtain ⟨y2, ey2, h⟩ := h
    subst ey2
    obtain ⟨f3, h⟩ := h
    -- call AL_size
    refine gpi hK hG (va_runV (As := []) (rest := [.int a1]) ⟨hx, hb, hml, hown, hw⟩ (m_AL_size l x S _ y2 f3 h) ⟨gcb hw tw_284 tw_32 tw_281 hd_AL_size rfl rfl ⟨(Nat.le_of_ble_eq_true rfl), (Nat.le_of_ble_eq_true rfl)⟩, hw _ tw_282, hw _ tw_283⟩ (gpV hK hG kd_AL f3 rfl) rfl rfl hl0.1 rfl (lv_room (Nat.le_of_ble_eq_true rfl)) d_H_neededDance_9 ⟨(Nat.le_of_ble_eq_true rfl), (Nat.le_of_ble_eq_true rfl)⟩) (fun r4 H locs h9 hG => ?_)
    replace h := h9
    clear h9
    refine lv_icmp_lt (tgt := 26) hx hb d_H_neededDance_12 (by decide) (fun hc11 => ?_) (fun hc11 => ?_)
    · replace h := h.1 hc11
      refine lv_aload_n hx hb d_H_neededDance_26 rfl (lv_at hl0 0 rfl) ?_
      refine gget hx hb hw hown hK hG kd_H fa0 rfl 1 (by decide) rfl tw_262 (fun _ h9 => h9) d_H_neededDance_27 ?_
      refine gtopq (fun o5 eo5 => ?_)
      replace h := h o5 eo5
      refine lv_iload_n hx hb d_H_neededDance_30 rfl (lv_at hl0 1 rfl) ?_
      obtain ⟨y6, ey6, h⟩ := h
      subst ey6
      obtain ⟨f7, h⟩ := h
      -- call AL_get
      refine gpq hK hG (va_runV (As := [.int a1]) (rest := []) ⟨hx, hb, hml, hown, hw⟩ (m_AL_get l x S _ y6 a1 f7 h) ⟨gcb hw tw_293 tw_32 tw_330 hd_AL_get rfl rfl ⟨(Nat.le_of_ble_eq_true rfl), (Nat.le_of_ble_eq_true rfl)⟩, hw _ tw_291, hw _ tw_292⟩ (gpV hK hG kd_AL f7 rfl) rfl rfl hl0.1 rfl (lv_room (Nat.le_of_ble_eq_true rfl)) d_H_neededDance_31 ⟨(Nat.le_of_ble_eq_true rfl), (Nat.le_of_ble_eq_true rfl)⟩) (fun o8 H locs h9 hG => ?_)
      replace h := h9
      clear h9
      obtain ⟨y9, ey9, h⟩ := h
      subst ey9
      obtain ⟨f10, h⟩ := h
      refine gcast hx hb hw hown hK hG kd_D tw_106 f10 rfl d_H_neededDance_34 ?_
      refine vx_ret ?_
      exact garet (o := (some y9)) hx hb hr (Or.inl ⟨_, rfl⟩) hlocks hK hG gle.rf ⟨h, rfl⟩ (Nat.le_of_ble_eq_true rfl) (Nat.le_of_ble_eq_true rfl) d_H_neededDance_37
    · replace h := h.2 hc11
      exact gthrowW (own := "WaltzHall") (E := "java/lang/IndexOutOfBoundsException") (text := "no such dance") ["java/lang/RuntimeException", "java/lang/Exception"] hx hb hlt hw hown hK hG (by decide +kernel) (by decide +kernel) tw_470 tw_50 (by decide) ta_H_103 tg_H_103_99 (hl0.1.trans hml.symm) d_H_neededDance_15 d_H_neededDance_18 d_H_neededDance_19 d_H_neededDance_22 d_H_neededDance_25 htab (Nat.le_of_ble_eq_true rfl) (Nat.le_of_ble_eq_true rfl) (Nat.le_of_ble_eq_true rfl) (Nat.le_of_ble_eq_true rfl) hlocks gle.rf ⟨h, rfl⟩ (Nat.le_of_ble_eq_true rfl) (Nat.le_of_ble_eq_true rfl)
def w_H_learn (post : Int32 → St → Prop) (px : String → St → Prop) (S : St) (a0 : Nat) (a1 : Int32) : Prop :=
  w_H_neededDance (fun (o1 : Option Nat) => ∀ o3 : Option Nat, o3 = sQ S 33 a0 → ∃ y4 : Nat, o1 = some y4 ∧ isA S 1 y4 ∧ w_D_takeFrom (fun (r6 : Int32) (S7 : St) => ∀ o9 : Option Nat, o9 = sQ S7 33 a0 → ∃ y10 : Nat, o9 = some y10 ∧ isA S7 4 y10 ∧ ∀ S12 : St, S12 = pI S7 25 y10 0 → (r6 = 0 → post (-1) S12) ∧ (¬ r6 = 0 → ∀ o13 : Option Nat, o13 = sQ S12 36 a0 → ∃ y14 : Nat, o13 = some y14 ∧ isA S12 3 y14 ∧ w_F_restartBehindTheEndOf (fun (S16 : St) => post (sI S16 5 y4) S16) S12 y14 (some y4))) S y4 o3) (fun E => px E S) S a0 a1
set_option maxHeartbeats 4000000 in
set_option maxRecDepth 100000 in
theorem m_H_learn (l : Launch) (hlt : l.stackTraces = false) (x : Cx) (S : St) (post : Int32 → St → Prop) (px : String → St → Prop) (a0 : Nat) (a1 : Int32) (fa0 : isA S 6 a0) (h : w_H_learn post px S a0 a1) : vx_Met l y_H_learn [.code y_H_learn c_H_learn 4 (some .int)] { frames := 7, cells := 1, slots := 6, locals := 111 } (va_Pc [.ref a0, .int a1] (GW x S)) (va_Qi post (gB x S) (xA x)) (gX x S px) 1 6 (xA x) := by
  refine gMetX (by decide +kernel) (Nat.le_of_ble_eq_true rfl) ?_
  intro p e s m args below meth c hx hb hr hown hlocks hin hw hK H locs hG ls hlA hml htab
  have hown : s.vm.findClass "WaltzHall" = some m.cls := hown
  have hl0 : lv_has ls 4 [(0, .ref a0), (1, .int a1)] := hlA
  have leS : gle S S := gle.rf
  unfold w_H_learn at h
  refine lv_aload_n hx hb d_H_learn_0 rfl (lv_at hl0 0 rfl) ?_
  refine lv_iload_n hx hb d_H_learn_1 rfl (lv_at hl0 1 rfl) ?_
  -- call H_neededDance
  refine gxpq hG (vx_runV (As := [.int a1]) (rest := []) ⟨hx, hb, hml, hown, hw⟩ (m_H_neededDance l hlt x S _ _ a0 a1 fa0 h) ⟨gcb hw tw_469 tw_28 tw_466 hd_H_neededDance rfl rfl ⟨(Nat.le_of_ble_eq_true rfl), (Nat.le_of_ble_eq_true rfl)⟩, hw _ tw_468, hw _ tw_6⟩ (gpV hK hG kd_H fa0 rfl) rfl rfl hl0.1 rfl (lv_room (Nat.le_of_ble_eq_true rfl)) d_H_learn_2 ⟨(Nat.le_of_ble_eq_true rfl), (Nat.le_of_ble_eq_true rfl)⟩) htab hlocks leS (fun _ h9 => h9) (Nat.le_of_ble_eq_true rfl) (Nat.le_of_ble_eq_true rfl) (fun o1 H locs h9 hG => ?_)
  replace h := h9
  clear h9
  refine gastore_n (i := 2) (lv' := [(2, va_rf o1), (0, .ref a0), (1, .int a1)]) hx hb d_H_learn_5 rfl hl0 (by decide) rfl (fun ls hl2 => ?_)
  refine gaload_n hx hb d_H_learn_6 rfl (lv_at hl2 0 rfl) ?_
  refine lv_aload_n hx hb d_H_learn_7 rfl (lv_at hl2 1 rfl) ?_
  refine gget hx hb hw hown hK hG kd_H fa0 rfl 0 (by decide) rfl tw_261 (fun _ h9 => h9) d_H_learn_8 ?_
  refine gtopq (fun o3 eo3 => ?_)
  replace h := h o3 eo3
  obtain ⟨y4, ey4, h⟩ := h
  subst ey4
  obtain ⟨f5, h⟩ := h
  -- call D_takeFrom
  refine gci hK hG (va_runV (As := [va_rf o3]) (rest := []) ⟨hx, hb, hml, hown, hw⟩ (m_D_takeFrom l x S _ y4 o3 f5 h) ⟨gcb hw tw_489 tw_33 tw_486 hd_D_takeFrom rfl rfl ⟨(Nat.le_of_ble_eq_true rfl), (Nat.le_of_ble_eq_true rfl)⟩, hw _ tw_487, hw _ tw_488⟩ (gpV hK hG kd_D f5 rfl) rfl rfl hl2.1 rfl (lv_room (Nat.le_of_ble_eq_true rfl)) d_H_learn_11 ⟨(Nat.le_of_ble_eq_true rfl), (Nat.le_of_ble_eq_true rfl)⟩) (fun r6 S7 H locs h9 hle1 hG => ?_)
  replace h := h9
  clear h9
  have fa0 := gle_isA hle1 fa0
  have f5 := gle_isA hle1 f5
  have leS := leS.tr hle1
  refine lv_istore_n (i := 3) (lv' := [(3, .int r6), (2, .ref y4), (0, .ref a0), (1, .int a1)]) hx hb d_H_learn_14 rfl hl2 (by decide) rfl (fun ls hl8 => ?_)
  refine lv_aload_n hx hb d_H_learn_15 rfl (lv_at hl8 2 rfl) ?_
  refine gget hx hb hw hown hK hG kd_H fa0 rfl 0 (by decide) rfl tw_261 (fun _ h9 => h9) d_H_learn_16 ?_
  refine gtopq (fun o9 eo9 => ?_)
  replace h := h o9 eo9
  refine lv_iconst (v := 0) hx hb d_H_learn_19 (by decide) ?_
  obtain ⟨y10, ey10, h⟩ := h
  subst ey10
  obtain ⟨f11, h⟩ := h
  refine gput (S' := pI S7 25 y10 0) hx hb hw hown hK hG kd_T f11 rfl 1 (by decide) (gChI f11 rfl) tw_73 (fun _ h9 => h9) rfl rfl rfl rfl (Nat.le_of_ble_eq_true rfl) d_H_learn_20 (fun S12 H locs eS12 hle1 hG => ?_)
  replace h := h S12 eS12
  have fa0 := gle_isA hle1 fa0
  have f5 := gle_isA hle1 f5
  have f11 := gle_isA hle1 f11
  have leS := leS.tr hle1
  refine lv_iload_n hx hb d_H_learn_23 rfl (lv_at hl8 0 rfl) ?_
  refine lv_if_ne (tgt := 29) hx hb d_H_learn_24 (by decide) (fun hc17 => ?_) (fun hc17 => ?_)
  · replace h := h.2 hc17
    refine lv_aload_n hx hb d_H_learn_29 rfl (lv_at hl8 2 rfl) ?_
    refine gget hx hb hw hown hK hG kd_H fa0 rfl 3 (by decide) rfl tw_264 (fun _ h9 => h9) d_H_learn_30 ?_
    refine gtopq (fun o13 eo13 => ?_)
    replace h := h o13 eo13
    refine lv_aload_n hx hb d_H_learn_33 rfl (lv_at hl8 1 rfl) ?_
    obtain ⟨y14, ey14, h⟩ := h
    subst ey14
    obtain ⟨f15, h⟩ := h
    -- call F_restartBehindTheEndOf
    refine gcv hK hG (va_runV (As := [.ref y4]) (rest := []) ⟨hx, hb, hml, hown, hw⟩ (m_F_restartBehindTheEndOf l x S12 _ y14 (some y4) f15 h) ⟨gcb hw tw_507 tw_38 tw_504 hd_F_restartBehindTheEndOf rfl rfl ⟨(Nat.le_of_ble_eq_true rfl), (Nat.le_of_ble_eq_true rfl)⟩, hw _ tw_505, hw _ tw_506⟩ (gpV hK hG kd_F f15 rfl) rfl rfl hl8.1 rfl (lv_room (Nat.le_of_ble_eq_true rfl)) d_H_learn_34 ⟨(Nat.le_of_ble_eq_true rfl), (Nat.le_of_ble_eq_true rfl)⟩) (fun S16 H locs h9 hle1 hG => ?_)
    replace h := h9
    clear h9
    have fa0 := gle_isA hle1 fa0
    have f5 := gle_isA hle1 f5
    have f11 := gle_isA hle1 f11
    have f15 := gle_isA hle1 f15
    have leS := leS.tr hle1
    refine lv_aload_n hx hb d_H_learn_37 rfl (lv_at hl8 1 rfl) ?_
    refine gget hx hb hw hown hK hG kd_D f5 rfl 2 (by decide) rfl tw_166 (fun _ h9 => h9) d_H_learn_38 ?_
    refine vx_ret ?_
    exact giret hx hb hr hlocks hK hG leS h (Nat.le_of_ble_eq_true rfl) (Nat.le_of_ble_eq_true rfl) d_H_learn_41
  · replace h := h.1 hc17
    refine lv_iconst (v := (-1)) hx hb d_H_learn_27 (by decide) ?_
    refine vx_ret ?_
    exact giret hx hb hr hlocks hK hG leS h (Nat.le_of_ble_eq_true rfl) (Nat.le_of_ble_eq_true rfl) d_H_learn_28
def w_H_figure (post : Int32 → Prop) (px : String → Prop) (S : St) (a0 : Nat) (a1 : Int32) (a2 : Int32) : Prop :=
  w_H_neededDance (fun (o1 : Option Nat) => (a2 < 0 → px "java/lang/IndexOutOfBoundsException") ∧ (¬ a2 < 0 → ∃ y3 : Nat, o1 = some y3 ∧ isA S 1 y3 ∧ (a2 < (sI S 5 y3) → w_D_figureAt (fun (r5 : Int32) => post r5) S y3 a2) ∧ (¬ a2 < (sI S 5 y3) → px "java/lang/IndexOutOfBoundsException"))) px S a0 a1
set_option maxHeartbeats 4000000 in
set_option maxRecDepth 100000 in
theorem m_H_figure (l : Launch) (hlt : l.stackTraces = false) (x : Cx) (S : St) (post : Int32 → Prop) (px : String → Prop) (a0 : Nat) (a1 : Int32) (a2 : Int32) (fa0 : isA S 6 a0) (h : w_H_figure post px S a0 a1 a2) : vx_Met l y_H_figure [.code y_H_figure c_H_figure 4 (some .int)] { frames := 7, cells := 2, slots := 12, locals := 111 } (va_Pc [.ref a0, .int a1, .int a2] (GW x S)) (va_Qi (gPu post S) (gB x S) (xA x)) (gX x S (gPx px S)) 2 12 (xA x) := by
  refine gMetX (by decide +kernel) (Nat.le_of_ble_eq_true rfl) ?_
  intro p e s m args below meth c hx hb hr hown hlocks hin hw hK H locs hG ls hlA hml htab
  have hown : s.vm.findClass "WaltzHall" = some m.cls := hown
  have hl0 : lv_has ls 4 [(0, .ref a0), (1, .int a1), (2, .int a2)] := hlA
  unfold w_H_figure at h
  refine lv_aload_n hx hb d_H_figure_0 rfl (lv_at hl0 0 rfl) ?_
  refine lv_iload_n hx hb d_H_figure_1 rfl (lv_at hl0 1 rfl) ?_
  -- call H_neededDance
  refine gxpq hG (vx_runV (As := [.int a1]) (rest := []) ⟨hx, hb, hml, hown, hw⟩ (m_H_neededDance l hlt x S _ _ a0 a1 fa0 h) ⟨gcb hw tw_469 tw_28 tw_466 hd_H_neededDance rfl rfl ⟨(Nat.le_of_ble_eq_true rfl), (Nat.le_of_ble_eq_true rfl)⟩, hw _ tw_468, hw _ tw_6⟩ (gpV hK hG kd_H fa0 rfl) rfl rfl hl0.1 rfl (lv_room (Nat.le_of_ble_eq_true rfl)) d_H_figure_2 ⟨(Nat.le_of_ble_eq_true rfl), (Nat.le_of_ble_eq_true rfl)⟩) htab hlocks gle.rf (fun _ h9 => ⟨h9, rfl⟩) (Nat.le_of_ble_eq_true rfl) (Nat.le_of_ble_eq_true rfl) (fun o1 H locs h9 hG => ?_)
  replace h := h9
  clear h9
  refine gastore_n (i := 3) (lv' := [(3, va_rf o1), (0, .ref a0), (1, .int a1), (2, .int a2)]) hx hb d_H_figure_5 rfl hl0 (by decide) rfl (fun ls hl2 => ?_)
  refine lv_iload_n hx hb d_H_figure_6 rfl (lv_at hl2 3 rfl) ?_
  refine lv_if_lt (tgt := 18) hx hb d_H_figure_7 (by decide) (fun hc7 => ?_) (fun hc7 => ?_)
  · replace h := h.1 hc7
    exact gthrow (own := "WaltzHall") (E := "java/lang/IndexOutOfBoundsException") (text := "the dance has no such place") ["java/lang/RuntimeException", "java/lang/Exception"] hx hb hlt hw hown hK hG (by decide +kernel) (by decide +kernel) tw_470 tw_50 (by decide) ta_H_103 tg_H_103_99 (hl2.1.trans hml.symm) d_H_figure_18 d_H_figure_21 d_H_figure_22 d_H_figure_24 d_H_figure_27 htab (Nat.le_of_ble_eq_true rfl) (Nat.le_of_ble_eq_true rfl) (Nat.le_of_ble_eq_true rfl) (Nat.le_of_ble_eq_true rfl) hlocks gle.rf ⟨h, rfl⟩ (Nat.le_of_ble_eq_true rfl) (Nat.le_of_ble_eq_true rfl)
  · replace h := h.2 hc7
    refine lv_iload_n hx hb d_H_figure_10 rfl (lv_at hl2 3 rfl) ?_
    refine gaload_n hx hb d_H_figure_11 rfl (lv_at hl2 0 rfl) ?_
    obtain ⟨y3, ey3, h⟩ := h
    subst ey3
    obtain ⟨f4, h⟩ := h
    refine gget hx hb hw hown hK hG kd_D f4 rfl 2 (by decide) rfl tw_166 (fun _ h9 => h9) d_H_figure_12 ?_
    refine lv_icmp_lt (tgt := 28) hx hb d_H_figure_15 (by decide) (fun hc6 => ?_) (fun hc6 => ?_)
    · replace h := h.1 hc6
      refine lv_aload_n hx hb d_H_figure_28 rfl (lv_at hl2 0 rfl) ?_
      refine lv_iload_n hx hb d_H_figure_29 rfl (lv_at hl2 3 rfl) ?_
      -- call D_figureAt
      refine gpi hK hG (va_runV (As := [.int a2]) (rest := []) ⟨hx, hb, hml, hown, hw⟩ (m_D_figureAt l x S _ y3 a2 f4 h) ⟨gcb hw tw_339 tw_33 tw_516 hd_D_figureAt rfl rfl ⟨(Nat.le_of_ble_eq_true rfl), (Nat.le_of_ble_eq_true rfl)⟩, hw _ tw_337, hw _ tw_338⟩ (gpV hK hG kd_D f4 rfl) rfl rfl hl2.1 rfl (lv_room (Nat.le_of_ble_eq_true rfl)) d_H_figure_30 ⟨(Nat.le_of_ble_eq_true rfl), (Nat.le_of_ble_eq_true rfl)⟩) (fun r5 H locs h9 hG => ?_)
      replace h := h9
      clear h9
      refine vx_ret ?_
      exact giret hx hb hr hlocks hK hG gle.rf ⟨h, rfl⟩ (Nat.le_of_ble_eq_true rfl) (Nat.le_of_ble_eq_true rfl) d_H_figure_33
    · replace h := h.2 hc6
      exact gthrow (own := "WaltzHall") (E := "java/lang/IndexOutOfBoundsException") (text := "the dance has no such place") ["java/lang/RuntimeException", "java/lang/Exception"] hx hb hlt hw hown hK hG (by decide +kernel) (by decide +kernel) tw_470 tw_50 (by decide) ta_H_103 tg_H_103_99 (hl2.1.trans hml.symm) d_H_figure_18 d_H_figure_21 d_H_figure_22 d_H_figure_24 d_H_figure_27 htab (Nat.le_of_ble_eq_true rfl) (Nat.le_of_ble_eq_true rfl) (Nat.le_of_ble_eq_true rfl) (Nat.le_of_ble_eq_true rfl) hlocks gle.rf ⟨h, rfl⟩ (Nat.le_of_ble_eq_true rfl) (Nat.le_of_ble_eq_true rfl)
def w_H_needKind (post : Prop) (px : String → Prop) (S : St) (a0 : Int32) (a1 : Int32) : Prop :=
  (a0 < 0 → px "java/lang/IndexOutOfBoundsException") ∧ (¬ a0 < 0 → (a0 < a1 → post) ∧ (¬ a0 < a1 → px "java/lang/IndexOutOfBoundsException"))
set_option maxHeartbeats 4000000 in
set_option maxRecDepth 100000 in
theorem m_H_needKind (l : Launch) (hlt : l.stackTraces = false) (x : Cx) (S : St) (post : Prop) (px : String → Prop) (a0 : Int32) (a1 : Int32) (h : w_H_needKind post px S a0 a1) : vx_Met l y_H_needKind [.code y_H_needKind c_H_needKind 2 none] { frames := 6, cells := 1, slots := 6, locals := 90 } (va_Pc [.int a0, .int a1] (GW x S)) (va_Qv (gPv post S) (gB x S) (xA x)) (gX x S (gPx px S)) 1 6 (xA x) := by
  refine gMetX (by decide +kernel) (Nat.le_of_ble_eq_true rfl) ?_
  intro p e s m args below meth c hx hb hr hown hlocks hin hw hK H locs hG ls hlA hml htab
  have hown : s.vm.findClass "WaltzHall" = some m.cls := hown
  have hl0 : lv_has ls 2 [(0, .int a0), (1, .int a1)] := hlA
  unfold w_H_needKind at h
  refine lv_iload_n hx hb d_H_needKind_0 rfl (lv_at hl0 0 rfl) ?_
  refine lv_if_lt (tgt := 9) hx hb d_H_needKind_1 (by decide) (fun hc2 => ?_) (fun hc2 => ?_)
  · replace h := h.1 hc2
    exact gthrowW (own := "WaltzHall") (E := "java/lang/IndexOutOfBoundsException") (text := "nothing of that kind is told") ["java/lang/RuntimeException", "java/lang/Exception"] hx hb hlt hw hown hK hG (by decide +kernel) (by decide +kernel) tw_470 tw_50 (by decide) ta_H_103 tg_H_103_99 (hl0.1.trans hml.symm) d_H_needKind_9 d_H_needKind_12 d_H_needKind_13 d_H_needKind_16 d_H_needKind_19 htab (Nat.le_of_ble_eq_true rfl) (Nat.le_of_ble_eq_true rfl) (Nat.le_of_ble_eq_true rfl) (Nat.le_of_ble_eq_true rfl) hlocks gle.rf ⟨h, rfl⟩ (Nat.le_of_ble_eq_true rfl) (Nat.le_of_ble_eq_true rfl)
  · replace h := h.2 hc2
    refine lv_iload_n hx hb d_H_needKind_4 rfl (lv_at hl0 0 rfl) ?_
    refine lv_iload_n hx hb d_H_needKind_5 rfl (lv_at hl0 1 rfl) ?_
    refine lv_icmp_lt (tgt := 20) hx hb d_H_needKind_6 (by decide) (fun hc1 => ?_) (fun hc1 => ?_)
    · replace h := h.1 hc1
      refine vx_ret ?_
      exact gvret hx hb hr hlocks hK hG gle.rf ⟨h, rfl⟩ (Nat.le_of_ble_eq_true rfl) (Nat.le_of_ble_eq_true rfl) d_H_needKind_20
    · replace h := h.2 hc1
      exact gthrowW (own := "WaltzHall") (E := "java/lang/IndexOutOfBoundsException") (text := "nothing of that kind is told") ["java/lang/RuntimeException", "java/lang/Exception"] hx hb hlt hw hown hK hG (by decide +kernel) (by decide +kernel) tw_470 tw_50 (by decide) ta_H_103 tg_H_103_99 (hl0.1.trans hml.symm) d_H_needKind_9 d_H_needKind_12 d_H_needKind_13 d_H_needKind_16 d_H_needKind_19 htab (Nat.le_of_ble_eq_true rfl) (Nat.le_of_ble_eq_true rfl) (Nat.le_of_ble_eq_true rfl) (Nat.le_of_ble_eq_true rfl) hlocks gle.rf ⟨h, rfl⟩ (Nat.le_of_ble_eq_true rfl) (Nat.le_of_ble_eq_true rfl)
def w_H_drift (post : Int32 → Prop) (px : String → Prop) (S : St) (a0 : Nat) (a1 : Int32) (a2 : Int32) : Prop :=
  w_H_neededDance (fun (o1 : Option Nat) => w_H_needKind (∃ y3 : Nat, o1 = some y3 ∧ isA S 1 y3 ∧ w_D_driftOf (fun (r5 : Int32) => post r5) S y3 a2) px S a2 4) px S a0 a1
set_option maxHeartbeats 4000000 in
set_option maxRecDepth 100000 in
theorem m_H_drift (l : Launch) (hlt : l.stackTraces = false) (x : Cx) (S : St) (post : Int32 → Prop) (px : String → Prop) (a0 : Nat) (a1 : Int32) (a2 : Int32) (fa0 : isA S 6 a0) (h : w_H_drift post px S a0 a1 a2) : vx_Met l y_H_drift [.code y_H_drift c_H_drift 4 (some .int)] { frames := 7, cells := 2, slots := 12, locals := 111 } (va_Pc [.ref a0, .int a1, .int a2] (GW x S)) (va_Qi (gPu post S) (gB x S) (xA x)) (gX x S (gPx px S)) 2 12 (xA x) := by
  refine gMetX (by decide +kernel) (Nat.le_of_ble_eq_true rfl) ?_
  intro p e s m args below meth c hx hb hr hown hlocks hin hw hK H locs hG ls hlA hml htab
  have hown : s.vm.findClass "WaltzHall" = some m.cls := hown
  have hl0 : lv_has ls 4 [(0, .ref a0), (1, .int a1), (2, .int a2)] := hlA
  unfold w_H_drift at h
  refine lv_aload_n hx hb d_H_drift_0 rfl (lv_at hl0 0 rfl) ?_
  refine lv_iload_n hx hb d_H_drift_1 rfl (lv_at hl0 1 rfl) ?_
  -- call H_neededDance
  refine gxpq hG (vx_runV (As := [.int a1]) (rest := []) ⟨hx, hb, hml, hown, hw⟩ (m_H_neededDance l hlt x S _ _ a0 a1 fa0 h) ⟨gcb hw tw_469 tw_28 tw_466 hd_H_neededDance rfl rfl ⟨(Nat.le_of_ble_eq_true rfl), (Nat.le_of_ble_eq_true rfl)⟩, hw _ tw_468, hw _ tw_6⟩ (gpV hK hG kd_H fa0 rfl) rfl rfl hl0.1 rfl (lv_room (Nat.le_of_ble_eq_true rfl)) d_H_drift_2 ⟨(Nat.le_of_ble_eq_true rfl), (Nat.le_of_ble_eq_true rfl)⟩) htab hlocks gle.rf (fun _ h9 => ⟨h9, rfl⟩) (Nat.le_of_ble_eq_true rfl) (Nat.le_of_ble_eq_true rfl) (fun o1 H locs h9 hG => ?_)
  replace h := h9
  clear h9
  refine gastore_n (i := 3) (lv' := [(3, va_rf o1), (0, .ref a0), (1, .int a1), (2, .int a2)]) hx hb d_H_drift_5 rfl hl0 (by decide) rfl (fun ls hl2 => ?_)
  refine lv_iload_n hx hb d_H_drift_6 rfl (lv_at hl2 3 rfl) ?_
  refine lv_iconst (v := 4) hx hb d_H_drift_7 (by decide) ?_
  -- call H_needKind
  refine gxpv hG (vx_runS (As := [.int a2, .int 4]) (rest := []) ⟨hx, hb, hml, hown, hw⟩ (m_H_needKind l hlt x S _ _ a2 4  h) ⟨gcb hw tw_526 tw_28 tw_524 hd_H_needKind rfl rfl ⟨(Nat.le_of_ble_eq_true rfl), (Nat.le_of_ble_eq_true rfl)⟩, hw _ tw_525⟩ (gpS hK hG) rfl rfl hl2.1 rfl (lv_room (Nat.le_of_ble_eq_true rfl)) d_H_drift_8 ⟨(Nat.le_of_ble_eq_true rfl), (Nat.le_of_ble_eq_true rfl)⟩) htab hlocks gle.rf (fun _ h9 => ⟨h9, rfl⟩) (Nat.le_of_ble_eq_true rfl) (Nat.le_of_ble_eq_true rfl) (fun H locs h9 hG => ?_)
  replace h := h9
  clear h9
  refine gaload_n hx hb d_H_drift_11 rfl (lv_at hl2 0 rfl) ?_
  refine lv_iload_n hx hb d_H_drift_12 rfl (lv_at hl2 3 rfl) ?_
  obtain ⟨y3, ey3, h⟩ := h
  subst ey3
  obtain ⟨f4, h⟩ := h
  -- call D_driftOf
  refine gpi hK hG (va_runV (As := [.int a2]) (rest := []) ⟨hx, hb, hml, hown, hw⟩ (m_D_driftOf l x S _ y3 a2 f4 h) ⟨gcb hw tw_531 tw_33 tw_528 hd_D_driftOf rfl rfl ⟨(Nat.le_of_ble_eq_true rfl), (Nat.le_of_ble_eq_true rfl)⟩, hw _ tw_529, hw _ tw_530⟩ (gpV hK hG kd_D f4 rfl) rfl rfl hl2.1 rfl (lv_room (Nat.le_of_ble_eq_true rfl)) d_H_drift_13 ⟨(Nat.le_of_ble_eq_true rfl), (Nat.le_of_ble_eq_true rfl)⟩) (fun r5 H locs h9 hG => ?_)
  replace h := h9
  clear h9
  refine vx_ret ?_
  exact giret hx hb hr hlocks hK hG gle.rf ⟨h, rfl⟩ (Nat.le_of_ble_eq_true rfl) (Nat.le_of_ble_eq_true rfl) d_H_drift_16
def w_H_come (post : Int32 → St → Prop) (px : String → St → Prop) (S : St) (a0 : Nat) (a1 : Int32) (a2 : Int32) (a3 : Int32) (a4 : Int32) : Prop :=
  w_H_isOnFloor (fun (r1 : Int32) => (r1 = 0 → px "java/lang/IllegalArgumentException" S) ∧ (¬ r1 = 0 → (a3 < 0 → px "java/lang/IllegalArgumentException" S) ∧ (¬ a3 < 0 → (4 ≤ a3 → px "java/lang/IllegalArgumentException" S) ∧ (¬ 4 ≤ a3 → (a4 < 1 → px "java/lang/IllegalArgumentException" S) ∧ (¬ a4 < 1 → (a4 ≤ 9 → ∀ o2 : Option Nat, o2 = sQ S 36 a0 → ∃ y3 : Nat, o2 = some y3 ∧ isA S 3 y3 ∧ ∀ o5 : Option Nat, o5 = sQ S 21 y3 → ∃ y6 : Nat, o5 = some y6 ∧ isA S 0 y6 ∧ w_AL_size (fun (r8 : Int32) => (8 ≤ r8 → px "java/lang/IllegalStateException" S) ∧ (¬ 8 ≤ r8 → ∀ o9 : Option Nat, o9 = sQ S 36 a0 → ∃ y10 : Nat, o9 = some y10 ∧ isA S 3 y10 ∧ w_F_whoIsAt (fun (o12 : Option Nat) => (o12 = none → ∀ (q13 : Nat) (S14 : St), q13 ∉ sL S → S14 = pNew S q13 2 0 → ∀ o16 : Option Nat, o16 = sQ S14 36 a0 → ∃ y17 : Nat, o16 = some y17 ∧ isA S14 3 y17 ∧ ∀ o19 : Option Nat, o19 = sQ S14 21 y17 → ∃ y20 : Nat, o19 = some y20 ∧ isA S14 0 y20 ∧ w_AL_size (fun (r22 : Int32) => ∀ o23 : Option Nat, o23 = sQ S14 35 a0 → w_R_init (fun (S24 : St) => ∀ S26 : St, S26 = pI S24 7 q13 a1 → ∀ S27 : St, S27 = pI S26 8 q13 a2 → ∀ S28 : St, S28 = pI S27 9 q13 a3 → ∀ S29 : St, S29 = pI S28 11 q13 a4 → ∀ o30 : Option Nat, o30 = sQ S29 36 a0 → ∃ y31 : Nat, o30 = some y31 ∧ isA S29 3 y31 ∧ ∀ o33 : Option Nat, o33 = sQ S29 21 y31 → ∃ y34 : Nat, o33 = some y34 ∧ isA S29 0 y34 ∧ w_AL_add1 (fun (r36 : Int32) (S37 : St) => post (sI S37 6 q13) S37) S29 y34 (some q13)) S14 q13 r22 o23) S14 y20) ∧ (∀ y38 : Nat, o12 = some y38 → px "java/lang/IllegalStateException" S)) S y10 a1 a2)) S y6) ∧ (¬ a4 ≤ 9 → px "java/lang/IllegalArgumentException" S)))))) S a1 a2
set_option maxHeartbeats 4000000 in
set_option maxRecDepth 100000 in
theorem m_H_come (l : Launch) (hlt : l.stackTraces = false) (x : Cx) (S : St) (post : Int32 → St → Prop) (px : String → St → Prop) (a0 : Nat) (a1 : Int32) (a2 : Int32) (a3 : Int32) (a4 : Int32) (fa0 : isA S 6 a0) (h : w_H_come post px S a0 a1 a2 a3 a4) : vx_Met l y_H_come [.code y_H_come c_H_come 6 (some .int)] { frames := 6, cells := 2, slots := 25, locals := 108 } (va_Pc [.ref a0, .int a1, .int a2, .int a3, .int a4] (GW x S)) (va_Qi post (gB x S) (xA x)) (gX x S px) 2 25 (xA x) := by
  refine gMetX (by decide +kernel) (Nat.le_of_ble_eq_true rfl) ?_
  intro p e s m args below meth c hx hb hr hown hlocks hin hw hK H locs hG ls hlA hml htab
  have hown : s.vm.findClass "WaltzHall" = some m.cls := hown
  have hl0 : lv_has ls 6 [(0, .ref a0), (1, .int a1), (2, .int a2), (3, .int a3), (4, .int a4)] := hlA
  have leS : gle S S := gle.rf
  unfold w_H_come at h
  refine lv_iload_n hx hb d_H_come_0 rfl (lv_at hl0 1 rfl) ?_
  refine lv_iload_n hx hb d_H_come_1 rfl (lv_at hl0 2 rfl) ?_
  -- call H_isOnFloor
  refine gpi hK hG (va_runS (As := [.int a1, .int a2]) (rest := []) ⟨hx, hb, hml, hown, hw⟩ (m_H_isOnFloor l x S _ a1 a2  h) ⟨gcb hw tw_561 tw_28 tw_559 hd_H_isOnFloor rfl rfl ⟨(Nat.le_of_ble_eq_true rfl), (Nat.le_of_ble_eq_true rfl)⟩, hw _ tw_560⟩ (gpS hK hG) rfl rfl hl0.1 rfl (lv_room (Nat.le_of_ble_eq_true rfl)) d_H_come_2 ⟨(Nat.le_of_ble_eq_true rfl), (Nat.le_of_ble_eq_true rfl)⟩) (fun r1 H locs h9 hG => ?_)
  replace h := h9
  clear h9
  refine lv_if_eq (tgt := 30) hx hb d_H_come_5 (by decide) (fun hc44 => ?_) (fun hc44 => ?_)
  · replace h := h.1 hc44
    exact gthrow (own := "WaltzHall") (E := "java/lang/IllegalArgumentException") (text := "no such tile, face or cost") ["java/lang/RuntimeException", "java/lang/Exception"] hx hb hlt hw hown hK hG (by decide +kernel) (by decide +kernel) tw_442 tw_49 (by decide) ta_H_85 tg_H_85_81 (hl0.1.trans hml.symm) d_H_come_30 d_H_come_33 d_H_come_34 d_H_come_36 d_H_come_39 htab (Nat.le_of_ble_eq_true rfl) (Nat.le_of_ble_eq_true rfl) (Nat.le_of_ble_eq_true rfl) (Nat.le_of_ble_eq_true rfl) hlocks leS h (Nat.le_of_ble_eq_true rfl) (Nat.le_of_ble_eq_true rfl)
  · replace h := h.2 hc44
    refine lv_iload_n hx hb d_H_come_8 rfl (lv_at hl0 3 rfl) ?_
    refine lv_if_lt (tgt := 30) hx hb d_H_come_9 (by decide) (fun hc43 => ?_) (fun hc43 => ?_)
    · replace h := h.1 hc43
      exact gthrow (own := "WaltzHall") (E := "java/lang/IllegalArgumentException") (text := "no such tile, face or cost") ["java/lang/RuntimeException", "java/lang/Exception"] hx hb hlt hw hown hK hG (by decide +kernel) (by decide +kernel) tw_442 tw_49 (by decide) ta_H_85 tg_H_85_81 (hl0.1.trans hml.symm) d_H_come_30 d_H_come_33 d_H_come_34 d_H_come_36 d_H_come_39 htab (Nat.le_of_ble_eq_true rfl) (Nat.le_of_ble_eq_true rfl) (Nat.le_of_ble_eq_true rfl) (Nat.le_of_ble_eq_true rfl) hlocks leS h (Nat.le_of_ble_eq_true rfl) (Nat.le_of_ble_eq_true rfl)
    · replace h := h.2 hc43
      refine lv_iload_n hx hb d_H_come_12 rfl (lv_at hl0 3 rfl) ?_
      refine lv_iconst (v := 4) hx hb d_H_come_13 (by decide) ?_
      refine lv_icmp_ge (tgt := 30) hx hb d_H_come_14 (by decide) (fun hc42 => ?_) (fun hc42 => ?_)
      · replace h := h.1 hc42
        exact gthrow (own := "WaltzHall") (E := "java/lang/IllegalArgumentException") (text := "no such tile, face or cost") ["java/lang/RuntimeException", "java/lang/Exception"] hx hb hlt hw hown hK hG (by decide +kernel) (by decide +kernel) tw_442 tw_49 (by decide) ta_H_85 tg_H_85_81 (hl0.1.trans hml.symm) d_H_come_30 d_H_come_33 d_H_come_34 d_H_come_36 d_H_come_39 htab (Nat.le_of_ble_eq_true rfl) (Nat.le_of_ble_eq_true rfl) (Nat.le_of_ble_eq_true rfl) (Nat.le_of_ble_eq_true rfl) hlocks leS h (Nat.le_of_ble_eq_true rfl) (Nat.le_of_ble_eq_true rfl)
      · replace h := h.2 hc42
        refine lv_iload hx hb d_H_come_17 (lv_at hl0 4 rfl) ?_
        refine lv_iconst (v := 1) hx hb d_H_come_19 (by decide) ?_
        refine lv_icmp_lt (tgt := 30) hx hb d_H_come_20 (by decide) (fun hc41 => ?_) (fun hc41 => ?_)
        · replace h := h.1 hc41
          exact gthrow (own := "WaltzHall") (E := "java/lang/IllegalArgumentException") (text := "no such tile, face or cost") ["java/lang/RuntimeException", "java/lang/Exception"] hx hb hlt hw hown hK hG (by decide +kernel) (by decide +kernel) tw_442 tw_49 (by decide) ta_H_85 tg_H_85_81 (hl0.1.trans hml.symm) d_H_come_30 d_H_come_33 d_H_come_34 d_H_come_36 d_H_come_39 htab (Nat.le_of_ble_eq_true rfl) (Nat.le_of_ble_eq_true rfl) (Nat.le_of_ble_eq_true rfl) (Nat.le_of_ble_eq_true rfl) hlocks leS h (Nat.le_of_ble_eq_true rfl) (Nat.le_of_ble_eq_true rfl)
        · replace h := h.2 hc41
          refine lv_iload hx hb d_H_come_23 (lv_at hl0 4 rfl) ?_
          refine lv_bipush (v := 9) hx hb d_H_come_25 (by decide) ?_
          refine lv_icmp_le (tgt := 40) hx hb d_H_come_27 (by decide) (fun hc40 => ?_) (fun hc40 => ?_)
          · replace h := h.1 hc40
            refine lv_aload_n hx hb d_H_come_40 rfl (lv_at hl0 0 rfl) ?_
            refine gget hx hb hw hown hK hG kd_H fa0 rfl 3 (by decide) rfl tw_264 (fun _ h9 => h9) d_H_come_41 ?_
            refine gtopq (fun o2 eo2 => ?_)
            replace h := h o2 eo2
            obtain ⟨y3, ey3, h⟩ := h
            subst ey3
            obtain ⟨f4, h⟩ := h
            refine gget hx hb hw hown hK hG kd_F f4 rfl 0 (by decide) rfl tw_184 (fun _ h9 => h9) d_H_come_44 ?_
            refine gtopq (fun o5 eo5 => ?_)
            replace h := h o5 eo5
            obtain ⟨y6, ey6, h⟩ := h
            subst ey6
            obtain ⟨f7, h⟩ := h
            -- call AL_size
            refine gpi hK hG (va_runV (As := []) (rest := []) ⟨hx, hb, hml, hown, hw⟩ (m_AL_size l x S _ y6 f7 h) ⟨gcb hw tw_284 tw_32 tw_281 hd_AL_size rfl rfl ⟨(Nat.le_of_ble_eq_true rfl), (Nat.le_of_ble_eq_true rfl)⟩, hw _ tw_282, hw _ tw_283⟩ (gpV hK hG kd_AL f7 rfl) rfl rfl hl0.1 rfl (lv_room (Nat.le_of_ble_eq_true rfl)) d_H_come_47 ⟨(Nat.le_of_ble_eq_true rfl), (Nat.le_of_ble_eq_true rfl)⟩) (fun r8 H locs h9 hG => ?_)
            replace h := h9
            clear h9
            refine lv_bipush (v := 8) hx hb d_H_come_50 (by decide) ?_
            refine lv_icmp_ge (tgt := 67) hx hb d_H_come_52 (by decide) (fun hc39 => ?_) (fun hc39 => ?_)
            · replace h := h.1 hc39
              exact gthrow (own := "WaltzHall") (E := "java/lang/IllegalStateException") (text := "the tile is taken, or the hall is full") ["java/lang/RuntimeException", "java/lang/Exception"] hx hb hlt hw hown hK hG (by decide +kernel) (by decide +kernel) tw_363 tw_48 (by decide) ta_H_70 tg_H_70_66 (hl0.1.trans hml.symm) d_H_come_67 d_H_come_70 d_H_come_71 d_H_come_73 d_H_come_76 htab (Nat.le_of_ble_eq_true rfl) (Nat.le_of_ble_eq_true rfl) (Nat.le_of_ble_eq_true rfl) (Nat.le_of_ble_eq_true rfl) hlocks leS h (Nat.le_of_ble_eq_true rfl) (Nat.le_of_ble_eq_true rfl)
            · replace h := h.2 hc39
              refine lv_aload_n hx hb d_H_come_55 rfl (lv_at hl0 0 rfl) ?_
              refine gget hx hb hw hown hK hG kd_H fa0 rfl 3 (by decide) rfl tw_264 (fun _ h9 => h9) d_H_come_56 ?_
              refine gtopq (fun o9 eo9 => ?_)
              replace h := h o9 eo9
              refine lv_iload_n hx hb d_H_come_59 rfl (lv_at hl0 1 rfl) ?_
              refine lv_iload_n hx hb d_H_come_60 rfl (lv_at hl0 2 rfl) ?_
              obtain ⟨y10, ey10, h⟩ := h
              subst ey10
              obtain ⟨f11, h⟩ := h
              -- call F_whoIsAt
              refine gpq hK hG (va_runV (As := [.int a1, .int a2]) (rest := []) ⟨hx, hb, hml, hown, hw⟩ (m_F_whoIsAt l x S _ y10 a1 a2 f11 h) ⟨gcb hw tw_566 tw_38 tw_563 hd_F_whoIsAt rfl rfl ⟨(Nat.le_of_ble_eq_true rfl), (Nat.le_of_ble_eq_true rfl)⟩, hw _ tw_564, hw _ tw_565⟩ (gpV hK hG kd_F f11 rfl) rfl rfl hl0.1 rfl (lv_room (Nat.le_of_ble_eq_true rfl)) d_H_come_61 ⟨(Nat.le_of_ble_eq_true rfl), (Nat.le_of_ble_eq_true rfl)⟩) (fun o12 H locs h9 hG => ?_)
              replace h := h9
              clear h9
              refine gifnull (tgt := 77) hx hb d_H_come_64 (by decide) (fun e9 => ?_) (fun y38 e9 => ?_)
              · replace h := h.1 e9
                subst e9
                refine gnew (k := 2) hx hb hw hown hK hG kd_R tw_340 tw_568 tw_52 rfl kf_R (Nat.le_of_ble_eq_true rfl) (Nat.le_of_ble_eq_true rfl) d_H_come_77 (fun q13 S14 H hqq13 eS14 hle1 hG => ?_)
                replace h := h q13 S14 hqq13 eS14
                have fa0 := gle_isA hle1 fa0
                have f4 := gle_isA hle1 f4
                have f7 := gle_isA hle1 f7
                have f11 := gle_isA hle1 f11
                have leS := leS.tr hle1
                have f15 : isA S14 2 q13 := by rw [eS14]; exact isA_new
                refine lv_dup hx hb d_H_come_80 rfl ?_
                refine lv_aload_n hx hb d_H_come_81 rfl (lv_at hl0 0 rfl) ?_
                refine gget hx hb hw hown hK hG kd_H fa0 rfl 3 (by decide) rfl tw_264 (fun _ h9 => h9) d_H_come_82 ?_
                refine gtopq (fun o16 eo16 => ?_)
                replace h := h o16 eo16
                obtain ⟨y17, ey17, h⟩ := h
                subst ey17
                obtain ⟨f18, h⟩ := h
                refine gget hx hb hw hown hK hG kd_F f18 rfl 0 (by decide) rfl tw_184 (fun _ h9 => h9) d_H_come_85 ?_
                refine gtopq (fun o19 eo19 => ?_)
                replace h := h o19 eo19
                obtain ⟨y20, ey20, h⟩ := h
                subst ey20
                obtain ⟨f21, h⟩ := h
                -- call AL_size
                refine gpi hK hG (va_runV (As := []) (rest := [.ref q13, .ref q13]) ⟨hx, hb, hml, hown, hw⟩ (m_AL_size l x S14 _ y20 f21 h) ⟨gcb hw tw_284 tw_32 tw_281 hd_AL_size rfl rfl ⟨(Nat.le_of_ble_eq_true rfl), (Nat.le_of_ble_eq_true rfl)⟩, hw _ tw_282, hw _ tw_283⟩ (gpV hK hG kd_AL f21 rfl) rfl rfl hl0.1 rfl (lv_room (Nat.le_of_ble_eq_true rfl)) d_H_come_88 ⟨(Nat.le_of_ble_eq_true rfl), (Nat.le_of_ble_eq_true rfl)⟩) (fun r22 H locs h9 hG => ?_)
                replace h := h9
                clear h9
                refine lv_aload_n hx hb d_H_come_91 rfl (lv_at hl0 0 rfl) ?_
                refine gget hx hb hw hown hK hG kd_H fa0 rfl 2 (by decide) rfl tw_263 (fun _ h9 => h9) d_H_come_92 ?_
                refine gtopq (fun o23 eo23 => ?_)
                replace h := h o23 eo23
                -- call R_init
                refine gcv hK hG (va_runI (As := [.int r22, va_rf o23]) (rest := [.ref q13]) ⟨hx, hb, hml, hown, hw⟩ (m_R_init l x S14 _ q13 r22 o23 f15 h) ⟨gcb hw tw_571 tw_52 tw_569 hd_R_init rfl rfl ⟨(Nat.le_of_ble_eq_true rfl), (Nat.le_of_ble_eq_true rfl)⟩, rfl, hw _ tw_570⟩ (gpS hK hG) rfl rfl hl0.1 rfl (lv_room (Nat.le_of_ble_eq_true rfl)) d_H_come_95 ⟨(Nat.le_of_ble_eq_true rfl), (Nat.le_of_ble_eq_true rfl)⟩) (fun S24 H locs h9 hle1 hG => ?_)
                replace h := h9
                clear h9
                have fa0 := gle_isA hle1 fa0
                have f4 := gle_isA hle1 f4
                have f7 := gle_isA hle1 f7
                have f11 := gle_isA hle1 f11
                have f15 := gle_isA hle1 f15
                have f18 := gle_isA hle1 f18
                have f21 := gle_isA hle1 f21
                have leS := leS.tr hle1
                refine lv_astore (lv' := [(5, .ref q13), (0, .ref a0), (1, .int a1), (2, .int a2), (3, .int a3), (4, .int a4)]) hx hb d_H_come_98 hl0 (by decide) rfl (fun ls hl25 => ?_)
                refine lv_aload hx hb d_H_come_100 (lv_at hl25 0 rfl) ?_
                refine lv_iload_n hx hb d_H_come_102 rfl (lv_at hl25 2 rfl) ?_
                refine gput (S' := pI S24 7 q13 a1) hx hb hw hown hK hG kd_R f15 rfl 1 (by decide) (gChI f15 rfl) tw_579 (fun _ h9 => h9) rfl rfl rfl rfl (Nat.le_of_ble_eq_true rfl) d_H_come_103 (fun S26 H locs eS26 hle1 hG => ?_)
                replace h := h S26 eS26
                have fa0 := gle_isA hle1 fa0
                have f4 := gle_isA hle1 f4
                have f7 := gle_isA hle1 f7
                have f11 := gle_isA hle1 f11
                have f15 := gle_isA hle1 f15
                have f18 := gle_isA hle1 f18
                have f21 := gle_isA hle1 f21
                have leS := leS.tr hle1
                refine lv_aload hx hb d_H_come_106 (lv_at hl25 0 rfl) ?_
                refine lv_iload_n hx hb d_H_come_108 rfl (lv_at hl25 3 rfl) ?_
                refine gput (S' := pI S26 8 q13 a2) hx hb hw hown hK hG kd_R f15 rfl 2 (by decide) (gChI f15 rfl) tw_583 (fun _ h9 => h9) rfl rfl rfl rfl (Nat.le_of_ble_eq_true rfl) d_H_come_109 (fun S27 H locs eS27 hle1 hG => ?_)
                replace h := h S27 eS27
                have fa0 := gle_isA hle1 fa0
                have f4 := gle_isA hle1 f4
                have f7 := gle_isA hle1 f7
                have f11 := gle_isA hle1 f11
                have f15 := gle_isA hle1 f15
                have f18 := gle_isA hle1 f18
                have f21 := gle_isA hle1 f21
                have leS := leS.tr hle1
                refine lv_aload hx hb d_H_come_112 (lv_at hl25 0 rfl) ?_
                refine lv_iload_n hx hb d_H_come_114 rfl (lv_at hl25 4 rfl) ?_
                refine gput (S' := pI S27 9 q13 a3) hx hb hw hown hK hG kd_R f15 rfl 3 (by decide) (gChI f15 rfl) tw_585 (fun _ h9 => h9) rfl rfl rfl rfl (Nat.le_of_ble_eq_true rfl) d_H_come_115 (fun S28 H locs eS28 hle1 hG => ?_)
                replace h := h S28 eS28
                have fa0 := gle_isA hle1 fa0
                have f4 := gle_isA hle1 f4
                have f7 := gle_isA hle1 f7
                have f11 := gle_isA hle1 f11
                have f15 := gle_isA hle1 f15
                have f18 := gle_isA hle1 f18
                have f21 := gle_isA hle1 f21
                have leS := leS.tr hle1
                refine lv_aload hx hb d_H_come_118 (lv_at hl25 0 rfl) ?_
                refine lv_iload hx hb d_H_come_120 (lv_at hl25 5 rfl) ?_
                refine gput (S' := pI S28 11 q13 a4) hx hb hw hown hK hG kd_R f15 rfl 5 (by decide) (gChI f15 rfl) tw_591 (fun _ h9 => h9) rfl rfl rfl rfl (Nat.le_of_ble_eq_true rfl) d_H_come_122 (fun S29 H locs eS29 hle1 hG => ?_)
                replace h := h S29 eS29
                have fa0 := gle_isA hle1 fa0
                have f4 := gle_isA hle1 f4
                have f7 := gle_isA hle1 f7
                have f11 := gle_isA hle1 f11
                have f15 := gle_isA hle1 f15
                have f18 := gle_isA hle1 f18
                have f21 := gle_isA hle1 f21
                have leS := leS.tr hle1
                refine lv_aload_n hx hb d_H_come_125 rfl (lv_at hl25 1 rfl) ?_
                refine gget hx hb hw hown hK hG kd_H fa0 rfl 3 (by decide) rfl tw_264 (fun _ h9 => h9) d_H_come_126 ?_
                refine gtopq (fun o30 eo30 => ?_)
                replace h := h o30 eo30
                obtain ⟨y31, ey31, h⟩ := h
                subst ey31
                obtain ⟨f32, h⟩ := h
                refine gget hx hb hw hown hK hG kd_F f32 rfl 0 (by decide) rfl tw_184 (fun _ h9 => h9) d_H_come_129 ?_
                refine gtopq (fun o33 eo33 => ?_)
                replace h := h o33 eo33
                refine lv_aload hx hb d_H_come_132 (lv_at hl25 0 rfl) ?_
                obtain ⟨y34, ey34, h⟩ := h
                subst ey34
                obtain ⟨f35, h⟩ := h
                -- call AL_add1
                refine gci hK hG (va_runV (As := [.ref q13]) (rest := []) ⟨hx, hb, hml, hown, hw⟩ (m_AL_add1 l x S29 _ y34 (some q13) f35 h) ⟨gcb hw tw_198 tw_32 tw_195 hd_AL_add1 rfl rfl ⟨(Nat.le_of_ble_eq_true rfl), (Nat.le_of_ble_eq_true rfl)⟩, hw _ tw_196, hw _ tw_197⟩ (gpV hK hG kd_AL f35 rfl) rfl rfl hl25.1 rfl (lv_room (Nat.le_of_ble_eq_true rfl)) d_H_come_134 ⟨(Nat.le_of_ble_eq_true rfl), (Nat.le_of_ble_eq_true rfl)⟩) (fun r36 S37 H locs h9 hle1 hG => ?_)
                replace h := h9
                clear h9
                have fa0 := gle_isA hle1 fa0
                have f4 := gle_isA hle1 f4
                have f7 := gle_isA hle1 f7
                have f11 := gle_isA hle1 f11
                have f15 := gle_isA hle1 f15
                have f18 := gle_isA hle1 f18
                have f21 := gle_isA hle1 f21
                have f32 := gle_isA hle1 f32
                have f35 := gle_isA hle1 f35
                have leS := leS.tr hle1
                refine lv_pop hx hb d_H_come_137 rfl ?_
                refine lv_aload hx hb d_H_come_138 (lv_at hl25 0 rfl) ?_
                refine gget hx hb hw hown hK hG kd_R f15 rfl 0 (by decide) rfl tw_575 (fun _ h9 => h9) d_H_come_140 ?_
                refine vx_ret ?_
                exact giret hx hb hr hlocks hK hG leS h (Nat.le_of_ble_eq_true rfl) (Nat.le_of_ble_eq_true rfl) d_H_come_143
              · replace h := h.2 y38 e9
                subst e9
                exact gthrow (own := "WaltzHall") (E := "java/lang/IllegalStateException") (text := "the tile is taken, or the hall is full") ["java/lang/RuntimeException", "java/lang/Exception"] hx hb hlt hw hown hK hG (by decide +kernel) (by decide +kernel) tw_363 tw_48 (by decide) ta_H_70 tg_H_70_66 (hl0.1.trans hml.symm) d_H_come_67 d_H_come_70 d_H_come_71 d_H_come_73 d_H_come_76 htab (Nat.le_of_ble_eq_true rfl) (Nat.le_of_ble_eq_true rfl) (Nat.le_of_ble_eq_true rfl) (Nat.le_of_ble_eq_true rfl) hlocks leS h (Nat.le_of_ble_eq_true rfl) (Nat.le_of_ble_eq_true rfl)
          · replace h := h.2 hc40
            exact gthrow (own := "WaltzHall") (E := "java/lang/IllegalArgumentException") (text := "no such tile, face or cost") ["java/lang/RuntimeException", "java/lang/Exception"] hx hb hlt hw hown hK hG (by decide +kernel) (by decide +kernel) tw_442 tw_49 (by decide) ta_H_85 tg_H_85_81 (hl0.1.trans hml.symm) d_H_come_30 d_H_come_33 d_H_come_34 d_H_come_36 d_H_come_39 htab (Nat.le_of_ble_eq_true rfl) (Nat.le_of_ble_eq_true rfl) (Nat.le_of_ble_eq_true rfl) (Nat.le_of_ble_eq_true rfl) hlocks leS h (Nat.le_of_ble_eq_true rfl) (Nat.le_of_ble_eq_true rfl)
def w_H_neededDancer (post : Option Nat → Prop) (px : String → Prop) (S : St) (a0 : Nat) (a1 : Int32) : Prop :=
  ∀ o1 : Option Nat, o1 = sQ S 36 a0 → ∃ y2 : Nat, o1 = some y2 ∧ isA S 3 y2 ∧ w_F_dancerOrNull (fun (o4 : Option Nat) => (o4 = none → px "java/lang/IndexOutOfBoundsException") ∧ (∀ y6 : Nat, o4 = some y6 → post (some y6))) S y2 a1
set_option maxHeartbeats 4000000 in
set_option maxRecDepth 100000 in
theorem m_H_neededDancer (l : Launch) (hlt : l.stackTraces = false) (x : Cx) (S : St) (post : Option Nat → Prop) (px : String → Prop) (a0 : Nat) (a1 : Int32) (fa0 : isA S 6 a0) (h : w_H_neededDancer post px S a0 a1) : vx_Met l y_H_neededDancer [.code y_H_neededDancer c_H_neededDancer 3 (some (.object "WaltzHall$Dancer"))] { frames := 6, cells := 1, slots := 6, locals := 90 } (va_Pc [.ref a0, .int a1] (GW x S)) (va_Qq (gPu post S) (gB x S) (xA x)) (gX x S (gPx px S)) 1 6 (xA x) := by
  refine gMetX (by decide +kernel) (Nat.le_of_ble_eq_true rfl) ?_
  intro p e s m args below meth c hx hb hr hown hlocks hin hw hK H locs hG ls hlA hml htab
  have hown : s.vm.findClass "WaltzHall" = some m.cls := hown
  have hl0 : lv_has ls 3 [(0, .ref a0), (1, .int a1)] := hlA
  unfold w_H_neededDancer at h
  refine lv_aload_n hx hb d_H_neededDancer_0 rfl (lv_at hl0 0 rfl) ?_
  refine gget hx hb hw hown hK hG kd_H fa0 rfl 3 (by decide) rfl tw_264 (fun _ h9 => h9) d_H_neededDancer_1 ?_
  refine gtopq (fun o1 eo1 => ?_)
  replace h := h o1 eo1
  refine lv_iload_n hx hb d_H_neededDancer_4 rfl (lv_at hl0 1 rfl) ?_
  obtain ⟨y2, ey2, h⟩ := h
  subst ey2
  obtain ⟨f3, h⟩ := h
  -- call F_dancerOrNull
  refine gpq hK hG (va_runV (As := [.int a1]) (rest := []) ⟨hx, hb, hml, hown, hw⟩ (m_F_dancerOrNull l x S _ y2 a1 f3 h) ⟨gcb hw tw_658 tw_38 tw_655 hd_F_dancerOrNull rfl rfl ⟨(Nat.le_of_ble_eq_true rfl), (Nat.le_of_ble_eq_true rfl)⟩, hw _ tw_656, hw _ tw_657⟩ (gpV hK hG kd_F f3 rfl) rfl rfl hl0.1 rfl (lv_room (Nat.le_of_ble_eq_true rfl)) d_H_neededDancer_5 ⟨(Nat.le_of_ble_eq_true rfl), (Nat.le_of_ble_eq_true rfl)⟩) (fun o4 H locs h9 hG => ?_)
  replace h := h9
  clear h9
  refine gastore_n (i := 2) (lv' := [(2, va_rf o4), (0, .ref a0), (1, .int a1)]) hx hb d_H_neededDancer_8 rfl hl0 (by decide) rfl (fun ls hl5 => ?_)
  refine gaload_n hx hb d_H_neededDancer_9 rfl (lv_at hl5 0 rfl) ?_
  refine gifnonnull (tgt := 24) hx hb d_H_neededDancer_10 (by decide) (fun y6 e9 => ?_) (fun e9 => ?_)
  · replace h := h.2 y6 e9
    subst e9
    refine lv_aload_n hx hb d_H_neededDancer_24 rfl (lv_at hl5 0 rfl) ?_
    refine vx_ret ?_
    exact garet (o := (some y6)) hx hb hr (Or.inl ⟨_, rfl⟩) hlocks hK hG gle.rf ⟨h, rfl⟩ (Nat.le_of_ble_eq_true rfl) (Nat.le_of_ble_eq_true rfl) d_H_neededDancer_25
  · replace h := h.1 e9
    subst e9
    exact gthrowW (own := "WaltzHall") (E := "java/lang/IndexOutOfBoundsException") (text := "no such dancer") ["java/lang/RuntimeException", "java/lang/Exception"] hx hb hlt hw hown hK hG (by decide +kernel) (by decide +kernel) tw_470 tw_50 (by decide) ta_H_103 tg_H_103_99 (hl5.1.trans hml.symm) d_H_neededDancer_13 d_H_neededDancer_16 d_H_neededDancer_17 d_H_neededDancer_20 d_H_neededDancer_23 htab (Nat.le_of_ble_eq_true rfl) (Nat.le_of_ble_eq_true rfl) (Nat.le_of_ble_eq_true rfl) (Nat.le_of_ble_eq_true rfl) hlocks gle.rf ⟨h, rfl⟩ (Nat.le_of_ble_eq_true rfl) (Nat.le_of_ble_eq_true rfl)
def w_H_dance (post : Int32 → St → Prop) (px : String → St → Prop) (S : St) (a0 : Nat) (a1 : Int32) (a2 : Int32) : Prop :=
  w_H_neededDancer (fun (o1 : Option Nat) => w_H_neededDance (fun (o3 : Option Nat) => ∃ y5 : Nat, o1 = some y5 ∧ isA S 2 y5 ∧ ∀ o7 : Option Nat, o7 = sQ S 12 y5 → ∃ y8 : Nat, o7 = some y8 ∧ isA S 1 y8 ∧ ∀ v10 : Int32, v10 = sI S 3 y8 → ∀ S12 : St, S12 = pQ S 12 y5 o3 → ∀ S13 : St, S13 = pI S12 13 y5 0 → post v10 S13) (fun E => px E S) S a0 a2) (fun E => px E S) S a0 a1
set_option maxHeartbeats 4000000 in
set_option maxRecDepth 100000 in
theorem m_H_dance (l : Launch) (hlt : l.stackTraces = false) (x : Cx) (S : St) (post : Int32 → St → Prop) (px : String → St → Prop) (a0 : Nat) (a1 : Int32) (a2 : Int32) (fa0 : isA S 6 a0) (h : w_H_dance post px S a0 a1 a2) : vx_Met l y_H_dance [.code y_H_dance c_H_dance 6 (some .int)] { frames := 7, cells := 2, slots := 12, locals := 112 } (va_Pc [.ref a0, .int a1, .int a2] (GW x S)) (va_Qi post (gB x S) (xA x)) (gX x S px) 2 12 (xA x) := by
  refine gMetX (by decide +kernel) (Nat.le_of_ble_eq_true rfl) ?_
  intro p e s m args below meth c hx hb hr hown hlocks hin hw hK H locs hG ls hlA hml htab
  have hown : s.vm.findClass "WaltzHall" = some m.cls := hown
  have hl0 : lv_has ls 6 [(0, .ref a0), (1, .int a1), (2, .int a2)] := hlA
  have leS : gle S S := gle.rf
  unfold w_H_dance at h
  refine lv_aload_n hx hb d_H_dance_0 rfl (lv_at hl0 0 rfl) ?_
  refine lv_iload_n hx hb d_H_dance_1 rfl (lv_at hl0 1 rfl) ?_
  -- call H_neededDancer
  refine gxpq hG (vx_runV (As := [.int a1]) (rest := []) ⟨hx, hb, hml, hown, hw⟩ (m_H_neededDancer l hlt x S _ _ a0 a1 fa0 h) ⟨gcb hw tw_654 tw_28 tw_651 hd_H_neededDancer rfl rfl ⟨(Nat.le_of_ble_eq_true rfl), (Nat.le_of_ble_eq_true rfl)⟩, hw _ tw_653, hw _ tw_7⟩ (gpV hK hG kd_H fa0 rfl) rfl rfl hl0.1 rfl (lv_room (Nat.le_of_ble_eq_true rfl)) d_H_dance_2 ⟨(Nat.le_of_ble_eq_true rfl), (Nat.le_of_ble_eq_true rfl)⟩) htab hlocks leS (fun _ h9 => h9) (Nat.le_of_ble_eq_true rfl) (Nat.le_of_ble_eq_true rfl) (fun o1 H locs h9 hG => ?_)
  replace h := h9
  clear h9
  refine gastore_n (i := 3) (lv' := [(3, va_rf o1), (0, .ref a0), (1, .int a1), (2, .int a2)]) hx hb d_H_dance_5 rfl hl0 (by decide) rfl (fun ls hl2 => ?_)
  refine lv_aload_n hx hb d_H_dance_6 rfl (lv_at hl2 1 rfl) ?_
  refine lv_iload_n hx hb d_H_dance_7 rfl (lv_at hl2 3 rfl) ?_
  -- call H_neededDance
  refine gxpq hG (vx_runV (As := [.int a2]) (rest := []) ⟨hx, hb, hml, hown, hw⟩ (m_H_neededDance l hlt x S _ _ a0 a2 fa0 h) ⟨gcb hw tw_469 tw_28 tw_466 hd_H_neededDance rfl rfl ⟨(Nat.le_of_ble_eq_true rfl), (Nat.le_of_ble_eq_true rfl)⟩, hw _ tw_468, hw _ tw_6⟩ (gpV hK hG kd_H fa0 rfl) rfl rfl hl2.1 rfl (lv_room (Nat.le_of_ble_eq_true rfl)) d_H_dance_8 ⟨(Nat.le_of_ble_eq_true rfl), (Nat.le_of_ble_eq_true rfl)⟩) htab hlocks leS (fun _ h9 => h9) (Nat.le_of_ble_eq_true rfl) (Nat.le_of_ble_eq_true rfl) (fun o3 H locs h9 hG => ?_)
  replace h := h9
  clear h9
  refine gastore (lv' := [(4, va_rf o3), (3, va_rf o1), (0, .ref a0), (1, .int a1), (2, .int a2)]) hx hb d_H_dance_11 hl2 (by decide) (by simp [gCat, gCatB, gci1, gcr1, gcl1, gcd1] <;> rfl) (fun ls hl4 => ?_)
  refine gaload_n hx hb d_H_dance_13 rfl (lv_at hl4 1 rfl) ?_
  obtain ⟨y5, ey5, h⟩ := h
  subst ey5
  obtain ⟨f6, h⟩ := h
  refine gget hx hb hw hown hK hG kd_R f6 rfl 6 (by decide) rfl tw_594 (fun _ h9 => h9) d_H_dance_14 ?_
  refine gtopq (fun o7 eo7 => ?_)
  replace h := h o7 eo7
  obtain ⟨y8, ey8, h⟩ := h
  subst ey8
  obtain ⟨f9, h⟩ := h
  refine gget hx hb hw hown hK hG kd_D f9 rfl 0 (by decide) rfl tw_162 (fun _ h9 => h9) d_H_dance_17 ?_
  refine lv_topi (fun v10 ev10 => ?_)
  replace h := h v10 ev10
  refine lv_istore (lv' := [(5, .int v10), (4, va_rf o3), (3, .ref y5), (0, .ref a0), (1, .int a1), (2, .int a2)]) hx hb d_H_dance_20 hl4 (by decide) (by simp [gCat, gCatB, gci1, gcr1, gcl1, gcd1] <;> rfl) (fun ls hl11 => ?_)
  refine lv_aload_n hx hb d_H_dance_22 rfl (lv_at hl11 2 rfl) ?_
  refine gaload hx hb d_H_dance_23 (lv_at hl11 1 rfl) ?_
  refine gput (S' := pQ S 12 y5 o3) hx hb hw hown hK hG kd_R f6 rfl 6 (by decide) (gChQ f6 rfl) tw_594 (fun _ h9 => h9) rfl rfl (gNo _ _) (gFo _ _) (Nat.le_of_ble_eq_true rfl) d_H_dance_25 (fun S12 H locs eS12 hle1 hG => ?_)
  replace h := h S12 eS12
  have fa0 := gle_isA hle1 fa0
  have f6 := gle_isA hle1 f6
  have f9 := gle_isA hle1 f9
  have leS := leS.tr hle1
  refine lv_aload_n hx hb d_H_dance_28 rfl (lv_at hl11 2 rfl) ?_
  refine lv_iconst (v := 0) hx hb d_H_dance_29 (by decide) ?_
  refine gput (S' := pI S12 13 y5 0) hx hb hw hown hK hG kd_R f6 rfl 7 (by decide) (gChI f6 rfl) tw_597 (fun _ h9 => h9) rfl rfl rfl rfl (Nat.le_of_ble_eq_true rfl) d_H_dance_30 (fun S13 H locs eS13 hle1 hG => ?_)
  replace h := h S13 eS13
  have fa0 := gle_isA hle1 fa0
  have f6 := gle_isA hle1 f6
  have f9 := gle_isA hle1 f9
  have leS := leS.tr hle1
  refine lv_iload hx hb d_H_dance_33 (lv_at hl11 0 rfl) ?_
  refine vx_ret ?_
  exact giret hx hb hr hlocks hK hG leS h (Nat.le_of_ble_eq_true rfl) (Nat.le_of_ble_eq_true rfl) d_H_dance_35
def w_H_pair (post : Int32 → St → Prop) (px : String → St → Prop) (S : St) (a0 : Nat) (a1 : Int32) (a2 : Int32) : Prop :=
  w_H_neededDancer (fun (o1 : Option Nat) => w_H_neededDancer (fun (o3 : Option Nat) => (a1 = a2 → px "java/lang/IllegalArgumentException" S) ∧ (¬ a1 = a2 → ∃ y5 : Nat, o1 = some y5 ∧ isA S 2 y5 ∧ ∀ o7 : Option Nat, o7 = sQ S 14 y5 → (o7 = none → ∃ y8 : Nat, o3 = some y8 ∧ isA S 2 y8 ∧ ∀ o10 : Option Nat, o10 = sQ S 14 y8 → (o10 = none → w_R_isBeside (fun (r11 : Int32) => (r11 = 0 → px "java/lang/IllegalStateException" S) ∧ (¬ r11 = 0 → ∀ S12 : St, S12 = pQ S 14 y5 (some y8) → ∀ S13 : St, S13 = pQ S12 14 y8 (some y5) → ∀ S14 : St, S14 = pI S13 15 y8 1 → ∀ o15 : Option Nat, o15 = sQ S14 36 a0 → ∃ y16 : Nat, o15 = some y16 ∧ isA S14 3 y16 ∧ w_F_sumOfTold (fun (r18 : Int32) => post r18 S14) S14 y16 8)) S y5 (some y8)) ∧ (∀ y20 : Nat, o10 = some y20 → px "java/lang/IllegalStateException" S)) ∧ (∀ y21 : Nat, o7 = some y21 → px "java/lang/IllegalStateException" S))) (fun E => px E S) S a0 a2) (fun E => px E S) S a0 a1
set_option maxHeartbeats 4000000 in
set_option maxRecDepth 100000 in
theorem m_H_pair (l : Launch) (hlt : l.stackTraces = false) (x : Cx) (S : St) (post : Int32 → St → Prop) (px : String → St → Prop) (a0 : Nat) (a1 : Int32) (a2 : Int32) (fa0 : isA S 6 a0) (h : w_H_pair post px S a0 a1 a2) : vx_Met l y_H_pair [.code y_H_pair c_H_pair 5 (some .int)] { frames := 7, cells := 3, slots := 18, locals := 112 } (va_Pc [.ref a0, .int a1, .int a2] (GW x S)) (va_Qi post (gB x S) (xA x)) (gX x S px) 3 18 (xA x) := by
  refine gMetX (by decide +kernel) (Nat.le_of_ble_eq_true rfl) ?_
  intro p e s m args below meth c hx hb hr hown hlocks hin hw hK H locs hG ls hlA hml htab
  have hown : s.vm.findClass "WaltzHall" = some m.cls := hown
  have hl0 : lv_has ls 5 [(0, .ref a0), (1, .int a1), (2, .int a2)] := hlA
  have leS : gle S S := gle.rf
  unfold w_H_pair at h
  refine lv_aload_n hx hb d_H_pair_0 rfl (lv_at hl0 0 rfl) ?_
  refine lv_iload_n hx hb d_H_pair_1 rfl (lv_at hl0 1 rfl) ?_
  -- call H_neededDancer
  refine gxpq hG (vx_runV (As := [.int a1]) (rest := []) ⟨hx, hb, hml, hown, hw⟩ (m_H_neededDancer l hlt x S _ _ a0 a1 fa0 h) ⟨gcb hw tw_654 tw_28 tw_651 hd_H_neededDancer rfl rfl ⟨(Nat.le_of_ble_eq_true rfl), (Nat.le_of_ble_eq_true rfl)⟩, hw _ tw_653, hw _ tw_7⟩ (gpV hK hG kd_H fa0 rfl) rfl rfl hl0.1 rfl (lv_room (Nat.le_of_ble_eq_true rfl)) d_H_pair_2 ⟨(Nat.le_of_ble_eq_true rfl), (Nat.le_of_ble_eq_true rfl)⟩) htab hlocks leS (fun _ h9 => h9) (Nat.le_of_ble_eq_true rfl) (Nat.le_of_ble_eq_true rfl) (fun o1 H locs h9 hG => ?_)
  replace h := h9
  clear h9
  refine gastore_n (i := 3) (lv' := [(3, va_rf o1), (0, .ref a0), (1, .int a1), (2, .int a2)]) hx hb d_H_pair_5 rfl hl0 (by decide) rfl (fun ls hl2 => ?_)
  refine lv_aload_n hx hb d_H_pair_6 rfl (lv_at hl2 1 rfl) ?_
  refine lv_iload_n hx hb d_H_pair_7 rfl (lv_at hl2 3 rfl) ?_
  -- call H_neededDancer
  refine gxpq hG (vx_runV (As := [.int a2]) (rest := []) ⟨hx, hb, hml, hown, hw⟩ (m_H_neededDancer l hlt x S _ _ a0 a2 fa0 h) ⟨gcb hw tw_654 tw_28 tw_651 hd_H_neededDancer rfl rfl ⟨(Nat.le_of_ble_eq_true rfl), (Nat.le_of_ble_eq_true rfl)⟩, hw _ tw_653, hw _ tw_7⟩ (gpV hK hG kd_H fa0 rfl) rfl rfl hl2.1 rfl (lv_room (Nat.le_of_ble_eq_true rfl)) d_H_pair_8 ⟨(Nat.le_of_ble_eq_true rfl), (Nat.le_of_ble_eq_true rfl)⟩) htab hlocks leS (fun _ h9 => h9) (Nat.le_of_ble_eq_true rfl) (Nat.le_of_ble_eq_true rfl) (fun o3 H locs h9 hG => ?_)
  replace h := h9
  clear h9
  refine gastore (lv' := [(4, va_rf o3), (3, va_rf o1), (0, .ref a0), (1, .int a1), (2, .int a2)]) hx hb d_H_pair_11 hl2 (by decide) (by simp [gCat, gCatB, gci1, gcr1, gcl1, gcd1] <;> rfl) (fun ls hl4 => ?_)
  refine lv_iload_n hx hb d_H_pair_13 rfl (lv_at hl4 3 rfl) ?_
  refine lv_iload_n hx hb d_H_pair_14 rfl (lv_at hl4 4 rfl) ?_
  refine lv_icmp_ne (tgt := 28) hx hb d_H_pair_15 (by decide) (fun hc22 => ?_) (fun hc22 => ?_)
  · replace h := h.2 hc22
    refine gaload_n hx hb d_H_pair_28 rfl (lv_at hl4 1 rfl) ?_
    obtain ⟨y5, ey5, h⟩ := h
    subst ey5
    obtain ⟨f6, h⟩ := h
    refine gget hx hb hw hown hK hG kd_R f6 rfl 8 (by decide) rfl tw_600 (fun _ h9 => h9) d_H_pair_29 ?_
    refine gtopq (fun o7 eo7 => ?_)
    replace h := h o7 eo7
    refine gifnonnull (tgt := 52) hx hb d_H_pair_32 (by decide) (fun y21 e9 => ?_) (fun e9 => ?_)
    · replace h := h.2 y21 e9
      subst e9
      exact gthrow (own := "WaltzHall") (E := "java/lang/IllegalStateException") (text := "one is in a couple, or they are not beside each other") ["java/lang/RuntimeException", "java/lang/Exception"] hx hb hlt hw hown hK hG (by decide +kernel) (by decide +kernel) tw_363 tw_48 (by decide) ta_H_70 tg_H_70_66 (hl4.1.trans hml.symm) d_H_pair_52 d_H_pair_55 d_H_pair_56 d_H_pair_58 d_H_pair_61 htab (Nat.le_of_ble_eq_true rfl) (Nat.le_of_ble_eq_true rfl) (Nat.le_of_ble_eq_true rfl) (Nat.le_of_ble_eq_true rfl) hlocks leS h (Nat.le_of_ble_eq_true rfl) (Nat.le_of_ble_eq_true rfl)
    · replace h := h.1 e9
      subst e9
      refine gaload hx hb d_H_pair_35 (lv_at hl4 0 rfl) ?_
      obtain ⟨y8, ey8, h⟩ := h
      subst ey8
      obtain ⟨f9, h⟩ := h
      refine gget hx hb hw hown hK hG kd_R f9 rfl 8 (by decide) rfl tw_600 (fun _ h9 => h9) d_H_pair_37 ?_
      refine gtopq (fun o10 eo10 => ?_)
      replace h := h o10 eo10
      refine gifnonnull (tgt := 52) hx hb d_H_pair_40 (by decide) (fun y20 e9 => ?_) (fun e9 => ?_)
      · replace h := h.2 y20 e9
        subst e9
        exact gthrow (own := "WaltzHall") (E := "java/lang/IllegalStateException") (text := "one is in a couple, or they are not beside each other") ["java/lang/RuntimeException", "java/lang/Exception"] hx hb hlt hw hown hK hG (by decide +kernel) (by decide +kernel) tw_363 tw_48 (by decide) ta_H_70 tg_H_70_66 (hl4.1.trans hml.symm) d_H_pair_52 d_H_pair_55 d_H_pair_56 d_H_pair_58 d_H_pair_61 htab (Nat.le_of_ble_eq_true rfl) (Nat.le_of_ble_eq_true rfl) (Nat.le_of_ble_eq_true rfl) (Nat.le_of_ble_eq_true rfl) hlocks leS h (Nat.le_of_ble_eq_true rfl) (Nat.le_of_ble_eq_true rfl)
      · replace h := h.1 e9
        subst e9
        refine lv_aload_n hx hb d_H_pair_43 rfl (lv_at hl4 1 rfl) ?_
        refine lv_aload hx hb d_H_pair_44 (lv_at hl4 0 rfl) ?_
        -- call R_isBeside
        refine gpi hK hG (va_runV (As := [.ref y8]) (rest := []) ⟨hx, hb, hml, hown, hw⟩ (m_R_isBeside l x S _ y5 (some y8) f6 h) ⟨gcb hw tw_671 tw_52 tw_668 hd_R_isBeside rfl rfl ⟨(Nat.le_of_ble_eq_true rfl), (Nat.le_of_ble_eq_true rfl)⟩, hw _ tw_669, hw _ tw_670⟩ (gpV hK hG kd_R f6 rfl) rfl rfl hl4.1 rfl (lv_room (Nat.le_of_ble_eq_true rfl)) d_H_pair_46 ⟨(Nat.le_of_ble_eq_true rfl), (Nat.le_of_ble_eq_true rfl)⟩) (fun r11 H locs h9 hG => ?_)
        replace h := h9
        clear h9
        refine lv_if_ne (tgt := 62) hx hb d_H_pair_49 (by decide) (fun hc19 => ?_) (fun hc19 => ?_)
        · replace h := h.2 hc19
          refine lv_aload_n hx hb d_H_pair_62 rfl (lv_at hl4 1 rfl) ?_
          refine lv_aload hx hb d_H_pair_63 (lv_at hl4 0 rfl) ?_
          refine gput (S' := pQ S 14 y5 (some y8)) hx hb hw hown hK hG kd_R f6 rfl 8 (by decide) (gChQ f6 rfl) tw_600 (fun _ h9 => h9) rfl rfl rfl rfl (Nat.le_of_ble_eq_true rfl) d_H_pair_65 (fun S12 H locs eS12 hle1 hG => ?_)
          replace h := h S12 eS12
          have fa0 := gle_isA hle1 fa0
          have f6 := gle_isA hle1 f6
          have f9 := gle_isA hle1 f9
          have leS := leS.tr hle1
          refine lv_aload hx hb d_H_pair_68 (lv_at hl4 0 rfl) ?_
          refine lv_aload_n hx hb d_H_pair_70 rfl (lv_at hl4 1 rfl) ?_
          refine gput (S' := pQ S12 14 y8 (some y5)) hx hb hw hown hK hG kd_R f9 rfl 8 (by decide) (gChQ f9 rfl) tw_600 (fun _ h9 => h9) rfl rfl rfl rfl (Nat.le_of_ble_eq_true rfl) d_H_pair_71 (fun S13 H locs eS13 hle1 hG => ?_)
          replace h := h S13 eS13
          have fa0 := gle_isA hle1 fa0
          have f6 := gle_isA hle1 f6
          have f9 := gle_isA hle1 f9
          have leS := leS.tr hle1
          refine lv_aload hx hb d_H_pair_74 (lv_at hl4 0 rfl) ?_
          refine lv_iconst (v := 1) hx hb d_H_pair_76 (by decide) ?_
          refine gput (S' := pI S13 15 y8 1) hx hb hw hown hK hG kd_R f9 rfl 9 (by decide) (gChI f9 rfl) tw_603 (fun _ h9 => h9) rfl rfl rfl rfl (Nat.le_of_ble_eq_true rfl) d_H_pair_77 (fun S14 H locs eS14 hle1 hG => ?_)
          replace h := h S14 eS14
          have fa0 := gle_isA hle1 fa0
          have f6 := gle_isA hle1 f6
          have f9 := gle_isA hle1 f9
          have leS := leS.tr hle1
          refine lv_aload_n hx hb d_H_pair_80 rfl (lv_at hl4 2 rfl) ?_
          refine gget hx hb hw hown hK hG kd_H fa0 rfl 3 (by decide) rfl tw_264 (fun _ h9 => h9) d_H_pair_81 ?_
          refine gtopq (fun o15 eo15 => ?_)
          replace h := h o15 eo15
          refine lv_bipush (v := 8) hx hb d_H_pair_84 (by decide) ?_
          obtain ⟨y16, ey16, h⟩ := h
          subst ey16
          obtain ⟨f17, h⟩ := h
          -- call F_sumOfTold
          refine gpi hK hG (va_runV (As := [.int 8]) (rest := []) ⟨hx, hb, hml, hown, hw⟩ (m_F_sumOfTold l x S14 _ y16 8 f17 h) ⟨gcb hw tw_288 tw_38 tw_285 hd_F_sumOfTold rfl rfl ⟨(Nat.le_of_ble_eq_true rfl), (Nat.le_of_ble_eq_true rfl)⟩, hw _ tw_286, hw _ tw_287⟩ (gpV hK hG kd_F f17 rfl) rfl rfl hl4.1 rfl (lv_room (Nat.le_of_ble_eq_true rfl)) d_H_pair_86 ⟨(Nat.le_of_ble_eq_true rfl), (Nat.le_of_ble_eq_true rfl)⟩) (fun r18 H locs h9 hG => ?_)
          replace h := h9
          clear h9
          refine vx_ret ?_
          exact giret hx hb hr hlocks hK hG leS h (Nat.le_of_ble_eq_true rfl) (Nat.le_of_ble_eq_true rfl) d_H_pair_89
        · replace h := h.1 hc19
          exact gthrow (own := "WaltzHall") (E := "java/lang/IllegalStateException") (text := "one is in a couple, or they are not beside each other") ["java/lang/RuntimeException", "java/lang/Exception"] hx hb hlt hw hown hK hG (by decide +kernel) (by decide +kernel) tw_363 tw_48 (by decide) ta_H_70 tg_H_70_66 (hl4.1.trans hml.symm) d_H_pair_52 d_H_pair_55 d_H_pair_56 d_H_pair_58 d_H_pair_61 htab (Nat.le_of_ble_eq_true rfl) (Nat.le_of_ble_eq_true rfl) (Nat.le_of_ble_eq_true rfl) (Nat.le_of_ble_eq_true rfl) hlocks leS h (Nat.le_of_ble_eq_true rfl) (Nat.le_of_ble_eq_true rfl)
  · replace h := h.1 hc22
    exact gthrow (own := "WaltzHall") (E := "java/lang/IllegalArgumentException") (text := "nobody is a couple alone") ["java/lang/RuntimeException", "java/lang/Exception"] hx hb hlt hw hown hK hG (by decide +kernel) (by decide +kernel) tw_442 tw_49 (by decide) ta_H_85 tg_H_85_81 (hl4.1.trans hml.symm) d_H_pair_18 d_H_pair_21 d_H_pair_22 d_H_pair_24 d_H_pair_27 htab (Nat.le_of_ble_eq_true rfl) (Nat.le_of_ble_eq_true rfl) (Nat.le_of_ble_eq_true rfl) (Nat.le_of_ble_eq_true rfl) hlocks leS h (Nat.le_of_ble_eq_true rfl) (Nat.le_of_ble_eq_true rfl)
def w_H_part (post : Int32 → St → Prop) (px : String → St → Prop) (S : St) (a0 : Nat) (a1 : Int32) : Prop :=
  w_H_neededDancer (fun (o1 : Option Nat) => ∃ y3 : Nat, o1 = some y3 ∧ isA S 2 y3 ∧ ∀ o5 : Option Nat, o5 = sQ S 14 y3 → (o5 = none → px "java/lang/IllegalStateException" S) ∧ (∀ y7 : Nat, o5 = some y7 → w_R_standAlone (fun (S8 : St) => isA S8 2 y7 ∧ w_R_standAlone (fun (S10 : St) => post (sI S10 6 y7) S10) S8 y7) S y3)) (fun E => px E S) S a0 a1
set_option maxHeartbeats 4000000 in
set_option maxRecDepth 100000 in
theorem m_H_part (l : Launch) (hlt : l.stackTraces = false) (x : Cx) (S : St) (post : Int32 → St → Prop) (px : String → St → Prop) (a0 : Nat) (a1 : Int32) (fa0 : isA S 6 a0) (h : w_H_part post px S a0 a1) : vx_Met l y_H_part [.code y_H_part c_H_part 4 (some .int)] { frames := 7, cells := 2, slots := 12, locals := 112 } (va_Pc [.ref a0, .int a1] (GW x S)) (va_Qi post (gB x S) (xA x)) (gX x S px) 2 12 (xA x) := by
  refine gMetX (by decide +kernel) (Nat.le_of_ble_eq_true rfl) ?_
  intro p e s m args below meth c hx hb hr hown hlocks hin hw hK H locs hG ls hlA hml htab
  have hown : s.vm.findClass "WaltzHall" = some m.cls := hown
  have hl0 : lv_has ls 4 [(0, .ref a0), (1, .int a1)] := hlA
  have leS : gle S S := gle.rf
  unfold w_H_part at h
  refine lv_aload_n hx hb d_H_part_0 rfl (lv_at hl0 0 rfl) ?_
  refine lv_iload_n hx hb d_H_part_1 rfl (lv_at hl0 1 rfl) ?_
  -- call H_neededDancer
  refine gxpq hG (vx_runV (As := [.int a1]) (rest := []) ⟨hx, hb, hml, hown, hw⟩ (m_H_neededDancer l hlt x S _ _ a0 a1 fa0 h) ⟨gcb hw tw_654 tw_28 tw_651 hd_H_neededDancer rfl rfl ⟨(Nat.le_of_ble_eq_true rfl), (Nat.le_of_ble_eq_true rfl)⟩, hw _ tw_653, hw _ tw_7⟩ (gpV hK hG kd_H fa0 rfl) rfl rfl hl0.1 rfl (lv_room (Nat.le_of_ble_eq_true rfl)) d_H_part_2 ⟨(Nat.le_of_ble_eq_true rfl), (Nat.le_of_ble_eq_true rfl)⟩) htab hlocks leS (fun _ h9 => h9) (Nat.le_of_ble_eq_true rfl) (Nat.le_of_ble_eq_true rfl) (fun o1 H locs h9 hG => ?_)
  replace h := h9
  clear h9
  refine gastore_n (i := 2) (lv' := [(2, va_rf o1), (0, .ref a0), (1, .int a1)]) hx hb d_H_part_5 rfl hl0 (by decide) rfl (fun ls hl2 => ?_)
  refine gaload_n hx hb d_H_part_6 rfl (lv_at hl2 0 rfl) ?_
  obtain ⟨y3, ey3, h⟩ := h
  subst ey3
  obtain ⟨f4, h⟩ := h
  refine gget hx hb hw hown hK hG kd_R f4 rfl 8 (by decide) rfl tw_600 (fun _ h9 => h9) d_H_part_7 ?_
  refine gtopq (fun o5 eo5 => ?_)
  replace h := h o5 eo5
  refine gastore_n (i := 3) (lv' := [(3, va_rf o5), (2, .ref y3), (0, .ref a0), (1, .int a1)]) hx hb d_H_part_10 rfl hl2 (by decide) rfl (fun ls hl6 => ?_)
  refine gaload_n hx hb d_H_part_11 rfl (lv_at hl6 0 rfl) ?_
  refine gifnonnull (tgt := 25) hx hb d_H_part_12 (by decide) (fun y7 e9 => ?_) (fun e9 => ?_)
  · replace h := h.2 y7 e9
    subst e9
    refine lv_aload_n hx hb d_H_part_25 rfl (lv_at hl6 1 rfl) ?_
    -- call R_standAlone
    refine gcv hK hG (va_runV (As := []) (rest := []) ⟨hx, hb, hml, hown, hw⟩ (m_R_standAlone l x S _ y3 f4 h) ⟨gcb hw tw_690 tw_52 tw_687 hd_R_standAlone rfl rfl ⟨(Nat.le_of_ble_eq_true rfl), (Nat.le_of_ble_eq_true rfl)⟩, hw _ tw_688, hw _ tw_689⟩ (gpV hK hG kd_R f4 rfl) rfl rfl hl6.1 rfl (lv_room (Nat.le_of_ble_eq_true rfl)) d_H_part_26 ⟨(Nat.le_of_ble_eq_true rfl), (Nat.le_of_ble_eq_true rfl)⟩) (fun S8 H locs h9 hle1 hG => ?_)
    replace h := h9
    clear h9
    have fa0 := gle_isA hle1 fa0
    have f4 := gle_isA hle1 f4
    have leS := leS.tr hle1
    refine lv_aload_n hx hb d_H_part_29 rfl (lv_at hl6 0 rfl) ?_
    obtain ⟨f9, h⟩ := h
    -- call R_standAlone
    refine gcv hK hG (va_runV (As := []) (rest := []) ⟨hx, hb, hml, hown, hw⟩ (m_R_standAlone l x S8 _ y7 f9 h) ⟨gcb hw tw_690 tw_52 tw_687 hd_R_standAlone rfl rfl ⟨(Nat.le_of_ble_eq_true rfl), (Nat.le_of_ble_eq_true rfl)⟩, hw _ tw_688, hw _ tw_689⟩ (gpV hK hG kd_R f9 rfl) rfl rfl hl6.1 rfl (lv_room (Nat.le_of_ble_eq_true rfl)) d_H_part_30 ⟨(Nat.le_of_ble_eq_true rfl), (Nat.le_of_ble_eq_true rfl)⟩) (fun S10 H locs h9 hle1 hG => ?_)
    replace h := h9
    clear h9
    have fa0 := gle_isA hle1 fa0
    have f4 := gle_isA hle1 f4
    have f9 := gle_isA hle1 f9
    have leS := leS.tr hle1
    refine lv_aload_n hx hb d_H_part_33 rfl (lv_at hl6 0 rfl) ?_
    refine gget hx hb hw hown hK hG kd_R f9 rfl 0 (by decide) rfl tw_575 (fun _ h9 => h9) d_H_part_34 ?_
    refine vx_ret ?_
    exact giret hx hb hr hlocks hK hG leS h (Nat.le_of_ble_eq_true rfl) (Nat.le_of_ble_eq_true rfl) d_H_part_37
  · replace h := h.1 e9
    subst e9
    exact gthrow (own := "WaltzHall") (E := "java/lang/IllegalStateException") (text := "there is no couple") ["java/lang/RuntimeException", "java/lang/Exception"] hx hb hlt hw hown hK hG (by decide +kernel) (by decide +kernel) tw_363 tw_48 (by decide) ta_H_70 tg_H_70_66 (hl6.1.trans hml.symm) d_H_part_15 d_H_part_18 d_H_part_19 d_H_part_21 d_H_part_24 htab (Nat.le_of_ble_eq_true rfl) (Nat.le_of_ble_eq_true rfl) (Nat.le_of_ble_eq_true rfl) (Nat.le_of_ble_eq_true rfl) hlocks leS h (Nat.le_of_ble_eq_true rfl) (Nat.le_of_ble_eq_true rfl)
def w_H_wind (post : Int32 → St → Prop) (px : String → St → Prop) (S : St) (a0 : Nat) (a1 : Int32) (a2 : Int32) : Prop :=
  w_H_neededDancer (fun (o1 : Option Nat) => (a2 < (-200) → px "java/lang/IllegalArgumentException" S) ∧ (¬ a2 < (-200) → (a2 ≤ 200 → ∃ y3 : Nat, o1 = some y3 ∧ isA S 2 y3 ∧ w_R_windBy (fun (S5 : St) => post (sI S5 10 y3) S5) S y3 a2) ∧ (¬ a2 ≤ 200 → px "java/lang/IllegalArgumentException" S))) (fun E => px E S) S a0 a1
set_option maxHeartbeats 4000000 in
set_option maxRecDepth 100000 in
theorem m_H_wind (l : Launch) (hlt : l.stackTraces = false) (x : Cx) (S : St) (post : Int32 → St → Prop) (px : String → St → Prop) (a0 : Nat) (a1 : Int32) (a2 : Int32) (fa0 : isA S 6 a0) (h : w_H_wind post px S a0 a1 a2) : vx_Met l y_H_wind [.code y_H_wind c_H_wind 4 (some .int)] { frames := 7, cells := 2, slots := 12, locals := 112 } (va_Pc [.ref a0, .int a1, .int a2] (GW x S)) (va_Qi post (gB x S) (xA x)) (gX x S px) 2 12 (xA x) := by
  refine gMetX (by decide +kernel) (Nat.le_of_ble_eq_true rfl) ?_
  intro p e s m args below meth c hx hb hr hown hlocks hin hw hK H locs hG ls hlA hml htab
  have hown : s.vm.findClass "WaltzHall" = some m.cls := hown
  have hl0 : lv_has ls 4 [(0, .ref a0), (1, .int a1), (2, .int a2)] := hlA
  have leS : gle S S := gle.rf
  unfold w_H_wind at h
  refine lv_aload_n hx hb d_H_wind_0 rfl (lv_at hl0 0 rfl) ?_
  refine lv_iload_n hx hb d_H_wind_1 rfl (lv_at hl0 1 rfl) ?_
  -- call H_neededDancer
  refine gxpq hG (vx_runV (As := [.int a1]) (rest := []) ⟨hx, hb, hml, hown, hw⟩ (m_H_neededDancer l hlt x S _ _ a0 a1 fa0 h) ⟨gcb hw tw_654 tw_28 tw_651 hd_H_neededDancer rfl rfl ⟨(Nat.le_of_ble_eq_true rfl), (Nat.le_of_ble_eq_true rfl)⟩, hw _ tw_653, hw _ tw_7⟩ (gpV hK hG kd_H fa0 rfl) rfl rfl hl0.1 rfl (lv_room (Nat.le_of_ble_eq_true rfl)) d_H_wind_2 ⟨(Nat.le_of_ble_eq_true rfl), (Nat.le_of_ble_eq_true rfl)⟩) htab hlocks leS (fun _ h9 => h9) (Nat.le_of_ble_eq_true rfl) (Nat.le_of_ble_eq_true rfl) (fun o1 H locs h9 hG => ?_)
  replace h := h9
  clear h9
  refine gastore_n (i := 3) (lv' := [(3, va_rf o1), (0, .ref a0), (1, .int a1), (2, .int a2)]) hx hb d_H_wind_5 rfl hl0 (by decide) rfl (fun ls hl2 => ?_)
  refine lv_iload_n hx hb d_H_wind_6 rfl (lv_at hl2 3 rfl) ?_
  refine lv_sipush (v := (-200)) hx hb d_H_wind_7 (by decide) ?_
  refine lv_icmp_lt (tgt := 20) hx hb d_H_wind_10 (by decide) (fun hc7 => ?_) (fun hc7 => ?_)
  · replace h := h.1 hc7
    exact gthrow (own := "WaltzHall") (E := "java/lang/IllegalArgumentException") (text := "nobody winds so much") ["java/lang/RuntimeException", "java/lang/Exception"] hx hb hlt hw hown hK hG (by decide +kernel) (by decide +kernel) tw_442 tw_49 (by decide) ta_H_85 tg_H_85_81 (hl2.1.trans hml.symm) d_H_wind_20 d_H_wind_23 d_H_wind_24 d_H_wind_26 d_H_wind_29 htab (Nat.le_of_ble_eq_true rfl) (Nat.le_of_ble_eq_true rfl) (Nat.le_of_ble_eq_true rfl) (Nat.le_of_ble_eq_true rfl) hlocks leS h (Nat.le_of_ble_eq_true rfl) (Nat.le_of_ble_eq_true rfl)
  · replace h := h.2 hc7
    refine lv_iload_n hx hb d_H_wind_13 rfl (lv_at hl2 3 rfl) ?_
    refine lv_sipush (v := 200) hx hb d_H_wind_14 (by decide) ?_
    refine lv_icmp_le (tgt := 30) hx hb d_H_wind_17 (by decide) (fun hc6 => ?_) (fun hc6 => ?_)
    · replace h := h.1 hc6
      refine gaload_n hx hb d_H_wind_30 rfl (lv_at hl2 0 rfl) ?_
      refine lv_iload_n hx hb d_H_wind_31 rfl (lv_at hl2 3 rfl) ?_
      obtain ⟨y3, ey3, h⟩ := h
      subst ey3
      obtain ⟨f4, h⟩ := h
      -- call R_windBy
      refine gcv hK hG (va_runV (As := [.int a2]) (rest := []) ⟨hx, hb, hml, hown, hw⟩ (m_R_windBy l x S _ y3 a2 f4 h) ⟨gcb hw tw_702 tw_52 tw_699 hd_R_windBy rfl rfl ⟨(Nat.le_of_ble_eq_true rfl), (Nat.le_of_ble_eq_true rfl)⟩, hw _ tw_700, hw _ tw_701⟩ (gpV hK hG kd_R f4 rfl) rfl rfl hl2.1 rfl (lv_room (Nat.le_of_ble_eq_true rfl)) d_H_wind_32 ⟨(Nat.le_of_ble_eq_true rfl), (Nat.le_of_ble_eq_true rfl)⟩) (fun S5 H locs h9 hle1 hG => ?_)
      replace h := h9
      clear h9
      have fa0 := gle_isA hle1 fa0
      have f4 := gle_isA hle1 f4
      have leS := leS.tr hle1
      refine lv_aload_n hx hb d_H_wind_35 rfl (lv_at hl2 0 rfl) ?_
      refine gget hx hb hw hown hK hG kd_R f4 rfl 4 (by decide) rfl tw_589 (fun _ h9 => h9) d_H_wind_36 ?_
      refine vx_ret ?_
      exact giret hx hb hr hlocks hK hG leS h (Nat.le_of_ble_eq_true rfl) (Nat.le_of_ble_eq_true rfl) d_H_wind_39
    · replace h := h.2 hc6
      exact gthrow (own := "WaltzHall") (E := "java/lang/IllegalArgumentException") (text := "nobody winds so much") ["java/lang/RuntimeException", "java/lang/Exception"] hx hb hlt hw hown hK hG (by decide +kernel) (by decide +kernel) tw_442 tw_49 (by decide) ta_H_85 tg_H_85_81 (hl2.1.trans hml.symm) d_H_wind_20 d_H_wind_23 d_H_wind_24 d_H_wind_26 d_H_wind_29 htab (Nat.le_of_ble_eq_true rfl) (Nat.le_of_ble_eq_true rfl) (Nat.le_of_ble_eq_true rfl) (Nat.le_of_ble_eq_true rfl) hlocks leS h (Nat.le_of_ble_eq_true rfl) (Nat.le_of_ble_eq_true rfl)
def w_H_dancer (post : Int32 → Prop) (px : String → Prop) (S : St) (a0 : Nat) (a1 : Int32) (a2 : Int32) : Prop :=
  w_H_neededDancer (fun (o1 : Option Nat) => w_H_needKind (∃ y3 : Nat, o1 = some y3 ∧ isA S 2 y3 ∧ w_R_tell (fun (r5 : Int32) => post r5) S y3 a2) px S a2 12) px S a0 a1
set_option maxHeartbeats 4000000 in
set_option maxRecDepth 100000 in
theorem m_H_dancer (l : Launch) (hlt : l.stackTraces = false) (x : Cx) (S : St) (post : Int32 → Prop) (px : String → Prop) (a0 : Nat) (a1 : Int32) (a2 : Int32) (fa0 : isA S 6 a0) (h : w_H_dancer post px S a0 a1 a2) : vx_Met l y_H_dancer [.code y_H_dancer c_H_dancer 4 (some .int)] { frames := 7, cells := 2, slots := 12, locals := 112 } (va_Pc [.ref a0, .int a1, .int a2] (GW x S)) (va_Qi (gPu post S) (gB x S) (xA x)) (gX x S (gPx px S)) 2 12 (xA x) := by
  refine gMetX (by decide +kernel) (Nat.le_of_ble_eq_true rfl) ?_
  intro p e s m args below meth c hx hb hr hown hlocks hin hw hK H locs hG ls hlA hml htab
  have hown : s.vm.findClass "WaltzHall" = some m.cls := hown
  have hl0 : lv_has ls 4 [(0, .ref a0), (1, .int a1), (2, .int a2)] := hlA
  unfold w_H_dancer at h
  refine lv_aload_n hx hb d_H_dancer_0 rfl (lv_at hl0 0 rfl) ?_
  refine lv_iload_n hx hb d_H_dancer_1 rfl (lv_at hl0 1 rfl) ?_
  -- call H_neededDancer
  refine gxpq hG (vx_runV (As := [.int a1]) (rest := []) ⟨hx, hb, hml, hown, hw⟩ (m_H_neededDancer l hlt x S _ _ a0 a1 fa0 h) ⟨gcb hw tw_654 tw_28 tw_651 hd_H_neededDancer rfl rfl ⟨(Nat.le_of_ble_eq_true rfl), (Nat.le_of_ble_eq_true rfl)⟩, hw _ tw_653, hw _ tw_7⟩ (gpV hK hG kd_H fa0 rfl) rfl rfl hl0.1 rfl (lv_room (Nat.le_of_ble_eq_true rfl)) d_H_dancer_2 ⟨(Nat.le_of_ble_eq_true rfl), (Nat.le_of_ble_eq_true rfl)⟩) htab hlocks gle.rf (fun _ h9 => ⟨h9, rfl⟩) (Nat.le_of_ble_eq_true rfl) (Nat.le_of_ble_eq_true rfl) (fun o1 H locs h9 hG => ?_)
  replace h := h9
  clear h9
  refine gastore_n (i := 3) (lv' := [(3, va_rf o1), (0, .ref a0), (1, .int a1), (2, .int a2)]) hx hb d_H_dancer_5 rfl hl0 (by decide) rfl (fun ls hl2 => ?_)
  refine lv_iload_n hx hb d_H_dancer_6 rfl (lv_at hl2 3 rfl) ?_
  refine lv_bipush (v := 12) hx hb d_H_dancer_7 (by decide) ?_
  -- call H_needKind
  refine gxpv hG (vx_runS (As := [.int a2, .int 12]) (rest := []) ⟨hx, hb, hml, hown, hw⟩ (m_H_needKind l hlt x S _ _ a2 12  h) ⟨gcb hw tw_526 tw_28 tw_524 hd_H_needKind rfl rfl ⟨(Nat.le_of_ble_eq_true rfl), (Nat.le_of_ble_eq_true rfl)⟩, hw _ tw_525⟩ (gpS hK hG) rfl rfl hl2.1 rfl (lv_room (Nat.le_of_ble_eq_true rfl)) d_H_dancer_9 ⟨(Nat.le_of_ble_eq_true rfl), (Nat.le_of_ble_eq_true rfl)⟩) htab hlocks gle.rf (fun _ h9 => ⟨h9, rfl⟩) (Nat.le_of_ble_eq_true rfl) (Nat.le_of_ble_eq_true rfl) (fun H locs h9 hG => ?_)
  replace h := h9
  clear h9
  refine gaload_n hx hb d_H_dancer_12 rfl (lv_at hl2 0 rfl) ?_
  refine lv_iload_n hx hb d_H_dancer_13 rfl (lv_at hl2 3 rfl) ?_
  obtain ⟨y3, ey3, h⟩ := h
  subst ey3
  obtain ⟨f4, h⟩ := h
  -- call R_tell
  refine gpi hK hG (va_runV (As := [.int a2]) (rest := []) ⟨hx, hb, hml, hown, hw⟩ (m_R_tell l x S _ y3 a2 f4 h) ⟨gcb hw tw_306 tw_52 tw_341 hd_R_tell rfl rfl ⟨(Nat.le_of_ble_eq_true rfl), (Nat.le_of_ble_eq_true rfl)⟩, hw _ tw_304, hw _ tw_305⟩ (gpV hK hG kd_R f4 rfl) rfl rfl hl2.1 rfl (lv_room (Nat.le_of_ble_eq_true rfl)) d_H_dancer_14 ⟨(Nat.le_of_ble_eq_true rfl), (Nat.le_of_ble_eq_true rfl)⟩) (fun r5 H locs h9 hG => ?_)
  replace h := h9
  clear h9
  refine vx_ret ?_
  exact giret hx hb hr hlocks hK hG gle.rf ⟨h, rfl⟩ (Nat.le_of_ble_eq_true rfl) (Nat.le_of_ble_eq_true rfl) d_H_dancer_17
def w_H_at (post : Int32 → Prop) (px : String → Prop) (S : St) (a0 : Nat) (a1 : Int32) (a2 : Int32) : Prop :=
  w_H_isOnFloor (fun (r1 : Int32) => (r1 = 0 → px "java/lang/IndexOutOfBoundsException") ∧ (¬ r1 = 0 → ∀ o2 : Option Nat, o2 = sQ S 36 a0 → ∃ y3 : Nat, o2 = some y3 ∧ isA S 3 y3 ∧ w_F_whoIsAt (fun (o5 : Option Nat) => (o5 = none → post (-1)) ∧ (∀ y7 : Nat, o5 = some y7 → isA S 2 y7 ∧ post (sI S 6 y7))) S y3 a1 a2)) S a1 a2
set_option maxHeartbeats 4000000 in
set_option maxRecDepth 100000 in
theorem m_H_at (l : Launch) (hlt : l.stackTraces = false) (x : Cx) (S : St) (post : Int32 → Prop) (px : String → Prop) (a0 : Nat) (a1 : Int32) (a2 : Int32) (fa0 : isA S 6 a0) (h : w_H_at post px S a0 a1 a2) : vx_Met l y_H_at [.code y_H_at c_H_at 4 (some .int)] { frames := 6, cells := 1, slots := 6, locals := 90 } (va_Pc [.ref a0, .int a1, .int a2] (GW x S)) (va_Qi (gPu post S) (gB x S) (xA x)) (gX x S (gPx px S)) 1 6 (xA x) := by
  refine gMetX (by decide +kernel) (Nat.le_of_ble_eq_true rfl) ?_
  intro p e s m args below meth c hx hb hr hown hlocks hin hw hK H locs hG ls hlA hml htab
  have hown : s.vm.findClass "WaltzHall" = some m.cls := hown
  have hl0 : lv_has ls 4 [(0, .ref a0), (1, .int a1), (2, .int a2)] := hlA
  unfold w_H_at at h
  refine lv_iload_n hx hb d_H_at_0 rfl (lv_at hl0 1 rfl) ?_
  refine lv_iload_n hx hb d_H_at_1 rfl (lv_at hl0 2 rfl) ?_
  -- call H_isOnFloor
  refine gpi hK hG (va_runS (As := [.int a1, .int a2]) (rest := []) ⟨hx, hb, hml, hown, hw⟩ (m_H_isOnFloor l x S _ a1 a2  h) ⟨gcb hw tw_561 tw_28 tw_559 hd_H_isOnFloor rfl rfl ⟨(Nat.le_of_ble_eq_true rfl), (Nat.le_of_ble_eq_true rfl)⟩, hw _ tw_560⟩ (gpS hK hG) rfl rfl hl0.1 rfl (lv_room (Nat.le_of_ble_eq_true rfl)) d_H_at_2 ⟨(Nat.le_of_ble_eq_true rfl), (Nat.le_of_ble_eq_true rfl)⟩) (fun r1 H locs h9 hG => ?_)
  replace h := h9
  clear h9
  refine lv_if_ne (tgt := 18) hx hb d_H_at_5 (by decide) (fun hc9 => ?_) (fun hc9 => ?_)
  · replace h := h.2 hc9
    refine lv_aload_n hx hb d_H_at_18 rfl (lv_at hl0 0 rfl) ?_
    refine gget hx hb hw hown hK hG kd_H fa0 rfl 3 (by decide) rfl tw_264 (fun _ h9 => h9) d_H_at_19 ?_
    refine gtopq (fun o2 eo2 => ?_)
    replace h := h o2 eo2
    refine lv_iload_n hx hb d_H_at_22 rfl (lv_at hl0 1 rfl) ?_
    refine lv_iload_n hx hb d_H_at_23 rfl (lv_at hl0 2 rfl) ?_
    obtain ⟨y3, ey3, h⟩ := h
    subst ey3
    obtain ⟨f4, h⟩ := h
    -- call F_whoIsAt
    refine gpq hK hG (va_runV (As := [.int a1, .int a2]) (rest := []) ⟨hx, hb, hml, hown, hw⟩ (m_F_whoIsAt l x S _ y3 a1 a2 f4 h) ⟨gcb hw tw_566 tw_38 tw_563 hd_F_whoIsAt rfl rfl ⟨(Nat.le_of_ble_eq_true rfl), (Nat.le_of_ble_eq_true rfl)⟩, hw _ tw_564, hw _ tw_565⟩ (gpV hK hG kd_F f4 rfl) rfl rfl hl0.1 rfl (lv_room (Nat.le_of_ble_eq_true rfl)) d_H_at_24 ⟨(Nat.le_of_ble_eq_true rfl), (Nat.le_of_ble_eq_true rfl)⟩) (fun o5 H locs h9 hG => ?_)
    replace h := h9
    clear h9
    refine gastore_n (i := 3) (lv' := [(3, va_rf o5), (0, .ref a0), (1, .int a1), (2, .int a2)]) hx hb d_H_at_27 rfl hl0 (by decide) rfl (fun ls hl6 => ?_)
    refine gaload_n hx hb d_H_at_28 rfl (lv_at hl6 0 rfl) ?_
    refine gifnonnull (tgt := 36) hx hb d_H_at_29 (by decide) (fun y7 e9 => ?_) (fun e9 => ?_)
    · replace h := h.2 y7 e9
      subst e9
      refine lv_aload_n hx hb d_H_at_36 rfl (lv_at hl6 0 rfl) ?_
      obtain ⟨f8, h⟩ := h
      refine gget hx hb hw hown hK hG kd_R f8 rfl 0 (by decide) rfl tw_575 (fun _ h9 => h9) d_H_at_37 ?_
      refine vx_ret ?_
      exact giret hx hb hr hlocks hK hG gle.rf ⟨h, rfl⟩ (Nat.le_of_ble_eq_true rfl) (Nat.le_of_ble_eq_true rfl) d_H_at_40
    · replace h := h.1 e9
      subst e9
      refine lv_iconst (v := (-1)) hx hb d_H_at_32 (by decide) ?_
      refine lv_goto (tgt := 40) hx hb d_H_at_33 (by decide) ?_
      refine vx_ret ?_
      exact giret hx hb hr hlocks hK hG gle.rf ⟨h, rfl⟩ (Nat.le_of_ble_eq_true rfl) (Nat.le_of_ble_eq_true rfl) d_H_at_40
  · replace h := h.1 hc9
    exact gthrow (own := "WaltzHall") (E := "java/lang/IndexOutOfBoundsException") (text := "no such tile") ["java/lang/RuntimeException", "java/lang/Exception"] hx hb hlt hw hown hK hG (by decide +kernel) (by decide +kernel) tw_470 tw_50 (by decide) ta_H_103 tg_H_103_99 (hl0.1.trans hml.symm) d_H_at_8 d_H_at_11 d_H_at_12 d_H_at_14 d_H_at_17 htab (Nat.le_of_ble_eq_true rfl) (Nat.le_of_ble_eq_true rfl) (Nat.le_of_ble_eq_true rfl) (Nat.le_of_ble_eq_true rfl) hlocks gle.rf ⟨h, rfl⟩ (Nat.le_of_ble_eq_true rfl) (Nat.le_of_ble_eq_true rfl)
def w_H_addWinder (post : Int32 → St → Prop) (px : String → St → Prop) (S : St) (a0 : Nat) (a1 : Int32) (a2 : Int32) (a3 : Int32) : Prop :=
  w_H_isOnFloor (fun (r1 : Int32) => (r1 = 0 → px "java/lang/IllegalArgumentException" S) ∧ (¬ r1 = 0 → (a3 < 1 → px "java/lang/IllegalArgumentException" S) ∧ (¬ a3 < 1 → (a3 ≤ 100 → ∀ o2 : Option Nat, o2 = sQ S 36 a0 → ∃ y3 : Nat, o2 = some y3 ∧ isA S 3 y3 ∧ ∀ o5 : Option Nat, o5 = sQ S 22 y3 → ∃ y6 : Nat, o5 = some y6 ∧ isA S 0 y6 ∧ w_AL_size (fun (r8 : Int32) => (r8 < 3 → ∀ (q10 : Nat) (S11 : St), q10 ∉ sL S → S11 = pNew S q10 5 0 → w_N_init (fun (S13 : St) => ∀ S15 : St, S15 = pI S13 26 q10 a1 → ∀ S16 : St, S16 = pI S15 27 q10 a2 → ∀ S17 : St, S17 = pI S16 28 q10 a3 → ∀ o18 : Option Nat, o18 = sQ S17 36 a0 → ∃ y19 : Nat, o18 = some y19 ∧ isA S17 3 y19 ∧ ∀ o21 : Option Nat, o21 = sQ S17 22 y19 → ∃ y22 : Nat, o21 = some y22 ∧ isA S17 0 y22 ∧ w_AL_add1 (fun (r24 : Int32) (S25 : St) => post r8 S25) S17 y22 (some q10)) S11 q10) ∧ (¬ r8 < 3 → px "java/lang/IllegalStateException" S)) S y6) ∧ (¬ a3 ≤ 100 → px "java/lang/IllegalArgumentException" S)))) S a1 a2
set_option maxHeartbeats 4000000 in
set_option maxRecDepth 100000 in
theorem m_H_addWinder (l : Launch) (hlt : l.stackTraces = false) (x : Cx) (S : St) (post : Int32 → St → Prop) (px : String → St → Prop) (a0 : Nat) (a1 : Int32) (a2 : Int32) (a3 : Int32) (fa0 : isA S 6 a0) (h : w_H_addWinder post px S a0 a1 a2 a3) : vx_Met l y_H_addWinder [.code y_H_addWinder c_H_addWinder 6 (some .int)] { frames := 6, cells := 3, slots := 25, locals := 108 } (va_Pc [.ref a0, .int a1, .int a2, .int a3] (GW x S)) (va_Qi post (gB x S) (xA x)) (gX x S px) 3 25 (xA x) := by
  refine gMetX (by decide +kernel) (Nat.le_of_ble_eq_true rfl) ?_
  intro p e s m args below meth c hx hb hr hown hlocks hin hw hK H locs hG ls hlA hml htab
  have hown : s.vm.findClass "WaltzHall" = some m.cls := hown
  have hl0 : lv_has ls 6 [(0, .ref a0), (1, .int a1), (2, .int a2), (3, .int a3)] := hlA
  have leS : gle S S := gle.rf
  unfold w_H_addWinder at h
  refine lv_iload_n hx hb d_H_addWinder_0 rfl (lv_at hl0 1 rfl) ?_
  refine lv_iload_n hx hb d_H_addWinder_1 rfl (lv_at hl0 2 rfl) ?_
  -- call H_isOnFloor
  refine gpi hK hG (va_runS (As := [.int a1, .int a2]) (rest := []) ⟨hx, hb, hml, hown, hw⟩ (m_H_isOnFloor l x S _ a1 a2  h) ⟨gcb hw tw_561 tw_28 tw_559 hd_H_isOnFloor rfl rfl ⟨(Nat.le_of_ble_eq_true rfl), (Nat.le_of_ble_eq_true rfl)⟩, hw _ tw_560⟩ (gpS hK hG) rfl rfl hl0.1 rfl (lv_room (Nat.le_of_ble_eq_true rfl)) d_H_addWinder_2 ⟨(Nat.le_of_ble_eq_true rfl), (Nat.le_of_ble_eq_true rfl)⟩) (fun r1 H locs h9 hG => ?_)
  replace h := h9
  clear h9
  refine lv_if_eq (tgt := 19) hx hb d_H_addWinder_5 (by decide) (fun hc29 => ?_) (fun hc29 => ?_)
  · replace h := h.1 hc29
    exact gthrow (own := "WaltzHall") (E := "java/lang/IllegalArgumentException") (text := "no such tile or strength") ["java/lang/RuntimeException", "java/lang/Exception"] hx hb hlt hw hown hK hG (by decide +kernel) (by decide +kernel) tw_442 tw_49 (by decide) ta_H_85 tg_H_85_81 (hl0.1.trans hml.symm) d_H_addWinder_19 d_H_addWinder_22 d_H_addWinder_23 d_H_addWinder_25 d_H_addWinder_28 htab (Nat.le_of_ble_eq_true rfl) (Nat.le_of_ble_eq_true rfl) (Nat.le_of_ble_eq_true rfl) (Nat.le_of_ble_eq_true rfl) hlocks leS h (Nat.le_of_ble_eq_true rfl) (Nat.le_of_ble_eq_true rfl)
  · replace h := h.2 hc29
    refine lv_iload_n hx hb d_H_addWinder_8 rfl (lv_at hl0 3 rfl) ?_
    refine lv_iconst (v := 1) hx hb d_H_addWinder_9 (by decide) ?_
    refine lv_icmp_lt (tgt := 19) hx hb d_H_addWinder_10 (by decide) (fun hc28 => ?_) (fun hc28 => ?_)
    · replace h := h.1 hc28
      exact gthrow (own := "WaltzHall") (E := "java/lang/IllegalArgumentException") (text := "no such tile or strength") ["java/lang/RuntimeException", "java/lang/Exception"] hx hb hlt hw hown hK hG (by decide +kernel) (by decide +kernel) tw_442 tw_49 (by decide) ta_H_85 tg_H_85_81 (hl0.1.trans hml.symm) d_H_addWinder_19 d_H_addWinder_22 d_H_addWinder_23 d_H_addWinder_25 d_H_addWinder_28 htab (Nat.le_of_ble_eq_true rfl) (Nat.le_of_ble_eq_true rfl) (Nat.le_of_ble_eq_true rfl) (Nat.le_of_ble_eq_true rfl) hlocks leS h (Nat.le_of_ble_eq_true rfl) (Nat.le_of_ble_eq_true rfl)
    · replace h := h.2 hc28
      refine lv_iload_n hx hb d_H_addWinder_13 rfl (lv_at hl0 3 rfl) ?_
      refine lv_bipush (v := 100) hx hb d_H_addWinder_14 (by decide) ?_
      refine lv_icmp_le (tgt := 29) hx hb d_H_addWinder_16 (by decide) (fun hc27 => ?_) (fun hc27 => ?_)
      · replace h := h.1 hc27
        refine lv_aload_n hx hb d_H_addWinder_29 rfl (lv_at hl0 0 rfl) ?_
        refine gget hx hb hw hown hK hG kd_H fa0 rfl 3 (by decide) rfl tw_264 (fun _ h9 => h9) d_H_addWinder_30 ?_
        refine gtopq (fun o2 eo2 => ?_)
        replace h := h o2 eo2
        obtain ⟨y3, ey3, h⟩ := h
        subst ey3
        obtain ⟨f4, h⟩ := h
        refine gget hx hb hw hown hK hG kd_F f4 rfl 1 (by decide) rfl tw_186 (fun _ h9 => h9) d_H_addWinder_33 ?_
        refine gtopq (fun o5 eo5 => ?_)
        replace h := h o5 eo5
        obtain ⟨y6, ey6, h⟩ := h
        subst ey6
        obtain ⟨f7, h⟩ := h
        -- call AL_size
        refine gpi hK hG (va_runV (As := []) (rest := []) ⟨hx, hb, hml, hown, hw⟩ (m_AL_size l x S _ y6 f7 h) ⟨gcb hw tw_284 tw_32 tw_281 hd_AL_size rfl rfl ⟨(Nat.le_of_ble_eq_true rfl), (Nat.le_of_ble_eq_true rfl)⟩, hw _ tw_282, hw _ tw_283⟩ (gpV hK hG kd_AL f7 rfl) rfl rfl hl0.1 rfl (lv_room (Nat.le_of_ble_eq_true rfl)) d_H_addWinder_36 ⟨(Nat.le_of_ble_eq_true rfl), (Nat.le_of_ble_eq_true rfl)⟩) (fun r8 H locs h9 hG => ?_)
        replace h := h9
        clear h9
        refine lv_istore (lv' := [(4, .int r8), (0, .ref a0), (1, .int a1), (2, .int a2), (3, .int a3)]) hx hb d_H_addWinder_39 hl0 (by decide) rfl (fun ls hl9 => ?_)
        refine lv_iload hx hb d_H_addWinder_41 (lv_at hl9 0 rfl) ?_
        refine lv_iconst (v := 3) hx hb d_H_addWinder_43 (by decide) ?_
        refine lv_icmp_lt (tgt := 57) hx hb d_H_addWinder_44 (by decide) (fun hc26 => ?_) (fun hc26 => ?_)
        · replace h := h.1 hc26
          refine gnew (k := 5) hx hb hw hown hK hG kd_N tw_342 tw_729 tw_53 rfl kf_N (Nat.le_of_ble_eq_true rfl) (Nat.le_of_ble_eq_true rfl) d_H_addWinder_57 (fun q10 S11 H hqq10 eS11 hle1 hG => ?_)
          replace h := h q10 S11 hqq10 eS11
          have fa0 := gle_isA hle1 fa0
          have f4 := gle_isA hle1 f4
          have f7 := gle_isA hle1 f7
          have leS := leS.tr hle1
          have f12 : isA S11 5 q10 := by rw [eS11]; exact isA_new
          refine lv_dup hx hb d_H_addWinder_60 rfl ?_
          -- call N_init
          refine gcv hK hG (va_runIN (As := []) (rest := [.ref q10]) ⟨hx, hb, hml, hown, hw⟩ (m_N_init l x S11 _ q10 f12 h) ⟨gcn hw tw_732 tw_53 tw_730 hd_N_init rfl rfl ⟨(Nat.le_of_ble_eq_true rfl), (Nat.le_of_ble_eq_true rfl)⟩, rfl, hw _ tw_731⟩ (gpS hK hG) rfl rfl hl9.1 rfl (lv_room (Nat.le_of_ble_eq_true rfl)) d_H_addWinder_61 ⟨(Nat.le_of_ble_eq_true rfl), (Nat.le_of_ble_eq_true rfl)⟩) (fun S13 H locs h9 hle1 hG => ?_)
          replace h := h9
          clear h9
          have fa0 := gle_isA hle1 fa0
          have f4 := gle_isA hle1 f4
          have f7 := gle_isA hle1 f7
          have f12 := gle_isA hle1 f12
          have leS := leS.tr hle1
          refine lv_astore (lv' := [(5, .ref q10), (4, .int r8), (0, .ref a0), (1, .int a1), (2, .int a2), (3, .int a3)]) hx hb d_H_addWinder_64 hl9 (by decide) rfl (fun ls hl14 => ?_)
          refine lv_aload hx hb d_H_addWinder_66 (lv_at hl14 0 rfl) ?_
          refine lv_iload_n hx hb d_H_addWinder_68 rfl (lv_at hl14 3 rfl) ?_
          refine gput (S' := pI S13 26 q10 a1) hx hb hw hown hK hG kd_N f12 rfl 0 (by decide) (gChI f12 rfl) tw_735 (fun _ h9 => h9) rfl rfl rfl rfl (Nat.le_of_ble_eq_true rfl) d_H_addWinder_69 (fun S15 H locs eS15 hle1 hG => ?_)
          replace h := h S15 eS15
          have fa0 := gle_isA hle1 fa0
          have f4 := gle_isA hle1 f4
          have f7 := gle_isA hle1 f7
          have f12 := gle_isA hle1 f12
          have leS := leS.tr hle1
          refine lv_aload hx hb d_H_addWinder_72 (lv_at hl14 0 rfl) ?_
          refine lv_iload_n hx hb d_H_addWinder_74 rfl (lv_at hl14 4 rfl) ?_
          refine gput (S' := pI S15 27 q10 a2) hx hb hw hown hK hG kd_N f12 rfl 1 (by decide) (gChI f12 rfl) tw_737 (fun _ h9 => h9) rfl rfl rfl rfl (Nat.le_of_ble_eq_true rfl) d_H_addWinder_75 (fun S16 H locs eS16 hle1 hG => ?_)
          replace h := h S16 eS16
          have fa0 := gle_isA hle1 fa0
          have f4 := gle_isA hle1 f4
          have f7 := gle_isA hle1 f7
          have f12 := gle_isA hle1 f12
          have leS := leS.tr hle1
          refine lv_aload hx hb d_H_addWinder_78 (lv_at hl14 0 rfl) ?_
          refine lv_iload_n hx hb d_H_addWinder_80 rfl (lv_at hl14 5 rfl) ?_
          refine gput (S' := pI S16 28 q10 a3) hx hb hw hown hK hG kd_N f12 rfl 2 (by decide) (gChI f12 rfl) tw_739 (fun _ h9 => h9) rfl rfl rfl rfl (Nat.le_of_ble_eq_true rfl) d_H_addWinder_81 (fun S17 H locs eS17 hle1 hG => ?_)
          replace h := h S17 eS17
          have fa0 := gle_isA hle1 fa0
          have f4 := gle_isA hle1 f4
          have f7 := gle_isA hle1 f7
          have f12 := gle_isA hle1 f12
          have leS := leS.tr hle1
          refine lv_aload_n hx hb d_H_addWinder_84 rfl (lv_at hl14 2 rfl) ?_
          refine gget hx hb hw hown hK hG kd_H fa0 rfl 3 (by decide) rfl tw_264 (fun _ h9 => h9) d_H_addWinder_85 ?_
          refine gtopq (fun o18 eo18 => ?_)
          replace h := h o18 eo18
          obtain ⟨y19, ey19, h⟩ := h
          subst ey19
          obtain ⟨f20, h⟩ := h
          refine gget hx hb hw hown hK hG kd_F f20 rfl 1 (by decide) rfl tw_186 (fun _ h9 => h9) d_H_addWinder_88 ?_
          refine gtopq (fun o21 eo21 => ?_)
          replace h := h o21 eo21
          refine lv_aload hx hb d_H_addWinder_91 (lv_at hl14 0 rfl) ?_
          obtain ⟨y22, ey22, h⟩ := h
          subst ey22
          obtain ⟨f23, h⟩ := h
          -- call AL_add1
          refine gci hK hG (va_runV (As := [.ref q10]) (rest := []) ⟨hx, hb, hml, hown, hw⟩ (m_AL_add1 l x S17 _ y22 (some q10) f23 h) ⟨gcb hw tw_198 tw_32 tw_195 hd_AL_add1 rfl rfl ⟨(Nat.le_of_ble_eq_true rfl), (Nat.le_of_ble_eq_true rfl)⟩, hw _ tw_196, hw _ tw_197⟩ (gpV hK hG kd_AL f23 rfl) rfl rfl hl14.1 rfl (lv_room (Nat.le_of_ble_eq_true rfl)) d_H_addWinder_93 ⟨(Nat.le_of_ble_eq_true rfl), (Nat.le_of_ble_eq_true rfl)⟩) (fun r24 S25 H locs h9 hle1 hG => ?_)
          replace h := h9
          clear h9
          have fa0 := gle_isA hle1 fa0
          have f4 := gle_isA hle1 f4
          have f7 := gle_isA hle1 f7
          have f12 := gle_isA hle1 f12
          have f20 := gle_isA hle1 f20
          have f23 := gle_isA hle1 f23
          have leS := leS.tr hle1
          refine lv_pop hx hb d_H_addWinder_96 rfl ?_
          refine lv_iload hx hb d_H_addWinder_97 (lv_at hl14 1 rfl) ?_
          refine vx_ret ?_
          exact giret hx hb hr hlocks hK hG leS h (Nat.le_of_ble_eq_true rfl) (Nat.le_of_ble_eq_true rfl) d_H_addWinder_99
        · replace h := h.2 hc26
          exact gthrow (own := "WaltzHall") (E := "java/lang/IllegalStateException") (text := "there are enough winders") ["java/lang/RuntimeException", "java/lang/Exception"] hx hb hlt hw hown hK hG (by decide +kernel) (by decide +kernel) tw_363 tw_48 (by decide) ta_H_70 tg_H_70_66 (hl9.1.trans hml.symm) d_H_addWinder_47 d_H_addWinder_50 d_H_addWinder_51 d_H_addWinder_53 d_H_addWinder_56 htab (Nat.le_of_ble_eq_true rfl) (Nat.le_of_ble_eq_true rfl) (Nat.le_of_ble_eq_true rfl) (Nat.le_of_ble_eq_true rfl) hlocks leS h (Nat.le_of_ble_eq_true rfl) (Nat.le_of_ble_eq_true rfl)
      · replace h := h.2 hc27
        exact gthrow (own := "WaltzHall") (E := "java/lang/IllegalArgumentException") (text := "no such tile or strength") ["java/lang/RuntimeException", "java/lang/Exception"] hx hb hlt hw hown hK hG (by decide +kernel) (by decide +kernel) tw_442 tw_49 (by decide) ta_H_85 tg_H_85_81 (hl0.1.trans hml.symm) d_H_addWinder_19 d_H_addWinder_22 d_H_addWinder_23 d_H_addWinder_25 d_H_addWinder_28 htab (Nat.le_of_ble_eq_true rfl) (Nat.le_of_ble_eq_true rfl) (Nat.le_of_ble_eq_true rfl) (Nat.le_of_ble_eq_true rfl) hlocks leS h (Nat.le_of_ble_eq_true rfl) (Nat.le_of_ble_eq_true rfl)
def w_H_neededWinder (post : Option Nat → Prop) (px : String → Prop) (S : St) (a0 : Nat) (a1 : Int32) : Prop :=
  (a1 < 0 → px "java/lang/IndexOutOfBoundsException") ∧ (¬ a1 < 0 → ∀ o1 : Option Nat, o1 = sQ S 36 a0 → ∃ y2 : Nat, o1 = some y2 ∧ isA S 3 y2 ∧ ∀ o4 : Option Nat, o4 = sQ S 22 y2 → ∃ y5 : Nat, o4 = some y5 ∧ isA S 0 y5 ∧ w_AL_size (fun (r7 : Int32) => (a1 < r7 → ∀ o8 : Option Nat, o8 = sQ S 36 a0 → ∃ y9 : Nat, o8 = some y9 ∧ isA S 3 y9 ∧ ∀ o11 : Option Nat, o11 = sQ S 22 y9 → ∃ y12 : Nat, o11 = some y12 ∧ isA S 0 y12 ∧ w_AL_get (fun (o14 : Option Nat) => ∃ y15 : Nat, o14 = some y15 ∧ isA S 5 y15 ∧ post (some y15)) S y12 a1) ∧ (¬ a1 < r7 → px "java/lang/IndexOutOfBoundsException")) S y5)
set_option maxHeartbeats 4000000 in
set_option maxRecDepth 100000 in
theorem m_H_neededWinder (l : Launch) (hlt : l.stackTraces = false) (x : Cx) (S : St) (post : Option Nat → Prop) (px : String → Prop) (a0 : Nat) (a1 : Int32) (fa0 : isA S 6 a0) (h : w_H_neededWinder post px S a0 a1) : vx_Met l y_H_neededWinder [.code y_H_neededWinder c_H_neededWinder 2 (some (.object "WaltzHall$Winder"))] { frames := 6, cells := 1, slots := 6, locals := 90 } (va_Pc [.ref a0, .int a1] (GW x S)) (va_Qq (gPu post S) (gB x S) (xA x)) (gX x S (gPx px S)) 1 6 (xA x) := by
  refine gMetX (by decide +kernel) (Nat.le_of_ble_eq_true rfl) ?_
  intro p e s m args below meth c hx hb hr hown hlocks hin hw hK H locs hG ls hlA hml htab
  have hown : s.vm.findClass "WaltzHall" = some m.cls := hown
  have hl0 : lv_has ls 2 [(0, .ref a0), (1, .int a1)] := hlA
  unfold w_H_neededWinder at h
  refine lv_iload_n hx hb d_H_neededWinder_0 rfl (lv_at hl0 1 rfl) ?_
  refine lv_if_lt (tgt := 18) hx hb d_H_neededWinder_1 (by decide) (fun hc18 => ?_) (fun hc18 => ?_)
  · replace h := h.1 hc18
    exact gthrowW (own := "WaltzHall") (E := "java/lang/IndexOutOfBoundsException") (text := "no such winder") ["java/lang/RuntimeException", "java/lang/Exception"] hx hb hlt hw hown hK hG (by decide +kernel) (by decide +kernel) tw_470 tw_50 (by decide) ta_H_103 tg_H_103_99 (hl0.1.trans hml.symm) d_H_neededWinder_18 d_H_neededWinder_21 d_H_neededWinder_22 d_H_neededWinder_25 d_H_neededWinder_28 htab (Nat.le_of_ble_eq_true rfl) (Nat.le_of_ble_eq_true rfl) (Nat.le_of_ble_eq_true rfl) (Nat.le_of_ble_eq_true rfl) hlocks gle.rf ⟨h, rfl⟩ (Nat.le_of_ble_eq_true rfl) (Nat.le_of_ble_eq_true rfl)
  · replace h := h.2 hc18
    refine lv_iload_n hx hb d_H_neededWinder_4 rfl (lv_at hl0 1 rfl) ?_
    refine lv_aload_n hx hb d_H_neededWinder_5 rfl (lv_at hl0 0 rfl) ?_
    refine gget hx hb hw hown hK hG kd_H fa0 rfl 3 (by decide) rfl tw_264 (fun _ h9 => h9) d_H_neededWinder_6 ?_
    refine gtopq (fun o1 eo1 => ?_)
    replace h := h o1 eo1
    obtain ⟨y2, ey2, h⟩ := h
    subst ey2
    obtain ⟨f3, h⟩ := h
    refine gget hx hb hw hown hK hG kd_F f3 rfl 1 (by decide) rfl tw_186 (fun _ h9 => h9) d_H_neededWinder_9 ?_
    refine gtopq (fun o4 eo4 => ?_)
    replace h := h o4 eo4
    obtain ⟨y5, ey5, h⟩ := h
    subst ey5
    obtain ⟨f6, h⟩ := h
    -- call AL_size
    refine gpi hK hG (va_runV (As := []) (rest := [.int a1]) ⟨hx, hb, hml, hown, hw⟩ (m_AL_size l x S _ y5 f6 h) ⟨gcb hw tw_284 tw_32 tw_281 hd_AL_size rfl rfl ⟨(Nat.le_of_ble_eq_true rfl), (Nat.le_of_ble_eq_true rfl)⟩, hw _ tw_282, hw _ tw_283⟩ (gpV hK hG kd_AL f6 rfl) rfl rfl hl0.1 rfl (lv_room (Nat.le_of_ble_eq_true rfl)) d_H_neededWinder_12 ⟨(Nat.le_of_ble_eq_true rfl), (Nat.le_of_ble_eq_true rfl)⟩) (fun r7 H locs h9 hG => ?_)
    replace h := h9
    clear h9
    refine lv_icmp_lt (tgt := 29) hx hb d_H_neededWinder_15 (by decide) (fun hc17 => ?_) (fun hc17 => ?_)
    · replace h := h.1 hc17
      refine lv_aload_n hx hb d_H_neededWinder_29 rfl (lv_at hl0 0 rfl) ?_
      refine gget hx hb hw hown hK hG kd_H fa0 rfl 3 (by decide) rfl tw_264 (fun _ h9 => h9) d_H_neededWinder_30 ?_
      refine gtopq (fun o8 eo8 => ?_)
      replace h := h o8 eo8
      obtain ⟨y9, ey9, h⟩ := h
      subst ey9
      obtain ⟨f10, h⟩ := h
      refine gget hx hb hw hown hK hG kd_F f10 rfl 1 (by decide) rfl tw_186 (fun _ h9 => h9) d_H_neededWinder_33 ?_
      refine gtopq (fun o11 eo11 => ?_)
      replace h := h o11 eo11
      refine lv_iload_n hx hb d_H_neededWinder_36 rfl (lv_at hl0 1 rfl) ?_
      obtain ⟨y12, ey12, h⟩ := h
      subst ey12
      obtain ⟨f13, h⟩ := h
      -- call AL_get
      refine gpq hK hG (va_runV (As := [.int a1]) (rest := []) ⟨hx, hb, hml, hown, hw⟩ (m_AL_get l x S _ y12 a1 f13 h) ⟨gcb hw tw_293 tw_32 tw_330 hd_AL_get rfl rfl ⟨(Nat.le_of_ble_eq_true rfl), (Nat.le_of_ble_eq_true rfl)⟩, hw _ tw_291, hw _ tw_292⟩ (gpV hK hG kd_AL f13 rfl) rfl rfl hl0.1 rfl (lv_room (Nat.le_of_ble_eq_true rfl)) d_H_neededWinder_37 ⟨(Nat.le_of_ble_eq_true rfl), (Nat.le_of_ble_eq_true rfl)⟩) (fun o14 H locs h9 hG => ?_)
      replace h := h9
      clear h9
      obtain ⟨y15, ey15, h⟩ := h
      subst ey15
      obtain ⟨f16, h⟩ := h
      refine gcast hx hb hw hown hK hG kd_N tw_342 f16 rfl d_H_neededWinder_40 ?_
      refine vx_ret ?_
      exact garet (o := (some y15)) hx hb hr (Or.inl ⟨_, rfl⟩) hlocks hK hG gle.rf ⟨h, rfl⟩ (Nat.le_of_ble_eq_true rfl) (Nat.le_of_ble_eq_true rfl) d_H_neededWinder_43
    · replace h := h.2 hc17
      exact gthrowW (own := "WaltzHall") (E := "java/lang/IndexOutOfBoundsException") (text := "no such winder") ["java/lang/RuntimeException", "java/lang/Exception"] hx hb hlt hw hown hK hG (by decide +kernel) (by decide +kernel) tw_470 tw_50 (by decide) ta_H_103 tg_H_103_99 (hl0.1.trans hml.symm) d_H_neededWinder_18 d_H_neededWinder_21 d_H_neededWinder_22 d_H_neededWinder_25 d_H_neededWinder_28 htab (Nat.le_of_ble_eq_true rfl) (Nat.le_of_ble_eq_true rfl) (Nat.le_of_ble_eq_true rfl) (Nat.le_of_ble_eq_true rfl) hlocks gle.rf ⟨h, rfl⟩ (Nat.le_of_ble_eq_true rfl) (Nat.le_of_ble_eq_true rfl)
def w_H_call (post : Int32 → St → Prop) (px : String → St → Prop) (S : St) (a0 : Nat) (a1 : Int32) (a2 : Int32) : Prop :=
  w_H_neededWinder (fun (o1 : Option Nat) => w_H_neededDancer (fun (o3 : Option Nat) => ∃ y5 : Nat, o1 = some y5 ∧ isA S 5 y5 ∧ ((sI S 30 y5) < 8 → ∃ y7 : Nat, o3 = some y7 ∧ isA S 2 y7 ∧ w_N_addToRound (fun (S9 : St) => post (sI S9 30 y5) S9) S y5 (sI S 6 y7)) ∧ (¬ (sI S 30 y5) < 8 → px "java/lang/IllegalStateException" S)) (fun E => px E S) S a0 a2) (fun E => px E S) S a0 a1
set_option maxHeartbeats 4000000 in
set_option maxRecDepth 100000 in
theorem m_H_call (l : Launch) (hlt : l.stackTraces = false) (x : Cx) (S : St) (post : Int32 → St → Prop) (px : String → St → Prop) (a0 : Nat) (a1 : Int32) (a2 : Int32) (fa0 : isA S 6 a0) (h : w_H_call post px S a0 a1 a2) : vx_Met l y_H_call [.code y_H_call c_H_call 5 (some .int)] { frames := 7, cells := 3, slots := 18, locals := 112 } (va_Pc [.ref a0, .int a1, .int a2] (GW x S)) (va_Qi post (gB x S) (xA x)) (gX x S px) 3 18 (xA x) := by
  refine gMetX (by decide +kernel) (Nat.le_of_ble_eq_true rfl) ?_
  intro p e s m args below meth c hx hb hr hown hlocks hin hw hK H locs hG ls hlA hml htab
  have hown : s.vm.findClass "WaltzHall" = some m.cls := hown
  have hl0 : lv_has ls 5 [(0, .ref a0), (1, .int a1), (2, .int a2)] := hlA
  have leS : gle S S := gle.rf
  unfold w_H_call at h
  refine lv_aload_n hx hb d_H_call_0 rfl (lv_at hl0 0 rfl) ?_
  refine lv_iload_n hx hb d_H_call_1 rfl (lv_at hl0 1 rfl) ?_
  -- call H_neededWinder
  refine gxpq hG (vx_runV (As := [.int a1]) (rest := []) ⟨hx, hb, hml, hown, hw⟩ (m_H_neededWinder l hlt x S _ _ a0 a1 fa0 h) ⟨gcb hw tw_771 tw_28 tw_768 hd_H_neededWinder rfl rfl ⟨(Nat.le_of_ble_eq_true rfl), (Nat.le_of_ble_eq_true rfl)⟩, hw _ tw_770, hw _ tw_8⟩ (gpV hK hG kd_H fa0 rfl) rfl rfl hl0.1 rfl (lv_room (Nat.le_of_ble_eq_true rfl)) d_H_call_2 ⟨(Nat.le_of_ble_eq_true rfl), (Nat.le_of_ble_eq_true rfl)⟩) htab hlocks leS (fun _ h9 => h9) (Nat.le_of_ble_eq_true rfl) (Nat.le_of_ble_eq_true rfl) (fun o1 H locs h9 hG => ?_)
  replace h := h9
  clear h9
  refine gastore_n (i := 3) (lv' := [(3, va_rf o1), (0, .ref a0), (1, .int a1), (2, .int a2)]) hx hb d_H_call_5 rfl hl0 (by decide) rfl (fun ls hl2 => ?_)
  refine lv_aload_n hx hb d_H_call_6 rfl (lv_at hl2 1 rfl) ?_
  refine lv_iload_n hx hb d_H_call_7 rfl (lv_at hl2 3 rfl) ?_
  -- call H_neededDancer
  refine gxpq hG (vx_runV (As := [.int a2]) (rest := []) ⟨hx, hb, hml, hown, hw⟩ (m_H_neededDancer l hlt x S _ _ a0 a2 fa0 h) ⟨gcb hw tw_654 tw_28 tw_651 hd_H_neededDancer rfl rfl ⟨(Nat.le_of_ble_eq_true rfl), (Nat.le_of_ble_eq_true rfl)⟩, hw _ tw_653, hw _ tw_7⟩ (gpV hK hG kd_H fa0 rfl) rfl rfl hl2.1 rfl (lv_room (Nat.le_of_ble_eq_true rfl)) d_H_call_8 ⟨(Nat.le_of_ble_eq_true rfl), (Nat.le_of_ble_eq_true rfl)⟩) htab hlocks leS (fun _ h9 => h9) (Nat.le_of_ble_eq_true rfl) (Nat.le_of_ble_eq_true rfl) (fun o3 H locs h9 hG => ?_)
  replace h := h9
  clear h9
  refine gastore (lv' := [(4, va_rf o3), (3, va_rf o1), (0, .ref a0), (1, .int a1), (2, .int a2)]) hx hb d_H_call_11 hl2 (by decide) (by simp [gCat, gCatB, gci1, gcr1, gcl1, gcd1] <;> rfl) (fun ls hl4 => ?_)
  refine gaload_n hx hb d_H_call_13 rfl (lv_at hl4 1 rfl) ?_
  obtain ⟨y5, ey5, h⟩ := h
  subst ey5
  obtain ⟨f6, h⟩ := h
  refine gget hx hb hw hown hK hG kd_N f6 rfl 4 (by decide) rfl tw_742 (fun _ h9 => h9) d_H_call_14 ?_
  refine lv_bipush (v := 8) hx hb d_H_call_17 (by decide) ?_
  refine lv_icmp_lt (tgt := 32) hx hb d_H_call_19 (by decide) (fun hc10 => ?_) (fun hc10 => ?_)
  · replace h := h.1 hc10
    refine lv_aload_n hx hb d_H_call_32 rfl (lv_at hl4 1 rfl) ?_
    refine gaload hx hb d_H_call_33 (lv_at hl4 0 rfl) ?_
    obtain ⟨y7, ey7, h⟩ := h
    subst ey7
    obtain ⟨f8, h⟩ := h
    refine gget hx hb hw hown hK hG kd_R f8 rfl 0 (by decide) rfl tw_575 (fun _ h9 => h9) d_H_call_35 ?_
    -- call N_addToRound
    refine gcv hK hG (va_runV (As := [.int (sI S 6 y7)]) (rest := []) ⟨hx, hb, hml, hown, hw⟩ (m_N_addToRound l x S _ y5 (sI S 6 y7) f6 h) ⟨gcb hw tw_777 tw_53 tw_774 hd_N_addToRound rfl rfl ⟨(Nat.le_of_ble_eq_true rfl), (Nat.le_of_ble_eq_true rfl)⟩, hw _ tw_775, hw _ tw_776⟩ (gpV hK hG kd_N f6 rfl) rfl rfl hl4.1 rfl (lv_room (Nat.le_of_ble_eq_true rfl)) d_H_call_38 ⟨(Nat.le_of_ble_eq_true rfl), (Nat.le_of_ble_eq_true rfl)⟩) (fun S9 H locs h9 hle1 hG => ?_)
    replace h := h9
    clear h9
    have fa0 := gle_isA hle1 fa0
    have f6 := gle_isA hle1 f6
    have f8 := gle_isA hle1 f8
    have leS := leS.tr hle1
    refine lv_aload_n hx hb d_H_call_41 rfl (lv_at hl4 1 rfl) ?_
    refine gget hx hb hw hown hK hG kd_N f6 rfl 4 (by decide) rfl tw_742 (fun _ h9 => h9) d_H_call_42 ?_
    refine vx_ret ?_
    exact giret hx hb hr hlocks hK hG leS h (Nat.le_of_ble_eq_true rfl) (Nat.le_of_ble_eq_true rfl) d_H_call_45
  · replace h := h.2 hc10
    exact gthrow (own := "WaltzHall") (E := "java/lang/IllegalStateException") (text := "the round is full") ["java/lang/RuntimeException", "java/lang/Exception"] hx hb hlt hw hown hK hG (by decide +kernel) (by decide +kernel) tw_363 tw_48 (by decide) ta_H_70 tg_H_70_66 (hl4.1.trans hml.symm) d_H_call_22 d_H_call_25 d_H_call_26 d_H_call_28 d_H_call_31 htab (Nat.le_of_ble_eq_true rfl) (Nat.le_of_ble_eq_true rfl) (Nat.le_of_ble_eq_true rfl) (Nat.le_of_ble_eq_true rfl) hlocks leS h (Nat.le_of_ble_eq_true rfl) (Nat.le_of_ble_eq_true rfl)
def w_H_winder (post : Int32 → Prop) (px : String → Prop) (S : St) (a0 : Nat) (a1 : Int32) (a2 : Int32) : Prop :=
  w_H_neededWinder (fun (o1 : Option Nat) => w_H_needKind (∃ y3 : Nat, o1 = some y3 ∧ isA S 5 y3 ∧ w_N_tell (fun (r5 : Int32) => post r5) S y3 a2) px S a2 6) px S a0 a1
set_option maxHeartbeats 4000000 in
set_option maxRecDepth 100000 in
theorem m_H_winder (l : Launch) (hlt : l.stackTraces = false) (x : Cx) (S : St) (post : Int32 → Prop) (px : String → Prop) (a0 : Nat) (a1 : Int32) (a2 : Int32) (fa0 : isA S 6 a0) (h : w_H_winder post px S a0 a1 a2) : vx_Met l y_H_winder [.code y_H_winder c_H_winder 4 (some .int)] { frames := 7, cells := 2, slots := 12, locals := 111 } (va_Pc [.ref a0, .int a1, .int a2] (GW x S)) (va_Qi (gPu post S) (gB x S) (xA x)) (gX x S (gPx px S)) 2 12 (xA x) := by
  refine gMetX (by decide +kernel) (Nat.le_of_ble_eq_true rfl) ?_
  intro p e s m args below meth c hx hb hr hown hlocks hin hw hK H locs hG ls hlA hml htab
  have hown : s.vm.findClass "WaltzHall" = some m.cls := hown
  have hl0 : lv_has ls 4 [(0, .ref a0), (1, .int a1), (2, .int a2)] := hlA
  unfold w_H_winder at h
  refine lv_aload_n hx hb d_H_winder_0 rfl (lv_at hl0 0 rfl) ?_
  refine lv_iload_n hx hb d_H_winder_1 rfl (lv_at hl0 1 rfl) ?_
  -- call H_neededWinder
  refine gxpq hG (vx_runV (As := [.int a1]) (rest := []) ⟨hx, hb, hml, hown, hw⟩ (m_H_neededWinder l hlt x S _ _ a0 a1 fa0 h) ⟨gcb hw tw_771 tw_28 tw_768 hd_H_neededWinder rfl rfl ⟨(Nat.le_of_ble_eq_true rfl), (Nat.le_of_ble_eq_true rfl)⟩, hw _ tw_770, hw _ tw_8⟩ (gpV hK hG kd_H fa0 rfl) rfl rfl hl0.1 rfl (lv_room (Nat.le_of_ble_eq_true rfl)) d_H_winder_2 ⟨(Nat.le_of_ble_eq_true rfl), (Nat.le_of_ble_eq_true rfl)⟩) htab hlocks gle.rf (fun _ h9 => ⟨h9, rfl⟩) (Nat.le_of_ble_eq_true rfl) (Nat.le_of_ble_eq_true rfl) (fun o1 H locs h9 hG => ?_)
  replace h := h9
  clear h9
  refine gastore_n (i := 3) (lv' := [(3, va_rf o1), (0, .ref a0), (1, .int a1), (2, .int a2)]) hx hb d_H_winder_5 rfl hl0 (by decide) rfl (fun ls hl2 => ?_)
  refine lv_iload_n hx hb d_H_winder_6 rfl (lv_at hl2 3 rfl) ?_
  refine lv_bipush (v := 6) hx hb d_H_winder_7 (by decide) ?_
  -- call H_needKind
  refine gxpv hG (vx_runS (As := [.int a2, .int 6]) (rest := []) ⟨hx, hb, hml, hown, hw⟩ (m_H_needKind l hlt x S _ _ a2 6  h) ⟨gcb hw tw_526 tw_28 tw_524 hd_H_needKind rfl rfl ⟨(Nat.le_of_ble_eq_true rfl), (Nat.le_of_ble_eq_true rfl)⟩, hw _ tw_525⟩ (gpS hK hG) rfl rfl hl2.1 rfl (lv_room (Nat.le_of_ble_eq_true rfl)) d_H_winder_9 ⟨(Nat.le_of_ble_eq_true rfl), (Nat.le_of_ble_eq_true rfl)⟩) htab hlocks gle.rf (fun _ h9 => ⟨h9, rfl⟩) (Nat.le_of_ble_eq_true rfl) (Nat.le_of_ble_eq_true rfl) (fun H locs h9 hG => ?_)
  replace h := h9
  clear h9
  refine gaload_n hx hb d_H_winder_12 rfl (lv_at hl2 0 rfl) ?_
  refine lv_iload_n hx hb d_H_winder_13 rfl (lv_at hl2 3 rfl) ?_
  obtain ⟨y3, ey3, h⟩ := h
  subst ey3
  obtain ⟨f4, h⟩ := h
  -- call N_tell
  refine gpi hK hG (va_runV (As := [.int a2]) (rest := []) ⟨hx, hb, hml, hown, hw⟩ (m_N_tell l x S _ y3 a2 f4 h) ⟨gcb hw tw_346 tw_53 tw_343 hd_N_tell rfl rfl ⟨(Nat.le_of_ble_eq_true rfl), (Nat.le_of_ble_eq_true rfl)⟩, hw _ tw_344, hw _ tw_345⟩ (gpV hK hG kd_N f4 rfl) rfl rfl hl2.1 rfl (lv_room (Nat.le_of_ble_eq_true rfl)) d_H_winder_14 ⟨(Nat.le_of_ble_eq_true rfl), (Nat.le_of_ble_eq_true rfl)⟩) (fun r5 H locs h9 hG => ?_)
  replace h := h9
  clear h9
  refine vx_ret ?_
  exact giret hx hb hr hlocks hK hG gle.rf ⟨h, rfl⟩ (Nat.le_of_ble_eq_true rfl) (Nat.le_of_ble_eq_true rfl) d_H_winder_17
def w_H_needBeats (post : Prop) (px : String → Prop) (S : St) (a0 : Int32) : Prop :=
  (a0 < 1 → px "java/lang/IllegalArgumentException") ∧ (¬ a0 < 1 → (a0 ≤ 200 → post) ∧ (¬ a0 ≤ 200 → px "java/lang/IllegalArgumentException"))
set_option maxHeartbeats 4000000 in
set_option maxRecDepth 100000 in
theorem m_H_needBeats (l : Launch) (hlt : l.stackTraces = false) (x : Cx) (S : St) (post : Prop) (px : String → Prop) (a0 : Int32) (h : w_H_needBeats post px S a0) : vx_Met l y_H_needBeats [.code y_H_needBeats c_H_needBeats 1 none] { frames := 6, cells := 1, slots := 6, locals := 90 } (va_Pc [.int a0] (GW x S)) (va_Qv (gPv post S) (gB x S) (xA x)) (gX x S (gPx px S)) 1 6 (xA x) := by
  refine gMetX (by decide +kernel) (Nat.le_of_ble_eq_true rfl) ?_
  intro p e s m args below meth c hx hb hr hown hlocks hin hw hK H locs hG ls hlA hml htab
  have hown : s.vm.findClass "WaltzHall" = some m.cls := hown
  have hl0 : lv_has ls 1 [(0, .int a0)] := hlA
  unfold w_H_needBeats at h
  refine lv_iload_n hx hb d_H_needBeats_0 rfl (lv_at hl0 0 rfl) ?_
  refine lv_iconst (v := 1) hx hb d_H_needBeats_1 (by decide) ?_
  refine lv_icmp_lt (tgt := 12) hx hb d_H_needBeats_2 (by decide) (fun hc2 => ?_) (fun hc2 => ?_)
  · replace h := h.1 hc2
    exact gthrowW (own := "WaltzHall") (E := "java/lang/IllegalArgumentException") (text := "beats are 1 to 200") ["java/lang/RuntimeException", "java/lang/Exception"] hx hb hlt hw hown hK hG (by decide +kernel) (by decide +kernel) tw_442 tw_49 (by decide) ta_H_85 tg_H_85_81 (hl0.1.trans hml.symm) d_H_needBeats_12 d_H_needBeats_15 d_H_needBeats_16 d_H_needBeats_19 d_H_needBeats_22 htab (Nat.le_of_ble_eq_true rfl) (Nat.le_of_ble_eq_true rfl) (Nat.le_of_ble_eq_true rfl) (Nat.le_of_ble_eq_true rfl) hlocks gle.rf ⟨h, rfl⟩ (Nat.le_of_ble_eq_true rfl) (Nat.le_of_ble_eq_true rfl)
  · replace h := h.2 hc2
    refine lv_iload_n hx hb d_H_needBeats_5 rfl (lv_at hl0 0 rfl) ?_
    refine lv_sipush (v := 200) hx hb d_H_needBeats_6 (by decide) ?_
    refine lv_icmp_le (tgt := 23) hx hb d_H_needBeats_9 (by decide) (fun hc1 => ?_) (fun hc1 => ?_)
    · replace h := h.1 hc1
      refine vx_ret ?_
      exact gvret hx hb hr hlocks hK hG gle.rf ⟨h, rfl⟩ (Nat.le_of_ble_eq_true rfl) (Nat.le_of_ble_eq_true rfl) d_H_needBeats_23
    · replace h := h.2 hc1
      exact gthrowW (own := "WaltzHall") (E := "java/lang/IllegalArgumentException") (text := "beats are 1 to 200") ["java/lang/RuntimeException", "java/lang/Exception"] hx hb hlt hw hown hK hG (by decide +kernel) (by decide +kernel) tw_442 tw_49 (by decide) ta_H_85 tg_H_85_81 (hl0.1.trans hml.symm) d_H_needBeats_12 d_H_needBeats_15 d_H_needBeats_16 d_H_needBeats_19 d_H_needBeats_22 htab (Nat.le_of_ble_eq_true rfl) (Nat.le_of_ble_eq_true rfl) (Nat.le_of_ble_eq_true rfl) (Nat.le_of_ble_eq_true rfl) hlocks gle.rf ⟨h, rfl⟩ (Nat.le_of_ble_eq_true rfl) (Nat.le_of_ble_eq_true rfl)
def w_H_pass (post : Int32 → St → Prop) (px : String → St → Prop) (S : St) (a0 : Nat) (a1 : Int32) : Prop :=
  w_H_needBeats (∃ J8 : Nat → St → Int32 → Int32 → Prop, (∃ n : Nat, J8 n S 0 0) ∧ ∀ (n8 : Nat) (S_8 : St) (v2_8 : Int32) (v3_8 : Int32), J8 n8 S_8 v2_8 v3_8 → (a1 ≤ v3_8 → post v2_8 S_8) ∧ (¬ a1 ≤ v3_8 → ∀ o4 : Option Nat, o4 = sQ S_8 36 a0 → ∃ y5 : Nat, o4 = some y5 ∧ isA S_8 3 y5 ∧ w_F_playBeat (fun (r7 : Int32) (S8 : St) => ∀ v9 : Int32, v9 = v2_8 + r7 → ∀ v11 : Int32, v11 = v3_8 + 1 → ∃ nx : Nat, nx < n8 ∧ J8 nx S8 v9 v11) S_8 y5)) (fun E => px E S) S a1
set_option maxHeartbeats 4000000 in
set_option maxRecDepth 100000 in
theorem m_H_pass (l : Launch) (hlt : l.stackTraces = false) (x : Cx) (S : St) (post : Int32 → St → Prop) (px : String → St → Prop) (a0 : Nat) (a1 : Int32) (fa0 : isA S 6 a0) (h : w_H_pass post px S a0 a1) : vx_Met l y_H_pass [.code y_H_pass c_H_pass 4 (some .int)] { frames := 7, cells := 1, slots := 6, locals := 159 } (va_Pc [.ref a0, .int a1] (GW x S)) (va_Qi post (gB x S) (xA x)) (gX x S px) 1 6 (xA x) := by
  refine gMetX (by decide +kernel) (Nat.le_of_ble_eq_true rfl) ?_
  intro p e s m args below meth c hx hb hr hown hlocks hin hw hK H locs hG ls hlA hml htab
  have hown : s.vm.findClass "WaltzHall" = some m.cls := hown
  have hl0 : lv_has ls 4 [(0, .ref a0), (1, .int a1)] := hlA
  have leS : gle S S := gle.rf
  unfold w_H_pass at h
  refine lv_iload_n hx hb d_H_pass_0 rfl (lv_at hl0 1 rfl) ?_
  -- call H_needBeats
  refine gxpv hG (vx_runS (As := [.int a1]) (rest := []) ⟨hx, hb, hml, hown, hw⟩ (m_H_needBeats l hlt x S _ _ a1  h) ⟨gcb hw tw_794 tw_28 tw_792 hd_H_needBeats rfl rfl ⟨(Nat.le_of_ble_eq_true rfl), (Nat.le_of_ble_eq_true rfl)⟩, hw _ tw_793⟩ (gpS hK hG) rfl rfl hl0.1 rfl (lv_room (Nat.le_of_ble_eq_true rfl)) d_H_pass_1 ⟨(Nat.le_of_ble_eq_true rfl), (Nat.le_of_ble_eq_true rfl)⟩) htab hlocks leS (fun _ h9 => h9) (Nat.le_of_ble_eq_true rfl) (Nat.le_of_ble_eq_true rfl) (fun H locs h9 hG => ?_)
  replace h := h9
  clear h9
  refine lv_iconst (v := 0) hx hb d_H_pass_4 (by decide) ?_
  refine lv_istore_n (i := 2) (lv' := [(2, .int 0), (0, .ref a0), (1, .int a1)]) hx hb d_H_pass_5 rfl hl0 (by decide) rfl (fun ls hl1 => ?_)
  refine lv_iconst (v := 0) hx hb d_H_pass_6 (by decide) ?_
  refine lv_istore_n (i := 3) (lv' := [(3, .int 0), (2, .int 0), (0, .ref a0), (1, .int a1)]) hx hb d_H_pass_7 rfl hl1 (by decide) rfl (fun ls hl2 => ?_)
  obtain ⟨J8, ⟨n0_8, h0_8⟩, hJ8⟩ := h
  have k8 : ∀ (n8 : Nat) (S_8 : St) (v2_8 : Int32) (v3_8 : Int32) (H : Heap) (locs : List Loc) (ls : Array Slot), gle S S_8 → GH x S_8 s H locs → lv_has ls 4 [(0, .ref a0), (1, .int a1), (2, .int v2_8), (3, .int v3_8)] → J8 n8 S_8 v2_8 v3_8 → W p l e { frames := 7, cells := 1, slots := 6, locals := 159 } s m args below meth c H locs 1 6 (vx_MQ below (va_Qi post (gB x S) (xA x)) (gX x S px) args s 1 6 (xA x)) (F0 m 8 ls []) := by
    intro n8
    induction n8 using Nat.strongRecOn with
    | _ n8 ih8 =>
      intro S_8 v2_8 v3_8 H locs ls hle1 hG hl3 hj
      replace h := hJ8 n8 S_8 v2_8 v3_8 hj
      have fa0 := gle_isA hle1 fa0
      have leS := leS.tr hle1
      refine lv_iload_n hx hb d_H_pass_8 rfl (lv_at hl3 3 rfl) ?_
      refine lv_iload_n hx hb d_H_pass_9 rfl (lv_at hl3 1 rfl) ?_
      refine lv_icmp_ge (tgt := 29) hx hb d_H_pass_10 (by decide) (fun hc13 => ?_) (fun hc13 => ?_)
      · replace h := h.1 hc13
        refine lv_iload_n hx hb d_H_pass_29 rfl (lv_at hl3 2 rfl) ?_
        refine vx_ret ?_
        exact giret hx hb hr hlocks hK hG leS h (Nat.le_of_ble_eq_true rfl) (Nat.le_of_ble_eq_true rfl) d_H_pass_30
      · replace h := h.2 hc13
        refine lv_iload_n hx hb d_H_pass_13 rfl (lv_at hl3 2 rfl) ?_
        refine lv_aload_n hx hb d_H_pass_14 rfl (lv_at hl3 0 rfl) ?_
        refine gget hx hb hw hown hK hG kd_H fa0 rfl 3 (by decide) rfl tw_264 (fun _ h9 => h9) d_H_pass_15 ?_
        refine gtopq (fun o4 eo4 => ?_)
        replace h := h o4 eo4
        obtain ⟨y5, ey5, h⟩ := h
        subst ey5
        obtain ⟨f6, h⟩ := h
        -- call F_playBeat
        refine gci hK hG (va_runV (As := []) (rest := [.int v2_8]) ⟨hx, hb, hml, hown, hw⟩ (m_F_playBeat l x S_8 _ y5 f6 h) ⟨gcb hw tw_799 tw_38 tw_796 hd_F_playBeat rfl rfl ⟨(Nat.le_of_ble_eq_true rfl), (Nat.le_of_ble_eq_true rfl)⟩, hw _ tw_797, hw _ tw_798⟩ (gpV hK hG kd_F f6 rfl) rfl rfl hl3.1 rfl (lv_room (Nat.le_of_ble_eq_true rfl)) d_H_pass_18 ⟨(Nat.le_of_ble_eq_true rfl), (Nat.le_of_ble_eq_true rfl)⟩) (fun r7 S8 H locs h9 hle1 hG => ?_)
        replace h := h9
        clear h9
        have fa0 := gle_isA hle1 fa0
        have f6 := gle_isA hle1 f6
        have leS := leS.tr hle1
        refine lv_iadd hx hb d_H_pass_21 ?_
        refine lv_topi (fun v9 ev9 => ?_)
        replace h := h v9 ev9
        refine lv_istore_n (i := 2) (lv' := [(2, .int v9), (0, .ref a0), (1, .int a1), (3, .int v3_8)]) hx hb d_H_pass_22 rfl hl3 (by decide) rfl (fun ls hl10 => ?_)
        obtain ⟨v11, ev11⟩ : ∃ z : Int32, z = v3_8 + 1 := ⟨_, rfl⟩
        replace h := h v11 ev11
        refine lv_iinc (v := v11) (lv' := [(3, .int v11), (2, .int v9), (0, .ref a0), (1, .int a1)]) hx hb d_H_pass_23 hl10 (k := 3) rfl (by rw [ev11]; rfl) (by decide) rfl (fun ls hl12 => ?_)
        refine lv_goto (tgt := 8) hx hb d_H_pass_26 (by decide) ?_
        obtain ⟨nx, hnx, h⟩ := h
        exact ih8 nx hnx S8 v9 v11 H locs ls leS hG (lv_sub hl12 [2, 3, 1, 0] rfl) h
  exact k8 n0_8 S 0 0 H locs ls gle.rf hG (lv_sub hl2 [2, 3, 1, 0] rfl) h0_8
def w_H_count (post : Int32 → Prop) (px : String → Prop) (S : St) (a0 : Nat) (a1 : Int32) : Prop :=
  w_H_needKind (∀ o1 : Option Nat, o1 = sQ S 36 a0 → ∃ y2 : Nat, o1 = some y2 ∧ isA S 3 y2 ∧ w_F_countOf (fun (r4 : Int32) => post r4) S y2 a1) px S a1 9
set_option maxHeartbeats 4000000 in
set_option maxRecDepth 100000 in
theorem m_H_count (l : Launch) (hlt : l.stackTraces = false) (x : Cx) (S : St) (post : Int32 → Prop) (px : String → Prop) (a0 : Nat) (a1 : Int32) (fa0 : isA S 6 a0) (h : w_H_count post px S a0 a1) : vx_Met l y_H_count [.code y_H_count c_H_count 2 (some .int)] { frames := 7, cells := 1, slots := 6, locals := 111 } (va_Pc [.ref a0, .int a1] (GW x S)) (va_Qi (gPu post S) (gB x S) (xA x)) (gX x S (gPx px S)) 1 6 (xA x) := by
  refine gMetX (by decide +kernel) (Nat.le_of_ble_eq_true rfl) ?_
  intro p e s m args below meth c hx hb hr hown hlocks hin hw hK H locs hG ls hlA hml htab
  have hown : s.vm.findClass "WaltzHall" = some m.cls := hown
  have hl0 : lv_has ls 2 [(0, .ref a0), (1, .int a1)] := hlA
  unfold w_H_count at h
  refine lv_iload_n hx hb d_H_count_0 rfl (lv_at hl0 1 rfl) ?_
  refine lv_bipush (v := 9) hx hb d_H_count_1 (by decide) ?_
  -- call H_needKind
  refine gxpv hG (vx_runS (As := [.int a1, .int 9]) (rest := []) ⟨hx, hb, hml, hown, hw⟩ (m_H_needKind l hlt x S _ _ a1 9  h) ⟨gcb hw tw_526 tw_28 tw_524 hd_H_needKind rfl rfl ⟨(Nat.le_of_ble_eq_true rfl), (Nat.le_of_ble_eq_true rfl)⟩, hw _ tw_525⟩ (gpS hK hG) rfl rfl hl0.1 rfl (lv_room (Nat.le_of_ble_eq_true rfl)) d_H_count_3 ⟨(Nat.le_of_ble_eq_true rfl), (Nat.le_of_ble_eq_true rfl)⟩) htab hlocks gle.rf (fun _ h9 => ⟨h9, rfl⟩) (Nat.le_of_ble_eq_true rfl) (Nat.le_of_ble_eq_true rfl) (fun H locs h9 hG => ?_)
  replace h := h9
  clear h9
  refine lv_aload_n hx hb d_H_count_6 rfl (lv_at hl0 0 rfl) ?_
  refine gget hx hb hw hown hK hG kd_H fa0 rfl 3 (by decide) rfl tw_264 (fun _ h9 => h9) d_H_count_7 ?_
  refine gtopq (fun o1 eo1 => ?_)
  replace h := h o1 eo1
  refine lv_iload_n hx hb d_H_count_10 rfl (lv_at hl0 1 rfl) ?_
  obtain ⟨y2, ey2, h⟩ := h
  subst ey2
  obtain ⟨f3, h⟩ := h
  -- call F_countOf
  refine gpi hK hG (va_runV (As := [.int a1]) (rest := []) ⟨hx, hb, hml, hown, hw⟩ (m_F_countOf l x S _ y2 a1 f3 h) ⟨gcb hw tw_316 tw_38 tw_313 hd_F_countOf rfl rfl ⟨(Nat.le_of_ble_eq_true rfl), (Nat.le_of_ble_eq_true rfl)⟩, hw _ tw_314, hw _ tw_315⟩ (gpV hK hG kd_F f3 rfl) rfl rfl hl0.1 rfl (lv_room (Nat.le_of_ble_eq_true rfl)) d_H_count_11 ⟨(Nat.le_of_ble_eq_true rfl), (Nat.le_of_ble_eq_true rfl)⟩) (fun r4 H locs h9 hG => ?_)
  replace h := h9
  clear h9
  refine vx_ret ?_
  exact giret hx hb hr hlocks hK hG gle.rf ⟨h, rfl⟩ (Nat.le_of_ble_eq_true rfl) (Nat.le_of_ble_eq_true rfl) d_H_count_14
def w_H_foresee (post : Int32 → St → Prop) (px : String → St → Prop) (S : St) (a0 : Nat) (a1 : Int32) (a2 : Int32) (a3 : Int32) : Prop :=
  w_H_neededDancer (fun (o1 : Option Nat) => w_H_needKind (w_H_needBeats (∀ o3 : Option Nat, o3 = sQ S 37 a0 → ∀ o4 : Option Nat, o4 = sQ S 36 a0 → ∃ y5 : Nat, o3 = some y5 ∧ isA S 3 y5 ∧ w_F_startLike (fun (S7 : St) => ∃ J30 : Nat → St → Int32 → Prop, (∃ n : Nat, J30 n S7 0) ∧ ∀ (n30 : Nat) (S_30 : St) (v5_30 : Int32), J30 n30 S_30 v5_30 → (a2 ≤ v5_30 → ∀ o10 : Option Nat, o10 = sQ S_30 37 a0 → ∃ y11 : Nat, o10 = some y11 ∧ isA S_30 3 y11 ∧ w_F_dancerOrNull (fun (o13 : Option Nat) => (o13 = none → post (-1) S_30) ∧ (∀ y15 : Nat, o13 = some y15 → (a3 = 4 → isA S_30 2 y15 ∧ ∃ y19 : Nat, o1 = some y19 ∧ isA S_30 2 y19 ∧ post ((sI S_30 18 y15) - (sI S_30 18 y19)) S_30) ∧ (¬ a3 = 4 → isA S_30 2 y15 ∧ w_R_tell (fun (r17 : Int32) => post r17 S_30) S_30 y15 a3))) S_30 y11 a1) ∧ (¬ a2 ≤ v5_30 → ∀ o22 : Option Nat, o22 = sQ S_30 37 a0 → ∃ y23 : Nat, o22 = some y23 ∧ isA S_30 3 y23 ∧ w_F_playBeat (fun (r25 : Int32) (S26 : St) => ∀ v27 : Int32, v27 = v5_30 + 1 → ∃ nx : Nat, nx < n30 ∧ J30 nx S26 v27) S_30 y23)) S y5 o4) (fun E => px E S) S a2) (fun E => px E S) S a3 5) (fun E => px E S) S a0 a1
set_option maxHeartbeats 4000000 in
set_option maxRecDepth 100000 in
theorem m_H_foresee (l : Launch) (hlt : l.stackTraces = false) (x : Cx) (S : St) (post : Int32 → St → Prop) (px : String → St → Prop) (a0 : Nat) (a1 : Int32) (a2 : Int32) (a3 : Int32) (fa0 : isA S 6 a0) (h : w_H_foresee post px S a0 a1 a2 a3) : vx_Met l y_H_foresee [.code y_H_foresee c_H_foresee 6 (some .int)] { frames := 7, cells := 67, slots := 1042, locals := 159 } (va_Pc [.ref a0, .int a1, .int a2, .int a3] (GW x S)) (va_Qi post (gB x S) (xA x)) (gX x S px) 67 1042 (xA x) := by
  refine gMetX (by decide +kernel) (Nat.le_of_ble_eq_true rfl) ?_
  intro p e s m args below meth c hx hb hr hown hlocks hin hw hK H locs hG ls hlA hml htab
  have hown : s.vm.findClass "WaltzHall" = some m.cls := hown
  have hl0 : lv_has ls 6 [(0, .ref a0), (1, .int a1), (2, .int a2), (3, .int a3)] := hlA
  have leS : gle S S := gle.rf
  unfold w_H_foresee at h
  refine lv_aload_n hx hb d_H_foresee_0 rfl (lv_at hl0 0 rfl) ?_
  refine lv_iload_n hx hb d_H_foresee_1 rfl (lv_at hl0 1 rfl) ?_
  -- call H_neededDancer
  refine gxpq hG (vx_runV (As := [.int a1]) (rest := []) ⟨hx, hb, hml, hown, hw⟩ (m_H_neededDancer l hlt x S _ _ a0 a1 fa0 h) ⟨gcb hw tw_654 tw_28 tw_651 hd_H_neededDancer rfl rfl ⟨(Nat.le_of_ble_eq_true rfl), (Nat.le_of_ble_eq_true rfl)⟩, hw _ tw_653, hw _ tw_7⟩ (gpV hK hG kd_H fa0 rfl) rfl rfl hl0.1 rfl (lv_room (Nat.le_of_ble_eq_true rfl)) d_H_foresee_2 ⟨(Nat.le_of_ble_eq_true rfl), (Nat.le_of_ble_eq_true rfl)⟩) htab hlocks leS (fun _ h9 => h9) (Nat.le_of_ble_eq_true rfl) (Nat.le_of_ble_eq_true rfl) (fun o1 H locs h9 hG => ?_)
  replace h := h9
  clear h9
  refine gastore (lv' := [(4, va_rf o1), (0, .ref a0), (1, .int a1), (2, .int a2), (3, .int a3)]) hx hb d_H_foresee_5 hl0 (by decide) rfl (fun ls hl2 => ?_)
  refine lv_iload_n hx hb d_H_foresee_7 rfl (lv_at hl2 4 rfl) ?_
  refine lv_iconst (v := 5) hx hb d_H_foresee_8 (by decide) ?_
  -- call H_needKind
  refine gxpv hG (vx_runS (As := [.int a3, .int 5]) (rest := []) ⟨hx, hb, hml, hown, hw⟩ (m_H_needKind l hlt x S _ _ a3 5  h) ⟨gcb hw tw_526 tw_28 tw_524 hd_H_needKind rfl rfl ⟨(Nat.le_of_ble_eq_true rfl), (Nat.le_of_ble_eq_true rfl)⟩, hw _ tw_525⟩ (gpS hK hG) rfl rfl hl2.1 rfl (lv_room (Nat.le_of_ble_eq_true rfl)) d_H_foresee_9 ⟨(Nat.le_of_ble_eq_true rfl), (Nat.le_of_ble_eq_true rfl)⟩) htab hlocks leS (fun _ h9 => h9) (Nat.le_of_ble_eq_true rfl) (Nat.le_of_ble_eq_true rfl) (fun H locs h9 hG => ?_)
  replace h := h9
  clear h9
  refine lv_iload_n hx hb d_H_foresee_12 rfl (lv_at hl2 3 rfl) ?_
  -- call H_needBeats
  refine gxpv hG (vx_runS (As := [.int a2]) (rest := []) ⟨hx, hb, hml, hown, hw⟩ (m_H_needBeats l hlt x S _ _ a2  h) ⟨gcb hw tw_794 tw_28 tw_792 hd_H_needBeats rfl rfl ⟨(Nat.le_of_ble_eq_true rfl), (Nat.le_of_ble_eq_true rfl)⟩, hw _ tw_793⟩ (gpS hK hG) rfl rfl hl2.1 rfl (lv_room (Nat.le_of_ble_eq_true rfl)) d_H_foresee_13 ⟨(Nat.le_of_ble_eq_true rfl), (Nat.le_of_ble_eq_true rfl)⟩) htab hlocks leS (fun _ h9 => h9) (Nat.le_of_ble_eq_true rfl) (Nat.le_of_ble_eq_true rfl) (fun H locs h9 hG => ?_)
  replace h := h9
  clear h9
  refine lv_aload_n hx hb d_H_foresee_16 rfl (lv_at hl2 1 rfl) ?_
  refine gget hx hb hw hown hK hG kd_H fa0 rfl 4 (by decide) rfl tw_265 (fun _ h9 => h9) d_H_foresee_17 ?_
  refine gtopq (fun o3 eo3 => ?_)
  replace h := h o3 eo3
  refine lv_aload_n hx hb d_H_foresee_20 rfl (lv_at hl2 1 rfl) ?_
  refine gget hx hb hw hown hK hG kd_H fa0 rfl 3 (by decide) rfl tw_264 (fun _ h9 => h9) d_H_foresee_21 ?_
  refine gtopq (fun o4 eo4 => ?_)
  replace h := h o4 eo4
  obtain ⟨y5, ey5, h⟩ := h
  subst ey5
  obtain ⟨f6, h⟩ := h
  -- call F_startLike
  refine gcv hK hG (va_runV (As := [va_rf o4]) (rest := []) ⟨hx, hb, hml, hown, hw⟩ (m_F_startLike l x S _ y5 o4 f6 h) ⟨gcb hw tw_892 tw_38 tw_889 hd_F_startLike rfl rfl ⟨(Nat.le_of_ble_eq_true rfl), (Nat.le_of_ble_eq_true rfl)⟩, hw _ tw_890, hw _ tw_891⟩ (gpV hK hG kd_F f6 rfl) rfl rfl hl2.1 rfl (lv_room (Nat.le_of_ble_eq_true rfl)) d_H_foresee_24 ⟨(Nat.le_of_ble_eq_true rfl), (Nat.le_of_ble_eq_true rfl)⟩) (fun S7 H locs h9 hle1 hG => ?_)
  replace h := h9
  clear h9
  have fa0 := gle_isA hle1 fa0
  have f6 := gle_isA hle1 f6
  have leS := leS.tr hle1
  refine lv_iconst (v := 0) hx hb d_H_foresee_27 (by decide) ?_
  refine lv_istore (lv' := [(5, .int 0), (4, va_rf o1), (0, .ref a0), (1, .int a1), (2, .int a2), (3, .int a3)]) hx hb d_H_foresee_28 hl2 (by decide) (by simp [gCat, gCatB, gci1, gcr1, gcl1, gcd1] <;> rfl) (fun ls hl8 => ?_)
  have leS7 : gle S7 S7 := gle.rf
  obtain ⟨J30, ⟨n0_30, h0_30⟩, hJ30⟩ := h
  have k30 : ∀ (n30 : Nat) (S_30 : St) (v5_30 : Int32) (H : Heap) (locs : List Loc) (ls : Array Slot), gle S7 S_30 → GH x S_30 s H locs → lv_has ls 6 [(0, .ref a0), (1, .int a1), (2, .int a2), (3, .int a3), (4, va_rf o1), (5, .int v5_30)] → J30 n30 S_30 v5_30 → W p l e { frames := 7, cells := 67, slots := 1042, locals := 159 } s m args below meth c H locs 67 1042 (vx_MQ below (va_Qi post (gB x S) (xA x)) (gX x S px) args s 67 1042 (xA x)) (F0 m 30 ls []) := by
    intro n30
    induction n30 using Nat.strongRecOn with
    | _ n30 ih30 =>
      intro S_30 v5_30 H locs ls hle1 hG hl9 hj
      replace h := hJ30 n30 S_30 v5_30 hj
      have fa0 := gle_isA hle1 fa0
      have f6 := gle_isA hle1 f6
      have leS := leS.tr hle1
      have leS7 := leS7.tr hle1
      refine lv_iload hx hb d_H_foresee_30 (lv_at hl9 5 rfl) ?_
      refine lv_iload_n hx hb d_H_foresee_32 rfl (lv_at hl9 2 rfl) ?_
      refine lv_icmp_ge (tgt := 50) hx hb d_H_foresee_33 (by decide) (fun hc29 => ?_) (fun hc29 => ?_)
      · replace h := h.1 hc29
        refine lv_aload_n hx hb d_H_foresee_50 rfl (lv_at hl9 0 rfl) ?_
        refine gget hx hb hw hown hK hG kd_H fa0 rfl 4 (by decide) rfl tw_265 (fun _ h9 => h9) d_H_foresee_51 ?_
        refine gtopq (fun o10 eo10 => ?_)
        replace h := h o10 eo10
        refine lv_iload_n hx hb d_H_foresee_54 rfl (lv_at hl9 1 rfl) ?_
        obtain ⟨y11, ey11, h⟩ := h
        subst ey11
        obtain ⟨f12, h⟩ := h
        -- call F_dancerOrNull
        refine gpq hK hG (va_runV (As := [.int a1]) (rest := []) ⟨hx, hb, hml, hown, hw⟩ (m_F_dancerOrNull l x S_30 _ y11 a1 f12 h) ⟨gcb hw tw_658 tw_38 tw_655 hd_F_dancerOrNull rfl rfl ⟨(Nat.le_of_ble_eq_true rfl), (Nat.le_of_ble_eq_true rfl)⟩, hw _ tw_656, hw _ tw_657⟩ (gpV hK hG kd_F f12 rfl) rfl rfl hl9.1 rfl (lv_room (Nat.le_of_ble_eq_true rfl)) d_H_foresee_55 ⟨(Nat.le_of_ble_eq_true rfl), (Nat.le_of_ble_eq_true rfl)⟩) (fun o13 H locs h9 hG => ?_)
        replace h := h9
        clear h9
        refine gastore (lv' := [(5, va_rf o13), (0, .ref a0), (1, .int a1), (2, .int a2), (3, .int a3), (4, va_rf o1)]) hx hb d_H_foresee_58 hl9 (by decide) (by simp [gCat, gCatB, gci1, gcr1, gcl1, gcd1] <;> rfl) (fun ls hl14 => ?_)
        refine gaload hx hb d_H_foresee_60 (lv_at hl14 0 rfl) ?_
        refine gifnonnull (tgt := 67) hx hb d_H_foresee_62 (by decide) (fun y15 e9 => ?_) (fun e9 => ?_)
        · replace h := h.2 y15 e9
          subst e9
          refine lv_iload_n hx hb d_H_foresee_67 rfl (lv_at hl14 4 rfl) ?_
          refine lv_iconst (v := 4) hx hb d_H_foresee_68 (by decide) ?_
          refine lv_icmp_ne (tgt := 86) hx hb d_H_foresee_69 (by decide) (fun hc21 => ?_) (fun hc21 => ?_)
          · replace h := h.2 hc21
            refine lv_aload hx hb d_H_foresee_86 (lv_at hl14 0 rfl) ?_
            refine lv_iload_n hx hb d_H_foresee_88 rfl (lv_at hl14 4 rfl) ?_
            obtain ⟨f16, h⟩ := h
            -- call R_tell
            refine gpi hK hG (va_runV (As := [.int a3]) (rest := []) ⟨hx, hb, hml, hown, hw⟩ (m_R_tell l x S_30 _ y15 a3 f16 h) ⟨gcb hw tw_306 tw_52 tw_341 hd_R_tell rfl rfl ⟨(Nat.le_of_ble_eq_true rfl), (Nat.le_of_ble_eq_true rfl)⟩, hw _ tw_304, hw _ tw_305⟩ (gpV hK hG kd_R f16 rfl) rfl rfl hl14.1 rfl (lv_room (Nat.le_of_ble_eq_true rfl)) d_H_foresee_89 ⟨(Nat.le_of_ble_eq_true rfl), (Nat.le_of_ble_eq_true rfl)⟩) (fun r17 H locs h9 hG => ?_)
            replace h := h9
            clear h9
            refine vx_ret ?_
            exact giret hx hb hr hlocks hK hG leS h (Nat.le_of_ble_eq_true rfl) (Nat.le_of_ble_eq_true rfl) d_H_foresee_92
          · replace h := h.1 hc21
            refine lv_aload hx hb d_H_foresee_72 (lv_at hl14 0 rfl) ?_
            obtain ⟨f18, h⟩ := h
            refine gget hx hb hw hown hK hG kd_R f18 rfl 12 (by decide) rfl tw_608 (fun _ h9 => h9) d_H_foresee_74 ?_
            refine gaload hx hb d_H_foresee_77 (lv_at hl14 5 rfl) ?_
            obtain ⟨y19, ey19, h⟩ := h
            subst ey19
            obtain ⟨f20, h⟩ := h
            refine gget hx hb hw hown hK hG kd_R f20 rfl 12 (by decide) rfl tw_608 (fun _ h9 => h9) d_H_foresee_79 ?_
            refine lv_isub hx hb d_H_foresee_82 ?_
            refine lv_goto (tgt := 92) hx hb d_H_foresee_83 (by decide) ?_
            refine vx_ret ?_
            exact giret hx hb hr hlocks hK hG leS h (Nat.le_of_ble_eq_true rfl) (Nat.le_of_ble_eq_true rfl) d_H_foresee_92
        · replace h := h.1 e9
          subst e9
          refine lv_iconst (v := (-1)) hx hb d_H_foresee_65 (by decide) ?_
          refine vx_ret ?_
          exact giret hx hb hr hlocks hK hG leS h (Nat.le_of_ble_eq_true rfl) (Nat.le_of_ble_eq_true rfl) d_H_foresee_66
      · replace h := h.2 hc29
        refine lv_aload_n hx hb d_H_foresee_36 rfl (lv_at hl9 0 rfl) ?_
        refine gget hx hb hw hown hK hG kd_H fa0 rfl 4 (by decide) rfl tw_265 (fun _ h9 => h9) d_H_foresee_37 ?_
        refine gtopq (fun o22 eo22 => ?_)
        replace h := h o22 eo22
        obtain ⟨y23, ey23, h⟩ := h
        subst ey23
        obtain ⟨f24, h⟩ := h
        -- call F_playBeat
        refine gci hK hG (va_runV (As := []) (rest := []) ⟨hx, hb, hml, hown, hw⟩ (m_F_playBeat l x S_30 _ y23 f24 h) ⟨gcb hw tw_799 tw_38 tw_796 hd_F_playBeat rfl rfl ⟨(Nat.le_of_ble_eq_true rfl), (Nat.le_of_ble_eq_true rfl)⟩, hw _ tw_797, hw _ tw_798⟩ (gpV hK hG kd_F f24 rfl) rfl rfl hl9.1 rfl (lv_room (Nat.le_of_ble_eq_true rfl)) d_H_foresee_40 ⟨(Nat.le_of_ble_eq_true rfl), (Nat.le_of_ble_eq_true rfl)⟩) (fun r25 S26 H locs h9 hle1 hG => ?_)
        replace h := h9
        clear h9
        have fa0 := gle_isA hle1 fa0
        have f6 := gle_isA hle1 f6
        have f24 := gle_isA hle1 f24
        have leS := leS.tr hle1
        have leS7 := leS7.tr hle1
        refine lv_pop hx hb d_H_foresee_43 rfl ?_
        obtain ⟨v27, ev27⟩ : ∃ z : Int32, z = v5_30 + 1 := ⟨_, rfl⟩
        replace h := h v27 ev27
        refine lv_iinc (v := v27) (lv' := [(5, .int v27), (0, .ref a0), (1, .int a1), (2, .int a2), (3, .int a3), (4, va_rf o1)]) hx hb d_H_foresee_44 hl9 (k := 5) rfl (by rw [ev27]; rfl) (by decide) (by simp [gCat, gCatB, gci1, gcr1, gcl1, gcd1] <;> rfl) (fun ls hl28 => ?_)
        refine lv_goto (tgt := 30) hx hb d_H_foresee_47 (by decide) ?_
        obtain ⟨nx, hnx, h⟩ := h
        exact ih30 nx hnx S26 v27 H locs ls leS7 hG (lv_sub hl28 [1, 2, 3, 4, 5, 0] rfl) h
  exact k30 n0_30 S7 0 H locs ls gle.rf hG (lv_sub hl8 [2, 3, 4, 5, 1, 0] rfl) h0_30
def w_H_firstToStop (post : Int32 → St → Prop) (px : String → St → Prop) (S : St) (a0 : Nat) (a1 : Int32) : Prop :=
  w_H_needBeats (∀ o1 : Option Nat, o1 = sQ S 37 a0 → ∀ o2 : Option Nat, o2 = sQ S 36 a0 → ∃ y3 : Nat, o1 = some y3 ∧ isA S 3 y3 ∧ w_F_startLike (fun (S5 : St) => ∃ J17 : Nat → St → Int32 → Prop, (∃ n : Nat, J17 n S5 0) ∧ ∀ (n17 : Nat) (S_17 : St) (v2_17 : Int32), J17 n17 S_17 v2_17 → (a1 ≤ v2_17 → post (-1) S_17) ∧ (¬ a1 ≤ v2_17 → ∀ o8 : Option Nat, o8 = sQ S_17 37 a0 → ∃ y9 : Nat, o8 = some y9 ∧ isA S_17 3 y9 ∧ w_F_playBeat (fun (r11 : Int32) (S12 : St) => ∀ o13 : Option Nat, o13 = sQ S12 37 a0 → ∀ o14 : Option Nat, o14 = sQ S12 36 a0 → ∃ y15 : Nat, o13 = some y15 ∧ isA S12 3 y15 ∧ w_F_firstNewlySpentSince (fun (r17 : Int32) => (r17 < 0 → ∀ v19 : Int32, v19 = v2_17 + 1 → ∃ nx : Nat, nx < n17 ∧ J17 nx S12 v19) ∧ (¬ r17 < 0 → post r17 S12)) S12 y15 o14) S_17 y9)) S y3 o2) (fun E => px E S) S a1
set_option maxHeartbeats 4000000 in
set_option maxRecDepth 100000 in
theorem m_H_firstToStop (l : Launch) (hlt : l.stackTraces = false) (x : Cx) (S : St) (post : Int32 → St → Prop) (px : String → St → Prop) (a0 : Nat) (a1 : Int32) (fa0 : isA S 6 a0) (h : w_H_firstToStop post px S a0 a1) : vx_Met l y_H_firstToStop [.code y_H_firstToStop c_H_firstToStop 4 (some .int)] { frames := 7, cells := 65, slots := 1030, locals := 159 } (va_Pc [.ref a0, .int a1] (GW x S)) (va_Qi post (gB x S) (xA x)) (gX x S px) 65 1030 (xA x) := by
  refine gMetX (by decide +kernel) (Nat.le_of_ble_eq_true rfl) ?_
  intro p e s m args below meth c hx hb hr hown hlocks hin hw hK H locs hG ls hlA hml htab
  have hown : s.vm.findClass "WaltzHall" = some m.cls := hown
  have hl0 : lv_has ls 4 [(0, .ref a0), (1, .int a1)] := hlA
  have leS : gle S S := gle.rf
  unfold w_H_firstToStop at h
  refine lv_iload_n hx hb d_H_firstToStop_0 rfl (lv_at hl0 1 rfl) ?_
  -- call H_needBeats
  refine gxpv hG (vx_runS (As := [.int a1]) (rest := []) ⟨hx, hb, hml, hown, hw⟩ (m_H_needBeats l hlt x S _ _ a1  h) ⟨gcb hw tw_794 tw_28 tw_792 hd_H_needBeats rfl rfl ⟨(Nat.le_of_ble_eq_true rfl), (Nat.le_of_ble_eq_true rfl)⟩, hw _ tw_793⟩ (gpS hK hG) rfl rfl hl0.1 rfl (lv_room (Nat.le_of_ble_eq_true rfl)) d_H_firstToStop_1 ⟨(Nat.le_of_ble_eq_true rfl), (Nat.le_of_ble_eq_true rfl)⟩) htab hlocks leS (fun _ h9 => h9) (Nat.le_of_ble_eq_true rfl) (Nat.le_of_ble_eq_true rfl) (fun H locs h9 hG => ?_)
  replace h := h9
  clear h9
  refine lv_aload_n hx hb d_H_firstToStop_4 rfl (lv_at hl0 0 rfl) ?_
  refine gget hx hb hw hown hK hG kd_H fa0 rfl 4 (by decide) rfl tw_265 (fun _ h9 => h9) d_H_firstToStop_5 ?_
  refine gtopq (fun o1 eo1 => ?_)
  replace h := h o1 eo1
  refine lv_aload_n hx hb d_H_firstToStop_8 rfl (lv_at hl0 0 rfl) ?_
  refine gget hx hb hw hown hK hG kd_H fa0 rfl 3 (by decide) rfl tw_264 (fun _ h9 => h9) d_H_firstToStop_9 ?_
  refine gtopq (fun o2 eo2 => ?_)
  replace h := h o2 eo2
  obtain ⟨y3, ey3, h⟩ := h
  subst ey3
  obtain ⟨f4, h⟩ := h
  -- call F_startLike
  refine gcv hK hG (va_runV (As := [va_rf o2]) (rest := []) ⟨hx, hb, hml, hown, hw⟩ (m_F_startLike l x S _ y3 o2 f4 h) ⟨gcb hw tw_892 tw_38 tw_889 hd_F_startLike rfl rfl ⟨(Nat.le_of_ble_eq_true rfl), (Nat.le_of_ble_eq_true rfl)⟩, hw _ tw_890, hw _ tw_891⟩ (gpV hK hG kd_F f4 rfl) rfl rfl hl0.1 rfl (lv_room (Nat.le_of_ble_eq_true rfl)) d_H_firstToStop_12 ⟨(Nat.le_of_ble_eq_true rfl), (Nat.le_of_ble_eq_true rfl)⟩) (fun S5 H locs h9 hle1 hG => ?_)
  replace h := h9
  clear h9
  have fa0 := gle_isA hle1 fa0
  have f4 := gle_isA hle1 f4
  have leS := leS.tr hle1
  refine lv_iconst (v := 0) hx hb d_H_firstToStop_15 (by decide) ?_
  refine lv_istore_n (i := 2) (lv' := [(2, .int 0), (0, .ref a0), (1, .int a1)]) hx hb d_H_firstToStop_16 rfl hl0 (by decide) rfl (fun ls hl6 => ?_)
  have leS5 : gle S5 S5 := gle.rf
  obtain ⟨J17, ⟨n0_17, h0_17⟩, hJ17⟩ := h
  have k17 : ∀ (n17 : Nat) (S_17 : St) (v2_17 : Int32) (H : Heap) (locs : List Loc) (ls : Array Slot), gle S5 S_17 → GH x S_17 s H locs → lv_has ls 4 [(0, .ref a0), (1, .int a1), (2, .int v2_17)] → J17 n17 S_17 v2_17 → W p l e { frames := 7, cells := 65, slots := 1030, locals := 159 } s m args below meth c H locs 65 1030 (vx_MQ below (va_Qi post (gB x S) (xA x)) (gX x S px) args s 65 1030 (xA x)) (F0 m 17 ls []) := by
    intro n17
    induction n17 using Nat.strongRecOn with
    | _ n17 ih17 =>
      intro S_17 v2_17 H locs ls hle1 hG hl7 hj
      replace h := hJ17 n17 S_17 v2_17 hj
      have fa0 := gle_isA hle1 fa0
      have f4 := gle_isA hle1 f4
      have leS := leS.tr hle1
      have leS5 := leS5.tr hle1
      refine lv_iload_n hx hb d_H_firstToStop_17 rfl (lv_at hl7 2 rfl) ?_
      refine lv_iload_n hx hb d_H_firstToStop_18 rfl (lv_at hl7 1 rfl) ?_
      refine lv_icmp_ge (tgt := 54) hx hb d_H_firstToStop_19 (by decide) (fun hc22 => ?_) (fun hc22 => ?_)
      · replace h := h.1 hc22
        refine lv_iconst (v := (-1)) hx hb d_H_firstToStop_54 (by decide) ?_
        refine vx_ret ?_
        exact giret hx hb hr hlocks hK hG leS h (Nat.le_of_ble_eq_true rfl) (Nat.le_of_ble_eq_true rfl) d_H_firstToStop_55
      · replace h := h.2 hc22
        refine lv_aload_n hx hb d_H_firstToStop_22 rfl (lv_at hl7 0 rfl) ?_
        refine gget hx hb hw hown hK hG kd_H fa0 rfl 4 (by decide) rfl tw_265 (fun _ h9 => h9) d_H_firstToStop_23 ?_
        refine gtopq (fun o8 eo8 => ?_)
        replace h := h o8 eo8
        obtain ⟨y9, ey9, h⟩ := h
        subst ey9
        obtain ⟨f10, h⟩ := h
        -- call F_playBeat
        refine gci hK hG (va_runV (As := []) (rest := []) ⟨hx, hb, hml, hown, hw⟩ (m_F_playBeat l x S_17 _ y9 f10 h) ⟨gcb hw tw_799 tw_38 tw_796 hd_F_playBeat rfl rfl ⟨(Nat.le_of_ble_eq_true rfl), (Nat.le_of_ble_eq_true rfl)⟩, hw _ tw_797, hw _ tw_798⟩ (gpV hK hG kd_F f10 rfl) rfl rfl hl7.1 rfl (lv_room (Nat.le_of_ble_eq_true rfl)) d_H_firstToStop_26 ⟨(Nat.le_of_ble_eq_true rfl), (Nat.le_of_ble_eq_true rfl)⟩) (fun r11 S12 H locs h9 hle1 hG => ?_)
        replace h := h9
        clear h9
        have fa0 := gle_isA hle1 fa0
        have f4 := gle_isA hle1 f4
        have f10 := gle_isA hle1 f10
        have leS := leS.tr hle1
        have leS5 := leS5.tr hle1
        refine lv_pop hx hb d_H_firstToStop_29 rfl ?_
        refine lv_aload_n hx hb d_H_firstToStop_30 rfl (lv_at hl7 0 rfl) ?_
        refine gget hx hb hw hown hK hG kd_H fa0 rfl 4 (by decide) rfl tw_265 (fun _ h9 => h9) d_H_firstToStop_31 ?_
        refine gtopq (fun o13 eo13 => ?_)
        replace h := h o13 eo13
        refine lv_aload_n hx hb d_H_firstToStop_34 rfl (lv_at hl7 0 rfl) ?_
        refine gget hx hb hw hown hK hG kd_H fa0 rfl 3 (by decide) rfl tw_264 (fun _ h9 => h9) d_H_firstToStop_35 ?_
        refine gtopq (fun o14 eo14 => ?_)
        replace h := h o14 eo14
        obtain ⟨y15, ey15, h⟩ := h
        subst ey15
        obtain ⟨f16, h⟩ := h
        -- call F_firstNewlySpentSince
        refine gpi hK hG (va_runV (As := [va_rf o14]) (rest := []) ⟨hx, hb, hml, hown, hw⟩ (m_F_firstNewlySpentSince l x S12 _ y15 o14 f16 h) ⟨gcb hw tw_914 tw_38 tw_911 hd_F_firstNewlySpentSince rfl rfl ⟨(Nat.le_of_ble_eq_true rfl), (Nat.le_of_ble_eq_true rfl)⟩, hw _ tw_912, hw _ tw_913⟩ (gpV hK hG kd_F f16 rfl) rfl rfl hl7.1 rfl (lv_room (Nat.le_of_ble_eq_true rfl)) d_H_firstToStop_38 ⟨(Nat.le_of_ble_eq_true rfl), (Nat.le_of_ble_eq_true rfl)⟩) (fun r17 H locs h9 hG => ?_)
        replace h := h9
        clear h9
        refine lv_istore_n (i := 3) (lv' := [(3, .int r17), (0, .ref a0), (1, .int a1), (2, .int v2_17)]) hx hb d_H_firstToStop_41 rfl hl7 (by decide) rfl (fun ls hl18 => ?_)
        refine lv_iload_n hx hb d_H_firstToStop_42 rfl (lv_at hl18 0 rfl) ?_
        refine lv_if_lt (tgt := 48) hx hb d_H_firstToStop_43 (by decide) (fun hc21 => ?_) (fun hc21 => ?_)
        · replace h := h.1 hc21
          obtain ⟨v19, ev19⟩ : ∃ z : Int32, z = v2_17 + 1 := ⟨_, rfl⟩
          replace h := h v19 ev19
          refine lv_iinc (v := v19) (lv' := [(2, .int v19), (3, .int r17), (0, .ref a0), (1, .int a1)]) hx hb d_H_firstToStop_48 hl18 (k := 3) rfl (by rw [ev19]; rfl) (by decide) rfl (fun ls hl20 => ?_)
          refine lv_goto (tgt := 17) hx hb d_H_firstToStop_51 (by decide) ?_
          obtain ⟨nx, hnx, h⟩ := h
          exact ih17 nx hnx S12 v19 H locs ls leS5 hG (lv_sub hl20 [2, 3, 0] rfl) h
        · replace h := h.2 hc21
          refine lv_iload_n hx hb d_H_firstToStop_46 rfl (lv_at hl18 0 rfl) ?_
          refine vx_ret ?_
          exact giret hx hb hr hlocks hK hG leS h (Nat.le_of_ble_eq_true rfl) (Nat.le_of_ble_eq_true rfl) d_H_firstToStop_47
  exact k17 n0_17 S5 0 H locs ls gle.rf hG (lv_sub hl6 [1, 2, 0] rfl) h0_17
def w_H_meet (post : Int32 → St → Prop) (px : String → St → Prop) (S : St) (a0 : Nat) (a1 : Int32) (a2 : Int32) (a3 : Int32) : Prop :=
  w_H_neededDancer (fun (o1 : Option Nat) => w_H_neededDancer (fun (o2 : Option Nat) => (a1 = a2 → px "java/lang/IllegalArgumentException" S) ∧ (¬ a1 = a2 → w_H_needBeats (∀ o3 : Option Nat, o3 = sQ S 37 a0 → ∀ o4 : Option Nat, o4 = sQ S 36 a0 → ∃ y5 : Nat, o3 = some y5 ∧ isA S 3 y5 ∧ w_F_startLike (fun (S7 : St) => ∀ o8 : Option Nat, o8 = sQ S7 37 a0 → ∃ y9 : Nat, o8 = some y9 ∧ isA S7 3 y9 ∧ w_F_areBeside (fun (r11 : Int32) => (r11 = 0 → ∃ J59 : Nat → St → Int32 → Prop, (∃ n : Nat, J59 n S7 1) ∧ ∀ (n59 : Nat) (S_59 : St) (v4_59 : Int32), J59 n59 S_59 v4_59 → (a3 < v4_59 → post (-1) S_59) ∧ (¬ a3 < v4_59 → ∀ o14 : Option Nat, o14 = sQ S_59 37 a0 → ∃ y15 : Nat, o14 = some y15 ∧ isA S_59 3 y15 ∧ w_F_playBeat (fun (r17 : Int32) (S18 : St) => ∀ o19 : Option Nat, o19 = sQ S18 37 a0 → ∃ y20 : Nat, o19 = some y20 ∧ isA S18 3 y20 ∧ w_F_areBeside (fun (r22 : Int32) => (r22 = 0 → ∀ v23 : Int32, v23 = v4_59 + 1 → ∃ nx : Nat, nx < n59 ∧ J59 nx S18 v23) ∧ (¬ r22 = 0 → post v4_59 S18)) S18 y20 a1 a2) S_59 y15)) ∧ (¬ r11 = 0 → post 0 S7)) S7 y9 a1 a2) S y5 o4) (fun E => px E S) S a3)) (fun E => px E S) S a0 a2) (fun E => px E S) S a0 a1
set_option maxHeartbeats 4000000 in
set_option maxRecDepth 100000 in
theorem m_H_meet (l : Launch) (hlt : l.stackTraces = false) (x : Cx) (S : St) (post : Int32 → St → Prop) (px : String → St → Prop) (a0 : Nat) (a1 : Int32) (a2 : Int32) (a3 : Int32) (fa0 : isA S 6 a0) (h : w_H_meet post px S a0 a1 a2 a3) : vx_Met l y_H_meet [.code y_H_meet c_H_meet 5 (some .int)] { frames := 7, cells := 67, slots := 1042, locals := 159 } (va_Pc [.ref a0, .int a1, .int a2, .int a3] (GW x S)) (va_Qi post (gB x S) (xA x)) (gX x S px) 67 1042 (xA x) := by
  refine gMetX (by decide +kernel) (Nat.le_of_ble_eq_true rfl) ?_
  intro p e s m args below meth c hx hb hr hown hlocks hin hw hK H locs hG ls hlA hml htab
  have hown : s.vm.findClass "WaltzHall" = some m.cls := hown
  have hl0 : lv_has ls 5 [(0, .ref a0), (1, .int a1), (2, .int a2), (3, .int a3)] := hlA
  have leS : gle S S := gle.rf
  unfold w_H_meet at h
  refine lv_aload_n hx hb d_H_meet_0 rfl (lv_at hl0 0 rfl) ?_
  refine lv_iload_n hx hb d_H_meet_1 rfl (lv_at hl0 1 rfl) ?_
  -- call H_neededDancer
  refine gxpq hG (vx_runV (As := [.int a1]) (rest := []) ⟨hx, hb, hml, hown, hw⟩ (m_H_neededDancer l hlt x S _ _ a0 a1 fa0 h) ⟨gcb hw tw_654 tw_28 tw_651 hd_H_neededDancer rfl rfl ⟨(Nat.le_of_ble_eq_true rfl), (Nat.le_of_ble_eq_true rfl)⟩, hw _ tw_653, hw _ tw_7⟩ (gpV hK hG kd_H fa0 rfl) rfl rfl hl0.1 rfl (lv_room (Nat.le_of_ble_eq_true rfl)) d_H_meet_2 ⟨(Nat.le_of_ble_eq_true rfl), (Nat.le_of_ble_eq_true rfl)⟩) htab hlocks leS (fun _ h9 => h9) (Nat.le_of_ble_eq_true rfl) (Nat.le_of_ble_eq_true rfl) (fun o1 H locs h9 hG => ?_)
  replace h := h9
  clear h9
  refine lv_pop hx hb d_H_meet_5 (gCat _) ?_
  refine lv_aload_n hx hb d_H_meet_6 rfl (lv_at hl0 0 rfl) ?_
  refine lv_iload_n hx hb d_H_meet_7 rfl (lv_at hl0 2 rfl) ?_
  -- call H_neededDancer
  refine gxpq hG (vx_runV (As := [.int a2]) (rest := []) ⟨hx, hb, hml, hown, hw⟩ (m_H_neededDancer l hlt x S _ _ a0 a2 fa0 h) ⟨gcb hw tw_654 tw_28 tw_651 hd_H_neededDancer rfl rfl ⟨(Nat.le_of_ble_eq_true rfl), (Nat.le_of_ble_eq_true rfl)⟩, hw _ tw_653, hw _ tw_7⟩ (gpV hK hG kd_H fa0 rfl) rfl rfl hl0.1 rfl (lv_room (Nat.le_of_ble_eq_true rfl)) d_H_meet_8 ⟨(Nat.le_of_ble_eq_true rfl), (Nat.le_of_ble_eq_true rfl)⟩) htab hlocks leS (fun _ h9 => h9) (Nat.le_of_ble_eq_true rfl) (Nat.le_of_ble_eq_true rfl) (fun o2 H locs h9 hG => ?_)
  replace h := h9
  clear h9
  refine lv_pop hx hb d_H_meet_11 (gCat _) ?_
  refine lv_iload_n hx hb d_H_meet_12 rfl (lv_at hl0 1 rfl) ?_
  refine lv_iload_n hx hb d_H_meet_13 rfl (lv_at hl0 2 rfl) ?_
  refine lv_icmp_ne (tgt := 27) hx hb d_H_meet_14 (by decide) (fun hc28 => ?_) (fun hc28 => ?_)
  · replace h := h.2 hc28
    refine lv_iload_n hx hb d_H_meet_27 rfl (lv_at hl0 3 rfl) ?_
    -- call H_needBeats
    refine gxpv hG (vx_runS (As := [.int a3]) (rest := []) ⟨hx, hb, hml, hown, hw⟩ (m_H_needBeats l hlt x S _ _ a3  h) ⟨gcb hw tw_794 tw_28 tw_792 hd_H_needBeats rfl rfl ⟨(Nat.le_of_ble_eq_true rfl), (Nat.le_of_ble_eq_true rfl)⟩, hw _ tw_793⟩ (gpS hK hG) rfl rfl hl0.1 rfl (lv_room (Nat.le_of_ble_eq_true rfl)) d_H_meet_28 ⟨(Nat.le_of_ble_eq_true rfl), (Nat.le_of_ble_eq_true rfl)⟩) htab hlocks leS (fun _ h9 => h9) (Nat.le_of_ble_eq_true rfl) (Nat.le_of_ble_eq_true rfl) (fun H locs h9 hG => ?_)
    replace h := h9
    clear h9
    refine lv_aload_n hx hb d_H_meet_31 rfl (lv_at hl0 0 rfl) ?_
    refine gget hx hb hw hown hK hG kd_H fa0 rfl 4 (by decide) rfl tw_265 (fun _ h9 => h9) d_H_meet_32 ?_
    refine gtopq (fun o3 eo3 => ?_)
    replace h := h o3 eo3
    refine lv_aload_n hx hb d_H_meet_35 rfl (lv_at hl0 0 rfl) ?_
    refine gget hx hb hw hown hK hG kd_H fa0 rfl 3 (by decide) rfl tw_264 (fun _ h9 => h9) d_H_meet_36 ?_
    refine gtopq (fun o4 eo4 => ?_)
    replace h := h o4 eo4
    obtain ⟨y5, ey5, h⟩ := h
    subst ey5
    obtain ⟨f6, h⟩ := h
    -- call F_startLike
    refine gcv hK hG (va_runV (As := [va_rf o4]) (rest := []) ⟨hx, hb, hml, hown, hw⟩ (m_F_startLike l x S _ y5 o4 f6 h) ⟨gcb hw tw_892 tw_38 tw_889 hd_F_startLike rfl rfl ⟨(Nat.le_of_ble_eq_true rfl), (Nat.le_of_ble_eq_true rfl)⟩, hw _ tw_890, hw _ tw_891⟩ (gpV hK hG kd_F f6 rfl) rfl rfl hl0.1 rfl (lv_room (Nat.le_of_ble_eq_true rfl)) d_H_meet_39 ⟨(Nat.le_of_ble_eq_true rfl), (Nat.le_of_ble_eq_true rfl)⟩) (fun S7 H locs h9 hle1 hG => ?_)
    replace h := h9
    clear h9
    have fa0 := gle_isA hle1 fa0
    have f6 := gle_isA hle1 f6
    have leS := leS.tr hle1
    refine lv_aload_n hx hb d_H_meet_42 rfl (lv_at hl0 0 rfl) ?_
    refine gget hx hb hw hown hK hG kd_H fa0 rfl 4 (by decide) rfl tw_265 (fun _ h9 => h9) d_H_meet_43 ?_
    refine gtopq (fun o8 eo8 => ?_)
    replace h := h o8 eo8
    refine lv_iload_n hx hb d_H_meet_46 rfl (lv_at hl0 1 rfl) ?_
    refine lv_iload_n hx hb d_H_meet_47 rfl (lv_at hl0 2 rfl) ?_
    obtain ⟨y9, ey9, h⟩ := h
    subst ey9
    obtain ⟨f10, h⟩ := h
    -- call F_areBeside
    refine gpi hK hG (va_runV (As := [.int a1, .int a2]) (rest := []) ⟨hx, hb, hml, hown, hw⟩ (m_F_areBeside l x S7 _ y9 a1 a2 f10 h) ⟨gcb hw tw_926 tw_38 tw_923 hd_F_areBeside rfl rfl ⟨(Nat.le_of_ble_eq_true rfl), (Nat.le_of_ble_eq_true rfl)⟩, hw _ tw_924, hw _ tw_925⟩ (gpV hK hG kd_F f10 rfl) rfl rfl hl0.1 rfl (lv_room (Nat.le_of_ble_eq_true rfl)) d_H_meet_48 ⟨(Nat.le_of_ble_eq_true rfl), (Nat.le_of_ble_eq_true rfl)⟩) (fun r11 H locs h9 hG => ?_)
    replace h := h9
    clear h9
    refine lv_if_eq (tgt := 56) hx hb d_H_meet_51 (by decide) (fun hc27 => ?_) (fun hc27 => ?_)
    · replace h := h.1 hc27
      refine lv_iconst (v := 1) hx hb d_H_meet_56 (by decide) ?_
      refine lv_istore (lv' := [(4, .int 1), (0, .ref a0), (1, .int a1), (2, .int a2), (3, .int a3)]) hx hb d_H_meet_57 hl0 (by decide) rfl (fun ls hl12 => ?_)
      have leS7 : gle S7 S7 := gle.rf
      obtain ⟨J59, ⟨n0_59, h0_59⟩, hJ59⟩ := h
      have k59 : ∀ (n59 : Nat) (S_59 : St) (v4_59 : Int32) (H : Heap) (locs : List Loc) (ls : Array Slot), gle S7 S_59 → GH x S_59 s H locs → lv_has ls 5 [(0, .ref a0), (1, .int a1), (2, .int a2), (3, .int a3), (4, .int v4_59)] → J59 n59 S_59 v4_59 → W p l e { frames := 7, cells := 67, slots := 1042, locals := 159 } s m args below meth c H locs 67 1042 (vx_MQ below (va_Qi post (gB x S) (xA x)) (gX x S px) args s 67 1042 (xA x)) (F0 m 59 ls []) := by
        intro n59
        induction n59 using Nat.strongRecOn with
        | _ n59 ih59 =>
          intro S_59 v4_59 H locs ls hle1 hG hl13 hj
          replace h := hJ59 n59 S_59 v4_59 hj
          have fa0 := gle_isA hle1 fa0
          have f6 := gle_isA hle1 f6
          have f10 := gle_isA hle1 f10
          have leS := leS.tr hle1
          have leS7 := leS7.tr hle1
          refine lv_iload hx hb d_H_meet_59 (lv_at hl13 4 rfl) ?_
          refine lv_iload_n hx hb d_H_meet_61 rfl (lv_at hl13 3 rfl) ?_
          refine lv_icmp_gt (tgt := 94) hx hb d_H_meet_62 (by decide) (fun hc26 => ?_) (fun hc26 => ?_)
          · replace h := h.1 hc26
            refine lv_iconst (v := (-1)) hx hb d_H_meet_94 (by decide) ?_
            refine vx_ret ?_
            exact giret hx hb hr hlocks hK hG leS h (Nat.le_of_ble_eq_true rfl) (Nat.le_of_ble_eq_true rfl) d_H_meet_95
          · replace h := h.2 hc26
            refine lv_aload_n hx hb d_H_meet_65 rfl (lv_at hl13 0 rfl) ?_
            refine gget hx hb hw hown hK hG kd_H fa0 rfl 4 (by decide) rfl tw_265 (fun _ h9 => h9) d_H_meet_66 ?_
            refine gtopq (fun o14 eo14 => ?_)
            replace h := h o14 eo14
            obtain ⟨y15, ey15, h⟩ := h
            subst ey15
            obtain ⟨f16, h⟩ := h
            -- call F_playBeat
            refine gci hK hG (va_runV (As := []) (rest := []) ⟨hx, hb, hml, hown, hw⟩ (m_F_playBeat l x S_59 _ y15 f16 h) ⟨gcb hw tw_799 tw_38 tw_796 hd_F_playBeat rfl rfl ⟨(Nat.le_of_ble_eq_true rfl), (Nat.le_of_ble_eq_true rfl)⟩, hw _ tw_797, hw _ tw_798⟩ (gpV hK hG kd_F f16 rfl) rfl rfl hl13.1 rfl (lv_room (Nat.le_of_ble_eq_true rfl)) d_H_meet_69 ⟨(Nat.le_of_ble_eq_true rfl), (Nat.le_of_ble_eq_true rfl)⟩) (fun r17 S18 H locs h9 hle1 hG => ?_)
            replace h := h9
            clear h9
            have fa0 := gle_isA hle1 fa0
            have f6 := gle_isA hle1 f6
            have f10 := gle_isA hle1 f10
            have f16 := gle_isA hle1 f16
            have leS := leS.tr hle1
            have leS7 := leS7.tr hle1
            refine lv_pop hx hb d_H_meet_72 rfl ?_
            refine lv_aload_n hx hb d_H_meet_73 rfl (lv_at hl13 0 rfl) ?_
            refine gget hx hb hw hown hK hG kd_H fa0 rfl 4 (by decide) rfl tw_265 (fun _ h9 => h9) d_H_meet_74 ?_
            refine gtopq (fun o19 eo19 => ?_)
            replace h := h o19 eo19
            refine lv_iload_n hx hb d_H_meet_77 rfl (lv_at hl13 1 rfl) ?_
            refine lv_iload_n hx hb d_H_meet_78 rfl (lv_at hl13 2 rfl) ?_
            obtain ⟨y20, ey20, h⟩ := h
            subst ey20
            obtain ⟨f21, h⟩ := h
            -- call F_areBeside
            refine gpi hK hG (va_runV (As := [.int a1, .int a2]) (rest := []) ⟨hx, hb, hml, hown, hw⟩ (m_F_areBeside l x S18 _ y20 a1 a2 f21 h) ⟨gcb hw tw_926 tw_38 tw_923 hd_F_areBeside rfl rfl ⟨(Nat.le_of_ble_eq_true rfl), (Nat.le_of_ble_eq_true rfl)⟩, hw _ tw_924, hw _ tw_925⟩ (gpV hK hG kd_F f21 rfl) rfl rfl hl13.1 rfl (lv_room (Nat.le_of_ble_eq_true rfl)) d_H_meet_79 ⟨(Nat.le_of_ble_eq_true rfl), (Nat.le_of_ble_eq_true rfl)⟩) (fun r22 H locs h9 hG => ?_)
            replace h := h9
            clear h9
            refine lv_if_eq (tgt := 88) hx hb d_H_meet_82 (by decide) (fun hc25 => ?_) (fun hc25 => ?_)
            · replace h := h.1 hc25
              obtain ⟨v23, ev23⟩ : ∃ z : Int32, z = v4_59 + 1 := ⟨_, rfl⟩
              replace h := h v23 ev23
              refine lv_iinc (v := v23) (lv' := [(4, .int v23), (0, .ref a0), (1, .int a1), (2, .int a2), (3, .int a3)]) hx hb d_H_meet_88 hl13 (k := 4) rfl (by rw [ev23]; rfl) (by decide) rfl (fun ls hl24 => ?_)
              refine lv_goto (tgt := 59) hx hb d_H_meet_91 (by decide) ?_
              obtain ⟨nx, hnx, h⟩ := h
              exact ih59 nx hnx S18 v23 H locs ls leS7 hG (lv_sub hl24 [1, 2, 3, 4, 0] rfl) h
            · replace h := h.2 hc25
              refine lv_iload hx hb d_H_meet_85 (lv_at hl13 4 rfl) ?_
              refine vx_ret ?_
              exact giret hx hb hr hlocks hK hG leS h (Nat.le_of_ble_eq_true rfl) (Nat.le_of_ble_eq_true rfl) d_H_meet_87
      exact k59 n0_59 S7 1 H locs ls gle.rf hG (lv_sub hl12 [1, 2, 3, 4, 0] rfl) h0_59
    · replace h := h.2 hc27
      refine lv_iconst (v := 0) hx hb d_H_meet_54 (by decide) ?_
      refine vx_ret ?_
      exact giret hx hb hr hlocks hK hG leS h (Nat.le_of_ble_eq_true rfl) (Nat.le_of_ble_eq_true rfl) d_H_meet_55
  · replace h := h.1 hc28
    exact gthrow (own := "WaltzHall") (E := "java/lang/IllegalArgumentException") (text := "nobody meets itself") ["java/lang/RuntimeException", "java/lang/Exception"] hx hb hlt hw hown hK hG (by decide +kernel) (by decide +kernel) tw_442 tw_49 (by decide) ta_H_85 tg_H_85_81 (hl0.1.trans hml.symm) d_H_meet_17 d_H_meet_20 d_H_meet_21 d_H_meet_23 d_H_meet_26 htab (Nat.le_of_ble_eq_true rfl) (Nat.le_of_ble_eq_true rfl) (Nat.le_of_ble_eq_true rfl) (Nat.le_of_ble_eq_true rfl) hlocks leS h (Nat.le_of_ble_eq_true rfl) (Nat.le_of_ble_eq_true rfl)
def w_H_digest (post : Int64 → Prop) (S : St) (a0 : Nat) : Prop :=
  ∃ J6 : Nat → Int64 → Int32 → Prop, (∃ n : Nat, J6 n 521 0) ∧ ∀ (n6 : Nat) (v1_6 : Int64) (v3_6 : Int32), J6 n6 v1_6 v3_6 → (9 ≤ v3_6 → ∃ J36 : Nat → Int64 → Int32 → Prop, (∃ n : Nat, J36 n v1_6 0) ∧ ∀ (n36 : Nat) (v1_36 : Int64) (v3_36 : Int32), J36 n36 v1_36 v3_36 → ∀ o6 : Option Nat, o6 = sQ S 34 a0 → ∃ y7 : Nat, o6 = some y7 ∧ isA S 0 y7 ∧ w_AL_size (fun (r9 : Int32) => (r9 ≤ v3_36 → ∃ J71 : Nat → Int64 → Int32 → Prop, (∃ n : Nat, J71 n v1_36 0) ∧ ∀ (n71 : Nat) (v1_71 : Int64) (v3_71 : Int32), J71 n71 v1_71 v3_71 → ∀ o12 : Option Nat, o12 = sQ S 36 a0 → ∃ y13 : Nat, o12 = some y13 ∧ isA S 3 y13 ∧ ∀ o15 : Option Nat, o15 = sQ S 21 y13 → ∃ y16 : Nat, o15 = some y16 ∧ isA S 0 y16 ∧ w_AL_size (fun (r18 : Int32) => (r18 ≤ v3_71 → ∃ J136 : Nat → Int64 → Int32 → Prop, (∃ n : Nat, J136 n v1_71 0) ∧ ∀ (n136 : Nat) (v1_136 : Int64) (v3_136 : Int32), J136 n136 v1_136 v3_136 → ∀ o21 : Option Nat, o21 = sQ S 36 a0 → ∃ y22 : Nat, o21 = some y22 ∧ isA S 3 y22 ∧ ∀ o24 : Option Nat, o24 = sQ S 22 y22 → ∃ y25 : Nat, o24 = some y25 ∧ isA S 0 y25 ∧ w_AL_size (fun (r27 : Int32) => (r27 ≤ v3_136 → post v1_136) ∧ (¬ r27 ≤ v3_136 → ∃ J153 : Nat → Int64 → Int32 → Prop, (∃ n : Nat, J153 n v1_136 0) ∧ ∀ (n153 : Nat) (v1_153 : Int64) (v4_153 : Int32), J153 n153 v1_153 v4_153 → (6 ≤ v4_153 → ∀ v30 : Int32, v30 = v3_136 + 1 → ∃ nx : Nat, nx < n136 ∧ J136 nx v1_153 v30) ∧ (¬ 6 ≤ v4_153 → ∀ o32 : Option Nat, o32 = sQ S 36 a0 → ∃ y33 : Nat, o32 = some y33 ∧ isA S 3 y33 ∧ ∀ o35 : Option Nat, o35 = sQ S 22 y33 → ∃ y36 : Nat, o35 = some y36 ∧ isA S 0 y36 ∧ w_AL_get (fun (o38 : Option Nat) => ∃ y39 : Nat, o38 = some y39 ∧ isA S 5 y39 ∧ w_N_tell (fun (r41 : Int32) => ∀ v42 : Int64, v42 = (v1_153 * 31) + (r41.toInt64) → ∀ v44 : Int32, v44 = v4_153 + 1 → ∃ nx : Nat, nx < n153 ∧ J153 nx v42 v44) S y39 v4_153) S y36 v3_136))) S y25) ∧ (¬ r18 ≤ v3_71 → ∃ J88 : Nat → Int64 → Int32 → Prop, (∃ n : Nat, J88 n v1_71 0) ∧ ∀ (n88 : Nat) (v1_88 : Int64) (v4_88 : Int32), J88 n88 v1_88 v4_88 → (12 ≤ v4_88 → ∀ v50 : Int32, v50 = v3_71 + 1 → ∃ nx : Nat, nx < n71 ∧ J71 nx v1_88 v50) ∧ (¬ 12 ≤ v4_88 → ∀ o52 : Option Nat, o52 = sQ S 36 a0 → ∃ y53 : Nat, o52 = some y53 ∧ isA S 3 y53 ∧ ∀ o55 : Option Nat, o55 = sQ S 21 y53 → ∃ y56 : Nat, o55 = some y56 ∧ isA S 0 y56 ∧ w_AL_get (fun (o58 : Option Nat) => ∃ y59 : Nat, o58 = some y59 ∧ isA S 2 y59 ∧ w_R_tell (fun (r61 : Int32) => ∀ v62 : Int64, v62 = (v1_88 * 31) + (r61.toInt64) → ∀ v64 : Int32, v64 = v4_88 + 1 → ∃ nx : Nat, nx < n88 ∧ J88 nx v62 v64) S y59 v4_88) S y56 v3_71))) S y16) ∧ (¬ r9 ≤ v3_36 → ∀ o68 : Option Nat, o68 = sQ S 34 a0 → ∃ y69 : Nat, o68 = some y69 ∧ isA S 0 y69 ∧ w_AL_get (fun (o71 : Option Nat) => ∃ y72 : Nat, o71 = some y72 ∧ isA S 1 y72 ∧ w_D_digestFrom (fun (r74 : Int64) => ∀ v76 : Int32, v76 = v3_36 + 1 → ∃ nx : Nat, nx < n36 ∧ J36 nx r74 v76) S y72 v1_36) S y69 v3_36)) S y7) ∧ (¬ 9 ≤ v3_6 → ∀ o79 : Option Nat, o79 = sQ S 36 a0 → ∃ y80 : Nat, o79 = some y80 ∧ isA S 3 y80 ∧ w_F_countOf (fun (r82 : Int32) => ∀ v83 : Int64, v83 = (v1_6 * 31) + (r82.toInt64) → ∀ v85 : Int32, v85 = v3_6 + 1 → ∃ nx : Nat, nx < n6 ∧ J6 nx v83 v85) S y80 v3_6)
set_option maxHeartbeats 4000000 in
set_option maxRecDepth 100000 in
theorem m_H_digest (l : Launch) (x : Cx) (S : St) (post : Int64 → Prop) (a0 : Nat) (fa0 : isA S 6 a0) (h : w_H_digest post S a0) : Met l y_H_digest [.code y_H_digest c_H_digest 5 (some .long)] { frames := 5, cells := 0, slots := 0, locals := 108 } (va_Pc [.ref a0] (GW x S)) (va_Ql (gPu post S) (gB x S) (xA x)) 0 0 (xA x) := by
  refine gMet (by decide +kernel) (Nat.le_of_ble_eq_true rfl) ?_
  intro p e s m args below meth c hx hb hr hown hlocks hin hw hK H locs hG ls hlA hml
  have hown : s.vm.findClass "WaltzHall" = some m.cls := hown
  have hl0 : lv_has ls 5 [(0, .ref a0)] := hlA
  unfold w_H_digest at h
  refine lv_ldc2 hx hb hown (hw _ tw_311) d_H_digest_0 ?_
  refine lv_lstore_n (i := 1) (lv' := [(1, .long 521), (0, .ref a0)]) hx hb d_H_digest_3 rfl hl0 (by decide) rfl (fun ls hl1 => ?_)
  refine lv_iconst (v := 0) hx hb d_H_digest_4 (by decide) ?_
  refine lv_istore_n (i := 3) (lv' := [(3, .int 0), (1, .long 521), (0, .ref a0)]) hx hb d_H_digest_5 rfl hl1 (by decide) rfl (fun ls hl2 => ?_)
  have leS : gle S S := gle.rf
  obtain ⟨J6, ⟨n0_6, h0_6⟩, hJ6⟩ := h
  have k6 : ∀ (n6 : Nat) (v1_6 : Int64) (v3_6 : Int32) (H : Heap) (locs : List Loc) (ls : Array Slot), GH x S s H locs → lv_has ls 5 [(0, .ref a0), (1, .long v1_6), (3, .int v3_6)] → J6 n6 v1_6 v3_6 → W p l e { frames := 5, cells := 0, slots := 0, locals := 108 } s m args below meth c H locs 0 0 (MQ below (va_Ql (gPu post S) (gB x S) (xA x)) args s 0 0 (xA x)) (F0 m 6 ls []) := by
    intro n6
    induction n6 using Nat.strongRecOn with
    | _ n6 ih6 =>
      intro v1_6 v3_6 H locs ls hG hl3 hj
      replace h := hJ6 n6 v1_6 v3_6 hj
      refine lv_iload_n hx hb d_H_digest_6 rfl (lv_at hl3 2 rfl) ?_
      refine lv_bipush (v := 9) hx hb d_H_digest_7 (by decide) ?_
      refine lv_icmp_ge (tgt := 34) hx hb d_H_digest_9 (by decide) (fun hc87 => ?_) (fun hc87 => ?_)
      · replace h := h.1 hc87
        refine lv_iconst (v := 0) hx hb d_H_digest_34 (by decide) ?_
        refine lv_istore_n (i := 3) (lv' := [(3, .int 0), (0, .ref a0), (1, .long v1_6)]) hx hb d_H_digest_35 rfl hl3 (by decide) rfl (fun ls hl4 => ?_)
        obtain ⟨J36, ⟨n0_36, h0_36⟩, hJ36⟩ := h
        have k36 : ∀ (n36 : Nat) (v1_36 : Int64) (v3_36 : Int32) (H : Heap) (locs : List Loc) (ls : Array Slot), GH x S s H locs → lv_has ls 5 [(0, .ref a0), (1, .long v1_36), (3, .int v3_36)] → J36 n36 v1_36 v3_36 → W p l e { frames := 5, cells := 0, slots := 0, locals := 108 } s m args below meth c H locs 0 0 (MQ below (va_Ql (gPu post S) (gB x S) (xA x)) args s 0 0 (xA x)) (F0 m 36 ls []) := by
          intro n36
          induction n36 using Nat.strongRecOn with
          | _ n36 ih36 =>
            intro v1_36 v3_36 H locs ls hG hl5 hj
            replace h := hJ36 n36 v1_36 v3_36 hj
            refine lv_iload_n hx hb d_H_digest_36 rfl (lv_at hl5 2 rfl) ?_
            refine lv_aload_n hx hb d_H_digest_37 rfl (lv_at hl5 0 rfl) ?_
            refine gget hx hb hw hown hK hG kd_H fa0 rfl 1 (by decide) rfl tw_262 (fun _ h9 => h9) d_H_digest_38 ?_
            refine gtopq (fun o6 eo6 => ?_)
            replace h := h o6 eo6
            obtain ⟨y7, ey7, h⟩ := h
            subst ey7
            obtain ⟨f8, h⟩ := h
            -- call AL_size
            refine gpi hK hG (va_runV (As := []) (rest := [.int v3_36]) ⟨hx, hb, hml, hown, hw⟩ (m_AL_size l x S _ y7 f8 h) ⟨gcb hw tw_284 tw_32 tw_281 hd_AL_size rfl rfl ⟨(Nat.le_of_ble_eq_true rfl), (Nat.le_of_ble_eq_true rfl)⟩, hw _ tw_282, hw _ tw_283⟩ (gpV hK hG kd_AL f8 rfl) rfl rfl hl5.1 rfl (lv_room (Nat.le_of_ble_eq_true rfl)) d_H_digest_41 ⟨(Nat.le_of_ble_eq_true rfl), (Nat.le_of_ble_eq_true rfl)⟩) (fun r9 H locs h9 hG => ?_)
            replace h := h9
            clear h9
            refine lv_icmp_ge (tgt := 69) hx hb d_H_digest_44 (by decide) (fun hc78 => ?_) (fun hc78 => ?_)
            · replace h := h.1 hc78
              refine lv_iconst (v := 0) hx hb d_H_digest_69 (by decide) ?_
              refine lv_istore_n (i := 3) (lv' := [(3, .int 0), (0, .ref a0), (1, .long v1_36)]) hx hb d_H_digest_70 rfl hl5 (by decide) rfl (fun ls hl10 => ?_)
              obtain ⟨J71, ⟨n0_71, h0_71⟩, hJ71⟩ := h
              have k71 : ∀ (n71 : Nat) (v1_71 : Int64) (v3_71 : Int32) (H : Heap) (locs : List Loc) (ls : Array Slot), GH x S s H locs → lv_has ls 5 [(0, .ref a0), (1, .long v1_71), (3, .int v3_71)] → J71 n71 v1_71 v3_71 → W p l e { frames := 5, cells := 0, slots := 0, locals := 108 } s m args below meth c H locs 0 0 (MQ below (va_Ql (gPu post S) (gB x S) (xA x)) args s 0 0 (xA x)) (F0 m 71 ls []) := by
                intro n71
                induction n71 using Nat.strongRecOn with
                | _ n71 ih71 =>
                  intro v1_71 v3_71 H locs ls hG hl11 hj
                  replace h := hJ71 n71 v1_71 v3_71 hj
                  refine lv_iload_n hx hb d_H_digest_71 rfl (lv_at hl11 2 rfl) ?_
                  refine lv_aload_n hx hb d_H_digest_72 rfl (lv_at hl11 0 rfl) ?_
                  refine gget hx hb hw hown hK hG kd_H fa0 rfl 3 (by decide) rfl tw_264 (fun _ h9 => h9) d_H_digest_73 ?_
                  refine gtopq (fun o12 eo12 => ?_)
                  replace h := h o12 eo12
                  obtain ⟨y13, ey13, h⟩ := h
                  subst ey13
                  obtain ⟨f14, h⟩ := h
                  refine gget hx hb hw hown hK hG kd_F f14 rfl 0 (by decide) rfl tw_184 (fun _ h9 => h9) d_H_digest_76 ?_
                  refine gtopq (fun o15 eo15 => ?_)
                  replace h := h o15 eo15
                  obtain ⟨y16, ey16, h⟩ := h
                  subst ey16
                  obtain ⟨f17, h⟩ := h
                  -- call AL_size
                  refine gpi hK hG (va_runV (As := []) (rest := [.int v3_71]) ⟨hx, hb, hml, hown, hw⟩ (m_AL_size l x S _ y16 f17 h) ⟨gcb hw tw_284 tw_32 tw_281 hd_AL_size rfl rfl ⟨(Nat.le_of_ble_eq_true rfl), (Nat.le_of_ble_eq_true rfl)⟩, hw _ tw_282, hw _ tw_283⟩ (gpV hK hG kd_AL f17 rfl) rfl rfl hl11.1 rfl (lv_room (Nat.le_of_ble_eq_true rfl)) d_H_digest_79 ⟨(Nat.le_of_ble_eq_true rfl), (Nat.le_of_ble_eq_true rfl)⟩) (fun r18 H locs h9 hG => ?_)
                  replace h := h9
                  clear h9
                  refine lv_icmp_ge (tgt := 134) hx hb d_H_digest_82 (by decide) (fun hc67 => ?_) (fun hc67 => ?_)
                  · replace h := h.1 hc67
                    refine lv_iconst (v := 0) hx hb d_H_digest_134 (by decide) ?_
                    refine lv_istore_n (i := 3) (lv' := [(3, .int 0), (0, .ref a0), (1, .long v1_71)]) hx hb d_H_digest_135 rfl hl11 (by decide) rfl (fun ls hl19 => ?_)
                    obtain ⟨J136, ⟨n0_136, h0_136⟩, hJ136⟩ := h
                    have k136 : ∀ (n136 : Nat) (v1_136 : Int64) (v3_136 : Int32) (H : Heap) (locs : List Loc) (ls : Array Slot), GH x S s H locs → lv_has ls 5 [(0, .ref a0), (1, .long v1_136), (3, .int v3_136)] → J136 n136 v1_136 v3_136 → W p l e { frames := 5, cells := 0, slots := 0, locals := 108 } s m args below meth c H locs 0 0 (MQ below (va_Ql (gPu post S) (gB x S) (xA x)) args s 0 0 (xA x)) (F0 m 136 ls []) := by
                      intro n136
                      induction n136 using Nat.strongRecOn with
                      | _ n136 ih136 =>
                        intro v1_136 v3_136 H locs ls hG hl20 hj
                        replace h := hJ136 n136 v1_136 v3_136 hj
                        refine lv_iload_n hx hb d_H_digest_136 rfl (lv_at hl20 2 rfl) ?_
                        refine lv_aload_n hx hb d_H_digest_137 rfl (lv_at hl20 0 rfl) ?_
                        refine gget hx hb hw hown hK hG kd_H fa0 rfl 3 (by decide) rfl tw_264 (fun _ h9 => h9) d_H_digest_138 ?_
                        refine gtopq (fun o21 eo21 => ?_)
                        replace h := h o21 eo21
                        obtain ⟨y22, ey22, h⟩ := h
                        subst ey22
                        obtain ⟨f23, h⟩ := h
                        refine gget hx hb hw hown hK hG kd_F f23 rfl 1 (by decide) rfl tw_186 (fun _ h9 => h9) d_H_digest_141 ?_
                        refine gtopq (fun o24 eo24 => ?_)
                        replace h := h o24 eo24
                        obtain ⟨y25, ey25, h⟩ := h
                        subst ey25
                        obtain ⟨f26, h⟩ := h
                        -- call AL_size
                        refine gpi hK hG (va_runV (As := []) (rest := [.int v3_136]) ⟨hx, hb, hml, hown, hw⟩ (m_AL_size l x S _ y25 f26 h) ⟨gcb hw tw_284 tw_32 tw_281 hd_AL_size rfl rfl ⟨(Nat.le_of_ble_eq_true rfl), (Nat.le_of_ble_eq_true rfl)⟩, hw _ tw_282, hw _ tw_283⟩ (gpV hK hG kd_AL f26 rfl) rfl rfl hl20.1 rfl (lv_room (Nat.le_of_ble_eq_true rfl)) d_H_digest_144 ⟨(Nat.le_of_ble_eq_true rfl), (Nat.le_of_ble_eq_true rfl)⟩) (fun r27 H locs h9 hG => ?_)
                        replace h := h9
                        clear h9
                        refine lv_icmp_ge (tgt := 199) hx hb d_H_digest_147 (by decide) (fun hc47 => ?_) (fun hc47 => ?_)
                        · replace h := h.1 hc47
                          refine lv_lload_n hx hb d_H_digest_199 rfl (lv_at hl20 1 rfl) ?_
                          exact glret hx hb hr hlocks hK hG leS ⟨h, rfl⟩ (Nat.le_of_ble_eq_true rfl) (Nat.le_of_ble_eq_true rfl) d_H_digest_200
                        · replace h := h.2 hc47
                          refine lv_iconst (v := 0) hx hb d_H_digest_150 (by decide) ?_
                          refine lv_istore (lv' := [(4, .int 0), (0, .ref a0), (1, .long v1_136), (3, .int v3_136)]) hx hb d_H_digest_151 hl20 (by decide) rfl (fun ls hl28 => ?_)
                          obtain ⟨J153, ⟨n0_153, h0_153⟩, hJ153⟩ := h
                          have k153 : ∀ (n153 : Nat) (v1_153 : Int64) (v4_153 : Int32) (H : Heap) (locs : List Loc) (ls : Array Slot), GH x S s H locs → lv_has ls 5 [(0, .ref a0), (1, .long v1_153), (3, .int v3_136), (4, .int v4_153)] → J153 n153 v1_153 v4_153 → W p l e { frames := 5, cells := 0, slots := 0, locals := 108 } s m args below meth c H locs 0 0 (MQ below (va_Ql (gPu post S) (gB x S) (xA x)) args s 0 0 (xA x)) (F0 m 153 ls []) := by
                            intro n153
                            induction n153 using Nat.strongRecOn with
                            | _ n153 ih153 =>
                              intro v1_153 v4_153 H locs ls hG hl29 hj
                              replace h := hJ153 n153 v1_153 v4_153 hj
                              refine lv_iload hx hb d_H_digest_153 (lv_at hl29 3 rfl) ?_
                              refine lv_bipush (v := 6) hx hb d_H_digest_155 (by decide) ?_
                              refine lv_icmp_ge (tgt := 193) hx hb d_H_digest_157 (by decide) (fun hc46 => ?_) (fun hc46 => ?_)
                              · replace h := h.1 hc46
                                obtain ⟨v30, ev30⟩ : ∃ z : Int32, z = v3_136 + 1 := ⟨_, rfl⟩
                                replace h := h v30 ev30
                                refine lv_iinc (v := v30) (lv' := [(3, .int v30), (0, .ref a0), (1, .long v1_153), (4, .int v4_153)]) hx hb d_H_digest_193 hl29 (k := 2) rfl (by rw [ev30]; rfl) (by decide) rfl (fun ls hl31 => ?_)
                                refine lv_goto (tgt := 136) hx hb d_H_digest_196 (by decide) ?_
                                obtain ⟨nx, hnx, h⟩ := h
                                exact ih136 nx hnx v1_153 v30 H locs ls hG (lv_sub hl31 [1, 2, 0] rfl) h
                              · replace h := h.2 hc46
                                refine lv_lload_n hx hb d_H_digest_160 rfl (lv_at hl29 1 rfl) ?_
                                refine lv_ldc2 hx hb hown (hw _ tw_312) d_H_digest_161 ?_
                                refine lv_lmul hx hb d_H_digest_164 ?_
                                refine lv_aload_n hx hb d_H_digest_165 rfl (lv_at hl29 0 rfl) ?_
                                refine gget hx hb hw hown hK hG kd_H fa0 rfl 3 (by decide) rfl tw_264 (fun _ h9 => h9) d_H_digest_166 ?_
                                refine gtopq (fun o32 eo32 => ?_)
                                replace h := h o32 eo32
                                obtain ⟨y33, ey33, h⟩ := h
                                subst ey33
                                obtain ⟨f34, h⟩ := h
                                refine gget hx hb hw hown hK hG kd_F f34 rfl 1 (by decide) rfl tw_186 (fun _ h9 => h9) d_H_digest_169 ?_
                                refine gtopq (fun o35 eo35 => ?_)
                                replace h := h o35 eo35
                                refine lv_iload_n hx hb d_H_digest_172 rfl (lv_at hl29 2 rfl) ?_
                                obtain ⟨y36, ey36, h⟩ := h
                                subst ey36
                                obtain ⟨f37, h⟩ := h
                                -- call AL_get
                                refine gpq hK hG (va_runV (As := [.int v3_136]) (rest := [.long (v1_153 * 31)]) ⟨hx, hb, hml, hown, hw⟩ (m_AL_get l x S _ y36 v3_136 f37 h) ⟨gcb hw tw_293 tw_32 tw_330 hd_AL_get rfl rfl ⟨(Nat.le_of_ble_eq_true rfl), (Nat.le_of_ble_eq_true rfl)⟩, hw _ tw_291, hw _ tw_292⟩ (gpV hK hG kd_AL f37 rfl) rfl rfl hl29.1 rfl (lv_room (Nat.le_of_ble_eq_true rfl)) d_H_digest_173 ⟨(Nat.le_of_ble_eq_true rfl), (Nat.le_of_ble_eq_true rfl)⟩) (fun o38 H locs h9 hG => ?_)
                                replace h := h9
                                clear h9
                                obtain ⟨y39, ey39, h⟩ := h
                                subst ey39
                                obtain ⟨f40, h⟩ := h
                                refine gcast hx hb hw hown hK hG kd_N tw_342 f40 rfl d_H_digest_176 ?_
                                refine lv_iload hx hb d_H_digest_179 (lv_at hl29 3 rfl) ?_
                                -- call N_tell
                                refine gpi hK hG (va_runV (As := [.int v4_153]) (rest := [.long (v1_153 * 31)]) ⟨hx, hb, hml, hown, hw⟩ (m_N_tell l x S _ y39 v4_153 f40 h) ⟨gcb hw tw_346 tw_53 tw_343 hd_N_tell rfl rfl ⟨(Nat.le_of_ble_eq_true rfl), (Nat.le_of_ble_eq_true rfl)⟩, hw _ tw_344, hw _ tw_345⟩ (gpV hK hG kd_N f40 rfl) rfl rfl hl29.1 rfl (lv_room (Nat.le_of_ble_eq_true rfl)) d_H_digest_181 ⟨(Nat.le_of_ble_eq_true rfl), (Nat.le_of_ble_eq_true rfl)⟩) (fun r41 H locs h9 hG => ?_)
                                replace h := h9
                                clear h9
                                refine lv_i2l hx hb d_H_digest_184 rfl ?_
                                refine lv_ladd hx hb d_H_digest_185 ?_
                                refine lv_topl (fun v42 ev42 => ?_)
                                replace h := h v42 ev42
                                refine lv_lstore_n (i := 1) (lv' := [(1, .long v42), (0, .ref a0), (3, .int v3_136), (4, .int v4_153)]) hx hb d_H_digest_186 rfl hl29 (by decide) rfl (fun ls hl43 => ?_)
                                obtain ⟨v44, ev44⟩ : ∃ z : Int32, z = v4_153 + 1 := ⟨_, rfl⟩
                                replace h := h v44 ev44
                                refine lv_iinc (v := v44) (lv' := [(4, .int v44), (1, .long v42), (0, .ref a0), (3, .int v3_136)]) hx hb d_H_digest_187 hl43 (k := 3) rfl (by rw [ev44]; rfl) (by decide) rfl (fun ls hl45 => ?_)
                                refine lv_goto (tgt := 153) hx hb d_H_digest_190 (by decide) ?_
                                obtain ⟨nx, hnx, h⟩ := h
                                exact ih153 nx hnx v42 v44 H locs ls hG (lv_sub hl45 [2, 1, 3, 0] rfl) h
                          exact k153 n0_153 v1_136 0 H locs ls hG (lv_sub hl28 [1, 2, 3, 0] rfl) h0_153
                    exact k136 n0_136 v1_71 0 H locs ls hG (lv_sub hl19 [1, 2, 0] rfl) h0_136
                  · replace h := h.2 hc67
                    refine lv_iconst (v := 0) hx hb d_H_digest_85 (by decide) ?_
                    refine lv_istore (lv' := [(4, .int 0), (0, .ref a0), (1, .long v1_71), (3, .int v3_71)]) hx hb d_H_digest_86 hl11 (by decide) rfl (fun ls hl48 => ?_)
                    obtain ⟨J88, ⟨n0_88, h0_88⟩, hJ88⟩ := h
                    have k88 : ∀ (n88 : Nat) (v1_88 : Int64) (v4_88 : Int32) (H : Heap) (locs : List Loc) (ls : Array Slot), GH x S s H locs → lv_has ls 5 [(0, .ref a0), (1, .long v1_88), (3, .int v3_71), (4, .int v4_88)] → J88 n88 v1_88 v4_88 → W p l e { frames := 5, cells := 0, slots := 0, locals := 108 } s m args below meth c H locs 0 0 (MQ below (va_Ql (gPu post S) (gB x S) (xA x)) args s 0 0 (xA x)) (F0 m 88 ls []) := by
                      intro n88
                      induction n88 using Nat.strongRecOn with
                      | _ n88 ih88 =>
                        intro v1_88 v4_88 H locs ls hG hl49 hj
                        replace h := hJ88 n88 v1_88 v4_88 hj
                        refine lv_iload hx hb d_H_digest_88 (lv_at hl49 3 rfl) ?_
                        refine lv_bipush (v := 12) hx hb d_H_digest_90 (by decide) ?_
                        refine lv_icmp_ge (tgt := 128) hx hb d_H_digest_92 (by decide) (fun hc66 => ?_) (fun hc66 => ?_)
                        · replace h := h.1 hc66
                          obtain ⟨v50, ev50⟩ : ∃ z : Int32, z = v3_71 + 1 := ⟨_, rfl⟩
                          replace h := h v50 ev50
                          refine lv_iinc (v := v50) (lv' := [(3, .int v50), (0, .ref a0), (1, .long v1_88), (4, .int v4_88)]) hx hb d_H_digest_128 hl49 (k := 2) rfl (by rw [ev50]; rfl) (by decide) rfl (fun ls hl51 => ?_)
                          refine lv_goto (tgt := 71) hx hb d_H_digest_131 (by decide) ?_
                          obtain ⟨nx, hnx, h⟩ := h
                          exact ih71 nx hnx v1_88 v50 H locs ls hG (lv_sub hl51 [1, 2, 0] rfl) h
                        · replace h := h.2 hc66
                          refine lv_lload_n hx hb d_H_digest_95 rfl (lv_at hl49 1 rfl) ?_
                          refine lv_ldc2 hx hb hown (hw _ tw_312) d_H_digest_96 ?_
                          refine lv_lmul hx hb d_H_digest_99 ?_
                          refine lv_aload_n hx hb d_H_digest_100 rfl (lv_at hl49 0 rfl) ?_
                          refine gget hx hb hw hown hK hG kd_H fa0 rfl 3 (by decide) rfl tw_264 (fun _ h9 => h9) d_H_digest_101 ?_
                          refine gtopq (fun o52 eo52 => ?_)
                          replace h := h o52 eo52
                          obtain ⟨y53, ey53, h⟩ := h
                          subst ey53
                          obtain ⟨f54, h⟩ := h
                          refine gget hx hb hw hown hK hG kd_F f54 rfl 0 (by decide) rfl tw_184 (fun _ h9 => h9) d_H_digest_104 ?_
                          refine gtopq (fun o55 eo55 => ?_)
                          replace h := h o55 eo55
                          refine lv_iload_n hx hb d_H_digest_107 rfl (lv_at hl49 2 rfl) ?_
                          obtain ⟨y56, ey56, h⟩ := h
                          subst ey56
                          obtain ⟨f57, h⟩ := h
                          -- call AL_get
                          refine gpq hK hG (va_runV (As := [.int v3_71]) (rest := [.long (v1_88 * 31)]) ⟨hx, hb, hml, hown, hw⟩ (m_AL_get l x S _ y56 v3_71 f57 h) ⟨gcb hw tw_293 tw_32 tw_330 hd_AL_get rfl rfl ⟨(Nat.le_of_ble_eq_true rfl), (Nat.le_of_ble_eq_true rfl)⟩, hw _ tw_291, hw _ tw_292⟩ (gpV hK hG kd_AL f57 rfl) rfl rfl hl49.1 rfl (lv_room (Nat.le_of_ble_eq_true rfl)) d_H_digest_108 ⟨(Nat.le_of_ble_eq_true rfl), (Nat.le_of_ble_eq_true rfl)⟩) (fun o58 H locs h9 hG => ?_)
                          replace h := h9
                          clear h9
                          obtain ⟨y59, ey59, h⟩ := h
                          subst ey59
                          obtain ⟨f60, h⟩ := h
                          refine gcast hx hb hw hown hK hG kd_R tw_340 f60 rfl d_H_digest_111 ?_
                          refine lv_iload hx hb d_H_digest_114 (lv_at hl49 3 rfl) ?_
                          -- call R_tell
                          refine gpi hK hG (va_runV (As := [.int v4_88]) (rest := [.long (v1_88 * 31)]) ⟨hx, hb, hml, hown, hw⟩ (m_R_tell l x S _ y59 v4_88 f60 h) ⟨gcb hw tw_306 tw_52 tw_341 hd_R_tell rfl rfl ⟨(Nat.le_of_ble_eq_true rfl), (Nat.le_of_ble_eq_true rfl)⟩, hw _ tw_304, hw _ tw_305⟩ (gpV hK hG kd_R f60 rfl) rfl rfl hl49.1 rfl (lv_room (Nat.le_of_ble_eq_true rfl)) d_H_digest_116 ⟨(Nat.le_of_ble_eq_true rfl), (Nat.le_of_ble_eq_true rfl)⟩) (fun r61 H locs h9 hG => ?_)
                          replace h := h9
                          clear h9
                          refine lv_i2l hx hb d_H_digest_119 rfl ?_
                          refine lv_ladd hx hb d_H_digest_120 ?_
                          refine lv_topl (fun v62 ev62 => ?_)
                          replace h := h v62 ev62
                          refine lv_lstore_n (i := 1) (lv' := [(1, .long v62), (0, .ref a0), (3, .int v3_71), (4, .int v4_88)]) hx hb d_H_digest_121 rfl hl49 (by decide) rfl (fun ls hl63 => ?_)
                          obtain ⟨v64, ev64⟩ : ∃ z : Int32, z = v4_88 + 1 := ⟨_, rfl⟩
                          replace h := h v64 ev64
                          refine lv_iinc (v := v64) (lv' := [(4, .int v64), (1, .long v62), (0, .ref a0), (3, .int v3_71)]) hx hb d_H_digest_122 hl63 (k := 3) rfl (by rw [ev64]; rfl) (by decide) rfl (fun ls hl65 => ?_)
                          refine lv_goto (tgt := 88) hx hb d_H_digest_125 (by decide) ?_
                          obtain ⟨nx, hnx, h⟩ := h
                          exact ih88 nx hnx v62 v64 H locs ls hG (lv_sub hl65 [2, 1, 3, 0] rfl) h
                    exact k88 n0_88 v1_71 0 H locs ls hG (lv_sub hl48 [1, 2, 3, 0] rfl) h0_88
              exact k71 n0_71 v1_36 0 H locs ls hG (lv_sub hl10 [1, 2, 0] rfl) h0_71
            · replace h := h.2 hc78
              refine lv_aload_n hx hb d_H_digest_47 rfl (lv_at hl5 0 rfl) ?_
              refine gget hx hb hw hown hK hG kd_H fa0 rfl 1 (by decide) rfl tw_262 (fun _ h9 => h9) d_H_digest_48 ?_
              refine gtopq (fun o68 eo68 => ?_)
              replace h := h o68 eo68
              refine lv_iload_n hx hb d_H_digest_51 rfl (lv_at hl5 2 rfl) ?_
              obtain ⟨y69, ey69, h⟩ := h
              subst ey69
              obtain ⟨f70, h⟩ := h
              -- call AL_get
              refine gpq hK hG (va_runV (As := [.int v3_36]) (rest := []) ⟨hx, hb, hml, hown, hw⟩ (m_AL_get l x S _ y69 v3_36 f70 h) ⟨gcb hw tw_293 tw_32 tw_330 hd_AL_get rfl rfl ⟨(Nat.le_of_ble_eq_true rfl), (Nat.le_of_ble_eq_true rfl)⟩, hw _ tw_291, hw _ tw_292⟩ (gpV hK hG kd_AL f70 rfl) rfl rfl hl5.1 rfl (lv_room (Nat.le_of_ble_eq_true rfl)) d_H_digest_52 ⟨(Nat.le_of_ble_eq_true rfl), (Nat.le_of_ble_eq_true rfl)⟩) (fun o71 H locs h9 hG => ?_)
              replace h := h9
              clear h9
              obtain ⟨y72, ey72, h⟩ := h
              subst ey72
              obtain ⟨f73, h⟩ := h
              refine gcast hx hb hw hown hK hG kd_D tw_106 f73 rfl d_H_digest_55 ?_
              refine lv_lload_n hx hb d_H_digest_58 rfl (lv_at hl5 1 rfl) ?_
              -- call D_digestFrom
              refine gpl hK hG (va_runV (As := [.long v1_36]) (rest := []) ⟨hx, hb, hml, hown, hw⟩ (m_D_digestFrom l x S _ y72 v1_36 f73 h) ⟨gcb hw tw_334 tw_33 tw_331 hd_D_digestFrom rfl rfl ⟨(Nat.le_of_ble_eq_true rfl), (Nat.le_of_ble_eq_true rfl)⟩, hw _ tw_332, hw _ tw_333⟩ (gpV hK hG kd_D f73 rfl) rfl rfl hl5.1 rfl (lv_room (Nat.le_of_ble_eq_true rfl)) d_H_digest_59 ⟨(Nat.le_of_ble_eq_true rfl), (Nat.le_of_ble_eq_true rfl)⟩) (fun r74 H locs h9 hG => ?_)
              replace h := h9
              clear h9
              refine lv_lstore_n (i := 1) (lv' := [(1, .long r74), (0, .ref a0), (3, .int v3_36)]) hx hb d_H_digest_62 rfl hl5 (by decide) rfl (fun ls hl75 => ?_)
              obtain ⟨v76, ev76⟩ : ∃ z : Int32, z = v3_36 + 1 := ⟨_, rfl⟩
              replace h := h v76 ev76
              refine lv_iinc (v := v76) (lv' := [(3, .int v76), (1, .long r74), (0, .ref a0)]) hx hb d_H_digest_63 hl75 (k := 2) rfl (by rw [ev76]; rfl) (by decide) rfl (fun ls hl77 => ?_)
              refine lv_goto (tgt := 36) hx hb d_H_digest_66 (by decide) ?_
              obtain ⟨nx, hnx, h⟩ := h
              exact ih36 nx hnx r74 v76 H locs ls hG (lv_sub hl77 [2, 1, 0] rfl) h
        exact k36 n0_36 v1_6 0 H locs ls hG (lv_sub hl4 [1, 2, 0] rfl) h0_36
      · replace h := h.2 hc87
        refine lv_lload_n hx hb d_H_digest_12 rfl (lv_at hl3 1 rfl) ?_
        refine lv_ldc2 hx hb hown (hw _ tw_312) d_H_digest_13 ?_
        refine lv_lmul hx hb d_H_digest_16 ?_
        refine lv_aload_n hx hb d_H_digest_17 rfl (lv_at hl3 0 rfl) ?_
        refine gget hx hb hw hown hK hG kd_H fa0 rfl 3 (by decide) rfl tw_264 (fun _ h9 => h9) d_H_digest_18 ?_
        refine gtopq (fun o79 eo79 => ?_)
        replace h := h o79 eo79
        refine lv_iload_n hx hb d_H_digest_21 rfl (lv_at hl3 2 rfl) ?_
        obtain ⟨y80, ey80, h⟩ := h
        subst ey80
        obtain ⟨f81, h⟩ := h
        -- call F_countOf
        refine gpi hK hG (va_runV (As := [.int v3_6]) (rest := [.long (v1_6 * 31)]) ⟨hx, hb, hml, hown, hw⟩ (m_F_countOf l x S _ y80 v3_6 f81 h) ⟨gcb hw tw_316 tw_38 tw_313 hd_F_countOf rfl rfl ⟨(Nat.le_of_ble_eq_true rfl), (Nat.le_of_ble_eq_true rfl)⟩, hw _ tw_314, hw _ tw_315⟩ (gpV hK hG kd_F f81 rfl) rfl rfl hl3.1 rfl (lv_room (Nat.le_of_ble_eq_true rfl)) d_H_digest_22 ⟨(Nat.le_of_ble_eq_true rfl), (Nat.le_of_ble_eq_true rfl)⟩) (fun r82 H locs h9 hG => ?_)
        replace h := h9
        clear h9
        refine lv_i2l hx hb d_H_digest_25 rfl ?_
        refine lv_ladd hx hb d_H_digest_26 ?_
        refine lv_topl (fun v83 ev83 => ?_)
        replace h := h v83 ev83
        refine lv_lstore_n (i := 1) (lv' := [(1, .long v83), (0, .ref a0), (3, .int v3_6)]) hx hb d_H_digest_27 rfl hl3 (by decide) rfl (fun ls hl84 => ?_)
        obtain ⟨v85, ev85⟩ : ∃ z : Int32, z = v3_6 + 1 := ⟨_, rfl⟩
        replace h := h v85 ev85
        refine lv_iinc (v := v85) (lv' := [(3, .int v85), (1, .long v83), (0, .ref a0)]) hx hb d_H_digest_28 hl84 (k := 2) rfl (by rw [ev85]; rfl) (by decide) rfl (fun ls hl86 => ?_)
        refine lv_goto (tgt := 6) hx hb d_H_digest_31 (by decide) ?_
        obtain ⟨nx, hnx, h⟩ := h
        exact ih6 nx hnx v83 v85 H locs ls hG (lv_sub hl86 [2, 1, 0] rfl) h
  exact k6 n0_6 521 0 H locs ls hG (lv_sub hl2 [2, 1, 0] rfl) h0_6
