theorem tw_11 : (Cond.selects "WaltzHall$Winder" (⟨"WaltzHall$Winder", "passTurn", "()V"⟩ : MethodName) (⟨"WaltzHall$Winder", "passTurn", "()V"⟩ : MethodName)) ∈ gG := gmm 11 (by decide +kernel) (by decide +kernel)
theorem tw_29 : (Jvm.Cond.initialized "WaltzHall$Tape") ∈ gG := gmm 29 (by decide +kernel) (by decide +kernel)
theorem tw_33 : (Jvm.Cond.initialized "WaltzHall$Dance") ∈ gG := gmm 33 (by decide +kernel) (by decide +kernel)
theorem tw_53 : (Jvm.Cond.initialized "WaltzHall$Winder") ∈ gG := gmm 53 (by decide +kernel) (by decide +kernel)
theorem tw_68 : (Jvm.Cond.methodLink "WaltzHall$Tape" (3 : Nat) ({ cls := "java/lang/Object", name := "<init>", desc := "()V" } : Jvm.MethodName)) ∈ gG := gmm 68 (by decide +kernel) (by decide +kernel)
theorem tw_69 : (Jvm.Cond.fieldLink "WaltzHall$Tape" (9 : Nat) "WaltzHall$Tape" "bytes" "[B") ∈ gG := gmm 69 (by decide +kernel) (by decide +kernel)
theorem tw_70 : (Jvm.Cond.fieldLink "WaltzHall$Dance" (44 : Nat) "WaltzHall$Tape" "bytes" "[B") ∈ gG := gmm 70 (by decide +kernel) (by decide +kernel)
theorem tw_71 : (Jvm.Cond.fieldLink "WaltzHall$Tape" (15 : Nat) "WaltzHall$Tape" "length" "I") ∈ gG := gmm 71 (by decide +kernel) (by decide +kernel)
theorem tw_72 : (Jvm.Cond.fieldLink "WaltzHall$Dance" (37 : Nat) "WaltzHall$Tape" "length" "I") ∈ gG := gmm 72 (by decide +kernel) (by decide +kernel)
theorem tw_79 : (Jvm.Cond.arrayClass Jvm.ClassFile.FieldType.byte) ∈ gG := gmm 79 (by decide +kernel) (by decide +kernel)
theorem tw_163 : (Jvm.Cond.fieldLink "WaltzHall$Dancer" (95 : Nat) "WaltzHall$Dance" "number" "I") ∈ gG := gmm 163 (by decide +kernel) (by decide +kernel)
theorem tw_164 : (Jvm.Cond.fieldLink "WaltzHall$Dance" (9 : Nat) "WaltzHall$Dance" "figures" "[B") ∈ gG := gmm 164 (by decide +kernel) (by decide +kernel)
theorem tw_165 : (Jvm.Cond.fieldLink "WaltzHall$Dance" (29 : Nat) "WaltzHall$Dance" "length" "I") ∈ gG := gmm 165 (by decide +kernel) (by decide +kernel)
theorem tw_335 : (Jvm.Cond.constantLong "WaltzHall$Dance" (74 : Nat) (31 : Int64)) ∈ gG := gmm 335 (by decide +kernel) (by decide +kernel)
theorem tw_336 : (Jvm.Cond.methodLink "WaltzHall$Dance" (47 : Nat) ({ cls := "WaltzHall$Dance", name := "figureAt", desc := "(I)I" } : Jvm.MethodName)) ∈ gG := gmm 336 (by decide +kernel) (by decide +kernel)
theorem tw_337 : (Jvm.Cond.instanceMethod ({ cls := "WaltzHall$Dance", name := "figureAt", desc := "(I)I" } : Jvm.MethodName)) ∈ gG := gmm 337 (by decide +kernel) (by decide +kernel)
theorem tw_338 : (Jvm.Cond.selects "WaltzHall$Dance" ({ cls := "WaltzHall$Dance", name := "figureAt", desc := "(I)I" } : Jvm.MethodName) ({ cls := "WaltzHall$Dance", name := "figureAt", desc := "(I)I" } : Jvm.MethodName)) ∈ gG := gmm 338 (by decide +kernel) (by decide +kernel)
theorem tw_339 : (Jvm.Cond.code ({ cls := "WaltzHall$Dance", name := "figureAt", desc := "(I)I" } : Jvm.MethodName) prog_2_method_3_code (2 : Nat) (Option.some Jvm.ClassFile.FieldType.int)) ∈ gG := gmm 339 (by decide +kernel) (by decide +kernel)
theorem tw_347 : (Jvm.Cond.methodLink "WaltzHall$Winder" (52 : Nat) ({ cls := "WaltzHall$Winder", name := "whoseTurn", desc := "()I" } : Jvm.MethodName)) ∈ gG := gmm 347 (by decide +kernel) (by decide +kernel)
theorem tw_348 : (Jvm.Cond.instanceMethod ({ cls := "WaltzHall$Winder", name := "whoseTurn", desc := "()I" } : Jvm.MethodName)) ∈ gG := gmm 348 (by decide +kernel) (by decide +kernel)
theorem tw_349 : (Jvm.Cond.selects "WaltzHall$Winder" ({ cls := "WaltzHall$Winder", name := "whoseTurn", desc := "()I" } : Jvm.MethodName) ({ cls := "WaltzHall$Winder", name := "whoseTurn", desc := "()I" } : Jvm.MethodName)) ∈ gG := gmm 349 (by decide +kernel) (by decide +kernel)
theorem tw_350 : (Jvm.Cond.code ({ cls := "WaltzHall$Winder", name := "whoseTurn", desc := "()I" } : Jvm.MethodName) prog_6_method_4_code (1 : Nat) (Option.some Jvm.ClassFile.FieldType.int)) ∈ gG := gmm 350 (by decide +kernel) (by decide +kernel)
theorem tw_490 : (Jvm.Cond.methodLink "WaltzHall$Dance" (31 : Nat) ({ cls := "WaltzHall$Tape", name := "isDance", desc := "()Z" } : Jvm.MethodName)) ∈ gG := gmm 490 (by decide +kernel) (by decide +kernel)
theorem tw_491 : (Jvm.Cond.instanceMethod ({ cls := "WaltzHall$Tape", name := "isDance", desc := "()Z" } : Jvm.MethodName)) ∈ gG := gmm 491 (by decide +kernel) (by decide +kernel)
theorem tw_492 : (Jvm.Cond.selects "WaltzHall$Tape" ({ cls := "WaltzHall$Tape", name := "isDance", desc := "()Z" } : Jvm.MethodName) ({ cls := "WaltzHall$Tape", name := "isDance", desc := "()Z" } : Jvm.MethodName)) ∈ gG := gmm 492 (by decide +kernel) (by decide +kernel)
theorem tw_493 : (Jvm.Cond.code ({ cls := "WaltzHall$Tape", name := "isDance", desc := "()Z" } : Jvm.MethodName) prog_5_method_4_code (2 : Nat) (Option.some Jvm.ClassFile.FieldType.boolean)) ∈ gG := gmm 493 (by decide +kernel) (by decide +kernel)
theorem tw_494 : (Jvm.Cond.methodLinkNest "WaltzHall$Tape" (19 : Nat) ({ cls := "WaltzHall", name := "isFigure", desc := "(I)Z" } : Jvm.MethodName) "WaltzHall") ∈ gG := gmm 494 (by decide +kernel) (by decide +kernel)
theorem tw_495 : (Jvm.Cond.static ({ cls := "WaltzHall", name := "isFigure", desc := "(I)Z" } : Jvm.MethodName)) ∈ gG := gmm 495 (by decide +kernel) (by decide +kernel)
theorem tw_496 : (Jvm.Cond.code ({ cls := "WaltzHall", name := "isFigure", desc := "(I)Z" } : Jvm.MethodName) prog_1_method_35_code (1 : Nat) (Option.some Jvm.ClassFile.FieldType.boolean)) ∈ gG := gmm 496 (by decide +kernel) (by decide +kernel)
theorem tw_503 : (Jvm.Cond.methodLink "WaltzHall$Dance" (38 : Nat) ({ cls := "java/lang/Math", name := "min", desc := "(II)I" } : Jvm.MethodName)) ∈ gG := gmm 503 (by decide +kernel) (by decide +kernel)
theorem tw_532 : (Jvm.Cond.methodLinkNest "WaltzHall$Dance" (51 : Nat) ({ cls := "WaltzHall", name := "isWalk", desc := "(I)Z" } : Jvm.MethodName) "WaltzHall") ∈ gG := gmm 532 (by decide +kernel) (by decide +kernel)
theorem tw_533 : (Jvm.Cond.methodLinkNest "WaltzHall$Dance" (55 : Nat) ({ cls := "WaltzHall", name := "quartersToWayOf", desc := "(I)I" } : Jvm.MethodName) "WaltzHall") ∈ gG := gmm 533 (by decide +kernel) (by decide +kernel)
theorem tw_534 : (Jvm.Cond.static ({ cls := "WaltzHall", name := "quartersToWayOf", desc := "(I)I" } : Jvm.MethodName)) ∈ gG := gmm 534 (by decide +kernel) (by decide +kernel)
theorem tw_535 : (Jvm.Cond.code ({ cls := "WaltzHall", name := "quartersToWayOf", desc := "(I)I" } : Jvm.MethodName) prog_1_method_36_code (1 : Nat) (Option.some Jvm.ClassFile.FieldType.int)) ∈ gG := gmm 535 (by decide +kernel) (by decide +kernel)
theorem tw_536 : (Jvm.Cond.methodLinkNest "WaltzHall$Dance" (58 : Nat) ({ cls := "WaltzHall", name := "turned", desc := "(II)I" } : Jvm.MethodName) "WaltzHall") ∈ gG := gmm 536 (by decide +kernel) (by decide +kernel)
theorem tw_542 : (Jvm.Cond.methodLinkNest "WaltzHall$Dance" (61 : Nat) ({ cls := "WaltzHall", name := "columnStep", desc := "(I)I" } : Jvm.MethodName) "WaltzHall") ∈ gG := gmm 542 (by decide +kernel) (by decide +kernel)
theorem tw_545 : (Jvm.Cond.methodLinkNest "WaltzHall$Dance" (64 : Nat) ({ cls := "WaltzHall", name := "rowStep", desc := "(I)I" } : Jvm.MethodName) "WaltzHall") ∈ gG := gmm 545 (by decide +kernel) (by decide +kernel)
theorem tw_548 : (Jvm.Cond.methodLinkNest "WaltzHall$Dance" (67 : Nat) ({ cls := "WaltzHall", name := "quartersTurnedBy", desc := "(I)I" } : Jvm.MethodName) "WaltzHall") ∈ gG := gmm 548 (by decide +kernel) (by decide +kernel)
theorem tw_549 : (Jvm.Cond.methodLink "WaltzHall$Dance" (70 : Nat) ({ cls := "WaltzHall$Dance", name := "roundsToStart", desc := "(III)I" } : Jvm.MethodName)) ∈ gG := gmm 549 (by decide +kernel) (by decide +kernel)
theorem tw_550 : (Jvm.Cond.static ({ cls := "WaltzHall$Dance", name := "roundsToStart", desc := "(III)I" } : Jvm.MethodName)) ∈ gG := gmm 550 (by decide +kernel) (by decide +kernel)
theorem tw_551 : (Jvm.Cond.code ({ cls := "WaltzHall$Dance", name := "roundsToStart", desc := "(III)I" } : Jvm.MethodName) prog_2_method_6_code (3 : Nat) (Option.some Jvm.ClassFile.FieldType.int)) ∈ gG := gmm 551 (by decide +kernel) (by decide +kernel)
theorem tw_572 : (Jvm.Cond.methodLink "WaltzHall$Dancer" (3 : Nat) ({ cls := "java/lang/Object", name := "<init>", desc := "()V" } : Jvm.MethodName)) ∈ gG := gmm 572 (by decide +kernel) (by decide +kernel)
theorem tw_573 : (Jvm.Cond.fieldLink "WaltzHall$Dancer" (18 : Nat) "WaltzHall$Dancer" "number" "I") ∈ gG := gmm 573 (by decide +kernel) (by decide +kernel)
theorem tw_578 : (Jvm.Cond.fieldLink "WaltzHall$Winder" (34 : Nat) "WaltzHall$Dancer" "x" "I") ∈ gG := gmm 578 (by decide +kernel) (by decide +kernel)
theorem tw_582 : (Jvm.Cond.fieldLink "WaltzHall$Winder" (37 : Nat) "WaltzHall$Dancer" "y" "I") ∈ gG := gmm 582 (by decide +kernel) (by decide +kernel)
theorem tw_588 : (Jvm.Cond.fieldLink "WaltzHall$Winder" (42 : Nat) "WaltzHall$Dancer" "spring" "I") ∈ gG := gmm 588 (by decide +kernel) (by decide +kernel)
theorem tw_700 : (Jvm.Cond.instanceMethod ({ cls := "WaltzHall$Dancer", name := "windBy", desc := "(I)V" } : Jvm.MethodName)) ∈ gG := gmm 700 (by decide +kernel) (by decide +kernel)
theorem tw_701 : (Jvm.Cond.selects "WaltzHall$Dancer" ({ cls := "WaltzHall$Dancer", name := "windBy", desc := "(I)V" } : Jvm.MethodName) ({ cls := "WaltzHall$Dancer", name := "windBy", desc := "(I)V" } : Jvm.MethodName)) ∈ gG := gmm 701 (by decide +kernel) (by decide +kernel)
theorem tw_702 : (Jvm.Cond.code ({ cls := "WaltzHall$Dancer", name := "windBy", desc := "(I)V" } : Jvm.MethodName) prog_3_method_7_code (2 : Nat) (Option.none : Option Jvm.ClassFile.FieldType)) ∈ gG := gmm 702 (by decide +kernel) (by decide +kernel)
theorem tw_733 : (Jvm.Cond.methodLink "WaltzHall$Winder" (3 : Nat) ({ cls := "java/lang/Object", name := "<init>", desc := "()V" } : Jvm.MethodName)) ∈ gG := gmm 733 (by decide +kernel) (by decide +kernel)
theorem tw_734 : (Jvm.Cond.fieldLink "WaltzHall$Winder" (15 : Nat) "WaltzHall$Winder" "x" "I") ∈ gG := gmm 734 (by decide +kernel) (by decide +kernel)
theorem tw_736 : (Jvm.Cond.fieldLink "WaltzHall$Winder" (19 : Nat) "WaltzHall$Winder" "y" "I") ∈ gG := gmm 736 (by decide +kernel) (by decide +kernel)
theorem tw_738 : (Jvm.Cond.fieldLink "WaltzHall$Winder" (22 : Nat) "WaltzHall$Winder" "strength" "I") ∈ gG := gmm 738 (by decide +kernel) (by decide +kernel)
theorem tw_740 : (Jvm.Cond.fieldLink "WaltzHall$Winder" (9 : Nat) "WaltzHall$Winder" "round" "[I") ∈ gG := gmm 740 (by decide +kernel) (by decide +kernel)
theorem tw_741 : (Jvm.Cond.fieldLink "WaltzHall$Winder" (25 : Nat) "WaltzHall$Winder" "roundLength" "I") ∈ gG := gmm 741 (by decide +kernel) (by decide +kernel)
theorem tw_743 : (Jvm.Cond.fieldLink "WaltzHall$Winder" (28 : Nat) "WaltzHall$Winder" "turn" "I") ∈ gG := gmm 743 (by decide +kernel) (by decide +kernel)
theorem tw_744 : (Jvm.Cond.fieldLink "WaltzHall$Winder" (31 : Nat) "WaltzHall$Winder" "windings" "I") ∈ gG := gmm 744 (by decide +kernel) (by decide +kernel)
theorem tw_760 : (Jvm.Cond.arrayClass Jvm.ClassFile.FieldType.int) ∈ gG := gmm 760 (by decide +kernel) (by decide +kernel)
theorem tw_868 : (Jvm.Cond.methodLinkNest "WaltzHall$Winder" (38 : Nat) ({ cls := "WaltzHall", name := "distance", desc := "(IIII)I" } : Jvm.MethodName) "WaltzHall") ∈ gG := gmm 868 (by decide +kernel) (by decide +kernel)
theorem tw_869 : (Jvm.Cond.methodLink "WaltzHall$Winder" (45 : Nat) ({ cls := "WaltzHall$Winder", name := "passTurn", desc := "()V" } : Jvm.MethodName)) ∈ gG := gmm 869 (by decide +kernel) (by decide +kernel)
theorem tw_871 : (Jvm.Cond.instanceMethod ({ cls := "WaltzHall$Winder", name := "passTurn", desc := "()V" } : Jvm.MethodName)) ∈ gG := gmm 871 (by decide +kernel) (by decide +kernel)
theorem tw_872 : (Jvm.Cond.code ({ cls := "WaltzHall$Winder", name := "passTurn", desc := "()V" } : Jvm.MethodName) prog_6_method_6_code (1 : Nat) (Option.none : Option Jvm.ClassFile.FieldType)) ∈ gG := gmm 872 (by decide +kernel) (by decide +kernel)
theorem tw_873 : (Jvm.Cond.methodLink "WaltzHall$Winder" (48 : Nat) ({ cls := "WaltzHall$Dancer", name := "windBy", desc := "(I)V" } : Jvm.MethodName)) ∈ gG := gmm 873 (by decide +kernel) (by decide +kernel)
theorem hd_D_figureAt : y_D_figureAt.cls ≠ "java/lang/invoke/MethodHandle" ∧ y_D_figureAt.cls ≠ "java/lang/invoke/VarHandle" ∧ (parseMethodDescriptor y_D_figureAt.desc).map (fun d => d.parameters.length) = some 1 := by decide +kernel
theorem hd_D_roundsToStart : y_D_roundsToStart.cls ≠ "java/lang/invoke/MethodHandle" ∧ y_D_roundsToStart.cls ≠ "java/lang/invoke/VarHandle" ∧ (parseMethodDescriptor y_D_roundsToStart.desc).map (fun d => d.parameters.length) = some 3 := by decide +kernel
theorem hd_H_isFigure : y_H_isFigure.cls ≠ "java/lang/invoke/MethodHandle" ∧ y_H_isFigure.cls ≠ "java/lang/invoke/VarHandle" ∧ (parseMethodDescriptor y_H_isFigure.desc).map (fun d => d.parameters.length) = some 1 := by decide +kernel
theorem hd_H_quartersToWayOf : y_H_quartersToWayOf.cls ≠ "java/lang/invoke/MethodHandle" ∧ y_H_quartersToWayOf.cls ≠ "java/lang/invoke/VarHandle" ∧ (parseMethodDescriptor y_H_quartersToWayOf.desc).map (fun d => d.parameters.length) = some 1 := by decide +kernel
theorem hd_N_passTurn : y_N_passTurn.cls ≠ "java/lang/invoke/MethodHandle" ∧ y_N_passTurn.cls ≠ "java/lang/invoke/VarHandle" ∧ (parseMethodDescriptor y_N_passTurn.desc).map (fun d => d.parameters.length) = some 0 := by decide +kernel
theorem hd_N_whoseTurn : y_N_whoseTurn.cls ≠ "java/lang/invoke/MethodHandle" ∧ y_N_whoseTurn.cls ≠ "java/lang/invoke/VarHandle" ∧ (parseMethodDescriptor y_N_whoseTurn.desc).map (fun d => d.parameters.length) = some 0 := by decide +kernel
theorem hd_R_windBy : y_R_windBy.cls ≠ "java/lang/invoke/MethodHandle" ∧ y_R_windBy.cls ≠ "java/lang/invoke/VarHandle" ∧ (parseMethodDescriptor y_R_windBy.desc).map (fun d => d.parameters.length) = some 1 := by decide +kernel
theorem hd_T_isDance : y_T_isDance.cls ≠ "java/lang/invoke/MethodHandle" ∧ y_T_isDance.cls ≠ "java/lang/invoke/VarHandle" ∧ (parseMethodDescriptor y_T_isDance.desc).map (fun d => d.parameters.length) = some 0 := by decide +kernel
def w_D_figureAt (post : Int32 → Prop) (S : St) (a0 : Nat) (a1 : Int32) : Prop :=
  (a1 < 0 → post 119) ∧ (¬ a1 < 0 → ((sI S 5 a0) ≤ a1 → post 119) ∧ (¬ (sI S 5 a0) ≤ a1 → ∀ o1 : Option Nat, o1 = sQ S 4 a0 → ∃ y2 : Nat, o1 = some y2 ∧ isA S 9 y2 ∧ ((nI (sN S y2)) ≤ a1 → post 119) ∧ (¬ (nI (sN S y2)) ≤ a1 → ∀ o4 : Option Nat, o4 = sQ S 4 a0 → ∃ y5 : Nat, o4 = some y5 ∧ isA S 9 y5 ∧ vp_in a1 (sN S y5) ∧ post (sR S y5 a1.toNatClampNeg))))
set_option maxHeartbeats 4000000 in
set_option maxRecDepth 100000 in
theorem m_D_figureAt (l : Launch) (x : Cx) (S : St) (post : Int32 → Prop) (a0 : Nat) (a1 : Int32) (fa0 : isA S 1 a0) (h : w_D_figureAt post S a0 a1) : Met l y_D_figureAt [.code y_D_figureAt c_D_figureAt 2 (some .int)] { frames := 0, cells := 0, slots := 0, locals := 0 } (va_Pc [.ref a0, .int a1] (GW x S)) (va_Qi (gPu post S) (gB x S) (xA x)) 0 0 (xA x) := by
  refine gMet (by decide +kernel) (Nat.le_of_ble_eq_true rfl) ?_
  intro p e s m args below meth c hx hb hr hown hlocks hin hw hK H locs hG ls hlA hml
  have hown : s.vm.findClass "WaltzHall$Dance" = some m.cls := hown
  have hl0 : lv_has ls 2 [(0, .ref a0), (1, .int a1)] := hlA
  unfold w_D_figureAt at h
  refine lv_iload_n hx hb d_D_figureAt_0 rfl (lv_at hl0 1 rfl) ?_
  refine lv_if_lt (tgt := 30) hx hb d_D_figureAt_1 (by decide) (fun hc10 => ?_) (fun hc10 => ?_)
  · replace h := h.1 hc10
    refine lv_bipush (v := 119) hx hb d_D_figureAt_30 (by decide) ?_
    exact giret hx hb hr hlocks hK hG gle.rf ⟨h, rfl⟩ (Nat.le_of_ble_eq_true rfl) (Nat.le_of_ble_eq_true rfl) d_D_figureAt_32
  · replace h := h.2 hc10
    refine lv_iload_n hx hb d_D_figureAt_4 rfl (lv_at hl0 1 rfl) ?_
    refine lv_aload_n hx hb d_D_figureAt_5 rfl (lv_at hl0 0 rfl) ?_
    refine gget hx hb hw hown hK hG kd_D fa0 rfl 2 (by decide) rfl tw_165 (fun _ h9 => h9) d_D_figureAt_6 ?_
    refine lv_icmp_ge (tgt := 30) hx hb d_D_figureAt_9 (by decide) (fun hc9 => ?_) (fun hc9 => ?_)
    · replace h := h.1 hc9
      refine lv_bipush (v := 119) hx hb d_D_figureAt_30 (by decide) ?_
      exact giret hx hb hr hlocks hK hG gle.rf ⟨h, rfl⟩ (Nat.le_of_ble_eq_true rfl) (Nat.le_of_ble_eq_true rfl) d_D_figureAt_32
    · replace h := h.2 hc9
      refine lv_iload_n hx hb d_D_figureAt_12 rfl (lv_at hl0 1 rfl) ?_
      refine lv_aload_n hx hb d_D_figureAt_13 rfl (lv_at hl0 0 rfl) ?_
      refine gget hx hb hw hown hK hG kd_D fa0 rfl 1 (by decide) rfl tw_164 (fun _ h9 => h9) d_D_figureAt_14 ?_
      refine gtopq (fun o1 eo1 => ?_)
      replace h := h o1 eo1
      obtain ⟨y2, ey2, h⟩ := h
      subst ey2
      obtain ⟨f3, h⟩ := h
      refine galen hx hb hK hG f3 rfl 0 rfl rfl d_D_figureAt_17 ?_
      refine lv_icmp_ge (tgt := 30) hx hb d_D_figureAt_18 (by decide) (fun hc8 => ?_) (fun hc8 => ?_)
      · replace h := h.1 hc8
        refine lv_bipush (v := 119) hx hb d_D_figureAt_30 (by decide) ?_
        exact giret hx hb hr hlocks hK hG gle.rf ⟨h, rfl⟩ (Nat.le_of_ble_eq_true rfl) (Nat.le_of_ble_eq_true rfl) d_D_figureAt_32
      · replace h := h.2 hc8
        refine lv_aload_n hx hb d_D_figureAt_21 rfl (lv_at hl0 0 rfl) ?_
        refine gget hx hb hw hown hK hG kd_D fa0 rfl 1 (by decide) rfl tw_164 (fun _ h9 => h9) d_D_figureAt_22 ?_
        refine gtopq (fun o4 eo4 => ?_)
        replace h := h o4 eo4
        refine lv_iload_n hx hb d_D_figureAt_25 rfl (lv_at hl0 1 rfl) ?_
        obtain ⟨y5, ey5, h⟩ := h
        subst ey5
        obtain ⟨f6, h⟩ := h
        obtain ⟨hi7, h⟩ := h
        refine gbald hx hb hK hG f6 hi7 d_D_figureAt_26 ?_
        refine lv_goto (tgt := 32) hx hb d_D_figureAt_27 (by decide) ?_
        exact giret hx hb hr hlocks hK hG gle.rf ⟨h, rfl⟩ (Nat.le_of_ble_eq_true rfl) (Nat.le_of_ble_eq_true rfl) d_D_figureAt_32
def w_D_placeBehind (post : Int32 → Prop) (S : St) (a0 : Nat) (a1 : Int32) : Prop :=
  ((sI S 5 a0) ≤ (a1 + 1) → post 0) ∧ (¬ (sI S 5 a0) ≤ (a1 + 1) → post (a1 + 1))
set_option maxHeartbeats 4000000 in
set_option maxRecDepth 100000 in
theorem m_D_placeBehind (l : Launch) (x : Cx) (S : St) (post : Int32 → Prop) (a0 : Nat) (a1 : Int32) (fa0 : isA S 1 a0) (h : w_D_placeBehind post S a0 a1) : Met l y_D_placeBehind [.code y_D_placeBehind c_D_placeBehind 2 (some .int)] { frames := 0, cells := 0, slots := 0, locals := 0 } (va_Pc [.ref a0, .int a1] (GW x S)) (va_Qi (gPu post S) (gB x S) (xA x)) 0 0 (xA x) := by
  refine gMet (by decide +kernel) (Nat.le_of_ble_eq_true rfl) ?_
  intro p e s m args below meth c hx hb hr hown hlocks hin hw hK H locs hG ls hlA hml
  have hown : s.vm.findClass "WaltzHall$Dance" = some m.cls := hown
  have hl0 : lv_has ls 2 [(0, .ref a0), (1, .int a1)] := hlA
  unfold w_D_placeBehind at h
  refine lv_iload_n hx hb d_D_placeBehind_0 rfl (lv_at hl0 1 rfl) ?_
  refine lv_iconst (v := 1) hx hb d_D_placeBehind_1 (by decide) ?_
  refine lv_iadd hx hb d_D_placeBehind_2 ?_
  refine lv_aload_n hx hb d_D_placeBehind_3 rfl (lv_at hl0 0 rfl) ?_
  refine gget hx hb hw hown hK hG kd_D fa0 rfl 2 (by decide) rfl tw_165 (fun _ h9 => h9) d_D_placeBehind_4 ?_
  refine lv_icmp_ge (tgt := 16) hx hb d_D_placeBehind_7 (by decide) (fun hc1 => ?_) (fun hc1 => ?_)
  · replace h := h.1 hc1
    refine lv_iconst (v := 0) hx hb d_D_placeBehind_16 (by decide) ?_
    exact giret hx hb hr hlocks hK hG gle.rf ⟨h, rfl⟩ (Nat.le_of_ble_eq_true rfl) (Nat.le_of_ble_eq_true rfl) d_D_placeBehind_17
  · replace h := h.2 hc1
    refine lv_iload_n hx hb d_D_placeBehind_10 rfl (lv_at hl0 1 rfl) ?_
    refine lv_iconst (v := 1) hx hb d_D_placeBehind_11 (by decide) ?_
    refine lv_iadd hx hb d_D_placeBehind_12 ?_
    refine lv_goto (tgt := 17) hx hb d_D_placeBehind_13 (by decide) ?_
    exact giret hx hb hr hlocks hK hG gle.rf ⟨h, rfl⟩ (Nat.le_of_ble_eq_true rfl) (Nat.le_of_ble_eq_true rfl) d_D_placeBehind_17
def w_D_roundsToStart (post : Int32 → Prop) (S : St) (a0 : Int32) (a1 : Int32) (a2 : Int32) : Prop :=
  (a2 = 0 → (a0 = 0 → (a1 = 0 → post 1) ∧ (¬ a1 = 0 → post (-1))) ∧ (¬ a0 = 0 → post (-1))) ∧ (¬ a2 = 0 → (a2 = 2 → post 2) ∧ (¬ a2 = 2 → post 4))
set_option maxHeartbeats 4000000 in
set_option maxRecDepth 100000 in
theorem m_D_roundsToStart (l : Launch) (x : Cx) (S : St) (post : Int32 → Prop) (a0 : Int32) (a1 : Int32) (a2 : Int32) (h : w_D_roundsToStart post S a0 a1 a2) : Met l y_D_roundsToStart [.code y_D_roundsToStart c_D_roundsToStart 3 (some .int)] { frames := 0, cells := 0, slots := 0, locals := 0 } (va_Pc [.int a0, .int a1, .int a2] (GW x S)) (va_Qi (gPu post S) (gB x S) (xA x)) 0 0 (xA x) := by
  refine gMet (by decide +kernel) (Nat.le_of_ble_eq_true rfl) ?_
  intro p e s m args below meth c hx hb hr hown hlocks hin hw hK H locs hG ls hlA hml
  have hown : s.vm.findClass "WaltzHall$Dance" = some m.cls := hown
  have hl0 : lv_has ls 3 [(0, .int a0), (1, .int a1), (2, .int a2)] := hlA
  unfold w_D_roundsToStart at h
  refine lv_iload_n hx hb d_D_roundsToStart_0 rfl (lv_at hl0 2 rfl) ?_
  refine lv_if_ne (tgt := 18) hx hb d_D_roundsToStart_1 (by decide) (fun hc4 => ?_) (fun hc4 => ?_)
  · replace h := h.2 hc4
    refine lv_iload_n hx hb d_D_roundsToStart_18 rfl (lv_at hl0 2 rfl) ?_
    refine lv_iconst (v := 2) hx hb d_D_roundsToStart_19 (by decide) ?_
    refine lv_icmp_ne (tgt := 27) hx hb d_D_roundsToStart_20 (by decide) (fun hc1 => ?_) (fun hc1 => ?_)
    · replace h := h.2 hc1
      refine lv_iconst (v := 4) hx hb d_D_roundsToStart_27 (by decide) ?_
      exact giret hx hb hr hlocks hK hG gle.rf ⟨h, rfl⟩ (Nat.le_of_ble_eq_true rfl) (Nat.le_of_ble_eq_true rfl) d_D_roundsToStart_28
    · replace h := h.1 hc1
      refine lv_iconst (v := 2) hx hb d_D_roundsToStart_23 (by decide) ?_
      refine lv_goto (tgt := 28) hx hb d_D_roundsToStart_24 (by decide) ?_
      exact giret hx hb hr hlocks hK hG gle.rf ⟨h, rfl⟩ (Nat.le_of_ble_eq_true rfl) (Nat.le_of_ble_eq_true rfl) d_D_roundsToStart_28
  · replace h := h.1 hc4
    refine lv_iload_n hx hb d_D_roundsToStart_4 rfl (lv_at hl0 0 rfl) ?_
    refine lv_if_ne (tgt := 16) hx hb d_D_roundsToStart_5 (by decide) (fun hc3 => ?_) (fun hc3 => ?_)
    · replace h := h.2 hc3
      refine lv_iconst (v := (-1)) hx hb d_D_roundsToStart_16 (by decide) ?_
      exact giret hx hb hr hlocks hK hG gle.rf ⟨h, rfl⟩ (Nat.le_of_ble_eq_true rfl) (Nat.le_of_ble_eq_true rfl) d_D_roundsToStart_17
    · replace h := h.1 hc3
      refine lv_iload_n hx hb d_D_roundsToStart_8 rfl (lv_at hl0 1 rfl) ?_
      refine lv_if_ne (tgt := 16) hx hb d_D_roundsToStart_9 (by decide) (fun hc2 => ?_) (fun hc2 => ?_)
      · replace h := h.2 hc2
        refine lv_iconst (v := (-1)) hx hb d_D_roundsToStart_16 (by decide) ?_
        exact giret hx hb hr hlocks hK hG gle.rf ⟨h, rfl⟩ (Nat.le_of_ble_eq_true rfl) (Nat.le_of_ble_eq_true rfl) d_D_roundsToStart_17
      · replace h := h.1 hc2
        refine lv_iconst (v := 1) hx hb d_D_roundsToStart_12 (by decide) ?_
        refine lv_goto (tgt := 17) hx hb d_D_roundsToStart_13 (by decide) ?_
        exact giret hx hb hr hlocks hK hG gle.rf ⟨h, rfl⟩ (Nat.le_of_ble_eq_true rfl) (Nat.le_of_ble_eq_true rfl) d_D_roundsToStart_17
def w_D_driftOf (post : Int32 → Prop) (S : St) (a0 : Nat) (a1 : Int32) : Prop :=
  ∃ J10 : Nat → Int32 → Int32 → Int32 → Int32 → Prop, (∃ n : Nat, J10 n 0 0 0 0) ∧ ∀ (n10 : Nat) (v2_10 : Int32) (v3_10 : Int32) (v4_10 : Int32) (v5_10 : Int32), J10 n10 v2_10 v3_10 v4_10 v5_10 → ((sI S 5 a0) ≤ v5_10 → (a1 = 0 → post v2_10) ∧ (a1 = 1 → post v3_10) ∧ (a1 = 2 → post v4_10) ∧ (¬ a1 = 0 → ¬ a1 = 1 → ¬ a1 = 2 → w_D_roundsToStart (fun (r9 : Int32) => post r9) S v2_10 v3_10 v4_10)) ∧ (¬ (sI S 5 a0) ≤ v5_10 → w_D_figureAt (fun (r10 : Int32) => w_H_isWalk (fun (r12 : Int32) => ∃ J63 : Int32 → Int32 → Prop, (∀ (v2_63 : Int32) (v3_63 : Int32), J63 v2_63 v3_63 → w_H_quartersTurnedBy (fun (r14 : Int32) => w_H_turned (fun (r15 : Int32) => ∀ v17 : Int32, v17 = v5_10 + 1 → ∃ nx : Nat, nx < n10 ∧ J10 nx v2_63 v3_63 r15 v17) S v4_10 r14) S r10) ∧ (r12 = 0 → J63 v2_10 v3_10) ∧ (¬ r12 = 0 → w_H_quartersToWayOf (fun (r19 : Int32) => w_H_turned (fun (r20 : Int32) => w_H_columnStep (fun (r22 : Int32) => ∀ v23 : Int32, v23 = v2_10 + r22 → w_H_rowStep (fun (r25 : Int32) => ∀ v26 : Int32, v26 = v3_10 + r25 → J63 v23 v26) S r20) S r20) S v4_10 r19) S r10)) S r10) S a0 v5_10)
set_option maxHeartbeats 4000000 in
set_option maxRecDepth 100000 in
theorem m_D_driftOf (l : Launch) (x : Cx) (S : St) (post : Int32 → Prop) (a0 : Nat) (a1 : Int32) (fa0 : isA S 1 a0) (h : w_D_driftOf post S a0 a1) : Met l y_D_driftOf [.code y_D_driftOf c_D_driftOf 8 (some .int)] { frames := 2, cells := 0, slots := 0, locals := 43 } (va_Pc [.ref a0, .int a1] (GW x S)) (va_Qi (gPu post S) (gB x S) (xA x)) 0 0 (xA x) := by
  refine gMet (by decide +kernel) (Nat.le_of_ble_eq_true rfl) ?_
  intro p e s m args below meth c hx hb hr hown hlocks hin hw hK H locs hG ls hlA hml
  have hown : s.vm.findClass "WaltzHall$Dance" = some m.cls := hown
  have hl0 : lv_has ls 8 [(0, .ref a0), (1, .int a1)] := hlA
  unfold w_D_driftOf at h
  refine lv_iconst (v := 0) hx hb d_D_driftOf_0 (by decide) ?_
  refine lv_istore_n (i := 2) (lv' := [(2, .int 0), (0, .ref a0), (1, .int a1)]) hx hb d_D_driftOf_1 rfl hl0 (by decide) rfl (fun ls hl1 => ?_)
  refine lv_iconst (v := 0) hx hb d_D_driftOf_2 (by decide) ?_
  refine lv_istore_n (i := 3) (lv' := [(3, .int 0), (2, .int 0), (0, .ref a0), (1, .int a1)]) hx hb d_D_driftOf_3 rfl hl1 (by decide) rfl (fun ls hl2 => ?_)
  refine lv_iconst (v := 0) hx hb d_D_driftOf_4 (by decide) ?_
  refine lv_istore (lv' := [(4, .int 0), (3, .int 0), (2, .int 0), (0, .ref a0), (1, .int a1)]) hx hb d_D_driftOf_5 hl2 (by decide) rfl (fun ls hl3 => ?_)
  refine lv_iconst (v := 0) hx hb d_D_driftOf_7 (by decide) ?_
  refine lv_istore (lv' := [(5, .int 0), (4, .int 0), (3, .int 0), (2, .int 0), (0, .ref a0), (1, .int a1)]) hx hb d_D_driftOf_8 hl3 (by decide) rfl (fun ls hl4 => ?_)
  have leS : gle S S := gle.rf
  obtain ⟨J10, ⟨n0_10, h0_10⟩, hJ10⟩ := h
  have k10 : ∀ (n10 : Nat) (v2_10 : Int32) (v3_10 : Int32) (v4_10 : Int32) (v5_10 : Int32) (H : Heap) (locs : List Loc) (ls : Array Slot), GH x S s H locs → lv_has ls 8 [(0, .ref a0), (1, .int a1), (2, .int v2_10), (3, .int v3_10), (4, .int v4_10), (5, .int v5_10)] → J10 n10 v2_10 v3_10 v4_10 v5_10 → W p l e { frames := 2, cells := 0, slots := 0, locals := 43 } s m args below meth c H locs 0 0 (MQ below (va_Qi (gPu post S) (gB x S) (xA x)) args s 0 0 (xA x)) (F0 m 10 ls []) := by
    intro n10
    induction n10 using Nat.strongRecOn with
    | _ n10 ih10 =>
      intro v2_10 v3_10 v4_10 v5_10 H locs ls hG hl5 hj
      replace h := hJ10 n10 v2_10 v3_10 v4_10 v5_10 hj
      refine lv_iload hx hb d_D_driftOf_10 (lv_at hl5 5 rfl) ?_
      refine lv_aload_n hx hb d_D_driftOf_12 rfl (lv_at hl5 0 rfl) ?_
      refine gget hx hb hw hown hK hG kd_D fa0 rfl 2 (by decide) rfl tw_165 (fun _ h9 => h9) d_D_driftOf_13 ?_
      refine lv_icmp_ge (tgt := 81) hx hb d_D_driftOf_16 (by decide) (fun hc29 => ?_) (fun hc29 => ?_)
      · replace h := h.1 hc29
        refine lv_iload_n hx hb d_D_driftOf_81 rfl (lv_at hl5 1 rfl) ?_
        by_cases hc6 : a1 = 0
        · replace h := h.1 hc6
          refine lv_tableIn (tgt := 108) hx hb d_D_driftOf_82 (by rw [hc6]; decide) (by rw [hc6]; decide) (by rw [hc6]; rfl) (by decide) ?_
          refine lv_iload_n hx hb d_D_driftOf_108 rfl (lv_at hl5 2 rfl) ?_
          exact giret hx hb hr hlocks hK hG leS ⟨h, rfl⟩ (Nat.le_of_ble_eq_true rfl) (Nat.le_of_ble_eq_true rfl) d_D_driftOf_109
        · skip
          by_cases hc7 : a1 = 1
          · replace h := h.2.1 hc7
            refine lv_tableIn (tgt := 110) hx hb d_D_driftOf_82 (by rw [hc7]; decide) (by rw [hc7]; decide) (by rw [hc7]; rfl) (by decide) ?_
            refine lv_iload_n hx hb d_D_driftOf_110 rfl (lv_at hl5 3 rfl) ?_
            exact giret hx hb hr hlocks hK hG leS ⟨h, rfl⟩ (Nat.le_of_ble_eq_true rfl) (Nat.le_of_ble_eq_true rfl) d_D_driftOf_111
          · skip
            by_cases hc8 : a1 = 2
            · replace h := h.2.2.1 hc8
              refine lv_tableIn (tgt := 112) hx hb d_D_driftOf_82 (by rw [hc8]; decide) (by rw [hc8]; decide) (by rw [hc8]; rfl) (by decide) ?_
              refine lv_iload hx hb d_D_driftOf_112 (lv_at hl5 4 rfl) ?_
              exact giret hx hb hr hlocks hK hG leS ⟨h, rfl⟩ (Nat.le_of_ble_eq_true rfl) (Nat.le_of_ble_eq_true rfl) d_D_driftOf_114
            · skip
              replace h := h.2.2.2 hc6 hc7 hc8
              refine lv_tableOut (tgt := 115) hx hb d_D_driftOf_82 (gtabOut 3 (by decide) (fun j9 hj9 => by
                match j9, hj9 with
                | 0, _ => exact hc6
                | 1, _ => exact hc7
                | 2, _ => exact hc8
                | k9 + 3, hk9 => exact absurd hk9 (by omega))) (by decide) ?_
              refine lv_iload_n hx hb d_D_driftOf_115 rfl (lv_at hl5 2 rfl) ?_
              refine lv_iload_n hx hb d_D_driftOf_116 rfl (lv_at hl5 3 rfl) ?_
              refine lv_iload hx hb d_D_driftOf_117 (lv_at hl5 4 rfl) ?_
              -- call D_roundsToStart
              refine gpi hK hG (va_runS (As := [.int v2_10, .int v3_10, .int v4_10]) (rest := []) ⟨hx, hb, hml, hown, hw⟩ (m_D_roundsToStart l x S _ v2_10 v3_10 v4_10  h) ⟨gcb hw tw_551 tw_33 tw_549 hd_D_roundsToStart rfl rfl ⟨(Nat.le_of_ble_eq_true rfl), (Nat.le_of_ble_eq_true rfl)⟩, hw _ tw_550⟩ (gpS hK hG) rfl rfl hl5.1 rfl (lv_room (Nat.le_of_ble_eq_true rfl)) d_D_driftOf_119 ⟨(Nat.le_of_ble_eq_true rfl), (Nat.le_of_ble_eq_true rfl)⟩) (fun r9 H locs h9 hG => ?_)
              replace h := h9
              clear h9
              exact giret hx hb hr hlocks hK hG leS ⟨h, rfl⟩ (Nat.le_of_ble_eq_true rfl) (Nat.le_of_ble_eq_true rfl) d_D_driftOf_122
      · replace h := h.2 hc29
        refine lv_aload_n hx hb d_D_driftOf_19 rfl (lv_at hl5 0 rfl) ?_
        refine lv_iload hx hb d_D_driftOf_20 (lv_at hl5 5 rfl) ?_
        -- call D_figureAt
        refine gpi hK hG (va_runV (As := [.int v5_10]) (rest := []) ⟨hx, hb, hml, hown, hw⟩ (m_D_figureAt l x S _ a0 v5_10 fa0 h) ⟨gcb hw tw_339 tw_33 tw_336 hd_D_figureAt rfl rfl ⟨(Nat.le_of_ble_eq_true rfl), (Nat.le_of_ble_eq_true rfl)⟩, hw _ tw_337, hw _ tw_338⟩ (gpV hK hG kd_D fa0 rfl) rfl rfl hl5.1 rfl (lv_room (Nat.le_of_ble_eq_true rfl)) d_D_driftOf_22 ⟨(Nat.le_of_ble_eq_true rfl), (Nat.le_of_ble_eq_true rfl)⟩) (fun r10 H locs h9 hG => ?_)
        replace h := h9
        clear h9
        refine lv_istore (lv' := [(6, .int r10), (0, .ref a0), (1, .int a1), (2, .int v2_10), (3, .int v3_10), (4, .int v4_10), (5, .int v5_10)]) hx hb d_D_driftOf_25 hl5 (by decide) rfl (fun ls hl11 => ?_)
        refine lv_iload hx hb d_D_driftOf_27 (lv_at hl11 0 rfl) ?_
        -- call H_isWalk
        refine gpi hK hG (va_runSN (As := [.int r10]) (rest := []) ⟨hx, hb, hml, hown, hw⟩ (m_H_isWalk l x S _ r10  h) ⟨gcn hw tw_499 tw_28 tw_532 hd_H_isWalk rfl rfl ⟨(Nat.le_of_ble_eq_true rfl), (Nat.le_of_ble_eq_true rfl)⟩, hw _ tw_498, trivial⟩ (gpS hK hG) rfl rfl hl11.1 rfl (lv_room (Nat.le_of_ble_eq_true rfl)) d_D_driftOf_29 ⟨(Nat.le_of_ble_eq_true rfl), (Nat.le_of_ble_eq_true rfl)⟩) (fun r12 H locs h9 hG => ?_)
        replace h := h9
        clear h9
        obtain ⟨J63, hJ63, h⟩ := h
        have k63 : ∀ (v2_63 : Int32) (v3_63 : Int32) (H : Heap) (locs : List Loc) (ls : Array Slot), GH x S s H locs → lv_has ls 8 [(0, .ref a0), (1, .int a1), (2, .int v2_63), (3, .int v3_63), (4, .int v4_10), (5, .int v5_10), (6, .int r10)] → J63 v2_63 v3_63 → W p l e { frames := 2, cells := 0, slots := 0, locals := 43 } s m args below meth c H locs 0 0 (MQ below (va_Qi (gPu post S) (gB x S) (xA x)) args s 0 0 (xA x)) (F0 m 63 ls []) := by
          intro v2_63 v3_63  H locs ls hG hl13 hj
          replace h := hJ63 v2_63 v3_63 hj
          refine lv_iload hx hb d_D_driftOf_63 (lv_at hl13 4 rfl) ?_
          refine lv_iload hx hb d_D_driftOf_65 (lv_at hl13 6 rfl) ?_
          -- call H_quartersTurnedBy
          refine gpi hK hG (va_runSN (As := [.int r10]) (rest := [.int v4_10]) ⟨hx, hb, hml, hown, hw⟩ (m_H_quartersTurnedBy l x S _ r10  h) ⟨gcn hw tw_502 tw_28 tw_548 hd_H_quartersTurnedBy rfl rfl ⟨(Nat.le_of_ble_eq_true rfl), (Nat.le_of_ble_eq_true rfl)⟩, hw _ tw_501, trivial⟩ (gpS hK hG) rfl rfl hl13.1 rfl (lv_room (Nat.le_of_ble_eq_true rfl)) d_D_driftOf_67 ⟨(Nat.le_of_ble_eq_true rfl), (Nat.le_of_ble_eq_true rfl)⟩) (fun r14 H locs h9 hG => ?_)
          replace h := h9
          clear h9
          -- call H_turned
          refine gpi hK hG (va_runSN (As := [.int v4_10, .int r14]) (rest := []) ⟨hx, hb, hml, hown, hw⟩ (m_H_turned l x S _ v4_10 r14  h) ⟨gcn hw tw_538 tw_28 tw_536 hd_H_turned rfl rfl ⟨(Nat.le_of_ble_eq_true rfl), (Nat.le_of_ble_eq_true rfl)⟩, hw _ tw_537, trivial⟩ (gpS hK hG) rfl rfl hl13.1 rfl (lv_room (Nat.le_of_ble_eq_true rfl)) d_D_driftOf_70 ⟨(Nat.le_of_ble_eq_true rfl), (Nat.le_of_ble_eq_true rfl)⟩) (fun r15 H locs h9 hG => ?_)
          replace h := h9
          clear h9
          refine lv_istore (lv' := [(4, .int r15), (0, .ref a0), (1, .int a1), (2, .int v2_63), (3, .int v3_63), (5, .int v5_10), (6, .int r10)]) hx hb d_D_driftOf_73 hl13 (by decide) rfl (fun ls hl16 => ?_)
          obtain ⟨v17, ev17⟩ : ∃ z : Int32, z = v5_10 + 1 := ⟨_, rfl⟩
          replace h := h v17 ev17
          refine lv_iinc (v := v17) (lv' := [(5, .int v17), (4, .int r15), (0, .ref a0), (1, .int a1), (2, .int v2_63), (3, .int v3_63), (6, .int r10)]) hx hb d_D_driftOf_75 hl16 (k := 5) rfl (by rw [ev17]; rfl) (by decide) rfl (fun ls hl18 => ?_)
          refine lv_goto (tgt := 10) hx hb d_D_driftOf_78 (by decide) ?_
          obtain ⟨nx, hnx, h⟩ := h
          exact ih10 nx hnx v2_63 v3_63 r15 v17 H locs ls hG (lv_sub hl18 [2, 3, 4, 5, 1, 0] rfl) h
        refine lv_if_eq (tgt := 63) hx hb d_D_driftOf_32 (by decide) (fun hc28 => ?_) (fun hc28 => ?_)
        · replace h := h.1 hc28
          exact k63 v2_10 v3_10 H locs ls hG (lv_sub hl11 [1, 2, 3, 4, 5, 6, 0] rfl) h
        · replace h := h.2 hc28
          refine lv_iload hx hb d_D_driftOf_35 (lv_at hl11 5 rfl) ?_
          refine lv_iload hx hb d_D_driftOf_37 (lv_at hl11 0 rfl) ?_
          -- call H_quartersToWayOf
          refine gpi hK hG (va_runSN (As := [.int r10]) (rest := [.int v4_10]) ⟨hx, hb, hml, hown, hw⟩ (m_H_quartersToWayOf l x S _ r10  h) ⟨gcn hw tw_535 tw_28 tw_533 hd_H_quartersToWayOf rfl rfl ⟨(Nat.le_of_ble_eq_true rfl), (Nat.le_of_ble_eq_true rfl)⟩, hw _ tw_534, trivial⟩ (gpS hK hG) rfl rfl hl11.1 rfl (lv_room (Nat.le_of_ble_eq_true rfl)) d_D_driftOf_39 ⟨(Nat.le_of_ble_eq_true rfl), (Nat.le_of_ble_eq_true rfl)⟩) (fun r19 H locs h9 hG => ?_)
          replace h := h9
          clear h9
          -- call H_turned
          refine gpi hK hG (va_runSN (As := [.int v4_10, .int r19]) (rest := []) ⟨hx, hb, hml, hown, hw⟩ (m_H_turned l x S _ v4_10 r19  h) ⟨gcn hw tw_538 tw_28 tw_536 hd_H_turned rfl rfl ⟨(Nat.le_of_ble_eq_true rfl), (Nat.le_of_ble_eq_true rfl)⟩, hw _ tw_537, trivial⟩ (gpS hK hG) rfl rfl hl11.1 rfl (lv_room (Nat.le_of_ble_eq_true rfl)) d_D_driftOf_42 ⟨(Nat.le_of_ble_eq_true rfl), (Nat.le_of_ble_eq_true rfl)⟩) (fun r20 H locs h9 hG => ?_)
          replace h := h9
          clear h9
          refine lv_istore (lv' := [(7, .int r20), (6, .int r10), (0, .ref a0), (1, .int a1), (2, .int v2_10), (3, .int v3_10), (4, .int v4_10), (5, .int v5_10)]) hx hb d_D_driftOf_45 hl11 (by decide) rfl (fun ls hl21 => ?_)
          refine lv_iload_n hx hb d_D_driftOf_47 rfl (lv_at hl21 4 rfl) ?_
          refine lv_iload hx hb d_D_driftOf_48 (lv_at hl21 0 rfl) ?_
          -- call H_columnStep
          refine gpi hK hG (va_runSN (As := [.int r20]) (rest := [.int v2_10]) ⟨hx, hb, hml, hown, hw⟩ (m_H_columnStep l x S _ r20  h) ⟨gcn hw tw_544 tw_28 tw_542 hd_H_columnStep rfl rfl ⟨(Nat.le_of_ble_eq_true rfl), (Nat.le_of_ble_eq_true rfl)⟩, hw _ tw_543, trivial⟩ (gpS hK hG) rfl rfl hl21.1 rfl (lv_room (Nat.le_of_ble_eq_true rfl)) d_D_driftOf_50 ⟨(Nat.le_of_ble_eq_true rfl), (Nat.le_of_ble_eq_true rfl)⟩) (fun r22 H locs h9 hG => ?_)
          replace h := h9
          clear h9
          refine lv_iadd hx hb d_D_driftOf_53 ?_
          refine lv_topi (fun v23 ev23 => ?_)
          replace h := h v23 ev23
          refine lv_istore_n (i := 2) (lv' := [(2, .int v23), (7, .int r20), (6, .int r10), (0, .ref a0), (1, .int a1), (3, .int v3_10), (4, .int v4_10), (5, .int v5_10)]) hx hb d_D_driftOf_54 rfl hl21 (by decide) rfl (fun ls hl24 => ?_)
          refine lv_iload_n hx hb d_D_driftOf_55 rfl (lv_at hl24 5 rfl) ?_
          refine lv_iload hx hb d_D_driftOf_56 (lv_at hl24 1 rfl) ?_
          -- call H_rowStep
          refine gpi hK hG (va_runSN (As := [.int r20]) (rest := [.int v3_10]) ⟨hx, hb, hml, hown, hw⟩ (m_H_rowStep l x S _ r20  h) ⟨gcn hw tw_547 tw_28 tw_545 hd_H_rowStep rfl rfl ⟨(Nat.le_of_ble_eq_true rfl), (Nat.le_of_ble_eq_true rfl)⟩, hw _ tw_546, trivial⟩ (gpS hK hG) rfl rfl hl24.1 rfl (lv_room (Nat.le_of_ble_eq_true rfl)) d_D_driftOf_58 ⟨(Nat.le_of_ble_eq_true rfl), (Nat.le_of_ble_eq_true rfl)⟩) (fun r25 H locs h9 hG => ?_)
          replace h := h9
          clear h9
          refine lv_iadd hx hb d_D_driftOf_61 ?_
          refine lv_topi (fun v26 ev26 => ?_)
          replace h := h v26 ev26
          refine lv_istore_n (i := 3) (lv' := [(3, .int v26), (2, .int v23), (7, .int r20), (6, .int r10), (0, .ref a0), (1, .int a1), (4, .int v4_10), (5, .int v5_10)]) hx hb d_D_driftOf_62 rfl hl24 (by decide) rfl (fun ls hl27 => ?_)
          exact k63 v23 v26 H locs ls hG (lv_sub hl27 [4, 5, 1, 0, 6, 7, 3] rfl) h
  exact k10 n0_10 0 0 0 0 H locs ls hG (lv_sub hl4 [4, 5, 3, 2, 1, 0] rfl) h0_10
def w_D_digestFrom (post : Int64 → Prop) (S : St) (a0 : Nat) (a1 : Int64) : Prop :=
  ∀ v1 : Int64, v1 = (a1 * 31) + ((sI S 5 a0).toInt64) → ∃ J15 : Nat → Int64 → Int32 → Prop, (∃ n : Nat, J15 n v1 0) ∧ ∀ (n15 : Nat) (v3_15 : Int64) (v5_15 : Int32), J15 n15 v3_15 v5_15 → ((sI S 5 a0) ≤ v5_15 → post v3_15) ∧ (¬ (sI S 5 a0) ≤ v5_15 → w_D_figureAt (fun (r5 : Int32) => ∀ v6 : Int64, v6 = (v3_15 * 31) + (r5.toInt64) → ∀ v8 : Int32, v8 = v5_15 + 1 → ∃ nx : Nat, nx < n15 ∧ J15 nx v6 v8) S a0 v5_15)
set_option maxHeartbeats 4000000 in
set_option maxRecDepth 100000 in
theorem m_D_digestFrom (l : Launch) (x : Cx) (S : St) (post : Int64 → Prop) (a0 : Nat) (a1 : Int64) (fa0 : isA S 1 a0) (h : w_D_digestFrom post S a0 a1) : Met l y_D_digestFrom [.code y_D_digestFrom c_D_digestFrom 6 (some .long)] { frames := 1, cells := 0, slots := 0, locals := 21 } (va_Pc [.ref a0, .long a1] (GW x S)) (va_Ql (gPu post S) (gB x S) (xA x)) 0 0 (xA x) := by
  refine gMet (by decide +kernel) (Nat.le_of_ble_eq_true rfl) ?_
  intro p e s m args below meth c hx hb hr hown hlocks hin hw hK H locs hG ls hlA hml
  have hown : s.vm.findClass "WaltzHall$Dance" = some m.cls := hown
  have hl0 : lv_has ls 6 [(0, .ref a0), (1, .long a1)] := hlA
  unfold w_D_digestFrom at h
  refine lv_lload_n hx hb d_D_digestFrom_0 rfl (lv_at hl0 1 rfl) ?_
  refine lv_ldc2 hx hb hown (hw _ tw_335) d_D_digestFrom_1 ?_
  refine lv_lmul hx hb d_D_digestFrom_4 ?_
  refine lv_aload_n hx hb d_D_digestFrom_5 rfl (lv_at hl0 0 rfl) ?_
  refine gget hx hb hw hown hK hG kd_D fa0 rfl 2 (by decide) rfl tw_165 (fun _ h9 => h9) d_D_digestFrom_6 ?_
  refine lv_i2l hx hb d_D_digestFrom_9 rfl ?_
  refine lv_ladd hx hb d_D_digestFrom_10 ?_
  refine lv_topl (fun v1 ev1 => ?_)
  replace h := h v1 ev1
  refine lv_lstore_n (i := 3) (lv' := [(3, .long v1), (0, .ref a0), (1, .long a1)]) hx hb d_D_digestFrom_11 rfl hl0 (by decide) rfl (fun ls hl2 => ?_)
  refine lv_iconst (v := 0) hx hb d_D_digestFrom_12 (by decide) ?_
  refine lv_istore (lv' := [(5, .int 0), (3, .long v1), (0, .ref a0), (1, .long a1)]) hx hb d_D_digestFrom_13 hl2 (by decide) rfl (fun ls hl3 => ?_)
  have leS : gle S S := gle.rf
  obtain ⟨J15, ⟨n0_15, h0_15⟩, hJ15⟩ := h
  have k15 : ∀ (n15 : Nat) (v3_15 : Int64) (v5_15 : Int32) (H : Heap) (locs : List Loc) (ls : Array Slot), GH x S s H locs → lv_has ls 6 [(0, .ref a0), (3, .long v3_15), (5, .int v5_15)] → J15 n15 v3_15 v5_15 → W p l e { frames := 1, cells := 0, slots := 0, locals := 21 } s m args below meth c H locs 0 0 (MQ below (va_Ql (gPu post S) (gB x S) (xA x)) args s 0 0 (xA x)) (F0 m 15 ls []) := by
    intro n15
    induction n15 using Nat.strongRecOn with
    | _ n15 ih15 =>
      intro v3_15 v5_15 H locs ls hG hl4 hj
      replace h := hJ15 n15 v3_15 v5_15 hj
      refine lv_iload hx hb d_D_digestFrom_15 (lv_at hl4 2 rfl) ?_
      refine lv_aload_n hx hb d_D_digestFrom_17 rfl (lv_at hl4 0 rfl) ?_
      refine gget hx hb hw hown hK hG kd_D fa0 rfl 2 (by decide) rfl tw_165 (fun _ h9 => h9) d_D_digestFrom_18 ?_
      refine lv_icmp_ge (tgt := 44) hx hb d_D_digestFrom_21 (by decide) (fun hc10 => ?_) (fun hc10 => ?_)
      · replace h := h.1 hc10
        refine lv_lload_n hx hb d_D_digestFrom_44 rfl (lv_at hl4 1 rfl) ?_
        exact glret hx hb hr hlocks hK hG leS ⟨h, rfl⟩ (Nat.le_of_ble_eq_true rfl) (Nat.le_of_ble_eq_true rfl) d_D_digestFrom_45
      · replace h := h.2 hc10
        refine lv_lload_n hx hb d_D_digestFrom_24 rfl (lv_at hl4 1 rfl) ?_
        refine lv_ldc2 hx hb hown (hw _ tw_335) d_D_digestFrom_25 ?_
        refine lv_lmul hx hb d_D_digestFrom_28 ?_
        refine lv_aload_n hx hb d_D_digestFrom_29 rfl (lv_at hl4 0 rfl) ?_
        refine lv_iload hx hb d_D_digestFrom_30 (lv_at hl4 2 rfl) ?_
        -- call D_figureAt
        refine gpi hK hG (va_runV (As := [.int v5_15]) (rest := [.long (v3_15 * 31)]) ⟨hx, hb, hml, hown, hw⟩ (m_D_figureAt l x S _ a0 v5_15 fa0 h) ⟨gcb hw tw_339 tw_33 tw_336 hd_D_figureAt rfl rfl ⟨(Nat.le_of_ble_eq_true rfl), (Nat.le_of_ble_eq_true rfl)⟩, hw _ tw_337, hw _ tw_338⟩ (gpV hK hG kd_D fa0 rfl) rfl rfl hl4.1 rfl (lv_room (Nat.le_of_ble_eq_true rfl)) d_D_digestFrom_32 ⟨(Nat.le_of_ble_eq_true rfl), (Nat.le_of_ble_eq_true rfl)⟩) (fun r5 H locs h9 hG => ?_)
        replace h := h9
        clear h9
        refine lv_i2l hx hb d_D_digestFrom_35 rfl ?_
        refine lv_ladd hx hb d_D_digestFrom_36 ?_
        refine lv_topl (fun v6 ev6 => ?_)
        replace h := h v6 ev6
        refine lv_lstore_n (i := 3) (lv' := [(3, .long v6), (0, .ref a0), (5, .int v5_15)]) hx hb d_D_digestFrom_37 rfl hl4 (by decide) rfl (fun ls hl7 => ?_)
        obtain ⟨v8, ev8⟩ : ∃ z : Int32, z = v5_15 + 1 := ⟨_, rfl⟩
        replace h := h v8 ev8
        refine lv_iinc (v := v8) (lv' := [(5, .int v8), (3, .long v6), (0, .ref a0)]) hx hb d_D_digestFrom_38 hl7 (k := 2) rfl (by rw [ev8]; rfl) (by decide) rfl (fun ls hl9 => ?_)
        refine lv_goto (tgt := 15) hx hb d_D_digestFrom_41 (by decide) ?_
        obtain ⟨nx, hnx, h⟩ := h
        exact ih15 nx hnx v6 v8 H locs ls hG (lv_sub hl9 [2, 1, 0] rfl) h
  exact k15 n0_15 v1 0 H locs ls hG (lv_sub hl3 [2, 1, 0] rfl) h0_15
def w_T_isDance (post : Int32 → Prop) (S : St) (a0 : Nat) : Prop :=
  ((sI S 25 a0) < 1 → post 0) ∧ (¬ (sI S 25 a0) < 1 → ((sI S 25 a0) ≤ 24 → ∃ J21 : Nat → Int32 → Prop, (∃ n : Nat, J21 n 0) ∧ ∀ (n21 : Nat) (v1_21 : Int32), J21 n21 v1_21 → ((sI S 25 a0) ≤ v1_21 → post 1) ∧ (¬ (sI S 25 a0) ≤ v1_21 → ∀ o3 : Option Nat, o3 = sQ S 24 a0 → ∃ y4 : Nat, o3 = some y4 ∧ isA S 9 y4 ∧ ((nI (sN S y4)) ≤ v1_21 → post 1) ∧ (¬ (nI (sN S y4)) ≤ v1_21 → ∀ o6 : Option Nat, o6 = sQ S 24 a0 → ∃ y7 : Nat, o6 = some y7 ∧ isA S 9 y7 ∧ vp_in v1_21 (sN S y7) ∧ w_H_isFigure (fun (r10 : Int32) => (r10 = 0 → post 0) ∧ (¬ r10 = 0 → ∀ v11 : Int32, v11 = v1_21 + 1 → ∃ nx : Nat, nx < n21 ∧ J21 nx v11)) S (sR S y7 v1_21.toNatClampNeg)))) ∧ (¬ (sI S 25 a0) ≤ 24 → post 0))
set_option maxHeartbeats 4000000 in
set_option maxRecDepth 100000 in
theorem m_T_isDance (l : Launch) (x : Cx) (S : St) (post : Int32 → Prop) (a0 : Nat) (fa0 : isA S 4 a0) (h : w_T_isDance post S a0) : Met l y_T_isDance [.code y_T_isDance c_T_isDance 2 (some .boolean)] { frames := 2, cells := 0, slots := 0, locals := 40 } (va_Pc [.ref a0] (GW x S)) (va_Qi (gPu post S) (gB x S) (xA x)) 0 0 (xA x) := by
  refine gMet (by decide +kernel) (Nat.le_of_ble_eq_true rfl) ?_
  intro p e s m args below meth c hx hb hr hown hlocks hin hw hK H locs hG ls hlA hml
  have hown : s.vm.findClass "WaltzHall$Tape" = some m.cls := hown
  have hl0 : lv_has ls 2 [(0, .ref a0)] := hlA
  unfold w_T_isDance at h
  refine lv_aload_n hx hb d_T_isDance_0 rfl (lv_at hl0 0 rfl) ?_
  refine gget hx hb hw hown hK hG kd_T fa0 rfl 1 (by decide) rfl tw_71 (fun _ h9 => h9) d_T_isDance_1 ?_
  refine lv_iconst (v := 1) hx hb d_T_isDance_4 (by decide) ?_
  refine lv_icmp_lt (tgt := 17) hx hb d_T_isDance_5 (by decide) (fun hc17 => ?_) (fun hc17 => ?_)
  · replace h := h.1 hc17
    refine lv_iconst (v := 0) hx hb d_T_isDance_17 (by decide) ?_
    exact gzret hx hb hr rfl hlocks hK hG gle.rf ⟨h, rfl⟩ (Nat.le_of_ble_eq_true rfl) (Nat.le_of_ble_eq_true rfl) d_T_isDance_18
  · replace h := h.2 hc17
    refine lv_aload_n hx hb d_T_isDance_8 rfl (lv_at hl0 0 rfl) ?_
    refine gget hx hb hw hown hK hG kd_T fa0 rfl 1 (by decide) rfl tw_71 (fun _ h9 => h9) d_T_isDance_9 ?_
    refine lv_bipush (v := 24) hx hb d_T_isDance_12 (by decide) ?_
    refine lv_icmp_le (tgt := 19) hx hb d_T_isDance_14 (by decide) (fun hc16 => ?_) (fun hc16 => ?_)
    · replace h := h.1 hc16
      refine lv_iconst (v := 0) hx hb d_T_isDance_19 (by decide) ?_
      refine lv_istore_n (i := 1) (lv' := [(1, .int 0), (0, .ref a0)]) hx hb d_T_isDance_20 rfl hl0 (by decide) rfl (fun ls hl1 => ?_)
      have leS : gle S S := gle.rf
      obtain ⟨J21, ⟨n0_21, h0_21⟩, hJ21⟩ := h
      have k21 : ∀ (n21 : Nat) (v1_21 : Int32) (H : Heap) (locs : List Loc) (ls : Array Slot), GH x S s H locs → lv_has ls 2 [(0, .ref a0), (1, .int v1_21)] → J21 n21 v1_21 → W p l e { frames := 2, cells := 0, slots := 0, locals := 40 } s m args below meth c H locs 0 0 (MQ below (va_Qi (gPu post S) (gB x S) (xA x)) args s 0 0 (xA x)) (F0 m 21 ls []) := by
        intro n21
        induction n21 using Nat.strongRecOn with
        | _ n21 ih21 =>
          intro v1_21 H locs ls hG hl2 hj
          replace h := hJ21 n21 v1_21 hj
          refine lv_iload_n hx hb d_T_isDance_21 rfl (lv_at hl2 1 rfl) ?_
          refine lv_aload_n hx hb d_T_isDance_22 rfl (lv_at hl2 0 rfl) ?_
          refine gget hx hb hw hown hK hG kd_T fa0 rfl 1 (by decide) rfl tw_71 (fun _ h9 => h9) d_T_isDance_23 ?_
          refine lv_icmp_ge (tgt := 58) hx hb d_T_isDance_26 (by decide) (fun hc15 => ?_) (fun hc15 => ?_)
          · replace h := h.1 hc15
            refine lv_iconst (v := 1) hx hb d_T_isDance_58 (by decide) ?_
            exact gzret hx hb hr rfl hlocks hK hG leS ⟨h, rfl⟩ (Nat.le_of_ble_eq_true rfl) (Nat.le_of_ble_eq_true rfl) d_T_isDance_59
          · replace h := h.2 hc15
            refine lv_iload_n hx hb d_T_isDance_29 rfl (lv_at hl2 1 rfl) ?_
            refine lv_aload_n hx hb d_T_isDance_30 rfl (lv_at hl2 0 rfl) ?_
            refine gget hx hb hw hown hK hG kd_T fa0 rfl 0 (by decide) rfl tw_69 (fun _ h9 => h9) d_T_isDance_31 ?_
            refine gtopq (fun o3 eo3 => ?_)
            replace h := h o3 eo3
            obtain ⟨y4, ey4, h⟩ := h
            subst ey4
            obtain ⟨f5, h⟩ := h
            refine galen hx hb hK hG f5 rfl 0 rfl rfl d_T_isDance_34 ?_
            refine lv_icmp_ge (tgt := 58) hx hb d_T_isDance_35 (by decide) (fun hc14 => ?_) (fun hc14 => ?_)
            · replace h := h.1 hc14
              refine lv_iconst (v := 1) hx hb d_T_isDance_58 (by decide) ?_
              exact gzret hx hb hr rfl hlocks hK hG leS ⟨h, rfl⟩ (Nat.le_of_ble_eq_true rfl) (Nat.le_of_ble_eq_true rfl) d_T_isDance_59
            · replace h := h.2 hc14
              refine lv_aload_n hx hb d_T_isDance_38 rfl (lv_at hl2 0 rfl) ?_
              refine gget hx hb hw hown hK hG kd_T fa0 rfl 0 (by decide) rfl tw_69 (fun _ h9 => h9) d_T_isDance_39 ?_
              refine gtopq (fun o6 eo6 => ?_)
              replace h := h o6 eo6
              refine lv_iload_n hx hb d_T_isDance_42 rfl (lv_at hl2 1 rfl) ?_
              obtain ⟨y7, ey7, h⟩ := h
              subst ey7
              obtain ⟨f8, h⟩ := h
              obtain ⟨hi9, h⟩ := h
              refine gbald hx hb hK hG f8 hi9 d_T_isDance_43 ?_
              -- call H_isFigure
              refine gpi hK hG (va_runSN (As := [.int (sR S y7 v1_21.toNatClampNeg)]) (rest := []) ⟨hx, hb, hml, hown, hw⟩ (m_H_isFigure l x S _ (sR S y7 v1_21.toNatClampNeg)  h) ⟨gcn hw tw_496 tw_28 tw_494 hd_H_isFigure rfl rfl ⟨(Nat.le_of_ble_eq_true rfl), (Nat.le_of_ble_eq_true rfl)⟩, hw _ tw_495, trivial⟩ (gpS hK hG) rfl rfl hl2.1 rfl (lv_room (Nat.le_of_ble_eq_true rfl)) d_T_isDance_44 ⟨(Nat.le_of_ble_eq_true rfl), (Nat.le_of_ble_eq_true rfl)⟩) (fun r10 H locs h9 hG => ?_)
              replace h := h9
              clear h9
              refine lv_if_ne (tgt := 52) hx hb d_T_isDance_47 (by decide) (fun hc13 => ?_) (fun hc13 => ?_)
              · replace h := h.2 hc13
                obtain ⟨v11, ev11⟩ : ∃ z : Int32, z = v1_21 + 1 := ⟨_, rfl⟩
                replace h := h v11 ev11
                refine lv_iinc (v := v11) (lv' := [(1, .int v11), (0, .ref a0)]) hx hb d_T_isDance_52 hl2 (k := 1) rfl (by rw [ev11]; rfl) (by decide) rfl (fun ls hl12 => ?_)
                refine lv_goto (tgt := 21) hx hb d_T_isDance_55 (by decide) ?_
                obtain ⟨nx, hnx, h⟩ := h
                exact ih21 nx hnx v11 H locs ls hG (lv_sub hl12 [1, 0] rfl) h
              · replace h := h.1 hc13
                refine lv_iconst (v := 0) hx hb d_T_isDance_50 (by decide) ?_
                exact gzret hx hb hr rfl hlocks hK hG leS ⟨h, rfl⟩ (Nat.le_of_ble_eq_true rfl) (Nat.le_of_ble_eq_true rfl) d_T_isDance_51
      exact k21 n0_21 0 H locs ls hG (lv_sub hl1 [1, 0] rfl) h0_21
    · replace h := h.2 hc16
      refine lv_iconst (v := 0) hx hb d_T_isDance_17 (by decide) ?_
      exact gzret hx hb hr rfl hlocks hK hG gle.rf ⟨h, rfl⟩ (Nat.le_of_ble_eq_true rfl) (Nat.le_of_ble_eq_true rfl) d_T_isDance_18
def w_D_takeFrom (post : Int32 → St → Prop) (S : St) (a0 : Nat) (a1 : Option Nat) : Prop :=
  ∃ y1 : Nat, a1 = some y1 ∧ isA S 4 y1 ∧ w_T_isDance (fun (r3 : Int32) => (r3 = 0 → post 0 S) ∧ (¬ r3 = 0 → ∀ o4 : Option Nat, o4 = sQ S 4 a0 → ∃ y5 : Nat, o4 = some y5 ∧ isA S 9 y5 ∧ ∀ v7 : Int32, v7 = (if (nI (sN S y5)) < (sI S 25 y1) then (nI (sN S y5)) else (sI S 25 y1)) → ∀ S8 : St, S8 = pI S 5 a0 v7 → ∃ J27 : Nat → St → Int32 → Prop, (∃ n : Nat, J27 n S8 0) ∧ ∀ (n27 : Nat) (S_27 : St) (v2_27 : Int32), J27 n27 S_27 v2_27 → ((sI S_27 5 a0) ≤ v2_27 → post 1 S_27) ∧ (¬ (sI S_27 5 a0) ≤ v2_27 → ∀ o11 : Option Nat, o11 = sQ S_27 4 a0 → ∃ y12 : Nat, o11 = some y12 ∧ isA S_27 9 y12 ∧ ((nI (sN S_27 y12)) ≤ v2_27 → post 1 S_27) ∧ (¬ (nI (sN S_27 y12)) ≤ v2_27 → ∀ o14 : Option Nat, o14 = sQ S_27 24 y1 → ∃ y15 : Nat, o14 = some y15 ∧ isA S_27 9 y15 ∧ ((nI (sN S_27 y15)) ≤ v2_27 → post 1 S_27) ∧ (¬ (nI (sN S_27 y15)) ≤ v2_27 → ∀ o17 : Option Nat, o17 = sQ S_27 4 a0 → ∀ o18 : Option Nat, o18 = sQ S_27 24 y1 → ∃ y19 : Nat, o18 = some y19 ∧ isA S_27 9 y19 ∧ vp_in v2_27 (sN S_27 y19) ∧ ∃ y22 : Nat, o17 = some y22 ∧ isA S_27 9 y22 ∧ vp_in v2_27 (sN S_27 y22) ∧ ∀ S25 : St, S25 = pR S_27 y22 (v2_27.toNatClampNeg) (vp_nar .byte (sR S_27 y19 v2_27.toNatClampNeg)) → ∀ v26 : Int32, v26 = v2_27 + 1 → ∃ nx : Nat, nx < n27 ∧ J27 nx S25 v26))))) S y1
set_option maxHeartbeats 4000000 in
set_option maxRecDepth 100000 in
theorem m_D_takeFrom (l : Launch) (x : Cx) (S : St) (post : Int32 → St → Prop) (a0 : Nat) (a1 : Option Nat) (fa0 : isA S 1 a0) (h : w_D_takeFrom post S a0 a1) : Met l y_D_takeFrom [.code y_D_takeFrom c_D_takeFrom 3 (some .boolean)] { frames := 3, cells := 0, slots := 0, locals := 61 } (va_Pc [.ref a0, va_rf a1] (GW x S)) (va_Qi post (gB x S) (xA x)) 0 0 (xA x) := by
  refine gMet (by decide +kernel) (by simp [lg_sl, gCat, gci1, gcr1, gcl1, gcd1]) ?_
  intro p e s m args below meth c hx hb hr hown hlocks hin hw hK H locs hG ls hlA hml
  have hown : s.vm.findClass "WaltzHall$Dance" = some m.cls := hown
  have hl0 : lv_has ls 3 [(0, .ref a0), (1, va_rf a1)] := hlA
  have leS : gle S S := gle.rf
  unfold w_D_takeFrom at h
  refine gaload_n hx hb d_D_takeFrom_0 rfl (lv_at hl0 1 rfl) ?_
  obtain ⟨y1, ey1, h⟩ := h
  subst ey1
  obtain ⟨f2, h⟩ := h
  -- call T_isDance
  refine gpi hK hG (va_runV (As := []) (rest := []) ⟨hx, hb, hml, hown, hw⟩ (m_T_isDance l x S _ y1 f2 h) ⟨gcb hw tw_493 tw_29 tw_490 hd_T_isDance rfl rfl ⟨(Nat.le_of_ble_eq_true rfl), (Nat.le_of_ble_eq_true rfl)⟩, hw _ tw_491, hw _ tw_492⟩ (gpV hK hG kd_T f2 rfl) rfl rfl hl0.1 rfl (lv_room (Nat.le_of_ble_eq_true rfl)) d_D_takeFrom_1 ⟨(Nat.le_of_ble_eq_true rfl), (Nat.le_of_ble_eq_true rfl)⟩) (fun r3 H locs h9 hG => ?_)
  replace h := h9
  clear h9
  refine lv_if_ne (tgt := 9) hx hb d_D_takeFrom_4 (by decide) (fun hc31 => ?_) (fun hc31 => ?_)
  · replace h := h.2 hc31
    refine lv_aload_n hx hb d_D_takeFrom_9 rfl (lv_at hl0 0 rfl) ?_
    refine lv_aload_n hx hb d_D_takeFrom_10 rfl (lv_at hl0 1 rfl) ?_
    refine gget hx hb hw hown hK hG kd_T f2 rfl 1 (by decide) rfl tw_72 (fun _ h9 => h9) d_D_takeFrom_11 ?_
    refine lv_aload_n hx hb d_D_takeFrom_14 rfl (lv_at hl0 0 rfl) ?_
    refine gget hx hb hw hown hK hG kd_D fa0 rfl 1 (by decide) rfl tw_164 (fun _ h9 => h9) d_D_takeFrom_15 ?_
    refine gtopq (fun o4 eo4 => ?_)
    replace h := h o4 eo4
    obtain ⟨y5, ey5, h⟩ := h
    subst ey5
    obtain ⟨f6, h⟩ := h
    refine galen hx hb hK hG f6 rfl 0 rfl rfl d_D_takeFrom_18 ?_
    refine va_mmin hx hb (hml.trans hl0.1.symm) hown (hw _ tw_503) (hw _ tw_247) (hw _ tw_40) (hw _ tw_248) (Nat.le_of_ble_eq_true rfl) (Nat.le_of_ble_eq_true rfl) (Nat.le_of_ble_eq_true rfl) (Nat.le_of_ble_eq_true rfl) d_D_takeFrom_19 ?_
    refine lv_topi (fun v7 ev7 => ?_)
    replace h := h v7 ev7
    refine gput (S' := pI S 5 a0 v7) hx hb hw hown hK hG kd_D fa0 rfl 2 (by decide) (gChI fa0 rfl) tw_165 (fun _ h9 => h9) rfl rfl rfl rfl (Nat.le_of_ble_eq_true rfl) d_D_takeFrom_22 (fun S8 H locs eS8 hle1 hG => ?_)
    replace h := h S8 eS8
    have fa0 := gle_isA hle1 fa0
    have f2 := gle_isA hle1 f2
    have f6 := gle_isA hle1 f6
    have leS := leS.tr hle1
    refine lv_iconst (v := 0) hx hb d_D_takeFrom_25 (by decide) ?_
    refine lv_istore_n (i := 2) (lv' := [(2, .int 0), (0, .ref a0), (1, .ref y1)]) hx hb d_D_takeFrom_26 rfl hl0 (by decide) rfl (fun ls hl9 => ?_)
    have leS8 : gle S8 S8 := gle.rf
    obtain ⟨J27, ⟨n0_27, h0_27⟩, hJ27⟩ := h
    have k27 : ∀ (n27 : Nat) (S_27 : St) (v2_27 : Int32) (H : Heap) (locs : List Loc) (ls : Array Slot), gle S8 S_27 → GH x S_27 s H locs → lv_has ls 3 [(0, .ref a0), (1, .ref y1), (2, .int v2_27)] → J27 n27 S_27 v2_27 → W p l e { frames := 3, cells := 0, slots := 0, locals := 61 } s m args below meth c H locs 0 0 (MQ below (va_Qi post (gB x S) (xA x)) args s 0 0 (xA x)) (F0 m 27 ls []) := by
      intro n27
      induction n27 using Nat.strongRecOn with
      | _ n27 ih27 =>
        intro S_27 v2_27 H locs ls hle1 hG hl10 hj
        replace h := hJ27 n27 S_27 v2_27 hj
        have fa0 := gle_isA hle1 fa0
        have f2 := gle_isA hle1 f2
        have f6 := gle_isA hle1 f6
        have leS := leS.tr hle1
        have leS8 := leS8.tr hle1
        refine lv_iload_n hx hb d_D_takeFrom_27 rfl (lv_at hl10 2 rfl) ?_
        refine lv_aload_n hx hb d_D_takeFrom_28 rfl (lv_at hl10 0 rfl) ?_
        refine gget hx hb hw hown hK hG kd_D fa0 rfl 2 (by decide) rfl tw_165 (fun _ h9 => h9) d_D_takeFrom_29 ?_
        refine lv_icmp_ge (tgt := 71) hx hb d_D_takeFrom_32 (by decide) (fun hc30 => ?_) (fun hc30 => ?_)
        · replace h := h.1 hc30
          refine lv_iconst (v := 1) hx hb d_D_takeFrom_71 (by decide) ?_
          exact gzret hx hb hr rfl hlocks hK hG leS h (Nat.le_of_ble_eq_true rfl) (Nat.le_of_ble_eq_true rfl) d_D_takeFrom_72
        · replace h := h.2 hc30
          refine lv_iload_n hx hb d_D_takeFrom_35 rfl (lv_at hl10 2 rfl) ?_
          refine lv_aload_n hx hb d_D_takeFrom_36 rfl (lv_at hl10 0 rfl) ?_
          refine gget hx hb hw hown hK hG kd_D fa0 rfl 1 (by decide) rfl tw_164 (fun _ h9 => h9) d_D_takeFrom_37 ?_
          refine gtopq (fun o11 eo11 => ?_)
          replace h := h o11 eo11
          obtain ⟨y12, ey12, h⟩ := h
          subst ey12
          obtain ⟨f13, h⟩ := h
          refine galen hx hb hK hG f13 rfl 0 rfl rfl d_D_takeFrom_40 ?_
          refine lv_icmp_ge (tgt := 71) hx hb d_D_takeFrom_41 (by decide) (fun hc29 => ?_) (fun hc29 => ?_)
          · replace h := h.1 hc29
            refine lv_iconst (v := 1) hx hb d_D_takeFrom_71 (by decide) ?_
            exact gzret hx hb hr rfl hlocks hK hG leS h (Nat.le_of_ble_eq_true rfl) (Nat.le_of_ble_eq_true rfl) d_D_takeFrom_72
          · replace h := h.2 hc29
            refine lv_iload_n hx hb d_D_takeFrom_44 rfl (lv_at hl10 2 rfl) ?_
            refine lv_aload_n hx hb d_D_takeFrom_45 rfl (lv_at hl10 1 rfl) ?_
            refine gget hx hb hw hown hK hG kd_T f2 rfl 0 (by decide) rfl tw_70 (fun _ h9 => h9) d_D_takeFrom_46 ?_
            refine gtopq (fun o14 eo14 => ?_)
            replace h := h o14 eo14
            obtain ⟨y15, ey15, h⟩ := h
            subst ey15
            obtain ⟨f16, h⟩ := h
            refine galen hx hb hK hG f16 rfl 0 rfl rfl d_D_takeFrom_49 ?_
            refine lv_icmp_ge (tgt := 71) hx hb d_D_takeFrom_50 (by decide) (fun hc28 => ?_) (fun hc28 => ?_)
            · replace h := h.1 hc28
              refine lv_iconst (v := 1) hx hb d_D_takeFrom_71 (by decide) ?_
              exact gzret hx hb hr rfl hlocks hK hG leS h (Nat.le_of_ble_eq_true rfl) (Nat.le_of_ble_eq_true rfl) d_D_takeFrom_72
            · replace h := h.2 hc28
              refine lv_aload_n hx hb d_D_takeFrom_53 rfl (lv_at hl10 0 rfl) ?_
              refine gget hx hb hw hown hK hG kd_D fa0 rfl 1 (by decide) rfl tw_164 (fun _ h9 => h9) d_D_takeFrom_54 ?_
              refine gtopq (fun o17 eo17 => ?_)
              replace h := h o17 eo17
              refine lv_iload_n hx hb d_D_takeFrom_57 rfl (lv_at hl10 2 rfl) ?_
              refine lv_aload_n hx hb d_D_takeFrom_58 rfl (lv_at hl10 1 rfl) ?_
              refine gget hx hb hw hown hK hG kd_T f2 rfl 0 (by decide) rfl tw_70 (fun _ h9 => h9) d_D_takeFrom_59 ?_
              refine gtopq (fun o18 eo18 => ?_)
              replace h := h o18 eo18
              refine lv_iload_n hx hb d_D_takeFrom_62 rfl (lv_at hl10 2 rfl) ?_
              obtain ⟨y19, ey19, h⟩ := h
              subst ey19
              obtain ⟨f20, h⟩ := h
              obtain ⟨hi21, h⟩ := h
              refine gbald hx hb hK hG f20 hi21 d_D_takeFrom_63 ?_
              obtain ⟨y22, ey22, h⟩ := h
              subst ey22
              obtain ⟨f23, h⟩ := h
              obtain ⟨hi24, h⟩ := h
              refine gbast hx hb hK hG f23 hi24 d_D_takeFrom_64 (fun S25 H locs eS25 hle1 hG => ?_)
              replace h := h S25 eS25
              have fa0 := gle_isA hle1 fa0
              have f2 := gle_isA hle1 f2
              have f6 := gle_isA hle1 f6
              have f13 := gle_isA hle1 f13
              have f16 := gle_isA hle1 f16
              have f20 := gle_isA hle1 f20
              have f23 := gle_isA hle1 f23
              have leS := leS.tr hle1
              have leS8 := leS8.tr hle1
              obtain ⟨v26, ev26⟩ : ∃ z : Int32, z = v2_27 + 1 := ⟨_, rfl⟩
              replace h := h v26 ev26
              refine lv_iinc (v := v26) (lv' := [(2, .int v26), (0, .ref a0), (1, .ref y1)]) hx hb d_D_takeFrom_65 hl10 (k := 2) rfl (by rw [ev26]; rfl) (by decide) rfl (fun ls hl27 => ?_)
              refine lv_goto (tgt := 27) hx hb d_D_takeFrom_68 (by decide) ?_
              obtain ⟨nx, hnx, h⟩ := h
              exact ih27 nx hnx S25 v26 H locs ls leS8 hG (lv_sub hl27 [1, 2, 0] rfl) h
    exact k27 n0_27 S8 0 H locs ls gle.rf hG (lv_sub hl9 [1, 2, 0] rfl) h0_27
  · replace h := h.1 hc31
    refine lv_iconst (v := 0) hx hb d_D_takeFrom_7 (by decide) ?_
    exact gzret hx hb hr rfl hlocks hK hG leS h (Nat.le_of_ble_eq_true rfl) (Nat.le_of_ble_eq_true rfl) d_D_takeFrom_8
def w_T_init (post : St → Prop) (S : St) (a0 : Nat) : Prop :=
  ∀ (q1 : Nat) (S2 : St), q1 ∉ sL S → S2 = pNew S q1 9 40 → ∀ S4 : St, S4 = pQ S2 24 a0 (some q1) → post S4
set_option maxHeartbeats 4000000 in
set_option maxRecDepth 100000 in
theorem m_T_init (l : Launch) (x : Cx) (S : St) (post : St → Prop) (a0 : Nat) (fa0 : isA S 4 a0) (h : w_T_init post S a0) : Met l y_T_init [.code y_T_init c_T_init 1 none] { frames := 1, cells := 1, slots := 40, locals := 20 } (va_Pc [.ref a0] (GW x S)) (va_Qv post (gB x S) (xA x)) 1 40 (xA x) := by
  refine gMet (by decide +kernel) (Nat.le_of_ble_eq_true rfl) ?_
  intro p e s m args below meth c hx hb hr hown hlocks hin hw hK H locs hG ls hlA hml
  have hown : s.vm.findClass "WaltzHall$Tape" = some m.cls := hown
  have hl0 : lv_has ls 1 [(0, .ref a0)] := hlA
  have leS : gle S S := gle.rf
  unfold w_T_init at h
  refine lv_aload_n hx hb d_T_init_0 rfl (lv_at hl0 0 rfl) ?_
  refine gobj (bytes := c_T_init) hx hb hw hown tw_68 tw_61 tw_62 (hl0.1.trans hml.symm) d_T_init_1 (Nat.le_of_ble_eq_true rfl) (Nat.le_of_ble_eq_true rfl) ?_
  refine lv_aload_n hx hb d_T_init_4 rfl (lv_at hl0 0 rfl) ?_
  refine lv_bipush (v := 40) hx hb d_T_init_5 (by decide) ?_
  refine gnewa (atype := .byte) (N' := 40) (k := 9) (by decide) 0 hx hb hw hK hG tw_79 rfl (fun _ _ => rfl) rfl rfl (fun _ => rfl) (by decide) (Nat.le_of_ble_eq_true rfl) (Nat.le_of_ble_eq_true rfl) (Nat.le_of_ble_eq_true rfl) d_T_init_7 (fun q1 S2 H hqq1 eS2 hle1 hG => ?_)
  replace h := h q1 S2 hqq1 eS2
  have fa0 := gle_isA hle1 fa0
  have leS := leS.tr hle1
  have f3 : isA S2 9 q1 := by rw [eS2]; exact isA_new
  refine gputF (S' := pQ S2 24 a0 (some q1)) hx hb hw hown hK hG kd_T fa0 rfl 0 (by decide) (gChQ fa0 rfl) tw_69 (fun _ h9 => h9) rfl hin rfl rfl rfl rfl (Nat.le_of_ble_eq_true rfl) d_T_init_9 (fun S4 H locs eS4 hle1 hG => ?_)
  replace h := h S4 eS4
  have fa0 := gle_isA hle1 fa0
  have f3 := gle_isA hle1 f3
  have leS := leS.tr hle1
  exact gvret hx hb hr hlocks hK hG leS h (Nat.le_of_ble_eq_true rfl) (Nat.le_of_ble_eq_true rfl) d_T_init_12
def w_T_bytesLeft (post : Int32 → Prop) (S : St) (a0 : Nat) : Prop :=
  ∀ o1 : Option Nat, o1 = sQ S 24 a0 → ∃ y2 : Nat, o1 = some y2 ∧ isA S 9 y2 ∧ post ((nI (sN S y2)) - (sI S 25 a0))
set_option maxHeartbeats 4000000 in
set_option maxRecDepth 100000 in
theorem m_T_bytesLeft (l : Launch) (x : Cx) (S : St) (post : Int32 → Prop) (a0 : Nat) (fa0 : isA S 4 a0) (h : w_T_bytesLeft post S a0) : Met l y_T_bytesLeft [.code y_T_bytesLeft c_T_bytesLeft 1 (some .int)] { frames := 0, cells := 0, slots := 0, locals := 0 } (va_Pc [.ref a0] (GW x S)) (va_Qi (gPu post S) (gB x S) (xA x)) 0 0 (xA x) := by
  refine gMet (by decide +kernel) (Nat.le_of_ble_eq_true rfl) ?_
  intro p e s m args below meth c hx hb hr hown hlocks hin hw hK H locs hG ls hlA hml
  have hown : s.vm.findClass "WaltzHall$Tape" = some m.cls := hown
  have hl0 : lv_has ls 1 [(0, .ref a0)] := hlA
  unfold w_T_bytesLeft at h
  refine lv_aload_n hx hb d_T_bytesLeft_0 rfl (lv_at hl0 0 rfl) ?_
  refine gget hx hb hw hown hK hG kd_T fa0 rfl 0 (by decide) rfl tw_69 (fun _ h9 => h9) d_T_bytesLeft_1 ?_
  refine gtopq (fun o1 eo1 => ?_)
  replace h := h o1 eo1
  obtain ⟨y2, ey2, h⟩ := h
  subst ey2
  obtain ⟨f3, h⟩ := h
  refine galen hx hb hK hG f3 rfl 0 rfl rfl d_T_bytesLeft_4 ?_
  refine lv_aload_n hx hb d_T_bytesLeft_5 rfl (lv_at hl0 0 rfl) ?_
  refine gget hx hb hw hown hK hG kd_T fa0 rfl 1 (by decide) rfl tw_71 (fun _ h9 => h9) d_T_bytesLeft_6 ?_
  refine lv_isub hx hb d_T_bytesLeft_9 ?_
  exact giret hx hb hr hlocks hK hG gle.rf ⟨h, rfl⟩ (Nat.le_of_ble_eq_true rfl) (Nat.le_of_ble_eq_true rfl) d_T_bytesLeft_10
def w_T_append (post : St → Prop) (S : St) (a0 : Nat) (a1 : Int32) : Prop :=
  ∃ J3 : Nat → St → Int32 → Prop, (∃ n : Nat, J3 n S 24) ∧ ∀ (n3 : Nat) (S_3 : St) (v2_3 : Int32), J3 n3 S_3 v2_3 → (v2_3 < 0 → post S_3) ∧ (¬ v2_3 < 0 → ∃ J49 : St → Prop, (∀ (S_49 : St), J49 S_49 → ∀ v4 : Int32, v4 = v2_3 + (-8) → ∃ nx : Nat, nx < n3 ∧ J3 nx S_49 v4) ∧ ((sI S_3 25 a0) < 0 → J49 S_3) ∧ (¬ (sI S_3 25 a0) < 0 → ∀ o6 : Option Nat, o6 = sQ S_3 24 a0 → ∃ y7 : Nat, o6 = some y7 ∧ isA S_3 9 y7 ∧ ((nI (sN S_3 y7)) ≤ (sI S_3 25 a0) → J49 S_3) ∧ (¬ (nI (sN S_3 y7)) ≤ (sI S_3 25 a0) → ∀ o9 : Option Nat, o9 = sQ S_3 24 a0 → ∃ y10 : Nat, o9 = some y10 ∧ isA S_3 9 y10 ∧ vp_in (sI S_3 25 a0) (sN S_3 y10) ∧ ∀ S13 : St, S13 = pR S_3 y10 ((sI S_3 25 a0).toNatClampNeg) (vp_nar .byte (((a1.toUInt32 >>> (v2_3.toUInt32 &&& Int32.toUInt32 31)).toInt32).toInt8.toInt32)) → ∀ S14 : St, S14 = pI S13 25 a0 ((sI S13 25 a0) + 1) → J49 S14)))
set_option maxHeartbeats 4000000 in
set_option maxRecDepth 100000 in
theorem m_T_append (l : Launch) (x : Cx) (S : St) (post : St → Prop) (a0 : Nat) (a1 : Int32) (fa0 : isA S 4 a0) (h : w_T_append post S a0 a1) : Met l y_T_append [.code y_T_append c_T_append 3 none] { frames := 0, cells := 0, slots := 0, locals := 0 } (va_Pc [.ref a0, .int a1] (GW x S)) (va_Qv post (gB x S) (xA x)) 0 0 (xA x) := by
  refine gMet (by decide +kernel) (Nat.le_of_ble_eq_true rfl) ?_
  intro p e s m args below meth c hx hb hr hown hlocks hin hw hK H locs hG ls hlA hml
  have hown : s.vm.findClass "WaltzHall$Tape" = some m.cls := hown
  have hl0 : lv_has ls 3 [(0, .ref a0), (1, .int a1)] := hlA
  have leS : gle S S := gle.rf
  unfold w_T_append at h
  refine lv_bipush (v := 24) hx hb d_T_append_0 (by decide) ?_
  refine lv_istore_n (i := 2) (lv' := [(2, .int 24), (0, .ref a0), (1, .int a1)]) hx hb d_T_append_2 rfl hl0 (by decide) rfl (fun ls hl1 => ?_)
  obtain ⟨J3, ⟨n0_3, h0_3⟩, hJ3⟩ := h
  have k3 : ∀ (n3 : Nat) (S_3 : St) (v2_3 : Int32) (H : Heap) (locs : List Loc) (ls : Array Slot), gle S S_3 → GH x S_3 s H locs → lv_has ls 3 [(0, .ref a0), (1, .int a1), (2, .int v2_3)] → J3 n3 S_3 v2_3 → W p l e { frames := 0, cells := 0, slots := 0, locals := 0 } s m args below meth c H locs 0 0 (MQ below (va_Qv post (gB x S) (xA x)) args s 0 0 (xA x)) (F0 m 3 ls []) := by
    intro n3
    induction n3 using Nat.strongRecOn with
    | _ n3 ih3 =>
      intro S_3 v2_3 H locs ls hle1 hG hl2 hj
      replace h := hJ3 n3 S_3 v2_3 hj
      have fa0 := gle_isA hle1 fa0
      have leS := leS.tr hle1
      refine lv_iload_n hx hb d_T_append_3 rfl (lv_at hl2 2 rfl) ?_
      refine lv_if_lt (tgt := 55) hx hb d_T_append_4 (by decide) (fun hc17 => ?_) (fun hc17 => ?_)
      · replace h := h.1 hc17
        exact gvret hx hb hr hlocks hK hG leS h (Nat.le_of_ble_eq_true rfl) (Nat.le_of_ble_eq_true rfl) d_T_append_55
      · replace h := h.2 hc17
        refine lv_aload_n hx hb d_T_append_7 rfl (lv_at hl2 0 rfl) ?_
        refine gget hx hb hw hown hK hG kd_T fa0 rfl 1 (by decide) rfl tw_71 (fun _ h9 => h9) d_T_append_8 ?_
        have leS_3 : gle S_3 S_3 := gle.rf
        obtain ⟨J49, hJ49, h⟩ := h
        have k49 : ∀ (S_49 : St) (H : Heap) (locs : List Loc) (ls : Array Slot), gle S_3 S_49 → GH x S_49 s H locs → lv_has ls 3 [(0, .ref a0), (1, .int a1), (2, .int v2_3)] → J49 S_49 → W p l e { frames := 0, cells := 0, slots := 0, locals := 0 } s m args below meth c H locs 0 0 (MQ below (va_Qv post (gB x S) (xA x)) args s 0 0 (xA x)) (F0 m 49 ls []) := by
          intro S_49  H locs ls hle1 hG hl3 hj
          replace h := hJ49 S_49 hj
          have fa0 := gle_isA hle1 fa0
          have leS := leS.tr hle1
          have leS_3 := leS_3.tr hle1
          obtain ⟨v4, ev4⟩ : ∃ z : Int32, z = v2_3 + (-8) := ⟨_, rfl⟩
          replace h := h v4 ev4
          refine lv_iinc (v := v4) (lv' := [(2, .int v4), (0, .ref a0), (1, .int a1)]) hx hb d_T_append_49 hl3 (k := 2) rfl (by rw [ev4]; rfl) (by decide) rfl (fun ls hl5 => ?_)
          refine lv_goto (tgt := 3) hx hb d_T_append_52 (by decide) ?_
          obtain ⟨nx, hnx, h⟩ := h
          exact ih3 nx hnx S_49 v4 H locs ls leS hG (lv_sub hl5 [1, 2, 0] rfl) h
        refine lv_if_lt (tgt := 49) hx hb d_T_append_11 (by decide) (fun hc16 => ?_) (fun hc16 => ?_)
        · replace h := h.1 hc16
          exact k49 S_3 H locs ls leS_3 hG (lv_sub hl2 [0, 1, 2] rfl) h
        · replace h := h.2 hc16
          refine lv_aload_n hx hb d_T_append_14 rfl (lv_at hl2 0 rfl) ?_
          refine gget hx hb hw hown hK hG kd_T fa0 rfl 1 (by decide) rfl tw_71 (fun _ h9 => h9) d_T_append_15 ?_
          refine lv_aload_n hx hb d_T_append_18 rfl (lv_at hl2 0 rfl) ?_
          refine gget hx hb hw hown hK hG kd_T fa0 rfl 0 (by decide) rfl tw_69 (fun _ h9 => h9) d_T_append_19 ?_
          refine gtopq (fun o6 eo6 => ?_)
          replace h := h o6 eo6
          obtain ⟨y7, ey7, h⟩ := h
          subst ey7
          obtain ⟨f8, h⟩ := h
          refine galen hx hb hK hG f8 rfl 0 rfl rfl d_T_append_22 ?_
          refine lv_icmp_ge (tgt := 49) hx hb d_T_append_23 (by decide) (fun hc15 => ?_) (fun hc15 => ?_)
          · replace h := h.1 hc15
            exact k49 S_3 H locs ls leS_3 hG (lv_sub hl2 [0, 1, 2] rfl) h
          · replace h := h.2 hc15
            refine lv_aload_n hx hb d_T_append_26 rfl (lv_at hl2 0 rfl) ?_
            refine gget hx hb hw hown hK hG kd_T fa0 rfl 0 (by decide) rfl tw_69 (fun _ h9 => h9) d_T_append_27 ?_
            refine gtopq (fun o9 eo9 => ?_)
            replace h := h o9 eo9
            refine lv_aload_n hx hb d_T_append_30 rfl (lv_at hl2 0 rfl) ?_
            refine gget hx hb hw hown hK hG kd_T fa0 rfl 1 (by decide) rfl tw_71 (fun _ h9 => h9) d_T_append_31 ?_
            refine lv_iload_n hx hb d_T_append_34 rfl (lv_at hl2 1 rfl) ?_
            refine lv_iload_n hx hb d_T_append_35 rfl (lv_at hl2 2 rfl) ?_
            refine lv_iushr hx hb d_T_append_36 rfl ?_
            refine lv_i2b hx hb d_T_append_37 rfl ?_
            obtain ⟨y10, ey10, h⟩ := h
            subst ey10
            obtain ⟨f11, h⟩ := h
            obtain ⟨hi12, h⟩ := h
            refine gbast hx hb hK hG f11 hi12 d_T_append_38 (fun S13 H locs eS13 hle1 hG => ?_)
            replace h := h S13 eS13
            have fa0 := gle_isA hle1 fa0
            have f8 := gle_isA hle1 f8
            have f11 := gle_isA hle1 f11
            have leS := leS.tr hle1
            have leS_3 := leS_3.tr hle1
            refine lv_aload_n hx hb d_T_append_39 rfl (lv_at hl2 0 rfl) ?_
            refine lv_dup hx hb d_T_append_40 rfl ?_
            refine gget hx hb hw hown hK hG kd_T fa0 rfl 1 (by decide) rfl tw_71 (fun _ h9 => h9) d_T_append_41 ?_
            refine lv_iconst (v := 1) hx hb d_T_append_44 (by decide) ?_
            refine lv_iadd hx hb d_T_append_45 ?_
            refine gput (S' := pI S13 25 a0 ((sI S13 25 a0) + 1)) hx hb hw hown hK hG kd_T fa0 rfl 1 (by decide) (gChI fa0 rfl) tw_71 (fun _ h9 => h9) rfl rfl rfl rfl (Nat.le_of_ble_eq_true rfl) d_T_append_46 (fun S14 H locs eS14 hle1 hG => ?_)
            replace h := h S14 eS14
            have fa0 := gle_isA hle1 fa0
            have f8 := gle_isA hle1 f8
            have f11 := gle_isA hle1 f11
            have leS := leS.tr hle1
            have leS_3 := leS_3.tr hle1
            exact k49 S14 H locs ls leS_3 hG (lv_sub hl2 [0, 1, 2] rfl) h
  exact k3 n0_3 S 24 H locs ls gle.rf hG (lv_sub hl1 [1, 2, 0] rfl) h0_3
def w_R_init (post : St → Prop) (S : St) (a0 : Nat) (a1 : Int32) (a2 : Option Nat) : Prop :=
  ∀ S1 : St, S1 = pI S 10 a0 100 → ∀ S2 : St, S2 = pI S1 11 a0 1 → ∀ S3 : St, S3 = pI S2 6 a0 a1 → ∀ S4 : St, S4 = pQ S3 12 a0 a2 → post S4
set_option maxHeartbeats 4000000 in
set_option maxRecDepth 100000 in
theorem m_R_init (l : Launch) (x : Cx) (S : St) (post : St → Prop) (a0 : Nat) (a1 : Int32) (a2 : Option Nat) (fa0 : isA S 2 a0) (h : w_R_init post S a0 a1 a2) : Met l y_R_init [.code y_R_init c_R_init 3 none] { frames := 1, cells := 0, slots := 0, locals := 20 } (va_Pc [.ref a0, .int a1, va_rf a2] (GW x S)) (va_Qv post (gB x S) (xA x)) 0 0 (xA x) := by
  refine gMet (by decide +kernel) (by simp [lg_sl, gCat, gci1, gcr1, gcl1, gcd1]) ?_
  intro p e s m args below meth c hx hb hr hown hlocks hin hw hK H locs hG ls hlA hml
  have hown : s.vm.findClass "WaltzHall$Dancer" = some m.cls := hown
  have hl0 : lv_has ls 3 [(0, .ref a0), (1, .int a1), (2, va_rf a2)] := hlA
  have leS : gle S S := gle.rf
  unfold w_R_init at h
  refine lv_aload_n hx hb d_R_init_0 rfl (lv_at hl0 0 rfl) ?_
  refine gobj (bytes := c_R_init) hx hb hw hown tw_572 tw_61 tw_62 (hl0.1.trans hml.symm) d_R_init_1 (Nat.le_of_ble_eq_true rfl) (Nat.le_of_ble_eq_true rfl) ?_
  refine lv_aload_n hx hb d_R_init_4 rfl (lv_at hl0 0 rfl) ?_
  refine lv_bipush (v := 100) hx hb d_R_init_5 (by decide) ?_
  refine gput (S' := pI S 10 a0 100) hx hb hw hown hK hG kd_R fa0 rfl 4 (by decide) (gChI fa0 rfl) tw_587 (fun _ h9 => h9) rfl rfl rfl rfl (Nat.le_of_ble_eq_true rfl) d_R_init_7 (fun S1 H locs eS1 hle1 hG => ?_)
  replace h := h S1 eS1
  have fa0 := gle_isA hle1 fa0
  have leS := leS.tr hle1
  refine lv_aload_n hx hb d_R_init_10 rfl (lv_at hl0 0 rfl) ?_
  refine lv_iconst (v := 1) hx hb d_R_init_11 (by decide) ?_
  refine gput (S' := pI S1 11 a0 1) hx hb hw hown hK hG kd_R fa0 rfl 5 (by decide) (gChI fa0 rfl) tw_590 (fun _ h9 => h9) rfl rfl rfl rfl (Nat.le_of_ble_eq_true rfl) d_R_init_12 (fun S2 H locs eS2 hle1 hG => ?_)
  replace h := h S2 eS2
  have fa0 := gle_isA hle1 fa0
  have leS := leS.tr hle1
  refine lv_aload_n hx hb d_R_init_15 rfl (lv_at hl0 0 rfl) ?_
  refine lv_iload_n hx hb d_R_init_16 rfl (lv_at hl0 1 rfl) ?_
  refine gputF (S' := pI S2 6 a0 a1) hx hb hw hown hK hG kd_R fa0 rfl 0 (by decide) (gChI fa0 rfl) tw_573 (fun _ h9 => h9) rfl hin rfl rfl rfl rfl (Nat.le_of_ble_eq_true rfl) d_R_init_17 (fun S3 H locs eS3 hle1 hG => ?_)
  replace h := h S3 eS3
  have fa0 := gle_isA hle1 fa0
  have leS := leS.tr hle1
  refine lv_aload_n hx hb d_R_init_20 rfl (lv_at hl0 0 rfl) ?_
  refine gaload_n hx hb d_R_init_21 rfl (lv_at hl0 2 rfl) ?_
  refine gput (S' := pQ S3 12 a0 a2) hx hb hw hown hK hG kd_R fa0 rfl 6 (by decide) (gChQ fa0 rfl) tw_592 (fun _ h9 => h9) rfl rfl (gNo _ _) (gFo _ _) (Nat.le_of_ble_eq_true rfl) d_R_init_22 (fun S4 H locs eS4 hle1 hG => ?_)
  replace h := h S4 eS4
  have fa0 := gle_isA hle1 fa0
  have leS := leS.tr hle1
  exact gvret hx hb hr hlocks hK hG leS h (Nat.le_of_ble_eq_true rfl) (Nat.le_of_ble_eq_true rfl) d_R_init_25
def w_R_tell (post : Int32 → Prop) (S : St) (a0 : Nat) (a1 : Int32) : Prop :=
  (a1 = 0 → post (sI S 7 a0)) ∧ (a1 = 1 → post (sI S 8 a0)) ∧ (a1 = 2 → post (sI S 9 a0)) ∧ (a1 = 3 → post (sI S 10 a0)) ∧ (a1 = 4 → post (sI S 11 a0)) ∧ (a1 = 5 → ∀ o7 : Option Nat, o7 = sQ S 12 a0 → ∃ y8 : Nat, o7 = some y8 ∧ isA S 1 y8 ∧ post (sI S 3 y8)) ∧ (a1 = 6 → post (sI S 13 a0)) ∧ (a1 = 7 → ∀ o12 : Option Nat, o12 = sQ S 14 a0 → (o12 = none → post (-1)) ∧ (∀ y13 : Nat, o12 = some y13 → ∀ o14 : Option Nat, o14 = sQ S 14 a0 → ∃ y15 : Nat, o14 = some y15 ∧ isA S 2 y15 ∧ post (sI S 6 y15))) ∧ (a1 = 8 → ((sI S 15 a0) = 0 → post 0) ∧ (¬ (sI S 15 a0) = 0 → post 1)) ∧ (a1 = 9 → post (sI S 16 a0)) ∧ (a1 = 10 → post (sI S 17 a0)) ∧ (¬ a1 = 0 → ¬ a1 = 1 → ¬ a1 = 2 → ¬ a1 = 3 → ¬ a1 = 4 → ¬ a1 = 5 → ¬ a1 = 6 → ¬ a1 = 7 → ¬ a1 = 8 → ¬ a1 = 9 → ¬ a1 = 10 → post (sI S 18 a0))
set_option maxHeartbeats 4000000 in
set_option maxRecDepth 100000 in
theorem m_R_tell (l : Launch) (x : Cx) (S : St) (post : Int32 → Prop) (a0 : Nat) (a1 : Int32) (fa0 : isA S 2 a0) (h : w_R_tell post S a0 a1) : Met l y_R_tell [.code y_R_tell c_R_tell 2 (some .int)] { frames := 0, cells := 0, slots := 0, locals := 0 } (va_Pc [.ref a0, .int a1] (GW x S)) (va_Qi (gPu post S) (gB x S) (xA x)) 0 0 (xA x) := by
  refine gMet (by decide +kernel) (Nat.le_of_ble_eq_true rfl) ?_
  intro p e s m args below meth c hx hb hr hown hlocks hin hw hK H locs hG ls hlA hml
  have hown : s.vm.findClass "WaltzHall$Dancer" = some m.cls := hown
  have hl0 : lv_has ls 2 [(0, .ref a0), (1, .int a1)] := hlA
  unfold w_R_tell at h
  refine lv_iload_n hx hb d_R_tell_0 rfl (lv_at hl0 1 rfl) ?_
  by_cases hc1 : a1 = 0
  · replace h := h.1 hc1
    refine lv_tableIn (tgt := 60) hx hb d_R_tell_1 (by rw [hc1]; decide) (by rw [hc1]; decide) (by rw [hc1]; rfl) (by decide) ?_
    refine lv_aload_n hx hb d_R_tell_60 rfl (lv_at hl0 0 rfl) ?_
    refine gget hx hb hw hown hK hG kd_R fa0 rfl 1 (by decide) rfl tw_576 (fun _ h9 => h9) d_R_tell_61 ?_
    exact giret hx hb hr hlocks hK hG gle.rf ⟨h, rfl⟩ (Nat.le_of_ble_eq_true rfl) (Nat.le_of_ble_eq_true rfl) d_R_tell_64
  · skip
    by_cases hc2 : a1 = 1
    · replace h := h.2.1 hc2
      refine lv_tableIn (tgt := 65) hx hb d_R_tell_1 (by rw [hc2]; decide) (by rw [hc2]; decide) (by rw [hc2]; rfl) (by decide) ?_
      refine lv_aload_n hx hb d_R_tell_65 rfl (lv_at hl0 0 rfl) ?_
      refine gget hx hb hw hown hK hG kd_R fa0 rfl 2 (by decide) rfl tw_580 (fun _ h9 => h9) d_R_tell_66 ?_
      exact giret hx hb hr hlocks hK hG gle.rf ⟨h, rfl⟩ (Nat.le_of_ble_eq_true rfl) (Nat.le_of_ble_eq_true rfl) d_R_tell_69
    · skip
      by_cases hc3 : a1 = 2
      · replace h := h.2.2.1 hc3
        refine lv_tableIn (tgt := 70) hx hb d_R_tell_1 (by rw [hc3]; decide) (by rw [hc3]; decide) (by rw [hc3]; rfl) (by decide) ?_
        refine lv_aload_n hx hb d_R_tell_70 rfl (lv_at hl0 0 rfl) ?_
        refine gget hx hb hw hown hK hG kd_R fa0 rfl 3 (by decide) rfl tw_584 (fun _ h9 => h9) d_R_tell_71 ?_
        exact giret hx hb hr hlocks hK hG gle.rf ⟨h, rfl⟩ (Nat.le_of_ble_eq_true rfl) (Nat.le_of_ble_eq_true rfl) d_R_tell_74
      · skip
        by_cases hc4 : a1 = 3
        · replace h := h.2.2.2.1 hc4
          refine lv_tableIn (tgt := 75) hx hb d_R_tell_1 (by rw [hc4]; decide) (by rw [hc4]; decide) (by rw [hc4]; rfl) (by decide) ?_
          refine lv_aload_n hx hb d_R_tell_75 rfl (lv_at hl0 0 rfl) ?_
          refine gget hx hb hw hown hK hG kd_R fa0 rfl 4 (by decide) rfl tw_587 (fun _ h9 => h9) d_R_tell_76 ?_
          exact giret hx hb hr hlocks hK hG gle.rf ⟨h, rfl⟩ (Nat.le_of_ble_eq_true rfl) (Nat.le_of_ble_eq_true rfl) d_R_tell_79
        · skip
          by_cases hc5 : a1 = 4
          · replace h := h.2.2.2.2.1 hc5
            refine lv_tableIn (tgt := 80) hx hb d_R_tell_1 (by rw [hc5]; decide) (by rw [hc5]; decide) (by rw [hc5]; rfl) (by decide) ?_
            refine lv_aload_n hx hb d_R_tell_80 rfl (lv_at hl0 0 rfl) ?_
            refine gget hx hb hw hown hK hG kd_R fa0 rfl 5 (by decide) rfl tw_590 (fun _ h9 => h9) d_R_tell_81 ?_
            exact giret hx hb hr hlocks hK hG gle.rf ⟨h, rfl⟩ (Nat.le_of_ble_eq_true rfl) (Nat.le_of_ble_eq_true rfl) d_R_tell_84
          · skip
            by_cases hc6 : a1 = 5
            · replace h := h.2.2.2.2.2.1 hc6
              refine lv_tableIn (tgt := 85) hx hb d_R_tell_1 (by rw [hc6]; decide) (by rw [hc6]; decide) (by rw [hc6]; rfl) (by decide) ?_
              refine lv_aload_n hx hb d_R_tell_85 rfl (lv_at hl0 0 rfl) ?_
              refine gget hx hb hw hown hK hG kd_R fa0 rfl 6 (by decide) rfl tw_592 (fun _ h9 => h9) d_R_tell_86 ?_
              refine gtopq (fun o7 eo7 => ?_)
              replace h := h o7 eo7
              obtain ⟨y8, ey8, h⟩ := h
              subst ey8
              obtain ⟨f9, h⟩ := h
              refine gget hx hb hw hown hK hG kd_D f9 rfl 0 (by decide) rfl tw_163 (fun _ h9 => h9) d_R_tell_89 ?_
              exact giret hx hb hr hlocks hK hG gle.rf ⟨h, rfl⟩ (Nat.le_of_ble_eq_true rfl) (Nat.le_of_ble_eq_true rfl) d_R_tell_92
            · skip
              by_cases hc10 : a1 = 6
              · replace h := h.2.2.2.2.2.2.1 hc10
                refine lv_tableIn (tgt := 93) hx hb d_R_tell_1 (by rw [hc10]; decide) (by rw [hc10]; decide) (by rw [hc10]; rfl) (by decide) ?_
                refine lv_aload_n hx hb d_R_tell_93 rfl (lv_at hl0 0 rfl) ?_
                refine gget hx hb hw hown hK hG kd_R fa0 rfl 7 (by decide) rfl tw_595 (fun _ h9 => h9) d_R_tell_94 ?_
                exact giret hx hb hr hlocks hK hG gle.rf ⟨h, rfl⟩ (Nat.le_of_ble_eq_true rfl) (Nat.le_of_ble_eq_true rfl) d_R_tell_97
              · skip
                by_cases hc11 : a1 = 7
                · replace h := h.2.2.2.2.2.2.2.1 hc11
                  refine lv_tableIn (tgt := 98) hx hb d_R_tell_1 (by rw [hc11]; decide) (by rw [hc11]; decide) (by rw [hc11]; rfl) (by decide) ?_
                  refine lv_aload_n hx hb d_R_tell_98 rfl (lv_at hl0 0 rfl) ?_
                  refine gget hx hb hw hown hK hG kd_R fa0 rfl 8 (by decide) rfl tw_598 (fun _ h9 => h9) d_R_tell_99 ?_
                  refine gtopq (fun o12 eo12 => ?_)
                  replace h := h o12 eo12
                  refine gifnonnull (tgt := 109) hx hb d_R_tell_102 (by decide) (fun y13 e9 => ?_) (fun e9 => ?_)
                  · replace h := h.2 y13 e9
                    subst e9
                    refine lv_aload_n hx hb d_R_tell_109 rfl (lv_at hl0 0 rfl) ?_
                    refine gget hx hb hw hown hK hG kd_R fa0 rfl 8 (by decide) rfl tw_598 (fun _ h9 => h9) d_R_tell_110 ?_
                    refine gtopq (fun o14 eo14 => ?_)
                    replace h := h o14 eo14
                    obtain ⟨y15, ey15, h⟩ := h
                    subst ey15
                    obtain ⟨f16, h⟩ := h
                    refine gget hx hb hw hown hK hG kd_R f16 rfl 0 (by decide) rfl tw_573 (fun _ h9 => h9) d_R_tell_113 ?_
                    exact giret hx hb hr hlocks hK hG gle.rf ⟨h, rfl⟩ (Nat.le_of_ble_eq_true rfl) (Nat.le_of_ble_eq_true rfl) d_R_tell_116
                  · replace h := h.1 e9
                    subst e9
                    refine lv_iconst (v := (-1)) hx hb d_R_tell_105 (by decide) ?_
                    refine lv_goto (tgt := 116) hx hb d_R_tell_106 (by decide) ?_
                    exact giret hx hb hr hlocks hK hG gle.rf ⟨h, rfl⟩ (Nat.le_of_ble_eq_true rfl) (Nat.le_of_ble_eq_true rfl) d_R_tell_116
                · skip
                  by_cases hc17 : a1 = 8
                  · replace h := h.2.2.2.2.2.2.2.2.1 hc17
                    refine lv_tableIn (tgt := 117) hx hb d_R_tell_1 (by rw [hc17]; decide) (by rw [hc17]; decide) (by rw [hc17]; rfl) (by decide) ?_
                    refine lv_aload_n hx hb d_R_tell_117 rfl (lv_at hl0 0 rfl) ?_
                    refine gget hx hb hw hown hK hG kd_R fa0 rfl 9 (by decide) rfl tw_601 (fun _ h9 => h9) d_R_tell_118 ?_
                    refine lv_if_eq (tgt := 128) hx hb d_R_tell_121 (by decide) (fun hc18 => ?_) (fun hc18 => ?_)
                    · replace h := h.1 hc18
                      refine lv_iconst (v := 0) hx hb d_R_tell_128 (by decide) ?_
                      exact giret hx hb hr hlocks hK hG gle.rf ⟨h, rfl⟩ (Nat.le_of_ble_eq_true rfl) (Nat.le_of_ble_eq_true rfl) d_R_tell_129
                    · replace h := h.2 hc18
                      refine lv_iconst (v := 1) hx hb d_R_tell_124 (by decide) ?_
                      refine lv_goto (tgt := 129) hx hb d_R_tell_125 (by decide) ?_
                      exact giret hx hb hr hlocks hK hG gle.rf ⟨h, rfl⟩ (Nat.le_of_ble_eq_true rfl) (Nat.le_of_ble_eq_true rfl) d_R_tell_129
                  · skip
                    by_cases hc19 : a1 = 9
                    · replace h := h.2.2.2.2.2.2.2.2.2.1 hc19
                      refine lv_tableIn (tgt := 130) hx hb d_R_tell_1 (by rw [hc19]; decide) (by rw [hc19]; decide) (by rw [hc19]; rfl) (by decide) ?_
                      refine lv_aload_n hx hb d_R_tell_130 rfl (lv_at hl0 0 rfl) ?_
                      refine gget hx hb hw hown hK hG kd_R fa0 rfl 10 (by decide) rfl tw_604 (fun _ h9 => h9) d_R_tell_131 ?_
                      exact giret hx hb hr hlocks hK hG gle.rf ⟨h, rfl⟩ (Nat.le_of_ble_eq_true rfl) (Nat.le_of_ble_eq_true rfl) d_R_tell_134
                    · skip
                      by_cases hc20 : a1 = 10
                      · replace h := h.2.2.2.2.2.2.2.2.2.2.1 hc20
                        refine lv_tableIn (tgt := 135) hx hb d_R_tell_1 (by rw [hc20]; decide) (by rw [hc20]; decide) (by rw [hc20]; rfl) (by decide) ?_
                        refine lv_aload_n hx hb d_R_tell_135 rfl (lv_at hl0 0 rfl) ?_
                        refine gget hx hb hw hown hK hG kd_R fa0 rfl 11 (by decide) rfl tw_606 (fun _ h9 => h9) d_R_tell_136 ?_
                        exact giret hx hb hr hlocks hK hG gle.rf ⟨h, rfl⟩ (Nat.le_of_ble_eq_true rfl) (Nat.le_of_ble_eq_true rfl) d_R_tell_139
                      · skip
                        replace h := h.2.2.2.2.2.2.2.2.2.2.2 hc1 hc2 hc3 hc4 hc5 hc6 hc10 hc11 hc17 hc19 hc20
                        refine lv_tableOut (tgt := 140) hx hb d_R_tell_1 (gtabOut 11 (by decide) (fun j9 hj9 => by
                          match j9, hj9 with
                          | 0, _ => exact hc1
                          | 1, _ => exact hc2
                          | 2, _ => exact hc3
                          | 3, _ => exact hc4
                          | 4, _ => exact hc5
                          | 5, _ => exact hc6
                          | 6, _ => exact hc10
                          | 7, _ => exact hc11
                          | 8, _ => exact hc17
                          | 9, _ => exact hc19
                          | 10, _ => exact hc20
                          | k9 + 11, hk9 => exact absurd hk9 (by omega))) (by decide) ?_
                        refine lv_aload_n hx hb d_R_tell_140 rfl (lv_at hl0 0 rfl) ?_
                        refine gget hx hb hw hown hK hG kd_R fa0 rfl 12 (by decide) rfl tw_607 (fun _ h9 => h9) d_R_tell_141 ?_
                        exact giret hx hb hr hlocks hK hG gle.rf ⟨h, rfl⟩ (Nat.le_of_ble_eq_true rfl) (Nat.le_of_ble_eq_true rfl) d_R_tell_144
def w_N_init (post : St → Prop) (S : St) (a0 : Nat) : Prop :=
  ∀ (q1 : Nat) (S2 : St), q1 ∉ sL S → S2 = pNew S q1 10 8 → ∀ S4 : St, S4 = pQ S2 29 a0 (some q1) → post S4
set_option maxHeartbeats 4000000 in
set_option maxRecDepth 100000 in
theorem m_N_init (l : Launch) (x : Cx) (S : St) (post : St → Prop) (a0 : Nat) (fa0 : isA S 5 a0) (h : w_N_init post S a0) : Met l y_N_init [.code y_N_init c_N_init 1 none] { frames := 1, cells := 1, slots := 8, locals := 20 } (va_Pc [.ref a0] (GW x S)) (va_Qv post (gB x S) (xA x)) 1 8 (xA x) := by
  refine gMet (by decide +kernel) (Nat.le_of_ble_eq_true rfl) ?_
  intro p e s m args below meth c hx hb hr hown hlocks hin hw hK H locs hG ls hlA hml
  have hown : s.vm.findClass "WaltzHall$Winder" = some m.cls := hown
  have hl0 : lv_has ls 1 [(0, .ref a0)] := hlA
  have leS : gle S S := gle.rf
  unfold w_N_init at h
  refine lv_aload_n hx hb d_N_init_0 rfl (lv_at hl0 0 rfl) ?_
  refine gobj (bytes := c_N_init) hx hb hw hown tw_733 tw_61 tw_62 (hl0.1.trans hml.symm) d_N_init_1 (Nat.le_of_ble_eq_true rfl) (Nat.le_of_ble_eq_true rfl) ?_
  refine lv_aload_n hx hb d_N_init_4 rfl (lv_at hl0 0 rfl) ?_
  refine lv_bipush (v := 8) hx hb d_N_init_5 (by decide) ?_
  refine gnewa (atype := .int) (N' := 8) (k := 10) (by decide) 1 hx hb hw hK hG tw_760 rfl (fun _ _ => rfl) rfl rfl (fun _ => rfl) (by decide) (Nat.le_of_ble_eq_true rfl) (Nat.le_of_ble_eq_true rfl) (Nat.le_of_ble_eq_true rfl) d_N_init_7 (fun q1 S2 H hqq1 eS2 hle1 hG => ?_)
  replace h := h q1 S2 hqq1 eS2
  have fa0 := gle_isA hle1 fa0
  have leS := leS.tr hle1
  have f3 : isA S2 10 q1 := by rw [eS2]; exact isA_new
  refine gputF (S' := pQ S2 29 a0 (some q1)) hx hb hw hown hK hG kd_N fa0 rfl 3 (by decide) (gChQ fa0 rfl) tw_740 (fun _ h9 => h9) rfl hin rfl rfl rfl rfl (Nat.le_of_ble_eq_true rfl) d_N_init_9 (fun S4 H locs eS4 hle1 hG => ?_)
  replace h := h S4 eS4
  have fa0 := gle_isA hle1 fa0
  have f3 := gle_isA hle1 f3
  have leS := leS.tr hle1
  exact gvret hx hb hr hlocks hK hG leS h (Nat.le_of_ble_eq_true rfl) (Nat.le_of_ble_eq_true rfl) d_N_init_12
def w_N_becomeLike (post : St → Prop) (S : St) (a0 : Nat) (a1 : Option Nat) : Prop :=
  ∃ y1 : Nat, a1 = some y1 ∧ isA S 5 y1 ∧ ∀ S3 : St, S3 = pI S 26 a0 (sI S 26 y1) → ∀ S4 : St, S4 = pI S3 27 a0 (sI S3 27 y1) → ∀ S5 : St, S5 = pI S4 28 a0 (sI S4 28 y1) → ∀ S6 : St, S6 = pI S5 30 a0 (sI S5 30 y1) → ∃ J34 : Nat → St → Int32 → Prop, (∃ n : Nat, J34 n S6 0) ∧ ∀ (n34 : Nat) (S_34 : St) (v2_34 : Int32), J34 n34 S_34 v2_34 → ∀ o9 : Option Nat, o9 = sQ S_34 29 a0 → ∃ y10 : Nat, o9 = some y10 ∧ isA S_34 10 y10 ∧ ∃ J70 : Prop, (J70 → ∀ S13 : St, S13 = pI S_34 31 a0 (sI S_34 31 y1) → ∀ S14 : St, S14 = pI S13 32 a0 (sI S13 32 y1) → post S14) ∧ ((nI (sN S_34 y10)) ≤ v2_34 → J70) ∧ (¬ (nI (sN S_34 y10)) ≤ v2_34 → ∀ o15 : Option Nat, o15 = sQ S_34 29 y1 → ∃ y16 : Nat, o15 = some y16 ∧ isA S_34 10 y16 ∧ ((nI (sN S_34 y16)) ≤ v2_34 → J70) ∧ (¬ (nI (sN S_34 y16)) ≤ v2_34 → ∀ o18 : Option Nat, o18 = sQ S_34 29 a0 → ∀ o19 : Option Nat, o19 = sQ S_34 29 y1 → ∃ y20 : Nat, o19 = some y20 ∧ isA S_34 10 y20 ∧ vp_in v2_34 (sN S_34 y20) ∧ ∃ y23 : Nat, o18 = some y23 ∧ isA S_34 10 y23 ∧ vp_in v2_34 (sN S_34 y23) ∧ ∀ S26 : St, S26 = pR S_34 y23 (v2_34.toNatClampNeg) (sR S_34 y20 v2_34.toNatClampNeg) → ∀ v27 : Int32, v27 = v2_34 + 1 → ∃ nx : Nat, nx < n34 ∧ J34 nx S26 v27))
set_option maxHeartbeats 4000000 in
set_option maxRecDepth 100000 in
theorem m_N_becomeLike (l : Launch) (x : Cx) (S : St) (post : St → Prop) (a0 : Nat) (a1 : Option Nat) (fa0 : isA S 5 a0) (h : w_N_becomeLike post S a0 a1) : Met l y_N_becomeLike [.code y_N_becomeLike c_N_becomeLike 3 none] { frames := 0, cells := 0, slots := 0, locals := 0 } (va_Pc [.ref a0, va_rf a1] (GW x S)) (va_Qv post (gB x S) (xA x)) 0 0 (xA x) := by
  refine gMet (by decide +kernel) (by simp [lg_sl, gCat, gci1, gcr1, gcl1, gcd1]) ?_
  intro p e s m args below meth c hx hb hr hown hlocks hin hw hK H locs hG ls hlA hml
  have hown : s.vm.findClass "WaltzHall$Winder" = some m.cls := hown
  have hl0 : lv_has ls 3 [(0, .ref a0), (1, va_rf a1)] := hlA
  have leS : gle S S := gle.rf
  unfold w_N_becomeLike at h
  refine lv_aload_n hx hb d_N_becomeLike_0 rfl (lv_at hl0 0 rfl) ?_
  refine gaload_n hx hb d_N_becomeLike_1 rfl (lv_at hl0 1 rfl) ?_
  obtain ⟨y1, ey1, h⟩ := h
  subst ey1
  obtain ⟨f2, h⟩ := h
  refine gget hx hb hw hown hK hG kd_N f2 rfl 0 (by decide) rfl tw_734 (fun _ h9 => h9) d_N_becomeLike_2 ?_
  refine gput (S' := pI S 26 a0 (sI S 26 y1)) hx hb hw hown hK hG kd_N fa0 rfl 0 (by decide) (gChI fa0 rfl) tw_734 (fun _ h9 => h9) rfl rfl rfl rfl (Nat.le_of_ble_eq_true rfl) d_N_becomeLike_5 (fun S3 H locs eS3 hle1 hG => ?_)
  replace h := h S3 eS3
  have fa0 := gle_isA hle1 fa0
  have f2 := gle_isA hle1 f2
  have leS := leS.tr hle1
  refine lv_aload_n hx hb d_N_becomeLike_8 rfl (lv_at hl0 0 rfl) ?_
  refine lv_aload_n hx hb d_N_becomeLike_9 rfl (lv_at hl0 1 rfl) ?_
  refine gget hx hb hw hown hK hG kd_N f2 rfl 1 (by decide) rfl tw_736 (fun _ h9 => h9) d_N_becomeLike_10 ?_
  refine gput (S' := pI S3 27 a0 (sI S3 27 y1)) hx hb hw hown hK hG kd_N fa0 rfl 1 (by decide) (gChI fa0 rfl) tw_736 (fun _ h9 => h9) rfl rfl rfl rfl (Nat.le_of_ble_eq_true rfl) d_N_becomeLike_13 (fun S4 H locs eS4 hle1 hG => ?_)
  replace h := h S4 eS4
  have fa0 := gle_isA hle1 fa0
  have f2 := gle_isA hle1 f2
  have leS := leS.tr hle1
  refine lv_aload_n hx hb d_N_becomeLike_16 rfl (lv_at hl0 0 rfl) ?_
  refine lv_aload_n hx hb d_N_becomeLike_17 rfl (lv_at hl0 1 rfl) ?_
  refine gget hx hb hw hown hK hG kd_N f2 rfl 2 (by decide) rfl tw_738 (fun _ h9 => h9) d_N_becomeLike_18 ?_
  refine gput (S' := pI S4 28 a0 (sI S4 28 y1)) hx hb hw hown hK hG kd_N fa0 rfl 2 (by decide) (gChI fa0 rfl) tw_738 (fun _ h9 => h9) rfl rfl rfl rfl (Nat.le_of_ble_eq_true rfl) d_N_becomeLike_21 (fun S5 H locs eS5 hle1 hG => ?_)
  replace h := h S5 eS5
  have fa0 := gle_isA hle1 fa0
  have f2 := gle_isA hle1 f2
  have leS := leS.tr hle1
  refine lv_aload_n hx hb d_N_becomeLike_24 rfl (lv_at hl0 0 rfl) ?_
  refine lv_aload_n hx hb d_N_becomeLike_25 rfl (lv_at hl0 1 rfl) ?_
  refine gget hx hb hw hown hK hG kd_N f2 rfl 4 (by decide) rfl tw_741 (fun _ h9 => h9) d_N_becomeLike_26 ?_
  refine gput (S' := pI S5 30 a0 (sI S5 30 y1)) hx hb hw hown hK hG kd_N fa0 rfl 4 (by decide) (gChI fa0 rfl) tw_741 (fun _ h9 => h9) rfl rfl rfl rfl (Nat.le_of_ble_eq_true rfl) d_N_becomeLike_29 (fun S6 H locs eS6 hle1 hG => ?_)
  replace h := h S6 eS6
  have fa0 := gle_isA hle1 fa0
  have f2 := gle_isA hle1 f2
  have leS := leS.tr hle1
  refine lv_iconst (v := 0) hx hb d_N_becomeLike_32 (by decide) ?_
  refine lv_istore_n (i := 2) (lv' := [(2, .int 0), (0, .ref a0), (1, .ref y1)]) hx hb d_N_becomeLike_33 rfl hl0 (by decide) rfl (fun ls hl7 => ?_)
  have leS6 : gle S6 S6 := gle.rf
  obtain ⟨J34, ⟨n0_34, h0_34⟩, hJ34⟩ := h
  have k34 : ∀ (n34 : Nat) (S_34 : St) (v2_34 : Int32) (H : Heap) (locs : List Loc) (ls : Array Slot), gle S6 S_34 → GH x S_34 s H locs → lv_has ls 3 [(0, .ref a0), (1, .ref y1), (2, .int v2_34)] → J34 n34 S_34 v2_34 → W p l e { frames := 0, cells := 0, slots := 0, locals := 0 } s m args below meth c H locs 0 0 (MQ below (va_Qv post (gB x S) (xA x)) args s 0 0 (xA x)) (F0 m 34 ls []) := by
    intro n34
    induction n34 using Nat.strongRecOn with
    | _ n34 ih34 =>
      intro S_34 v2_34 H locs ls hle1 hG hl8 hj
      replace h := hJ34 n34 S_34 v2_34 hj
      have fa0 := gle_isA hle1 fa0
      have f2 := gle_isA hle1 f2
      have leS := leS.tr hle1
      have leS6 := leS6.tr hle1
      refine lv_iload_n hx hb d_N_becomeLike_34 rfl (lv_at hl8 2 rfl) ?_
      refine lv_aload_n hx hb d_N_becomeLike_35 rfl (lv_at hl8 0 rfl) ?_
      refine gget hx hb hw hown hK hG kd_N fa0 rfl 3 (by decide) rfl tw_740 (fun _ h9 => h9) d_N_becomeLike_36 ?_
      refine gtopq (fun o9 eo9 => ?_)
      replace h := h o9 eo9
      obtain ⟨y10, ey10, h⟩ := h
      subst ey10
      obtain ⟨f11, h⟩ := h
      refine galen hx hb hK hG f11 rfl 1 rfl rfl d_N_becomeLike_39 ?_
      have leS_34 : gle S_34 S_34 := gle.rf
      obtain ⟨J70, hJ70, h⟩ := h
      have k70 : ∀ (H : Heap) (locs : List Loc) (ls : Array Slot), GH x S_34 s H locs → lv_has ls 3 [(0, .ref a0), (1, .ref y1)] → J70 → W p l e { frames := 0, cells := 0, slots := 0, locals := 0 } s m args below meth c H locs 0 0 (MQ below (va_Qv post (gB x S) (xA x)) args s 0 0 (xA x)) (F0 m 70 ls []) := by
        intro  H locs ls hG hl12 hj
        replace h := hJ70 hj
        refine lv_aload_n hx hb d_N_becomeLike_70 rfl (lv_at hl12 0 rfl) ?_
        refine lv_aload_n hx hb d_N_becomeLike_71 rfl (lv_at hl12 1 rfl) ?_
        refine gget hx hb hw hown hK hG kd_N f2 rfl 5 (by decide) rfl tw_743 (fun _ h9 => h9) d_N_becomeLike_72 ?_
        refine gput (S' := pI S_34 31 a0 (sI S_34 31 y1)) hx hb hw hown hK hG kd_N fa0 rfl 5 (by decide) (gChI fa0 rfl) tw_743 (fun _ h9 => h9) rfl rfl rfl rfl (Nat.le_of_ble_eq_true rfl) d_N_becomeLike_75 (fun S13 H locs eS13 hle1 hG => ?_)
        replace h := h S13 eS13
        have fa0 := gle_isA hle1 fa0
        have f2 := gle_isA hle1 f2
        have f11 := gle_isA hle1 f11
        have leS := leS.tr hle1
        have leS6 := leS6.tr hle1
        have leS_34 := leS_34.tr hle1
        refine lv_aload_n hx hb d_N_becomeLike_78 rfl (lv_at hl12 0 rfl) ?_
        refine lv_aload_n hx hb d_N_becomeLike_79 rfl (lv_at hl12 1 rfl) ?_
        refine gget hx hb hw hown hK hG kd_N f2 rfl 6 (by decide) rfl tw_744 (fun _ h9 => h9) d_N_becomeLike_80 ?_
        refine gput (S' := pI S13 32 a0 (sI S13 32 y1)) hx hb hw hown hK hG kd_N fa0 rfl 6 (by decide) (gChI fa0 rfl) tw_744 (fun _ h9 => h9) rfl rfl rfl rfl (Nat.le_of_ble_eq_true rfl) d_N_becomeLike_83 (fun S14 H locs eS14 hle1 hG => ?_)
        replace h := h S14 eS14
        have fa0 := gle_isA hle1 fa0
        have f2 := gle_isA hle1 f2
        have f11 := gle_isA hle1 f11
        have leS := leS.tr hle1
        have leS6 := leS6.tr hle1
        have leS_34 := leS_34.tr hle1
        exact gvret hx hb hr hlocks hK hG leS h (Nat.le_of_ble_eq_true rfl) (Nat.le_of_ble_eq_true rfl) d_N_becomeLike_86
      refine lv_icmp_ge (tgt := 70) hx hb d_N_becomeLike_40 (by decide) (fun hc30 => ?_) (fun hc30 => ?_)
      · replace h := h.1 hc30
        exact k70 H locs ls hG (lv_sub hl8 [0, 1] rfl) h
      · replace h := h.2 hc30
        refine lv_iload_n hx hb d_N_becomeLike_43 rfl (lv_at hl8 2 rfl) ?_
        refine lv_aload_n hx hb d_N_becomeLike_44 rfl (lv_at hl8 1 rfl) ?_
        refine gget hx hb hw hown hK hG kd_N f2 rfl 3 (by decide) rfl tw_740 (fun _ h9 => h9) d_N_becomeLike_45 ?_
        refine gtopq (fun o15 eo15 => ?_)
        replace h := h o15 eo15
        obtain ⟨y16, ey16, h⟩ := h
        subst ey16
        obtain ⟨f17, h⟩ := h
        refine galen hx hb hK hG f17 rfl 1 rfl rfl d_N_becomeLike_48 ?_
        refine lv_icmp_ge (tgt := 70) hx hb d_N_becomeLike_49 (by decide) (fun hc29 => ?_) (fun hc29 => ?_)
        · replace h := h.1 hc29
          exact k70 H locs ls hG (lv_sub hl8 [0, 1] rfl) h
        · replace h := h.2 hc29
          refine lv_aload_n hx hb d_N_becomeLike_52 rfl (lv_at hl8 0 rfl) ?_
          refine gget hx hb hw hown hK hG kd_N fa0 rfl 3 (by decide) rfl tw_740 (fun _ h9 => h9) d_N_becomeLike_53 ?_
          refine gtopq (fun o18 eo18 => ?_)
          replace h := h o18 eo18
          refine lv_iload_n hx hb d_N_becomeLike_56 rfl (lv_at hl8 2 rfl) ?_
          refine lv_aload_n hx hb d_N_becomeLike_57 rfl (lv_at hl8 1 rfl) ?_
          refine gget hx hb hw hown hK hG kd_N f2 rfl 3 (by decide) rfl tw_740 (fun _ h9 => h9) d_N_becomeLike_58 ?_
          refine gtopq (fun o19 eo19 => ?_)
          replace h := h o19 eo19
          refine lv_iload_n hx hb d_N_becomeLike_61 rfl (lv_at hl8 2 rfl) ?_
          obtain ⟨y20, ey20, h⟩ := h
          subst ey20
          obtain ⟨f21, h⟩ := h
          obtain ⟨hi22, h⟩ := h
          refine giald hx hb hK hG f21 hi22 d_N_becomeLike_62 ?_
          obtain ⟨y23, ey23, h⟩ := h
          subst ey23
          obtain ⟨f24, h⟩ := h
          obtain ⟨hi25, h⟩ := h
          refine giast hx hb hK hG f24 hi25 d_N_becomeLike_63 (fun S26 H locs eS26 hle1 hG => ?_)
          replace h := h S26 eS26
          have fa0 := gle_isA hle1 fa0
          have f2 := gle_isA hle1 f2
          have f11 := gle_isA hle1 f11
          have f17 := gle_isA hle1 f17
          have f21 := gle_isA hle1 f21
          have f24 := gle_isA hle1 f24
          have leS := leS.tr hle1
          have leS6 := leS6.tr hle1
          have leS_34 := leS_34.tr hle1
          obtain ⟨v27, ev27⟩ : ∃ z : Int32, z = v2_34 + 1 := ⟨_, rfl⟩
          replace h := h v27 ev27
          refine lv_iinc (v := v27) (lv' := [(2, .int v27), (0, .ref a0), (1, .ref y1)]) hx hb d_N_becomeLike_64 hl8 (k := 2) rfl (by rw [ev27]; rfl) (by decide) rfl (fun ls hl28 => ?_)
          refine lv_goto (tgt := 34) hx hb d_N_becomeLike_67 (by decide) ?_
          obtain ⟨nx, hnx, h⟩ := h
          exact ih34 nx hnx S26 v27 H locs ls leS6 hG (lv_sub hl28 [1, 2, 0] rfl) h
  exact k34 n0_34 S6 0 H locs ls gle.rf hG (lv_sub hl7 [1, 2, 0] rfl) h0_34
def w_N_addToRound (post : St → Prop) (S : St) (a0 : Nat) (a1 : Int32) : Prop :=
  ((sI S 30 a0) < 0 → post S) ∧ (¬ (sI S 30 a0) < 0 → ∀ o1 : Option Nat, o1 = sQ S 29 a0 → ∃ y2 : Nat, o1 = some y2 ∧ isA S 10 y2 ∧ ((nI (sN S y2)) ≤ (sI S 30 a0) → post S) ∧ (¬ (nI (sN S y2)) ≤ (sI S 30 a0) → ∀ o4 : Option Nat, o4 = sQ S 29 a0 → ∃ y5 : Nat, o4 = some y5 ∧ isA S 10 y5 ∧ vp_in (sI S 30 a0) (sN S y5) ∧ ∀ S8 : St, S8 = pR S y5 ((sI S 30 a0).toNatClampNeg) a1 → ∀ S9 : St, S9 = pI S8 30 a0 ((sI S8 30 a0) + 1) → post S9))
set_option maxHeartbeats 4000000 in
set_option maxRecDepth 100000 in
theorem m_N_addToRound (l : Launch) (x : Cx) (S : St) (post : St → Prop) (a0 : Nat) (a1 : Int32) (fa0 : isA S 5 a0) (h : w_N_addToRound post S a0 a1) : Met l y_N_addToRound [.code y_N_addToRound c_N_addToRound 2 none] { frames := 0, cells := 0, slots := 0, locals := 0 } (va_Pc [.ref a0, .int a1] (GW x S)) (va_Qv post (gB x S) (xA x)) 0 0 (xA x) := by
  refine gMet (by decide +kernel) (Nat.le_of_ble_eq_true rfl) ?_
  intro p e s m args below meth c hx hb hr hown hlocks hin hw hK H locs hG ls hlA hml
  have hown : s.vm.findClass "WaltzHall$Winder" = some m.cls := hown
  have hl0 : lv_has ls 2 [(0, .ref a0), (1, .int a1)] := hlA
  have leS : gle S S := gle.rf
  unfold w_N_addToRound at h
  refine lv_aload_n hx hb d_N_addToRound_0 rfl (lv_at hl0 0 rfl) ?_
  refine gget hx hb hw hown hK hG kd_N fa0 rfl 4 (by decide) rfl tw_741 (fun _ h9 => h9) d_N_addToRound_1 ?_
  refine lv_if_lt (tgt := 39) hx hb d_N_addToRound_4 (by decide) (fun hc11 => ?_) (fun hc11 => ?_)
  · replace h := h.1 hc11
    exact gvret hx hb hr hlocks hK hG leS h (Nat.le_of_ble_eq_true rfl) (Nat.le_of_ble_eq_true rfl) d_N_addToRound_39
  · replace h := h.2 hc11
    refine lv_aload_n hx hb d_N_addToRound_7 rfl (lv_at hl0 0 rfl) ?_
    refine gget hx hb hw hown hK hG kd_N fa0 rfl 4 (by decide) rfl tw_741 (fun _ h9 => h9) d_N_addToRound_8 ?_
    refine lv_aload_n hx hb d_N_addToRound_11 rfl (lv_at hl0 0 rfl) ?_
    refine gget hx hb hw hown hK hG kd_N fa0 rfl 3 (by decide) rfl tw_740 (fun _ h9 => h9) d_N_addToRound_12 ?_
    refine gtopq (fun o1 eo1 => ?_)
    replace h := h o1 eo1
    obtain ⟨y2, ey2, h⟩ := h
    subst ey2
    obtain ⟨f3, h⟩ := h
    refine galen hx hb hK hG f3 rfl 1 rfl rfl d_N_addToRound_15 ?_
    refine lv_icmp_ge (tgt := 39) hx hb d_N_addToRound_16 (by decide) (fun hc10 => ?_) (fun hc10 => ?_)
    · replace h := h.1 hc10
      exact gvret hx hb hr hlocks hK hG leS h (Nat.le_of_ble_eq_true rfl) (Nat.le_of_ble_eq_true rfl) d_N_addToRound_39
    · replace h := h.2 hc10
      refine lv_aload_n hx hb d_N_addToRound_19 rfl (lv_at hl0 0 rfl) ?_
      refine gget hx hb hw hown hK hG kd_N fa0 rfl 3 (by decide) rfl tw_740 (fun _ h9 => h9) d_N_addToRound_20 ?_
      refine gtopq (fun o4 eo4 => ?_)
      replace h := h o4 eo4
      refine lv_aload_n hx hb d_N_addToRound_23 rfl (lv_at hl0 0 rfl) ?_
      refine gget hx hb hw hown hK hG kd_N fa0 rfl 4 (by decide) rfl tw_741 (fun _ h9 => h9) d_N_addToRound_24 ?_
      refine lv_iload_n hx hb d_N_addToRound_27 rfl (lv_at hl0 1 rfl) ?_
      obtain ⟨y5, ey5, h⟩ := h
      subst ey5
      obtain ⟨f6, h⟩ := h
      obtain ⟨hi7, h⟩ := h
      refine giast hx hb hK hG f6 hi7 d_N_addToRound_28 (fun S8 H locs eS8 hle1 hG => ?_)
      replace h := h S8 eS8
      have fa0 := gle_isA hle1 fa0
      have f3 := gle_isA hle1 f3
      have f6 := gle_isA hle1 f6
      have leS := leS.tr hle1
      refine lv_aload_n hx hb d_N_addToRound_29 rfl (lv_at hl0 0 rfl) ?_
      refine lv_dup hx hb d_N_addToRound_30 rfl ?_
      refine gget hx hb hw hown hK hG kd_N fa0 rfl 4 (by decide) rfl tw_741 (fun _ h9 => h9) d_N_addToRound_31 ?_
      refine lv_iconst (v := 1) hx hb d_N_addToRound_34 (by decide) ?_
      refine lv_iadd hx hb d_N_addToRound_35 ?_
      refine gput (S' := pI S8 30 a0 ((sI S8 30 a0) + 1)) hx hb hw hown hK hG kd_N fa0 rfl 4 (by decide) (gChI fa0 rfl) tw_741 (fun _ h9 => h9) rfl rfl rfl rfl (Nat.le_of_ble_eq_true rfl) d_N_addToRound_36 (fun S9 H locs eS9 hle1 hG => ?_)
      replace h := h S9 eS9
      have fa0 := gle_isA hle1 fa0
      have f3 := gle_isA hle1 f3
      have f6 := gle_isA hle1 f6
      have leS := leS.tr hle1
      exact gvret hx hb hr hlocks hK hG leS h (Nat.le_of_ble_eq_true rfl) (Nat.le_of_ble_eq_true rfl) d_N_addToRound_39
def w_N_whoseTurn (post : Int32 → Prop) (S : St) (a0 : Nat) : Prop :=
  ((sI S 31 a0) < 0 → post (-1)) ∧ (¬ (sI S 31 a0) < 0 → ((sI S 30 a0) ≤ (sI S 31 a0) → post (-1)) ∧ (¬ (sI S 30 a0) ≤ (sI S 31 a0) → ∀ o1 : Option Nat, o1 = sQ S 29 a0 → ∃ y2 : Nat, o1 = some y2 ∧ isA S 10 y2 ∧ ((nI (sN S y2)) ≤ (sI S 31 a0) → post (-1)) ∧ (¬ (nI (sN S y2)) ≤ (sI S 31 a0) → ∀ o4 : Option Nat, o4 = sQ S 29 a0 → ∃ y5 : Nat, o4 = some y5 ∧ isA S 10 y5 ∧ vp_in (sI S 31 a0) (sN S y5) ∧ post (sR S y5 (sI S 31 a0).toNatClampNeg))))
set_option maxHeartbeats 4000000 in
set_option maxRecDepth 100000 in
theorem m_N_whoseTurn (l : Launch) (x : Cx) (S : St) (post : Int32 → Prop) (a0 : Nat) (fa0 : isA S 5 a0) (h : w_N_whoseTurn post S a0) : Met l y_N_whoseTurn [.code y_N_whoseTurn c_N_whoseTurn 1 (some .int)] { frames := 0, cells := 0, slots := 0, locals := 0 } (va_Pc [.ref a0] (GW x S)) (va_Qi (gPu post S) (gB x S) (xA x)) 0 0 (xA x) := by
  refine gMet (by decide +kernel) (Nat.le_of_ble_eq_true rfl) ?_
  intro p e s m args below meth c hx hb hr hown hlocks hin hw hK H locs hG ls hlA hml
  have hown : s.vm.findClass "WaltzHall$Winder" = some m.cls := hown
  have hl0 : lv_has ls 1 [(0, .ref a0)] := hlA
  unfold w_N_whoseTurn at h
  refine lv_aload_n hx hb d_N_whoseTurn_0 rfl (lv_at hl0 0 rfl) ?_
  refine gget hx hb hw hown hK hG kd_N fa0 rfl 5 (by decide) rfl tw_743 (fun _ h9 => h9) d_N_whoseTurn_1 ?_
  refine lv_if_lt (tgt := 42) hx hb d_N_whoseTurn_4 (by decide) (fun hc10 => ?_) (fun hc10 => ?_)
  · replace h := h.1 hc10
    refine lv_iconst (v := (-1)) hx hb d_N_whoseTurn_42 (by decide) ?_
    exact giret hx hb hr hlocks hK hG gle.rf ⟨h, rfl⟩ (Nat.le_of_ble_eq_true rfl) (Nat.le_of_ble_eq_true rfl) d_N_whoseTurn_43
  · replace h := h.2 hc10
    refine lv_aload_n hx hb d_N_whoseTurn_7 rfl (lv_at hl0 0 rfl) ?_
    refine gget hx hb hw hown hK hG kd_N fa0 rfl 5 (by decide) rfl tw_743 (fun _ h9 => h9) d_N_whoseTurn_8 ?_
    refine lv_aload_n hx hb d_N_whoseTurn_11 rfl (lv_at hl0 0 rfl) ?_
    refine gget hx hb hw hown hK hG kd_N fa0 rfl 4 (by decide) rfl tw_741 (fun _ h9 => h9) d_N_whoseTurn_12 ?_
    refine lv_icmp_ge (tgt := 42) hx hb d_N_whoseTurn_15 (by decide) (fun hc9 => ?_) (fun hc9 => ?_)
    · replace h := h.1 hc9
      refine lv_iconst (v := (-1)) hx hb d_N_whoseTurn_42 (by decide) ?_
      exact giret hx hb hr hlocks hK hG gle.rf ⟨h, rfl⟩ (Nat.le_of_ble_eq_true rfl) (Nat.le_of_ble_eq_true rfl) d_N_whoseTurn_43
    · replace h := h.2 hc9
      refine lv_aload_n hx hb d_N_whoseTurn_18 rfl (lv_at hl0 0 rfl) ?_
      refine gget hx hb hw hown hK hG kd_N fa0 rfl 5 (by decide) rfl tw_743 (fun _ h9 => h9) d_N_whoseTurn_19 ?_
      refine lv_aload_n hx hb d_N_whoseTurn_22 rfl (lv_at hl0 0 rfl) ?_
      refine gget hx hb hw hown hK hG kd_N fa0 rfl 3 (by decide) rfl tw_740 (fun _ h9 => h9) d_N_whoseTurn_23 ?_
      refine gtopq (fun o1 eo1 => ?_)
      replace h := h o1 eo1
      obtain ⟨y2, ey2, h⟩ := h
      subst ey2
      obtain ⟨f3, h⟩ := h
      refine galen hx hb hK hG f3 rfl 1 rfl rfl d_N_whoseTurn_26 ?_
      refine lv_icmp_ge (tgt := 42) hx hb d_N_whoseTurn_27 (by decide) (fun hc8 => ?_) (fun hc8 => ?_)
      · replace h := h.1 hc8
        refine lv_iconst (v := (-1)) hx hb d_N_whoseTurn_42 (by decide) ?_
        exact giret hx hb hr hlocks hK hG gle.rf ⟨h, rfl⟩ (Nat.le_of_ble_eq_true rfl) (Nat.le_of_ble_eq_true rfl) d_N_whoseTurn_43
      · replace h := h.2 hc8
        refine lv_aload_n hx hb d_N_whoseTurn_30 rfl (lv_at hl0 0 rfl) ?_
        refine gget hx hb hw hown hK hG kd_N fa0 rfl 3 (by decide) rfl tw_740 (fun _ h9 => h9) d_N_whoseTurn_31 ?_
        refine gtopq (fun o4 eo4 => ?_)
        replace h := h o4 eo4
        refine lv_aload_n hx hb d_N_whoseTurn_34 rfl (lv_at hl0 0 rfl) ?_
        refine gget hx hb hw hown hK hG kd_N fa0 rfl 5 (by decide) rfl tw_743 (fun _ h9 => h9) d_N_whoseTurn_35 ?_
        obtain ⟨y5, ey5, h⟩ := h
        subst ey5
        obtain ⟨f6, h⟩ := h
        obtain ⟨hi7, h⟩ := h
        refine giald hx hb hK hG f6 hi7 d_N_whoseTurn_38 ?_
        refine lv_goto (tgt := 43) hx hb d_N_whoseTurn_39 (by decide) ?_
        exact giret hx hb hr hlocks hK hG gle.rf ⟨h, rfl⟩ (Nat.le_of_ble_eq_true rfl) (Nat.le_of_ble_eq_true rfl) d_N_whoseTurn_43
def w_N_passTurn (post : St → Prop) (S : St) (a0 : Nat) : Prop :=
  ∃ J24 : Int32 → Prop, (∀ (k1_24 : Int32), J24 k1_24 → ∀ S2 : St, S2 = pI S 31 a0 k1_24 → post S2) ∧ ((sI S 30 a0) ≤ ((sI S 31 a0) + 1) → J24 0) ∧ (¬ (sI S 30 a0) ≤ ((sI S 31 a0) + 1) → J24 ((sI S 31 a0) + 1))
set_option maxHeartbeats 4000000 in
set_option maxRecDepth 100000 in
theorem m_N_passTurn (l : Launch) (x : Cx) (S : St) (post : St → Prop) (a0 : Nat) (fa0 : isA S 5 a0) (h : w_N_passTurn post S a0) : Met l y_N_passTurn [.code y_N_passTurn c_N_passTurn 1 none] { frames := 0, cells := 0, slots := 0, locals := 0 } (va_Pc [.ref a0] (GW x S)) (va_Qv post (gB x S) (xA x)) 0 0 (xA x) := by
  refine gMet (by decide +kernel) (Nat.le_of_ble_eq_true rfl) ?_
  intro p e s m args below meth c hx hb hr hown hlocks hin hw hK H locs hG ls hlA hml
  have hown : s.vm.findClass "WaltzHall$Winder" = some m.cls := hown
  have hl0 : lv_has ls 1 [(0, .ref a0)] := hlA
  have leS : gle S S := gle.rf
  unfold w_N_passTurn at h
  refine lv_aload_n hx hb d_N_passTurn_0 rfl (lv_at hl0 0 rfl) ?_
  refine lv_aload_n hx hb d_N_passTurn_1 rfl (lv_at hl0 0 rfl) ?_
  refine gget hx hb hw hown hK hG kd_N fa0 rfl 5 (by decide) rfl tw_743 (fun _ h9 => h9) d_N_passTurn_2 ?_
  refine lv_iconst (v := 1) hx hb d_N_passTurn_5 (by decide) ?_
  refine lv_iadd hx hb d_N_passTurn_6 ?_
  refine lv_aload_n hx hb d_N_passTurn_7 rfl (lv_at hl0 0 rfl) ?_
  refine gget hx hb hw hown hK hG kd_N fa0 rfl 4 (by decide) rfl tw_741 (fun _ h9 => h9) d_N_passTurn_8 ?_
  obtain ⟨J24, hJ24, h⟩ := h
  have k24 : ∀ (k1_24 : Int32) (H : Heap) (locs : List Loc) (ls : Array Slot), GH x S s H locs → lv_has ls 1 [] → J24 k1_24 → W p l e { frames := 0, cells := 0, slots := 0, locals := 0 } s m args below meth c H locs 0 0 (MQ below (va_Qv post (gB x S) (xA x)) args s 0 0 (xA x)) (F0 m 24 ls [.int k1_24, .ref a0]) := by
    intro k1_24  H locs ls hG hl1 hj
    replace h := hJ24 k1_24 hj
    refine gput (S' := pI S 31 a0 k1_24) hx hb hw hown hK hG kd_N fa0 rfl 5 (by decide) (gChI fa0 rfl) tw_743 (fun _ h9 => h9) rfl rfl rfl rfl (Nat.le_of_ble_eq_true rfl) d_N_passTurn_24 (fun S2 H locs eS2 hle1 hG => ?_)
    replace h := h S2 eS2
    have fa0 := gle_isA hle1 fa0
    have leS := leS.tr hle1
    exact gvret hx hb hr hlocks hK hG leS h (Nat.le_of_ble_eq_true rfl) (Nat.le_of_ble_eq_true rfl) d_N_passTurn_27
  refine lv_icmp_ge (tgt := 23) hx hb d_N_passTurn_11 (by decide) (fun hc3 => ?_) (fun hc3 => ?_)
  · replace h := h.1 hc3
    refine lv_iconst (v := 0) hx hb d_N_passTurn_23 (by decide) ?_
    exact k24 0 H locs ls hG (lv_sub hl0 [] rfl) h
  · replace h := h.2 hc3
    refine lv_aload_n hx hb d_N_passTurn_14 rfl (lv_at hl0 0 rfl) ?_
    refine gget hx hb hw hown hK hG kd_N fa0 rfl 5 (by decide) rfl tw_743 (fun _ h9 => h9) d_N_passTurn_15 ?_
    refine lv_iconst (v := 1) hx hb d_N_passTurn_18 (by decide) ?_
    refine lv_iadd hx hb d_N_passTurn_19 ?_
    refine lv_goto (tgt := 24) hx hb d_N_passTurn_20 (by decide) ?_
    exact k24 ((sI S 31 a0) + 1) H locs ls hG (lv_sub hl0 [] rfl) h
def w_N_attend (post : St → Prop) (S : St) (a0 : Nat) (a1 : Option Nat) : Prop :=
  ∃ y1 : Nat, a1 = some y1 ∧ isA S 2 y1 ∧ w_H_distance (fun (r3 : Int32) => ((sI S 10 y1) < 150 → (1 < r3 → ((sI S 26 a0) = (sI S 7 y1) → ∃ J127 : Int32 → Prop, (∀ (k2_127 : Int32), J127 k2_127 → ∀ S6 : St, S6 = pI S 27 a0 ((sI S 27 a0) + k2_127) → post S6) ∧ ((sI S 8 y1) ≤ (sI S 27 a0) → J127 (-1)) ∧ (¬ (sI S 8 y1) ≤ (sI S 27 a0) → J127 1)) ∧ (¬ (sI S 26 a0) = (sI S 7 y1) → ∃ J99 : Int32 → Prop, (∀ (k2_99 : Int32), J99 k2_99 → ∀ S9 : St, S9 = pI S 26 a0 ((sI S 26 a0) + k2_99) → post S9) ∧ ((sI S 7 y1) ≤ (sI S 26 a0) → J99 (-1)) ∧ (¬ (sI S 7 y1) ≤ (sI S 26 a0) → J99 1))) ∧ (¬ 1 < r3 → w_R_windBy (fun (S12 : St) => ∀ S13 : St, S13 = pI S12 32 a0 ((sI S12 32 a0) + 1) → w_N_passTurn (fun (S14 : St) => post S14) S13 a0) S y1 (sI S 28 a0))) ∧ (¬ (sI S 10 y1) < 150 → w_N_passTurn (fun (S16 : St) => post S16) S a0)) S (sI S 26 a0) (sI S 27 a0) (sI S 7 y1) (sI S 8 y1)
set_option maxHeartbeats 4000000 in
set_option maxRecDepth 100000 in
theorem m_N_attend (l : Launch) (x : Cx) (S : St) (post : St → Prop) (a0 : Nat) (a1 : Option Nat) (fa0 : isA S 5 a0) (h : w_N_attend post S a0 a1) : Met l y_N_attend [.code y_N_attend c_N_attend 3 none] { frames := 2, cells := 0, slots := 0, locals := 44 } (va_Pc [.ref a0, va_rf a1] (GW x S)) (va_Qv post (gB x S) (xA x)) 0 0 (xA x) := by
  refine gMet (by decide +kernel) (by simp [lg_sl, gCat, gci1, gcr1, gcl1, gcd1]) ?_
  intro p e s m args below meth c hx hb hr hown hlocks hin hw hK H locs hG ls hlA hml
  have hown : s.vm.findClass "WaltzHall$Winder" = some m.cls := hown
  have hl0 : lv_has ls 3 [(0, .ref a0), (1, va_rf a1)] := hlA
  have leS : gle S S := gle.rf
  unfold w_N_attend at h
  refine lv_aload_n hx hb d_N_attend_0 rfl (lv_at hl0 0 rfl) ?_
  refine gget hx hb hw hown hK hG kd_N fa0 rfl 0 (by decide) rfl tw_734 (fun _ h9 => h9) d_N_attend_1 ?_
  refine lv_aload_n hx hb d_N_attend_4 rfl (lv_at hl0 0 rfl) ?_
  refine gget hx hb hw hown hK hG kd_N fa0 rfl 1 (by decide) rfl tw_736 (fun _ h9 => h9) d_N_attend_5 ?_
  refine gaload_n hx hb d_N_attend_8 rfl (lv_at hl0 1 rfl) ?_
  obtain ⟨y1, ey1, h⟩ := h
  subst ey1
  obtain ⟨f2, h⟩ := h
  refine gget hx hb hw hown hK hG kd_R f2 rfl 1 (by decide) rfl tw_578 (fun _ h9 => h9) d_N_attend_9 ?_
  refine lv_aload_n hx hb d_N_attend_12 rfl (lv_at hl0 1 rfl) ?_
  refine gget hx hb hw hown hK hG kd_R f2 rfl 2 (by decide) rfl tw_582 (fun _ h9 => h9) d_N_attend_13 ?_
  -- call H_distance
  refine gpi hK hG (va_runSN (As := [.int (sI S 26 a0), .int (sI S 27 a0), .int (sI S 7 y1), .int (sI S 8 y1)]) (rest := []) ⟨hx, hb, hml, hown, hw⟩ (m_H_distance l x S _ (sI S 26 a0) (sI S 27 a0) (sI S 7 y1) (sI S 8 y1)  h) ⟨gcn hw tw_674 tw_28 tw_868 hd_H_distance rfl rfl ⟨(Nat.le_of_ble_eq_true rfl), (Nat.le_of_ble_eq_true rfl)⟩, hw _ tw_673, trivial⟩ (gpS hK hG) rfl rfl hl0.1 rfl (lv_room (Nat.le_of_ble_eq_true rfl)) d_N_attend_16 ⟨(Nat.le_of_ble_eq_true rfl), (Nat.le_of_ble_eq_true rfl)⟩) (fun r3 H locs h9 hG => ?_)
  replace h := h9
  clear h9
  refine lv_istore_n (i := 2) (lv' := [(2, .int r3), (0, .ref a0), (1, .ref y1)]) hx hb d_N_attend_19 rfl hl0 (by decide) rfl (fun ls hl4 => ?_)
  refine lv_aload_n hx hb d_N_attend_20 rfl (lv_at hl4 2 rfl) ?_
  refine gget hx hb hw hown hK hG kd_R f2 rfl 4 (by decide) rfl tw_588 (fun _ h9 => h9) d_N_attend_21 ?_
  refine lv_sipush (v := 150) hx hb d_N_attend_24 (by decide) ?_
  refine lv_icmp_lt (tgt := 37) hx hb d_N_attend_27 (by decide) (fun hc17 => ?_) (fun hc17 => ?_)
  · replace h := h.1 hc17
    refine lv_iload_n hx hb d_N_attend_37 rfl (lv_at hl4 0 rfl) ?_
    refine lv_iconst (v := 1) hx hb d_N_attend_38 (by decide) ?_
    refine lv_icmp_gt (tgt := 67) hx hb d_N_attend_39 (by decide) (fun hc15 => ?_) (fun hc15 => ?_)
    · replace h := h.1 hc15
      refine lv_aload_n hx hb d_N_attend_67 rfl (lv_at hl4 1 rfl) ?_
      refine gget hx hb hw hown hK hG kd_N fa0 rfl 0 (by decide) rfl tw_734 (fun _ h9 => h9) d_N_attend_68 ?_
      refine lv_aload_n hx hb d_N_attend_71 rfl (lv_at hl4 2 rfl) ?_
      refine gget hx hb hw hown hK hG kd_R f2 rfl 1 (by decide) rfl tw_578 (fun _ h9 => h9) d_N_attend_72 ?_
      refine lv_icmp_eq (tgt := 106) hx hb d_N_attend_75 (by decide) (fun hc11 => ?_) (fun hc11 => ?_)
      · replace h := h.1 hc11
        refine lv_aload_n hx hb d_N_attend_106 rfl (lv_at hl4 1 rfl) ?_
        refine lv_dup hx hb d_N_attend_107 rfl ?_
        refine gget hx hb hw hown hK hG kd_N fa0 rfl 1 (by decide) rfl tw_736 (fun _ h9 => h9) d_N_attend_108 ?_
        refine lv_aload_n hx hb d_N_attend_111 rfl (lv_at hl4 2 rfl) ?_
        refine gget hx hb hw hown hK hG kd_R f2 rfl 2 (by decide) rfl tw_582 (fun _ h9 => h9) d_N_attend_112 ?_
        refine lv_aload_n hx hb d_N_attend_115 rfl (lv_at hl4 1 rfl) ?_
        refine gget hx hb hw hown hK hG kd_N fa0 rfl 1 (by decide) rfl tw_736 (fun _ h9 => h9) d_N_attend_116 ?_
        obtain ⟨J127, hJ127, h⟩ := h
        have k127 : ∀ (k2_127 : Int32) (H : Heap) (locs : List Loc) (ls : Array Slot), GH x S s H locs → lv_has ls 3 [] → J127 k2_127 → W p l e { frames := 2, cells := 0, slots := 0, locals := 44 } s m args below meth c H locs 0 0 (MQ below (va_Qv post (gB x S) (xA x)) args s 0 0 (xA x)) (F0 m 127 ls [.int k2_127, .int (sI S 27 a0), .ref a0]) := by
          intro k2_127  H locs ls hG hl5 hj
          replace h := hJ127 k2_127 hj
          refine lv_iadd hx hb d_N_attend_127 ?_
          refine gput (S' := pI S 27 a0 ((sI S 27 a0) + k2_127)) hx hb hw hown hK hG kd_N fa0 rfl 1 (by decide) (gChI fa0 rfl) tw_736 (fun _ h9 => h9) rfl rfl rfl rfl (Nat.le_of_ble_eq_true rfl) d_N_attend_128 (fun S6 H locs eS6 hle1 hG => ?_)
          replace h := h S6 eS6
          have fa0 := gle_isA hle1 fa0
          have f2 := gle_isA hle1 f2
          have leS := leS.tr hle1
          exact gvret hx hb hr hlocks hK hG leS h (Nat.le_of_ble_eq_true rfl) (Nat.le_of_ble_eq_true rfl) d_N_attend_131
        refine lv_icmp_le (tgt := 126) hx hb d_N_attend_119 (by decide) (fun hc7 => ?_) (fun hc7 => ?_)
        · replace h := h.1 hc7
          refine lv_iconst (v := (-1)) hx hb d_N_attend_126 (by decide) ?_
          exact k127 (-1) H locs ls hG (lv_sub hl4 [] rfl) h
        · replace h := h.2 hc7
          refine lv_iconst (v := 1) hx hb d_N_attend_122 (by decide) ?_
          refine lv_goto (tgt := 127) hx hb d_N_attend_123 (by decide) ?_
          exact k127 1 H locs ls hG (lv_sub hl4 [] rfl) h
      · replace h := h.2 hc11
        refine lv_aload_n hx hb d_N_attend_78 rfl (lv_at hl4 1 rfl) ?_
        refine lv_dup hx hb d_N_attend_79 rfl ?_
        refine gget hx hb hw hown hK hG kd_N fa0 rfl 0 (by decide) rfl tw_734 (fun _ h9 => h9) d_N_attend_80 ?_
        refine lv_aload_n hx hb d_N_attend_83 rfl (lv_at hl4 2 rfl) ?_
        refine gget hx hb hw hown hK hG kd_R f2 rfl 1 (by decide) rfl tw_578 (fun _ h9 => h9) d_N_attend_84 ?_
        refine lv_aload_n hx hb d_N_attend_87 rfl (lv_at hl4 1 rfl) ?_
        refine gget hx hb hw hown hK hG kd_N fa0 rfl 0 (by decide) rfl tw_734 (fun _ h9 => h9) d_N_attend_88 ?_
        obtain ⟨J99, hJ99, h⟩ := h
        have k99 : ∀ (k2_99 : Int32) (H : Heap) (locs : List Loc) (ls : Array Slot), GH x S s H locs → lv_has ls 3 [] → J99 k2_99 → W p l e { frames := 2, cells := 0, slots := 0, locals := 44 } s m args below meth c H locs 0 0 (MQ below (va_Qv post (gB x S) (xA x)) args s 0 0 (xA x)) (F0 m 99 ls [.int k2_99, .int (sI S 26 a0), .ref a0]) := by
          intro k2_99  H locs ls hG hl8 hj
          replace h := hJ99 k2_99 hj
          refine lv_iadd hx hb d_N_attend_99 ?_
          refine gput (S' := pI S 26 a0 ((sI S 26 a0) + k2_99)) hx hb hw hown hK hG kd_N fa0 rfl 0 (by decide) (gChI fa0 rfl) tw_734 (fun _ h9 => h9) rfl rfl rfl rfl (Nat.le_of_ble_eq_true rfl) d_N_attend_100 (fun S9 H locs eS9 hle1 hG => ?_)
          replace h := h S9 eS9
          have fa0 := gle_isA hle1 fa0
          have f2 := gle_isA hle1 f2
          have leS := leS.tr hle1
          refine lv_goto (tgt := 131) hx hb d_N_attend_103 (by decide) ?_
          exact gvret hx hb hr hlocks hK hG leS h (Nat.le_of_ble_eq_true rfl) (Nat.le_of_ble_eq_true rfl) d_N_attend_131
        refine lv_icmp_le (tgt := 98) hx hb d_N_attend_91 (by decide) (fun hc10 => ?_) (fun hc10 => ?_)
        · replace h := h.1 hc10
          refine lv_iconst (v := (-1)) hx hb d_N_attend_98 (by decide) ?_
          exact k99 (-1) H locs ls hG (lv_sub hl4 [] rfl) h
        · replace h := h.2 hc10
          refine lv_iconst (v := 1) hx hb d_N_attend_94 (by decide) ?_
          refine lv_goto (tgt := 99) hx hb d_N_attend_95 (by decide) ?_
          exact k99 1 H locs ls hG (lv_sub hl4 [] rfl) h
    · replace h := h.2 hc15
      refine lv_aload_n hx hb d_N_attend_42 rfl (lv_at hl4 2 rfl) ?_
      refine lv_aload_n hx hb d_N_attend_43 rfl (lv_at hl4 1 rfl) ?_
      refine gget hx hb hw hown hK hG kd_N fa0 rfl 2 (by decide) rfl tw_738 (fun _ h9 => h9) d_N_attend_44 ?_
      -- call R_windBy
      refine gcv hK hG (va_runV (As := [.int (sI S 28 a0)]) (rest := []) ⟨hx, hb, hml, hown, hw⟩ (m_R_windBy l x S _ y1 (sI S 28 a0) f2 h) ⟨gcb hw tw_702 tw_52 tw_873 hd_R_windBy rfl rfl ⟨(Nat.le_of_ble_eq_true rfl), (Nat.le_of_ble_eq_true rfl)⟩, hw _ tw_700, hw _ tw_701⟩ (gpV hK hG kd_R f2 rfl) rfl rfl hl4.1 rfl (lv_room (Nat.le_of_ble_eq_true rfl)) d_N_attend_47 ⟨(Nat.le_of_ble_eq_true rfl), (Nat.le_of_ble_eq_true rfl)⟩) (fun S12 H locs h9 hle1 hG => ?_)
      replace h := h9
      clear h9
      have fa0 := gle_isA hle1 fa0
      have f2 := gle_isA hle1 f2
      have leS := leS.tr hle1
      refine lv_aload_n hx hb d_N_attend_50 rfl (lv_at hl4 1 rfl) ?_
      refine lv_dup hx hb d_N_attend_51 rfl ?_
      refine gget hx hb hw hown hK hG kd_N fa0 rfl 6 (by decide) rfl tw_744 (fun _ h9 => h9) d_N_attend_52 ?_
      refine lv_iconst (v := 1) hx hb d_N_attend_55 (by decide) ?_
      refine lv_iadd hx hb d_N_attend_56 ?_
      refine gput (S' := pI S12 32 a0 ((sI S12 32 a0) + 1)) hx hb hw hown hK hG kd_N fa0 rfl 6 (by decide) (gChI fa0 rfl) tw_744 (fun _ h9 => h9) rfl rfl rfl rfl (Nat.le_of_ble_eq_true rfl) d_N_attend_57 (fun S13 H locs eS13 hle1 hG => ?_)
      replace h := h S13 eS13
      have fa0 := gle_isA hle1 fa0
      have f2 := gle_isA hle1 f2
      have leS := leS.tr hle1
      refine lv_aload_n hx hb d_N_attend_60 rfl (lv_at hl4 1 rfl) ?_
      -- call N_passTurn
      refine gcv hK hG (va_runV (As := []) (rest := []) ⟨hx, hb, hml, hown, hw⟩ (m_N_passTurn l x S13 _ a0 fa0 h) ⟨gcb hw tw_872 tw_53 tw_869 hd_N_passTurn rfl rfl ⟨(Nat.le_of_ble_eq_true rfl), (Nat.le_of_ble_eq_true rfl)⟩, hw _ tw_871, hw _ tw_11⟩ (gpV hK hG kd_N fa0 rfl) rfl rfl hl4.1 rfl (lv_room (Nat.le_of_ble_eq_true rfl)) d_N_attend_61 ⟨(Nat.le_of_ble_eq_true rfl), (Nat.le_of_ble_eq_true rfl)⟩) (fun S14 H locs h9 hle1 hG => ?_)
      replace h := h9
      clear h9
      have fa0 := gle_isA hle1 fa0
      have f2 := gle_isA hle1 f2
      have leS := leS.tr hle1
      refine lv_goto (tgt := 131) hx hb d_N_attend_64 (by decide) ?_
      exact gvret hx hb hr hlocks hK hG leS h (Nat.le_of_ble_eq_true rfl) (Nat.le_of_ble_eq_true rfl) d_N_attend_131
  · replace h := h.2 hc17
    refine lv_aload_n hx hb d_N_attend_30 rfl (lv_at hl4 1 rfl) ?_
    -- call N_passTurn
    refine gcv hK hG (va_runV (As := []) (rest := []) ⟨hx, hb, hml, hown, hw⟩ (m_N_passTurn l x S _ a0 fa0 h) ⟨gcb hw tw_872 tw_53 tw_869 hd_N_passTurn rfl rfl ⟨(Nat.le_of_ble_eq_true rfl), (Nat.le_of_ble_eq_true rfl)⟩, hw _ tw_871, hw _ tw_11⟩ (gpV hK hG kd_N fa0 rfl) rfl rfl hl4.1 rfl (lv_room (Nat.le_of_ble_eq_true rfl)) d_N_attend_31 ⟨(Nat.le_of_ble_eq_true rfl), (Nat.le_of_ble_eq_true rfl)⟩) (fun S16 H locs h9 hle1 hG => ?_)
    replace h := h9
    clear h9
    have fa0 := gle_isA hle1 fa0
    have f2 := gle_isA hle1 f2
    have leS := leS.tr hle1
    refine lv_goto (tgt := 131) hx hb d_N_attend_34 (by decide) ?_
    exact gvret hx hb hr hlocks hK hG leS h (Nat.le_of_ble_eq_true rfl) (Nat.le_of_ble_eq_true rfl) d_N_attend_131
def w_N_tell (post : Int32 → Prop) (S : St) (a0 : Nat) (a1 : Int32) : Prop :=
  (a1 = 0 → post (sI S 26 a0)) ∧ (a1 = 1 → post (sI S 27 a0)) ∧ (a1 = 2 → post (sI S 28 a0)) ∧ (a1 = 3 → post (sI S 30 a0)) ∧ (a1 = 4 → w_N_whoseTurn (fun (r6 : Int32) => post r6) S a0) ∧ (¬ a1 = 0 → ¬ a1 = 1 → ¬ a1 = 2 → ¬ a1 = 3 → ¬ a1 = 4 → post (sI S 32 a0))
set_option maxHeartbeats 4000000 in
set_option maxRecDepth 100000 in
theorem m_N_tell (l : Launch) (x : Cx) (S : St) (post : Int32 → Prop) (a0 : Nat) (a1 : Int32) (fa0 : isA S 5 a0) (h : w_N_tell post S a0 a1) : Met l y_N_tell [.code y_N_tell c_N_tell 2 (some .int)] { frames := 1, cells := 0, slots := 0, locals := 20 } (va_Pc [.ref a0, .int a1] (GW x S)) (va_Qi (gPu post S) (gB x S) (xA x)) 0 0 (xA x) := by
  refine gMet (by decide +kernel) (Nat.le_of_ble_eq_true rfl) ?_
  intro p e s m args below meth c hx hb hr hown hlocks hin hw hK H locs hG ls hlA hml
  have hown : s.vm.findClass "WaltzHall$Winder" = some m.cls := hown
  have hl0 : lv_has ls 2 [(0, .ref a0), (1, .int a1)] := hlA
  unfold w_N_tell at h
  refine lv_iload_n hx hb d_N_tell_0 rfl (lv_at hl0 1 rfl) ?_
  by_cases hc1 : a1 = 0
  · replace h := h.1 hc1
    refine lv_tableIn (tgt := 36) hx hb d_N_tell_1 (by rw [hc1]; decide) (by rw [hc1]; decide) (by rw [hc1]; rfl) (by decide) ?_
    refine lv_aload_n hx hb d_N_tell_36 rfl (lv_at hl0 0 rfl) ?_
    refine gget hx hb hw hown hK hG kd_N fa0 rfl 0 (by decide) rfl tw_734 (fun _ h9 => h9) d_N_tell_37 ?_
    exact giret hx hb hr hlocks hK hG gle.rf ⟨h, rfl⟩ (Nat.le_of_ble_eq_true rfl) (Nat.le_of_ble_eq_true rfl) d_N_tell_40
  · skip
    by_cases hc2 : a1 = 1
    · replace h := h.2.1 hc2
      refine lv_tableIn (tgt := 41) hx hb d_N_tell_1 (by rw [hc2]; decide) (by rw [hc2]; decide) (by rw [hc2]; rfl) (by decide) ?_
      refine lv_aload_n hx hb d_N_tell_41 rfl (lv_at hl0 0 rfl) ?_
      refine gget hx hb hw hown hK hG kd_N fa0 rfl 1 (by decide) rfl tw_736 (fun _ h9 => h9) d_N_tell_42 ?_
      exact giret hx hb hr hlocks hK hG gle.rf ⟨h, rfl⟩ (Nat.le_of_ble_eq_true rfl) (Nat.le_of_ble_eq_true rfl) d_N_tell_45
    · skip
      by_cases hc3 : a1 = 2
      · replace h := h.2.2.1 hc3
        refine lv_tableIn (tgt := 46) hx hb d_N_tell_1 (by rw [hc3]; decide) (by rw [hc3]; decide) (by rw [hc3]; rfl) (by decide) ?_
        refine lv_aload_n hx hb d_N_tell_46 rfl (lv_at hl0 0 rfl) ?_
        refine gget hx hb hw hown hK hG kd_N fa0 rfl 2 (by decide) rfl tw_738 (fun _ h9 => h9) d_N_tell_47 ?_
        exact giret hx hb hr hlocks hK hG gle.rf ⟨h, rfl⟩ (Nat.le_of_ble_eq_true rfl) (Nat.le_of_ble_eq_true rfl) d_N_tell_50
      · skip
        by_cases hc4 : a1 = 3
        · replace h := h.2.2.2.1 hc4
          refine lv_tableIn (tgt := 51) hx hb d_N_tell_1 (by rw [hc4]; decide) (by rw [hc4]; decide) (by rw [hc4]; rfl) (by decide) ?_
          refine lv_aload_n hx hb d_N_tell_51 rfl (lv_at hl0 0 rfl) ?_
          refine gget hx hb hw hown hK hG kd_N fa0 rfl 4 (by decide) rfl tw_741 (fun _ h9 => h9) d_N_tell_52 ?_
          exact giret hx hb hr hlocks hK hG gle.rf ⟨h, rfl⟩ (Nat.le_of_ble_eq_true rfl) (Nat.le_of_ble_eq_true rfl) d_N_tell_55
        · skip
          by_cases hc5 : a1 = 4
          · replace h := h.2.2.2.2.1 hc5
            refine lv_tableIn (tgt := 56) hx hb d_N_tell_1 (by rw [hc5]; decide) (by rw [hc5]; decide) (by rw [hc5]; rfl) (by decide) ?_
            refine lv_aload_n hx hb d_N_tell_56 rfl (lv_at hl0 0 rfl) ?_
            -- call N_whoseTurn
            refine gpi hK hG (va_runV (As := []) (rest := []) ⟨hx, hb, hml, hown, hw⟩ (m_N_whoseTurn l x S _ a0 fa0 h) ⟨gcb hw tw_350 tw_53 tw_347 hd_N_whoseTurn rfl rfl ⟨(Nat.le_of_ble_eq_true rfl), (Nat.le_of_ble_eq_true rfl)⟩, hw _ tw_348, hw _ tw_349⟩ (gpV hK hG kd_N fa0 rfl) rfl rfl hl0.1 rfl (lv_room (Nat.le_of_ble_eq_true rfl)) d_N_tell_57 ⟨(Nat.le_of_ble_eq_true rfl), (Nat.le_of_ble_eq_true rfl)⟩) (fun r6 H locs h9 hG => ?_)
            replace h := h9
            clear h9
            exact giret hx hb hr hlocks hK hG gle.rf ⟨h, rfl⟩ (Nat.le_of_ble_eq_true rfl) (Nat.le_of_ble_eq_true rfl) d_N_tell_60
          · skip
            replace h := h.2.2.2.2.2 hc1 hc2 hc3 hc4 hc5
            refine lv_tableOut (tgt := 61) hx hb d_N_tell_1 (gtabOut 5 (by decide) (fun j9 hj9 => by
              match j9, hj9 with
              | 0, _ => exact hc1
              | 1, _ => exact hc2
              | 2, _ => exact hc3
              | 3, _ => exact hc4
              | 4, _ => exact hc5
              | k9 + 5, hk9 => exact absurd hk9 (by omega))) (by decide) ?_
            refine lv_aload_n hx hb d_N_tell_61 rfl (lv_at hl0 0 rfl) ?_
            refine gget hx hb hw hown hK hG kd_N fa0 rfl 6 (by decide) rfl tw_744 (fun _ h9 => h9) d_N_tell_62 ?_
            exact giret hx hb hr hlocks hK hG gle.rf ⟨h, rfl⟩ (Nat.le_of_ble_eq_true rfl) (Nat.le_of_ble_eq_true rfl) d_N_tell_65
