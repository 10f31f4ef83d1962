theorem tw_28 : (Jvm.Cond.initialized "WaltzHall") ∈ gG := gmm 28 (by decide +kernel) (by decide +kernel)
theorem tw_40 : (Jvm.Cond.initialized "java/lang/Math") ∈ gG := gmm 40 (by decide +kernel) (by decide +kernel)
theorem tw_52 : (Jvm.Cond.initialized "WaltzHall$Dancer") ∈ gG := gmm 52 (by decide +kernel) (by decide +kernel)
theorem tw_215 : (Jvm.Cond.static ({ cls := "java/lang/Math", name := "max", desc := "(II)I" } : Jvm.MethodName)) ∈ gG := gmm 215 (by decide +kernel) (by decide +kernel)
theorem tw_216 : (Jvm.Cond.code ({ cls := "java/lang/Math", name := "max", desc := "(II)I" } : Jvm.MethodName) prog_20_method_65_code (2 : Nat) (Option.some Jvm.ClassFile.FieldType.int)) ∈ gG := gmm 216 (by decide +kernel) (by decide +kernel)
theorem tw_247 : (Jvm.Cond.static ({ cls := "java/lang/Math", name := "min", desc := "(II)I" } : Jvm.MethodName)) ∈ gG := gmm 247 (by decide +kernel) (by decide +kernel)
theorem tw_248 : (Jvm.Cond.code ({ cls := "java/lang/Math", name := "min", desc := "(II)I" } : Jvm.MethodName) prog_20_method_69_code (2 : Nat) (Option.some Jvm.ClassFile.FieldType.int)) ∈ gG := gmm 248 (by decide +kernel) (by decide +kernel)
theorem tw_327 : (Jvm.Cond.instanceMethod ({ cls := "WaltzHall$Dancer", name := "isSpent", desc := "()Z" } : Jvm.MethodName)) ∈ gG := gmm 327 (by decide +kernel) (by decide +kernel)
theorem tw_328 : (Jvm.Cond.selects "WaltzHall$Dancer" ({ cls := "WaltzHall$Dancer", name := "isSpent", desc := "()Z" } : Jvm.MethodName) ({ cls := "WaltzHall$Dancer", name := "isSpent", desc := "()Z" } : Jvm.MethodName)) ∈ gG := gmm 328 (by decide +kernel) (by decide +kernel)
theorem tw_329 : (Jvm.Cond.code ({ cls := "WaltzHall$Dancer", name := "isSpent", desc := "()Z" } : Jvm.MethodName) prog_3_method_5_code (1 : Nat) (Option.some Jvm.ClassFile.FieldType.boolean)) ∈ gG := gmm 329 (by decide +kernel) (by decide +kernel)
theorem tw_497 : (Jvm.Cond.methodLink "WaltzHall" (288 : Nat) ({ cls := "WaltzHall", name := "isWalk", desc := "(I)Z" } : Jvm.MethodName)) ∈ gG := gmm 497 (by decide +kernel) (by decide +kernel)
theorem tw_498 : (Jvm.Cond.static ({ cls := "WaltzHall", name := "isWalk", desc := "(I)Z" } : Jvm.MethodName)) ∈ gG := gmm 498 (by decide +kernel) (by decide +kernel)
theorem tw_499 : (Jvm.Cond.code ({ cls := "WaltzHall", name := "isWalk", desc := "(I)Z" } : Jvm.MethodName) prog_1_method_34_code (1 : Nat) (Option.some Jvm.ClassFile.FieldType.boolean)) ∈ gG := gmm 499 (by decide +kernel) (by decide +kernel)
theorem tw_500 : (Jvm.Cond.methodLink "WaltzHall" (292 : Nat) ({ cls := "WaltzHall", name := "quartersTurnedBy", desc := "(I)I" } : Jvm.MethodName)) ∈ gG := gmm 500 (by decide +kernel) (by decide +kernel)
theorem tw_501 : (Jvm.Cond.static ({ cls := "WaltzHall", name := "quartersTurnedBy", desc := "(I)I" } : Jvm.MethodName)) ∈ gG := gmm 501 (by decide +kernel) (by decide +kernel)
theorem tw_502 : (Jvm.Cond.code ({ cls := "WaltzHall", name := "quartersTurnedBy", desc := "(I)I" } : Jvm.MethodName) prog_1_method_37_code (1 : Nat) (Option.some Jvm.ClassFile.FieldType.int)) ∈ gG := gmm 502 (by decide +kernel) (by decide +kernel)
theorem tw_537 : (Jvm.Cond.static ({ cls := "WaltzHall", name := "turned", desc := "(II)I" } : Jvm.MethodName)) ∈ gG := gmm 537 (by decide +kernel) (by decide +kernel)
theorem tw_538 : (Jvm.Cond.code ({ cls := "WaltzHall", name := "turned", desc := "(II)I" } : Jvm.MethodName) prog_1_method_31_code (2 : Nat) (Option.some Jvm.ClassFile.FieldType.int)) ∈ gG := gmm 538 (by decide +kernel) (by decide +kernel)
theorem tw_539 : (Jvm.Cond.methodLink "WaltzHall" (284 : Nat) ({ cls := "java/lang/Math", name := "floorMod", desc := "(II)I" } : Jvm.MethodName)) ∈ gG := gmm 539 (by decide +kernel) (by decide +kernel)
theorem tw_540 : (Jvm.Cond.static ({ cls := "java/lang/Math", name := "floorMod", desc := "(II)I" } : Jvm.MethodName)) ∈ gG := gmm 540 (by decide +kernel) (by decide +kernel)
theorem tw_541 : (Jvm.Cond.code ({ cls := "java/lang/Math", name := "floorMod", desc := "(II)I" } : Jvm.MethodName) prog_20_method_50_code (3 : Nat) (Option.some Jvm.ClassFile.FieldType.int)) ∈ gG := gmm 541 (by decide +kernel) (by decide +kernel)
theorem tw_543 : (Jvm.Cond.static ({ cls := "WaltzHall", name := "columnStep", desc := "(I)I" } : Jvm.MethodName)) ∈ gG := gmm 543 (by decide +kernel) (by decide +kernel)
theorem tw_544 : (Jvm.Cond.code ({ cls := "WaltzHall", name := "columnStep", desc := "(I)I" } : Jvm.MethodName) prog_1_method_32_code (1 : Nat) (Option.some Jvm.ClassFile.FieldType.int)) ∈ gG := gmm 544 (by decide +kernel) (by decide +kernel)
theorem tw_546 : (Jvm.Cond.static ({ cls := "WaltzHall", name := "rowStep", desc := "(I)I" } : Jvm.MethodName)) ∈ gG := gmm 546 (by decide +kernel) (by decide +kernel)
theorem tw_547 : (Jvm.Cond.code ({ cls := "WaltzHall", name := "rowStep", desc := "(I)I" } : Jvm.MethodName) prog_1_method_33_code (1 : Nat) (Option.some Jvm.ClassFile.FieldType.int)) ∈ gG := gmm 547 (by decide +kernel) (by decide +kernel)
theorem tw_560 : (Jvm.Cond.static ({ cls := "WaltzHall", name := "isOnFloor", desc := "(II)Z" } : Jvm.MethodName)) ∈ gG := gmm 560 (by decide +kernel) (by decide +kernel)
theorem tw_561 : (Jvm.Cond.code ({ cls := "WaltzHall", name := "isOnFloor", desc := "(II)Z" } : Jvm.MethodName) prog_1_method_29_code (2 : Nat) (Option.some Jvm.ClassFile.FieldType.boolean)) ∈ gG := gmm 561 (by decide +kernel) (by decide +kernel)
theorem tw_576 : (Jvm.Cond.fieldLink "WaltzHall$Dancer" (25 : Nat) "WaltzHall$Dancer" "x" "I") ∈ gG := gmm 576 (by decide +kernel) (by decide +kernel)
theorem tw_580 : (Jvm.Cond.fieldLink "WaltzHall$Dancer" (28 : Nat) "WaltzHall$Dancer" "y" "I") ∈ gG := gmm 580 (by decide +kernel) (by decide +kernel)
theorem tw_584 : (Jvm.Cond.fieldLink "WaltzHall$Dancer" (31 : Nat) "WaltzHall$Dancer" "face" "I") ∈ gG := gmm 584 (by decide +kernel) (by decide +kernel)
theorem tw_587 : (Jvm.Cond.fieldLink "WaltzHall$Dancer" (9 : Nat) "WaltzHall$Dancer" "spring" "I") ∈ gG := gmm 587 (by decide +kernel) (by decide +kernel)
theorem tw_590 : (Jvm.Cond.fieldLink "WaltzHall$Dancer" (15 : Nat) "WaltzHall$Dancer" "cost" "I") ∈ gG := gmm 590 (by decide +kernel) (by decide +kernel)
theorem tw_592 : (Jvm.Cond.fieldLink "WaltzHall$Dancer" (21 : Nat) "WaltzHall$Dancer" "dance" "LWaltzHall$Dance;") ∈ gG := gmm 592 (by decide +kernel) (by decide +kernel)
theorem tw_595 : (Jvm.Cond.fieldLink "WaltzHall$Dancer" (34 : Nat) "WaltzHall$Dancer" "place" "I") ∈ gG := gmm 595 (by decide +kernel) (by decide +kernel)
theorem tw_598 : (Jvm.Cond.fieldLink "WaltzHall$Dancer" (50 : Nat) "WaltzHall$Dancer" "partner" "LWaltzHall$Dancer;") ∈ gG := gmm 598 (by decide +kernel) (by decide +kernel)
theorem tw_601 : (Jvm.Cond.fieldLink "WaltzHall$Dancer" (37 : Nat) "WaltzHall$Dancer" "follows" "Z") ∈ gG := gmm 601 (by decide +kernel) (by decide +kernel)
theorem tw_604 : (Jvm.Cond.fieldLink "WaltzHall$Dancer" (41 : Nat) "WaltzHall$Dancer" "dizzy" "I") ∈ gG := gmm 604 (by decide +kernel) (by decide +kernel)
theorem tw_606 : (Jvm.Cond.fieldLink "WaltzHall$Dancer" (44 : Nat) "WaltzHall$Dancer" "figuresDone" "I") ∈ gG := gmm 606 (by decide +kernel) (by decide +kernel)
theorem tw_607 : (Jvm.Cond.fieldLink "WaltzHall$Dancer" (47 : Nat) "WaltzHall$Dancer" "bumps" "I") ∈ gG := gmm 607 (by decide +kernel) (by decide +kernel)
theorem tw_609 : (Jvm.Cond.fieldLink "WaltzHall$Dancer" (71 : Nat) "WaltzHall$Dancer" "goalX" "I") ∈ gG := gmm 609 (by decide +kernel) (by decide +kernel)
theorem tw_611 : (Jvm.Cond.fieldLink "WaltzHall$Dancer" (74 : Nat) "WaltzHall$Dancer" "goalY" "I") ∈ gG := gmm 611 (by decide +kernel) (by decide +kernel)
theorem tw_672 : (Jvm.Cond.methodLinkNest "WaltzHall$Dancer" (54 : Nat) ({ cls := "WaltzHall", name := "distance", desc := "(IIII)I" } : Jvm.MethodName) "WaltzHall") ∈ gG := gmm 672 (by decide +kernel) (by decide +kernel)
theorem tw_673 : (Jvm.Cond.static ({ cls := "WaltzHall", name := "distance", desc := "(IIII)I" } : Jvm.MethodName)) ∈ gG := gmm 673 (by decide +kernel) (by decide +kernel)
theorem tw_674 : (Jvm.Cond.code ({ cls := "WaltzHall", name := "distance", desc := "(IIII)I" } : Jvm.MethodName) prog_1_method_30_code (4 : Nat) (Option.some Jvm.ClassFile.FieldType.int)) ∈ gG := gmm 674 (by decide +kernel) (by decide +kernel)
theorem tw_675 : (Jvm.Cond.methodLink "WaltzHall" (279 : Nat) ({ cls := "java/lang/Math", name := "abs", desc := "(I)I" } : Jvm.MethodName)) ∈ gG := gmm 675 (by decide +kernel) (by decide +kernel)
theorem tw_676 : (Jvm.Cond.static ({ cls := "java/lang/Math", name := "abs", desc := "(I)I" } : Jvm.MethodName)) ∈ gG := gmm 676 (by decide +kernel) (by decide +kernel)
theorem tw_677 : (Jvm.Cond.code ({ cls := "java/lang/Math", name := "abs", desc := "(I)I" } : Jvm.MethodName) prog_20_method_59_code (1 : Nat) (Option.some Jvm.ClassFile.FieldType.int)) ∈ gG := gmm 677 (by decide +kernel) (by decide +kernel)
theorem tw_703 : (Jvm.Cond.methodLink "WaltzHall$Dancer" (62 : Nat) ({ cls := "java/lang/Math", name := "min", desc := "(II)I" } : Jvm.MethodName)) ∈ gG := gmm 703 (by decide +kernel) (by decide +kernel)
theorem tw_704 : (Jvm.Cond.methodLink "WaltzHall$Dancer" (68 : Nat) ({ cls := "java/lang/Math", name := "max", desc := "(II)I" } : Jvm.MethodName)) ∈ gG := gmm 704 (by decide +kernel) (by decide +kernel)
theorem tw_807 : (Jvm.Cond.methodLink "WaltzHall$Dancer" (58 : Nat) ({ cls := "WaltzHall$Dancer", name := "isSpent", desc := "()Z" } : Jvm.MethodName)) ∈ gG := gmm 807 (by decide +kernel) (by decide +kernel)
theorem tw_821 : (Jvm.Cond.instanceMethod ({ cls := "WaltzHall$Dancer", name := "aimAt", desc := "(II)V" } : Jvm.MethodName)) ∈ gG := gmm 821 (by decide +kernel) (by decide +kernel)
theorem tw_822 : (Jvm.Cond.selects "WaltzHall$Dancer" ({ cls := "WaltzHall$Dancer", name := "aimAt", desc := "(II)V" } : Jvm.MethodName) ({ cls := "WaltzHall$Dancer", name := "aimAt", desc := "(II)V" } : Jvm.MethodName)) ∈ gG := gmm 822 (by decide +kernel) (by decide +kernel)
theorem tw_823 : (Jvm.Cond.code ({ cls := "WaltzHall$Dancer", name := "aimAt", desc := "(II)V" } : Jvm.MethodName) prog_3_method_8_code (3 : Nat) (Option.none : Option Jvm.ClassFile.FieldType)) ∈ gG := gmm 823 (by decide +kernel) (by decide +kernel)
theorem tw_831 : (Jvm.Cond.methodLinkNest "WaltzHall$Dancer" (77 : Nat) ({ cls := "WaltzHall", name := "columnStep", desc := "(I)I" } : Jvm.MethodName) "WaltzHall") ∈ gG := gmm 831 (by decide +kernel) (by decide +kernel)
theorem tw_832 : (Jvm.Cond.methodLinkNest "WaltzHall$Dancer" (81 : Nat) ({ cls := "WaltzHall", name := "rowStep", desc := "(I)I" } : Jvm.MethodName) "WaltzHall") ∈ gG := gmm 832 (by decide +kernel) (by decide +kernel)
theorem tw_833 : (Jvm.Cond.methodLink "WaltzHall$Dancer" (84 : Nat) ({ cls := "WaltzHall$Dancer", name := "aimAt", desc := "(II)V" } : Jvm.MethodName)) ∈ gG := gmm 833 (by decide +kernel) (by decide +kernel)
theorem tw_848 : (Jvm.Cond.methodLinkNest "WaltzHall$Dancer" (88 : Nat) ({ cls := "WaltzHall", name := "isOnFloor", desc := "(II)Z" } : Jvm.MethodName) "WaltzHall") ∈ gG := gmm 848 (by decide +kernel) (by decide +kernel)
theorem tw_860 : (Jvm.Cond.methodLinkNest "WaltzHall$Dancer" (92 : Nat) ({ cls := "WaltzHall", name := "turned", desc := "(II)I" } : Jvm.MethodName) "WaltzHall") ∈ gG := gmm 860 (by decide +kernel) (by decide +kernel)
theorem hd_H_columnStep : y_H_columnStep.cls ≠ "java/lang/invoke/MethodHandle" ∧ y_H_columnStep.cls ≠ "java/lang/invoke/VarHandle" ∧ (parseMethodDescriptor y_H_columnStep.desc).map (fun d => d.parameters.length) = some 1 := by decide +kernel
theorem hd_H_distance : y_H_distance.cls ≠ "java/lang/invoke/MethodHandle" ∧ y_H_distance.cls ≠ "java/lang/invoke/VarHandle" ∧ (parseMethodDescriptor y_H_distance.desc).map (fun d => d.parameters.length) = some 4 := by decide +kernel
theorem hd_H_isOnFloor : y_H_isOnFloor.cls ≠ "java/lang/invoke/MethodHandle" ∧ y_H_isOnFloor.cls ≠ "java/lang/invoke/VarHandle" ∧ (parseMethodDescriptor y_H_isOnFloor.desc).map (fun d => d.parameters.length) = some 2 := by decide +kernel
theorem hd_H_isWalk : y_H_isWalk.cls ≠ "java/lang/invoke/MethodHandle" ∧ y_H_isWalk.cls ≠ "java/lang/invoke/VarHandle" ∧ (parseMethodDescriptor y_H_isWalk.desc).map (fun d => d.parameters.length) = some 1 := by decide +kernel
theorem hd_H_quartersTurnedBy : y_H_quartersTurnedBy.cls ≠ "java/lang/invoke/MethodHandle" ∧ y_H_quartersTurnedBy.cls ≠ "java/lang/invoke/VarHandle" ∧ (parseMethodDescriptor y_H_quartersTurnedBy.desc).map (fun d => d.parameters.length) = some 1 := by decide +kernel
theorem hd_H_rowStep : y_H_rowStep.cls ≠ "java/lang/invoke/MethodHandle" ∧ y_H_rowStep.cls ≠ "java/lang/invoke/VarHandle" ∧ (parseMethodDescriptor y_H_rowStep.desc).map (fun d => d.parameters.length) = some 1 := by decide +kernel
theorem hd_H_turned : y_H_turned.cls ≠ "java/lang/invoke/MethodHandle" ∧ y_H_turned.cls ≠ "java/lang/invoke/VarHandle" ∧ (parseMethodDescriptor y_H_turned.desc).map (fun d => d.parameters.length) = some 2 := by decide +kernel
theorem hd_MA_floorMod : y_MA_floorMod.cls ≠ "java/lang/invoke/MethodHandle" ∧ y_MA_floorMod.cls ≠ "java/lang/invoke/VarHandle" ∧ (parseMethodDescriptor y_MA_floorMod.desc).map (fun d => d.parameters.length) = some 2 := by decide +kernel
theorem hd_R_aimAt : y_R_aimAt.cls ≠ "java/lang/invoke/MethodHandle" ∧ y_R_aimAt.cls ≠ "java/lang/invoke/VarHandle" ∧ (parseMethodDescriptor y_R_aimAt.desc).map (fun d => d.parameters.length) = some 2 := by decide +kernel
theorem hd_R_isSpent : y_R_isSpent.cls ≠ "java/lang/invoke/MethodHandle" ∧ y_R_isSpent.cls ≠ "java/lang/invoke/VarHandle" ∧ (parseMethodDescriptor y_R_isSpent.desc).map (fun d => d.parameters.length) = some 0 := by decide +kernel
def w_H_isWalk (post : Int32 → Prop) (S : St) (a0 : Int32) : Prop :=
  (a0 = 102 → post 1) ∧ (¬ a0 = 102 → (a0 = 114 → post 1) ∧ (¬ a0 = 114 → (a0 = 98 → post 1) ∧ (¬ a0 = 98 → (a0 = 108 → post 1) ∧ (¬ a0 = 108 → post 0))))
set_option maxHeartbeats 4000000 in
set_option maxRecDepth 100000 in
theorem m_H_isWalk (l : Launch) (x : Cx) (S : St) (post : Int32 → Prop) (a0 : Int32) (h : w_H_isWalk post S a0) : Met l y_H_isWalk [.code y_H_isWalk c_H_isWalk 1 (some .boolean)] { frames := 0, cells := 0, slots := 0, locals := 0 } (va_Pc [.int a0] (GW x S)) (va_Qi (gPu post S) (gB x S) (xA x)) 0 0 (xA x) := by
  refine gMet (by decide +kernel) (Nat.le_of_ble_eq_true rfl) ?_
  intro p e s m args below meth c hx hb hr hown hlocks hin hw hK H locs hG ls hlA hml
  have hown : s.vm.findClass "WaltzHall" = some m.cls := hown
  have hl0 : lv_has ls 1 [(0, .int a0)] := hlA
  unfold w_H_isWalk at h
  refine lv_iload_n hx hb d_H_isWalk_0 rfl (lv_at hl0 0 rfl) ?_
  refine lv_bipush (v := 102) hx hb d_H_isWalk_1 (by decide) ?_
  refine lv_icmp_eq (tgt := 24) hx hb d_H_isWalk_3 (by decide) (fun hc4 => ?_) (fun hc4 => ?_)
  · replace h := h.1 hc4
    refine lv_iconst (v := 1) hx hb d_H_isWalk_24 (by decide) ?_
    refine lv_goto (tgt := 29) hx hb d_H_isWalk_25 (by decide) ?_
    exact gzret hx hb hr rfl hlocks hK hG gle.rf ⟨h, rfl⟩ (Nat.le_of_ble_eq_true rfl) (Nat.le_of_ble_eq_true rfl) d_H_isWalk_29
  · replace h := h.2 hc4
    refine lv_iload_n hx hb d_H_isWalk_6 rfl (lv_at hl0 0 rfl) ?_
    refine lv_bipush (v := 114) hx hb d_H_isWalk_7 (by decide) ?_
    refine lv_icmp_eq (tgt := 24) hx hb d_H_isWalk_9 (by decide) (fun hc3 => ?_) (fun hc3 => ?_)
    · replace h := h.1 hc3
      refine lv_iconst (v := 1) hx hb d_H_isWalk_24 (by decide) ?_
      refine lv_goto (tgt := 29) hx hb d_H_isWalk_25 (by decide) ?_
      exact gzret hx hb hr rfl hlocks hK hG gle.rf ⟨h, rfl⟩ (Nat.le_of_ble_eq_true rfl) (Nat.le_of_ble_eq_true rfl) d_H_isWalk_29
    · replace h := h.2 hc3
      refine lv_iload_n hx hb d_H_isWalk_12 rfl (lv_at hl0 0 rfl) ?_
      refine lv_bipush (v := 98) hx hb d_H_isWalk_13 (by decide) ?_
      refine lv_icmp_eq (tgt := 24) hx hb d_H_isWalk_15 (by decide) (fun hc2 => ?_) (fun hc2 => ?_)
      · replace h := h.1 hc2
        refine lv_iconst (v := 1) hx hb d_H_isWalk_24 (by decide) ?_
        refine lv_goto (tgt := 29) hx hb d_H_isWalk_25 (by decide) ?_
        exact gzret hx hb hr rfl hlocks hK hG gle.rf ⟨h, rfl⟩ (Nat.le_of_ble_eq_true rfl) (Nat.le_of_ble_eq_true rfl) d_H_isWalk_29
      · replace h := h.2 hc2
        refine lv_iload_n hx hb d_H_isWalk_18 rfl (lv_at hl0 0 rfl) ?_
        refine lv_bipush (v := 108) hx hb d_H_isWalk_19 (by decide) ?_
        refine lv_icmp_ne (tgt := 28) hx hb d_H_isWalk_21 (by decide) (fun hc1 => ?_) (fun hc1 => ?_)
        · replace h := h.2 hc1
          refine lv_iconst (v := 0) hx hb d_H_isWalk_28 (by decide) ?_
          exact gzret hx hb hr rfl hlocks hK hG gle.rf ⟨h, rfl⟩ (Nat.le_of_ble_eq_true rfl) (Nat.le_of_ble_eq_true rfl) d_H_isWalk_29
        · replace h := h.1 hc1
          refine lv_iconst (v := 1) hx hb d_H_isWalk_24 (by decide) ?_
          refine lv_goto (tgt := 29) hx hb d_H_isWalk_25 (by decide) ?_
          exact gzret hx hb hr rfl hlocks hK hG gle.rf ⟨h, rfl⟩ (Nat.le_of_ble_eq_true rfl) (Nat.le_of_ble_eq_true rfl) d_H_isWalk_29
def w_H_quartersTurnedBy (post : Int32 → Prop) (S : St) (a0 : Int32) : Prop :=
  (a0 = 116 → post 1) ∧ (¬ a0 = 116 → (a0 = 117 → post (-1)) ∧ (¬ a0 = 117 → post 0))
set_option maxHeartbeats 4000000 in
set_option maxRecDepth 100000 in
theorem m_H_quartersTurnedBy (l : Launch) (x : Cx) (S : St) (post : Int32 → Prop) (a0 : Int32) (h : w_H_quartersTurnedBy post S a0) : Met l y_H_quartersTurnedBy [.code y_H_quartersTurnedBy c_H_quartersTurnedBy 1 (some .int)] { frames := 0, cells := 0, slots := 0, locals := 0 } (va_Pc [.int a0] (GW x S)) (va_Qi (gPu post S) (gB x S) (xA x)) 0 0 (xA x) := by
  refine gMet (by decide +kernel) (Nat.le_of_ble_eq_true rfl) ?_
  intro p e s m args below meth c hx hb hr hown hlocks hin hw hK H locs hG ls hlA hml
  have hown : s.vm.findClass "WaltzHall" = some m.cls := hown
  have hl0 : lv_has ls 1 [(0, .int a0)] := hlA
  unfold w_H_quartersTurnedBy at h
  refine lv_iload_n hx hb d_H_quartersTurnedBy_0 rfl (lv_at hl0 0 rfl) ?_
  refine lv_bipush (v := 116) hx hb d_H_quartersTurnedBy_1 (by decide) ?_
  refine lv_icmp_ne (tgt := 10) hx hb d_H_quartersTurnedBy_3 (by decide) (fun hc2 => ?_) (fun hc2 => ?_)
  · replace h := h.2 hc2
    refine lv_iload_n hx hb d_H_quartersTurnedBy_10 rfl (lv_at hl0 0 rfl) ?_
    refine lv_bipush (v := 117) hx hb d_H_quartersTurnedBy_11 (by decide) ?_
    refine lv_icmp_ne (tgt := 20) hx hb d_H_quartersTurnedBy_13 (by decide) (fun hc1 => ?_) (fun hc1 => ?_)
    · replace h := h.2 hc1
      refine lv_iconst (v := 0) hx hb d_H_quartersTurnedBy_20 (by decide) ?_
      exact giret hx hb hr hlocks hK hG gle.rf ⟨h, rfl⟩ (Nat.le_of_ble_eq_true rfl) (Nat.le_of_ble_eq_true rfl) d_H_quartersTurnedBy_21
    · replace h := h.1 hc1
      refine lv_iconst (v := (-1)) hx hb d_H_quartersTurnedBy_16 (by decide) ?_
      refine lv_goto (tgt := 21) hx hb d_H_quartersTurnedBy_17 (by decide) ?_
      exact giret hx hb hr hlocks hK hG gle.rf ⟨h, rfl⟩ (Nat.le_of_ble_eq_true rfl) (Nat.le_of_ble_eq_true rfl) d_H_quartersTurnedBy_21
  · replace h := h.1 hc2
    refine lv_iconst (v := 1) hx hb d_H_quartersTurnedBy_6 (by decide) ?_
    refine lv_goto (tgt := 21) hx hb d_H_quartersTurnedBy_7 (by decide) ?_
    exact giret hx hb hr hlocks hK hG gle.rf ⟨h, rfl⟩ (Nat.le_of_ble_eq_true rfl) (Nat.le_of_ble_eq_true rfl) d_H_quartersTurnedBy_21
def w_H_isFigure (post : Int32 → Prop) (S : St) (a0 : Int32) : Prop :=
  w_H_isWalk (fun (r1 : Int32) => (r1 = 0 → w_H_quartersTurnedBy (fun (r2 : Int32) => (r2 = 0 → (a0 = 115 → post 1) ∧ (¬ a0 = 115 → (a0 = 119 → post 1) ∧ (¬ a0 = 119 → post 0))) ∧ (¬ r2 = 0 → post 1)) S a0) ∧ (¬ r1 = 0 → post 1)) S a0
set_option maxHeartbeats 4000000 in
set_option maxRecDepth 100000 in
theorem m_H_isFigure (l : Launch) (x : Cx) (S : St) (post : Int32 → Prop) (a0 : Int32) (h : w_H_isFigure post S a0) : Met l y_H_isFigure [.code y_H_isFigure c_H_isFigure 1 (some .boolean)] { frames := 1, cells := 0, slots := 0, locals := 20 } (va_Pc [.int a0] (GW x S)) (va_Qi (gPu post S) (gB x S) (xA x)) 0 0 (xA x) := by
  refine gMet (by decide +kernel) (Nat.le_of_ble_eq_true rfl) ?_
  intro p e s m args below meth c hx hb hr hown hlocks hin hw hK H locs hG ls hlA hml
  have hown : s.vm.findClass "WaltzHall" = some m.cls := hown
  have hl0 : lv_has ls 1 [(0, .int a0)] := hlA
  unfold w_H_isFigure at h
  refine lv_iload_n hx hb d_H_isFigure_0 rfl (lv_at hl0 0 rfl) ?_
  -- call H_isWalk
  refine gpi hK hG (va_runS (As := [.int a0]) (rest := []) ⟨hx, hb, hml, hown, hw⟩ (m_H_isWalk l x S _ a0  h) ⟨gcb hw tw_499 tw_28 tw_497 hd_H_isWalk rfl rfl ⟨(Nat.le_of_ble_eq_true rfl), (Nat.le_of_ble_eq_true rfl)⟩, hw _ tw_498⟩ (gpS hK hG) rfl rfl hl0.1 rfl (lv_room (Nat.le_of_ble_eq_true rfl)) d_H_isFigure_1 ⟨(Nat.le_of_ble_eq_true rfl), (Nat.le_of_ble_eq_true rfl)⟩) (fun r1 H locs h9 hG => ?_)
  replace h := h9
  clear h9
  refine lv_if_ne (tgt := 26) hx hb d_H_isFigure_4 (by decide) (fun hc6 => ?_) (fun hc6 => ?_)
  · replace h := h.2 hc6
    refine lv_iconst (v := 1) hx hb d_H_isFigure_26 (by decide) ?_
    refine lv_goto (tgt := 31) hx hb d_H_isFigure_27 (by decide) ?_
    exact gzret hx hb hr rfl hlocks hK hG gle.rf ⟨h, rfl⟩ (Nat.le_of_ble_eq_true rfl) (Nat.le_of_ble_eq_true rfl) d_H_isFigure_31
  · replace h := h.1 hc6
    refine lv_iload_n hx hb d_H_isFigure_7 rfl (lv_at hl0 0 rfl) ?_
    -- call H_quartersTurnedBy
    refine gpi hK hG (va_runS (As := [.int a0]) (rest := []) ⟨hx, hb, hml, hown, hw⟩ (m_H_quartersTurnedBy l x S _ a0  h) ⟨gcb hw tw_502 tw_28 tw_500 hd_H_quartersTurnedBy rfl rfl ⟨(Nat.le_of_ble_eq_true rfl), (Nat.le_of_ble_eq_true rfl)⟩, hw _ tw_501⟩ (gpS hK hG) rfl rfl hl0.1 rfl (lv_room (Nat.le_of_ble_eq_true rfl)) d_H_isFigure_8 ⟨(Nat.le_of_ble_eq_true rfl), (Nat.le_of_ble_eq_true rfl)⟩) (fun r2 H locs h9 hG => ?_)
    replace h := h9
    clear h9
    refine lv_if_ne (tgt := 26) hx hb d_H_isFigure_11 (by decide) (fun hc5 => ?_) (fun hc5 => ?_)
    · replace h := h.2 hc5
      refine lv_iconst (v := 1) hx hb d_H_isFigure_26 (by decide) ?_
      refine lv_goto (tgt := 31) hx hb d_H_isFigure_27 (by decide) ?_
      exact gzret hx hb hr rfl hlocks hK hG gle.rf ⟨h, rfl⟩ (Nat.le_of_ble_eq_true rfl) (Nat.le_of_ble_eq_true rfl) d_H_isFigure_31
    · replace h := h.1 hc5
      refine lv_iload_n hx hb d_H_isFigure_14 rfl (lv_at hl0 0 rfl) ?_
      refine lv_bipush (v := 115) hx hb d_H_isFigure_15 (by decide) ?_
      refine lv_icmp_eq (tgt := 26) hx hb d_H_isFigure_17 (by decide) (fun hc4 => ?_) (fun hc4 => ?_)
      · replace h := h.1 hc4
        refine lv_iconst (v := 1) hx hb d_H_isFigure_26 (by decide) ?_
        refine lv_goto (tgt := 31) hx hb d_H_isFigure_27 (by decide) ?_
        exact gzret hx hb hr rfl hlocks hK hG gle.rf ⟨h, rfl⟩ (Nat.le_of_ble_eq_true rfl) (Nat.le_of_ble_eq_true rfl) d_H_isFigure_31
      · replace h := h.2 hc4
        refine lv_iload_n hx hb d_H_isFigure_20 rfl (lv_at hl0 0 rfl) ?_
        refine lv_bipush (v := 119) hx hb d_H_isFigure_21 (by decide) ?_
        refine lv_icmp_ne (tgt := 30) hx hb d_H_isFigure_23 (by decide) (fun hc3 => ?_) (fun hc3 => ?_)
        · replace h := h.2 hc3
          refine lv_iconst (v := 0) hx hb d_H_isFigure_30 (by decide) ?_
          exact gzret hx hb hr rfl hlocks hK hG gle.rf ⟨h, rfl⟩ (Nat.le_of_ble_eq_true rfl) (Nat.le_of_ble_eq_true rfl) d_H_isFigure_31
        · replace h := h.1 hc3
          refine lv_iconst (v := 1) hx hb d_H_isFigure_26 (by decide) ?_
          refine lv_goto (tgt := 31) hx hb d_H_isFigure_27 (by decide) ?_
          exact gzret hx hb hr rfl hlocks hK hG gle.rf ⟨h, rfl⟩ (Nat.le_of_ble_eq_true rfl) (Nat.le_of_ble_eq_true rfl) d_H_isFigure_31
def w_MA_floorMod (post : Int32 → Prop) (S : St) (a0 : Int32) (a1 : Int32) : Prop :=
  ¬ a1 = 0 ∧ ∀ v2 : Int32, v2 = a0 - a0 / a1 * a1 → (0 ≤ (a0 ^^^ a1) → post v2) ∧ (¬ 0 ≤ (a0 ^^^ a1) → (v2 = 0 → post v2) ∧ (¬ v2 = 0 → post (v2 + a1)))
set_option maxHeartbeats 4000000 in
set_option maxRecDepth 100000 in
theorem m_MA_floorMod (l : Launch) (x : Cx) (S : St) (post : Int32 → Prop) (a0 : Int32) (a1 : Int32) (h : w_MA_floorMod post S a0 a1) : Met l y_MA_floorMod [.code y_MA_floorMod c_MA_floorMod 3 (some .int)] { frames := 0, cells := 0, slots := 0, locals := 0 } (va_Pc [.int a0, .int a1] (GW x S)) (va_Qi (gPu post S) (gB x S) (xA x)) 0 0 (xA x) := by
  refine gMet (by decide +kernel) (Nat.le_of_ble_eq_true rfl) ?_
  intro p e s m args below meth c hx hb hr hown hlocks hin hw hK H locs hG ls hlA hml
  have hown : s.vm.findClass "java/lang/Math" = some m.cls := hown
  have hl0 : lv_has ls 3 [(0, .int a0), (1, .int a1)] := hlA
  unfold w_MA_floorMod at h
  refine lv_iload_n hx hb d_MA_floorMod_0 rfl (lv_at hl0 0 rfl) ?_
  refine lv_iload_n hx hb d_MA_floorMod_1 rfl (lv_at hl0 1 rfl) ?_
  obtain ⟨hz1, h⟩ := h
  refine lv_irem hx hb d_MA_floorMod_2 hz1 ?_
  refine lv_topi (fun v2 ev2 => ?_)
  replace h := h v2 ev2
  refine lv_istore_n (i := 2) (lv' := [(2, .int v2), (0, .int a0), (1, .int a1)]) hx hb d_MA_floorMod_3 rfl hl0 (by decide) rfl (fun ls hl3 => ?_)
  refine lv_iload_n hx hb d_MA_floorMod_4 rfl (lv_at hl3 1 rfl) ?_
  refine lv_iload_n hx hb d_MA_floorMod_5 rfl (lv_at hl3 2 rfl) ?_
  refine lv_ixor hx hb d_MA_floorMod_6 ?_
  refine lv_if_ge (tgt := 18) hx hb d_MA_floorMod_7 (by decide) (fun hc5 => ?_) (fun hc5 => ?_)
  · replace h := h.1 hc5
    refine lv_iload_n hx hb d_MA_floorMod_18 rfl (lv_at hl3 0 rfl) ?_
    exact giret hx hb hr hlocks hK hG gle.rf ⟨h, rfl⟩ (Nat.le_of_ble_eq_true rfl) (Nat.le_of_ble_eq_true rfl) d_MA_floorMod_19
  · replace h := h.2 hc5
    refine lv_iload_n hx hb d_MA_floorMod_10 rfl (lv_at hl3 0 rfl) ?_
    refine lv_if_eq (tgt := 18) hx hb d_MA_floorMod_11 (by decide) (fun hc4 => ?_) (fun hc4 => ?_)
    · replace h := h.1 hc4
      refine lv_iload_n hx hb d_MA_floorMod_18 rfl (lv_at hl3 0 rfl) ?_
      exact giret hx hb hr hlocks hK hG gle.rf ⟨h, rfl⟩ (Nat.le_of_ble_eq_true rfl) (Nat.le_of_ble_eq_true rfl) d_MA_floorMod_19
    · replace h := h.2 hc4
      refine lv_iload_n hx hb d_MA_floorMod_14 rfl (lv_at hl3 0 rfl) ?_
      refine lv_iload_n hx hb d_MA_floorMod_15 rfl (lv_at hl3 2 rfl) ?_
      refine lv_iadd hx hb d_MA_floorMod_16 ?_
      exact giret hx hb hr hlocks hK hG gle.rf ⟨h, rfl⟩ (Nat.le_of_ble_eq_true rfl) (Nat.le_of_ble_eq_true rfl) d_MA_floorMod_17
def w_H_turned (post : Int32 → Prop) (S : St) (a0 : Int32) (a1 : Int32) : Prop :=
  w_MA_floorMod (fun (r1 : Int32) => post r1) S (a0 + a1) 4
set_option maxHeartbeats 4000000 in
set_option maxRecDepth 100000 in
theorem m_H_turned (l : Launch) (x : Cx) (S : St) (post : Int32 → Prop) (a0 : Int32) (a1 : Int32) (h : w_H_turned post S a0 a1) : Met l y_H_turned [.code y_H_turned c_H_turned 2 (some .int)] { frames := 1, cells := 0, slots := 0, locals := 22 } (va_Pc [.int a0, .int a1] (GW x S)) (va_Qi (gPu post S) (gB x S) (xA x)) 0 0 (xA x) := by
  refine gMet (by decide +kernel) (Nat.le_of_ble_eq_true rfl) ?_
  intro p e s m args below meth c hx hb hr hown hlocks hin hw hK H locs hG ls hlA hml
  have hown : s.vm.findClass "WaltzHall" = some m.cls := hown
  have hl0 : lv_has ls 2 [(0, .int a0), (1, .int a1)] := hlA
  unfold w_H_turned at h
  refine lv_iload_n hx hb d_H_turned_0 rfl (lv_at hl0 0 rfl) ?_
  refine lv_iload_n hx hb d_H_turned_1 rfl (lv_at hl0 1 rfl) ?_
  refine lv_iadd hx hb d_H_turned_2 ?_
  refine lv_iconst (v := 4) hx hb d_H_turned_3 (by decide) ?_
  -- call MA_floorMod
  refine gpi hK hG (va_runS (As := [.int (a0 + a1), .int 4]) (rest := []) ⟨hx, hb, hml, hown, hw⟩ (m_MA_floorMod l x S _ (a0 + a1) 4  h) ⟨gcb hw tw_541 tw_40 tw_539 hd_MA_floorMod rfl rfl ⟨(Nat.le_of_ble_eq_true rfl), (Nat.le_of_ble_eq_true rfl)⟩, hw _ tw_540⟩ (gpS hK hG) rfl rfl hl0.1 rfl (lv_room (Nat.le_of_ble_eq_true rfl)) d_H_turned_4 ⟨(Nat.le_of_ble_eq_true rfl), (Nat.le_of_ble_eq_true rfl)⟩) (fun r1 H locs h9 hG => ?_)
  replace h := h9
  clear h9
  exact giret hx hb hr hlocks hK hG gle.rf ⟨h, rfl⟩ (Nat.le_of_ble_eq_true rfl) (Nat.le_of_ble_eq_true rfl) d_H_turned_7
def w_H_columnStep (post : Int32 → Prop) (S : St) (a0 : Int32) : Prop :=
  (a0 = 1 → post 1) ∧ (¬ a0 = 1 → (a0 = 3 → post (-1)) ∧ (¬ a0 = 3 → post 0))
set_option maxHeartbeats 4000000 in
set_option maxRecDepth 100000 in
theorem m_H_columnStep (l : Launch) (x : Cx) (S : St) (post : Int32 → Prop) (a0 : Int32) (h : w_H_columnStep post S a0) : Met l y_H_columnStep [.code y_H_columnStep c_H_columnStep 1 (some .int)] { frames := 0, cells := 0, slots := 0, locals := 0 } (va_Pc [.int a0] (GW x S)) (va_Qi (gPu post S) (gB x S) (xA x)) 0 0 (xA x) := by
  refine gMet (by decide +kernel) (Nat.le_of_ble_eq_true rfl) ?_
  intro p e s m args below meth c hx hb hr hown hlocks hin hw hK H locs hG ls hlA hml
  have hown : s.vm.findClass "WaltzHall" = some m.cls := hown
  have hl0 : lv_has ls 1 [(0, .int a0)] := hlA
  unfold w_H_columnStep at h
  refine lv_iload_n hx hb d_H_columnStep_0 rfl (lv_at hl0 0 rfl) ?_
  refine lv_iconst (v := 1) hx hb d_H_columnStep_1 (by decide) ?_
  refine lv_icmp_ne (tgt := 9) hx hb d_H_columnStep_2 (by decide) (fun hc2 => ?_) (fun hc2 => ?_)
  · replace h := h.2 hc2
    refine lv_iload_n hx hb d_H_columnStep_9 rfl (lv_at hl0 0 rfl) ?_
    refine lv_iconst (v := 3) hx hb d_H_columnStep_10 (by decide) ?_
    refine lv_icmp_ne (tgt := 18) hx hb d_H_columnStep_11 (by decide) (fun hc1 => ?_) (fun hc1 => ?_)
    · replace h := h.2 hc1
      refine lv_iconst (v := 0) hx hb d_H_columnStep_18 (by decide) ?_
      exact giret hx hb hr hlocks hK hG gle.rf ⟨h, rfl⟩ (Nat.le_of_ble_eq_true rfl) (Nat.le_of_ble_eq_true rfl) d_H_columnStep_19
    · replace h := h.1 hc1
      refine lv_iconst (v := (-1)) hx hb d_H_columnStep_14 (by decide) ?_
      refine lv_goto (tgt := 19) hx hb d_H_columnStep_15 (by decide) ?_
      exact giret hx hb hr hlocks hK hG gle.rf ⟨h, rfl⟩ (Nat.le_of_ble_eq_true rfl) (Nat.le_of_ble_eq_true rfl) d_H_columnStep_19
  · replace h := h.1 hc2
    refine lv_iconst (v := 1) hx hb d_H_columnStep_5 (by decide) ?_
    refine lv_goto (tgt := 19) hx hb d_H_columnStep_6 (by decide) ?_
    exact giret hx hb hr hlocks hK hG gle.rf ⟨h, rfl⟩ (Nat.le_of_ble_eq_true rfl) (Nat.le_of_ble_eq_true rfl) d_H_columnStep_19
def w_H_rowStep (post : Int32 → Prop) (S : St) (a0 : Int32) : Prop :=
  (a0 = 0 → post (-1)) ∧ (¬ a0 = 0 → (a0 = 2 → post 1) ∧ (¬ a0 = 2 → post 0))
set_option maxHeartbeats 4000000 in
set_option maxRecDepth 100000 in
theorem m_H_rowStep (l : Launch) (x : Cx) (S : St) (post : Int32 → Prop) (a0 : Int32) (h : w_H_rowStep post S a0) : Met l y_H_rowStep [.code y_H_rowStep c_H_rowStep 1 (some .int)] { frames := 0, cells := 0, slots := 0, locals := 0 } (va_Pc [.int a0] (GW x S)) (va_Qi (gPu post S) (gB x S) (xA x)) 0 0 (xA x) := by
  refine gMet (by decide +kernel) (Nat.le_of_ble_eq_true rfl) ?_
  intro p e s m args below meth c hx hb hr hown hlocks hin hw hK H locs hG ls hlA hml
  have hown : s.vm.findClass "WaltzHall" = some m.cls := hown
  have hl0 : lv_has ls 1 [(0, .int a0)] := hlA
  unfold w_H_rowStep at h
  refine lv_iload_n hx hb d_H_rowStep_0 rfl (lv_at hl0 0 rfl) ?_
  refine lv_if_ne (tgt := 8) hx hb d_H_rowStep_1 (by decide) (fun hc2 => ?_) (fun hc2 => ?_)
  · replace h := h.2 hc2
    refine lv_iload_n hx hb d_H_rowStep_8 rfl (lv_at hl0 0 rfl) ?_
    refine lv_iconst (v := 2) hx hb d_H_rowStep_9 (by decide) ?_
    refine lv_icmp_ne (tgt := 17) hx hb d_H_rowStep_10 (by decide) (fun hc1 => ?_) (fun hc1 => ?_)
    · replace h := h.2 hc1
      refine lv_iconst (v := 0) hx hb d_H_rowStep_17 (by decide) ?_
      exact giret hx hb hr hlocks hK hG gle.rf ⟨h, rfl⟩ (Nat.le_of_ble_eq_true rfl) (Nat.le_of_ble_eq_true rfl) d_H_rowStep_18
    · replace h := h.1 hc1
      refine lv_iconst (v := 1) hx hb d_H_rowStep_13 (by decide) ?_
      refine lv_goto (tgt := 18) hx hb d_H_rowStep_14 (by decide) ?_
      exact giret hx hb hr hlocks hK hG gle.rf ⟨h, rfl⟩ (Nat.le_of_ble_eq_true rfl) (Nat.le_of_ble_eq_true rfl) d_H_rowStep_18
  · replace h := h.1 hc2
    refine lv_iconst (v := (-1)) hx hb d_H_rowStep_4 (by decide) ?_
    refine lv_goto (tgt := 18) hx hb d_H_rowStep_5 (by decide) ?_
    exact giret hx hb hr hlocks hK hG gle.rf ⟨h, rfl⟩ (Nat.le_of_ble_eq_true rfl) (Nat.le_of_ble_eq_true rfl) d_H_rowStep_18
def w_H_quartersToWayOf (post : Int32 → Prop) (S : St) (a0 : Int32) : Prop :=
  (a0 = 98 → post 2) ∧ (a0 = 108 → post 3) ∧ (a0 = 114 → post 1) ∧ (¬ a0 = 98 → ¬ a0 = 108 → ¬ a0 = 114 → post 0)
set_option maxHeartbeats 4000000 in
set_option maxRecDepth 100000 in
theorem m_H_quartersToWayOf (l : Launch) (x : Cx) (S : St) (post : Int32 → Prop) (a0 : Int32) (h : w_H_quartersToWayOf post S a0) : Met l y_H_quartersToWayOf [.code y_H_quartersToWayOf c_H_quartersToWayOf 1 (some .int)] { frames := 0, cells := 0, slots := 0, locals := 0 } (va_Pc [.int a0] (GW x S)) (va_Qi (gPu post S) (gB x S) (xA x)) 0 0 (xA x) := by
  refine gMet (by decide +kernel) (Nat.le_of_ble_eq_true rfl) ?_
  intro p e s m args below meth c hx hb hr hown hlocks hin hw hK H locs hG ls hlA hml
  have hown : s.vm.findClass "WaltzHall" = some m.cls := hown
  have hl0 : lv_has ls 1 [(0, .int a0)] := hlA
  unfold w_H_quartersToWayOf at h
  refine lv_iload_n hx hb d_H_quartersToWayOf_0 rfl (lv_at hl0 0 rfl) ?_
  by_cases hc1 : a0 = 98
  · replace h := h.1 hc1
    refine lv_lookup (off := 37) (tgt := 38) hx hb d_H_quartersToWayOf_1 (by decide) (by rw [hc1]; first | done | rfl) (by decide) ?_
    refine lv_iconst (v := 2) hx hb d_H_quartersToWayOf_38 (by decide) ?_
    exact giret hx hb hr hlocks hK hG gle.rf ⟨h, rfl⟩ (Nat.le_of_ble_eq_true rfl) (Nat.le_of_ble_eq_true rfl) d_H_quartersToWayOf_39
  · skip
    by_cases hc2 : a0 = 108
    · replace h := h.2.1 hc2
      refine lv_lookup (off := 39) (tgt := 40) hx hb d_H_quartersToWayOf_1 (by decide) (by rw [hc2]; first | done | rfl) (by decide) ?_
      refine lv_iconst (v := 3) hx hb d_H_quartersToWayOf_40 (by decide) ?_
      exact giret hx hb hr hlocks hK hG gle.rf ⟨h, rfl⟩ (Nat.le_of_ble_eq_true rfl) (Nat.le_of_ble_eq_true rfl) d_H_quartersToWayOf_41
    · skip
      by_cases hc3 : a0 = 114
      · replace h := h.2.2.1 hc3
        refine lv_lookup (off := 35) (tgt := 36) hx hb d_H_quartersToWayOf_1 (by decide) (by rw [hc3]; first | done | rfl) (by decide) ?_
        refine lv_iconst (v := 1) hx hb d_H_quartersToWayOf_36 (by decide) ?_
        exact giret hx hb hr hlocks hK hG gle.rf ⟨h, rfl⟩ (Nat.le_of_ble_eq_true rfl) (Nat.le_of_ble_eq_true rfl) d_H_quartersToWayOf_37
      · skip
        replace h := h.2.2.2 hc1 hc2 hc3
        refine lv_lookup (off := 41) (tgt := 42) hx hb d_H_quartersToWayOf_1 (by decide) ((if_neg (fun z => hc1 (Int32.toInt_inj.mp z.symm))).trans ((if_neg (fun z => hc2 (Int32.toInt_inj.mp z.symm))).trans (if_neg (fun z => hc3 (Int32.toInt_inj.mp z.symm))))) (by decide) ?_
        refine lv_iconst (v := 0) hx hb d_H_quartersToWayOf_42 (by decide) ?_
        exact giret hx hb hr hlocks hK hG gle.rf ⟨h, rfl⟩ (Nat.le_of_ble_eq_true rfl) (Nat.le_of_ble_eq_true rfl) d_H_quartersToWayOf_43
def w_H_isOnFloor (post : Int32 → Prop) (S : St) (a0 : Int32) (a1 : Int32) : Prop :=
  (a0 < 0 → post 0) ∧ (¬ a0 < 0 → (16 ≤ a0 → post 0) ∧ (¬ 16 ≤ a0 → (a1 < 0 → post 0) ∧ (¬ a1 < 0 → (16 ≤ a1 → post 0) ∧ (¬ 16 ≤ a1 → post 1))))
set_option maxHeartbeats 4000000 in
set_option maxRecDepth 100000 in
theorem m_H_isOnFloor (l : Launch) (x : Cx) (S : St) (post : Int32 → Prop) (a0 : Int32) (a1 : Int32) (h : w_H_isOnFloor post S a0 a1) : Met l y_H_isOnFloor [.code y_H_isOnFloor c_H_isOnFloor 2 (some .boolean)] { frames := 0, cells := 0, slots := 0, locals := 0 } (va_Pc [.int a0, .int a1] (GW x S)) (va_Qi (gPu post S) (gB x S) (xA x)) 0 0 (xA x) := by
  refine gMet (by decide +kernel) (Nat.le_of_ble_eq_true rfl) ?_
  intro p e s m args below meth c hx hb hr hown hlocks hin hw hK H locs hG ls hlA hml
  have hown : s.vm.findClass "WaltzHall" = some m.cls := hown
  have hl0 : lv_has ls 2 [(0, .int a0), (1, .int a1)] := hlA
  unfold w_H_isOnFloor at h
  refine lv_iload_n hx hb d_H_isOnFloor_0 rfl (lv_at hl0 0 rfl) ?_
  refine lv_if_lt (tgt := 24) hx hb d_H_isOnFloor_1 (by decide) (fun hc4 => ?_) (fun hc4 => ?_)
  · replace h := h.1 hc4
    refine lv_iconst (v := 0) hx hb d_H_isOnFloor_24 (by decide) ?_
    exact gzret hx hb hr rfl hlocks hK hG gle.rf ⟨h, rfl⟩ (Nat.le_of_ble_eq_true rfl) (Nat.le_of_ble_eq_true rfl) d_H_isOnFloor_25
  · replace h := h.2 hc4
    refine lv_iload_n hx hb d_H_isOnFloor_4 rfl (lv_at hl0 0 rfl) ?_
    refine lv_bipush (v := 16) hx hb d_H_isOnFloor_5 (by decide) ?_
    refine lv_icmp_ge (tgt := 24) hx hb d_H_isOnFloor_7 (by decide) (fun hc3 => ?_) (fun hc3 => ?_)
    · replace h := h.1 hc3
      refine lv_iconst (v := 0) hx hb d_H_isOnFloor_24 (by decide) ?_
      exact gzret hx hb hr rfl hlocks hK hG gle.rf ⟨h, rfl⟩ (Nat.le_of_ble_eq_true rfl) (Nat.le_of_ble_eq_true rfl) d_H_isOnFloor_25
    · replace h := h.2 hc3
      refine lv_iload_n hx hb d_H_isOnFloor_10 rfl (lv_at hl0 1 rfl) ?_
      refine lv_if_lt (tgt := 24) hx hb d_H_isOnFloor_11 (by decide) (fun hc2 => ?_) (fun hc2 => ?_)
      · replace h := h.1 hc2
        refine lv_iconst (v := 0) hx hb d_H_isOnFloor_24 (by decide) ?_
        exact gzret hx hb hr rfl hlocks hK hG gle.rf ⟨h, rfl⟩ (Nat.le_of_ble_eq_true rfl) (Nat.le_of_ble_eq_true rfl) d_H_isOnFloor_25
      · replace h := h.2 hc2
        refine lv_iload_n hx hb d_H_isOnFloor_14 rfl (lv_at hl0 1 rfl) ?_
        refine lv_bipush (v := 16) hx hb d_H_isOnFloor_15 (by decide) ?_
        refine lv_icmp_ge (tgt := 24) hx hb d_H_isOnFloor_17 (by decide) (fun hc1 => ?_) (fun hc1 => ?_)
        · replace h := h.1 hc1
          refine lv_iconst (v := 0) hx hb d_H_isOnFloor_24 (by decide) ?_
          exact gzret hx hb hr rfl hlocks hK hG gle.rf ⟨h, rfl⟩ (Nat.le_of_ble_eq_true rfl) (Nat.le_of_ble_eq_true rfl) d_H_isOnFloor_25
        · replace h := h.2 hc1
          refine lv_iconst (v := 1) hx hb d_H_isOnFloor_20 (by decide) ?_
          refine lv_goto (tgt := 25) hx hb d_H_isOnFloor_21 (by decide) ?_
          exact gzret hx hb hr rfl hlocks hK hG gle.rf ⟨h, rfl⟩ (Nat.le_of_ble_eq_true rfl) (Nat.le_of_ble_eq_true rfl) d_H_isOnFloor_25
def w_H_distance (post : Int32 → Prop) (S : St) (a0 : Int32) (a1 : Int32) (a2 : Int32) (a3 : Int32) : Prop :=
  ∀ v1 : Int32, v1 = (if 0 ≤ (a0 - a2) then (a0 - a2) else 0 - (a0 - a2)) → ∀ v2 : Int32, v2 = (if 0 ≤ (a1 - a3) then (a1 - a3) else 0 - (a1 - a3)) → post (v1 + v2)
set_option maxHeartbeats 4000000 in
set_option maxRecDepth 100000 in
theorem m_H_distance (l : Launch) (x : Cx) (S : St) (post : Int32 → Prop) (a0 : Int32) (a1 : Int32) (a2 : Int32) (a3 : Int32) (h : w_H_distance post S a0 a1 a2 a3) : Met l y_H_distance [.code y_H_distance c_H_distance 4 (some .int)] { frames := 1, cells := 0, slots := 0, locals := 21 } (va_Pc [.int a0, .int a1, .int a2, .int a3] (GW x S)) (va_Qi (gPu post S) (gB x S) (xA x)) 0 0 (xA x) := by
  refine gMet (by decide +kernel) (Nat.le_of_ble_eq_true rfl) ?_
  intro p e s m args below meth c hx hb hr hown hlocks hin hw hK H locs hG ls hlA hml
  have hown : s.vm.findClass "WaltzHall" = some m.cls := hown
  have hl0 : lv_has ls 4 [(0, .int a0), (1, .int a1), (2, .int a2), (3, .int a3)] := hlA
  unfold w_H_distance at h
  refine lv_iload_n hx hb d_H_distance_0 rfl (lv_at hl0 0 rfl) ?_
  refine lv_iload_n hx hb d_H_distance_1 rfl (lv_at hl0 2 rfl) ?_
  refine lv_isub hx hb d_H_distance_2 ?_
  refine va_mabs hx hb (hml.trans hl0.1.symm) hown (hw _ tw_675) (hw _ tw_676) (hw _ tw_40) (hw _ tw_677) (Nat.le_of_ble_eq_true rfl) (Nat.le_of_ble_eq_true rfl) (Nat.le_of_ble_eq_true rfl) (Nat.le_of_ble_eq_true rfl) d_H_distance_3 ?_
  refine lv_topi (fun v1 ev1 => ?_)
  replace h := h v1 ev1
  refine lv_iload_n hx hb d_H_distance_6 rfl (lv_at hl0 1 rfl) ?_
  refine lv_iload_n hx hb d_H_distance_7 rfl (lv_at hl0 3 rfl) ?_
  refine lv_isub hx hb d_H_distance_8 ?_
  refine va_mabs hx hb (hml.trans hl0.1.symm) hown (hw _ tw_675) (hw _ tw_676) (hw _ tw_40) (hw _ tw_677) (Nat.le_of_ble_eq_true rfl) (Nat.le_of_ble_eq_true rfl) (Nat.le_of_ble_eq_true rfl) (Nat.le_of_ble_eq_true rfl) d_H_distance_9 ?_
  refine lv_topi (fun v2 ev2 => ?_)
  replace h := h v2 ev2
  refine lv_iadd hx hb d_H_distance_12 ?_
  exact giret hx hb hr hlocks hK hG gle.rf ⟨h, rfl⟩ (Nat.le_of_ble_eq_true rfl) (Nat.le_of_ble_eq_true rfl) d_H_distance_13
def w_R_isSpent (post : Int32 → Prop) (S : St) (a0 : Nat) : Prop :=
  ((sI S 11 a0) ≤ (sI S 10 a0) → post 0) ∧ (¬ (sI S 11 a0) ≤ (sI S 10 a0) → post 1)
set_option maxHeartbeats 4000000 in
set_option maxRecDepth 100000 in
theorem m_R_isSpent (l : Launch) (x : Cx) (S : St) (post : Int32 → Prop) (a0 : Nat) (fa0 : isA S 2 a0) (h : w_R_isSpent post S a0) : Met l y_R_isSpent [.code y_R_isSpent c_R_isSpent 1 (some .boolean)] { frames := 0, cells := 0, slots := 0, locals := 0 } (va_Pc [.ref a0] (GW x S)) (va_Qi (gPu post S) (gB x S) (xA x)) 0 0 (xA x) := by
  refine gMet (by decide +kernel) (Nat.le_of_ble_eq_true rfl) ?_
  intro p e s m args below meth c hx hb hr hown hlocks hin hw hK H locs hG ls hlA hml
  have hown : s.vm.findClass "WaltzHall$Dancer" = some m.cls := hown
  have hl0 : lv_has ls 1 [(0, .ref a0)] := hlA
  unfold w_R_isSpent at h
  refine lv_aload_n hx hb d_R_isSpent_0 rfl (lv_at hl0 0 rfl) ?_
  refine gget hx hb hw hown hK hG kd_R fa0 rfl 4 (by decide) rfl tw_587 (fun _ h9 => h9) d_R_isSpent_1 ?_
  refine lv_aload_n hx hb d_R_isSpent_4 rfl (lv_at hl0 0 rfl) ?_
  refine gget hx hb hw hown hK hG kd_R fa0 rfl 5 (by decide) rfl tw_590 (fun _ h9 => h9) d_R_isSpent_5 ?_
  refine lv_icmp_ge (tgt := 15) hx hb d_R_isSpent_8 (by decide) (fun hc1 => ?_) (fun hc1 => ?_)
  · replace h := h.1 hc1
    refine lv_iconst (v := 0) hx hb d_R_isSpent_15 (by decide) ?_
    exact gzret hx hb hr rfl hlocks hK hG gle.rf ⟨h, rfl⟩ (Nat.le_of_ble_eq_true rfl) (Nat.le_of_ble_eq_true rfl) d_R_isSpent_16
  · replace h := h.2 hc1
    refine lv_iconst (v := 1) hx hb d_R_isSpent_11 (by decide) ?_
    refine lv_goto (tgt := 16) hx hb d_R_isSpent_12 (by decide) ?_
    exact gzret hx hb hr rfl hlocks hK hG gle.rf ⟨h, rfl⟩ (Nat.le_of_ble_eq_true rfl) (Nat.le_of_ble_eq_true rfl) d_R_isSpent_16
def w_R_canDance (post : Int32 → Prop) (S : St) (a0 : Nat) : Prop :=
  ((sI S 16 a0) = 0 → w_R_isSpent (fun (r1 : Int32) => (r1 = 0 → post 1) ∧ (¬ r1 = 0 → post 0)) S a0) ∧ (¬ (sI S 16 a0) = 0 → post 0)
set_option maxHeartbeats 4000000 in
set_option maxRecDepth 100000 in
theorem m_R_canDance (l : Launch) (x : Cx) (S : St) (post : Int32 → Prop) (a0 : Nat) (fa0 : isA S 2 a0) (h : w_R_canDance post S a0) : Met l y_R_canDance [.code y_R_canDance c_R_canDance 1 (some .boolean)] { frames := 1, cells := 0, slots := 0, locals := 20 } (va_Pc [.ref a0] (GW x S)) (va_Qi (gPu post S) (gB x S) (xA x)) 0 0 (xA x) := by
  refine gMet (by decide +kernel) (Nat.le_of_ble_eq_true rfl) ?_
  intro p e s m args below meth c hx hb hr hown hlocks hin hw hK H locs hG ls hlA hml
  have hown : s.vm.findClass "WaltzHall$Dancer" = some m.cls := hown
  have hl0 : lv_has ls 1 [(0, .ref a0)] := hlA
  unfold w_R_canDance at h
  refine lv_aload_n hx hb d_R_canDance_0 rfl (lv_at hl0 0 rfl) ?_
  refine gget hx hb hw hown hK hG kd_R fa0 rfl 10 (by decide) rfl tw_604 (fun _ h9 => h9) d_R_canDance_1 ?_
  refine lv_if_ne (tgt := 18) hx hb d_R_canDance_4 (by decide) (fun hc3 => ?_) (fun hc3 => ?_)
  · replace h := h.2 hc3
    refine lv_iconst (v := 0) hx hb d_R_canDance_18 (by decide) ?_
    exact gzret hx hb hr rfl hlocks hK hG gle.rf ⟨h, rfl⟩ (Nat.le_of_ble_eq_true rfl) (Nat.le_of_ble_eq_true rfl) d_R_canDance_19
  · replace h := h.1 hc3
    refine lv_aload_n hx hb d_R_canDance_7 rfl (lv_at hl0 0 rfl) ?_
    -- call R_isSpent
    refine gpi hK hG (va_runV (As := []) (rest := []) ⟨hx, hb, hml, hown, hw⟩ (m_R_isSpent l x S _ a0 fa0 h) ⟨gcb hw tw_329 tw_52 tw_807 hd_R_isSpent rfl rfl ⟨(Nat.le_of_ble_eq_true rfl), (Nat.le_of_ble_eq_true rfl)⟩, hw _ tw_327, hw _ tw_328⟩ (gpV hK hG kd_R fa0 rfl) rfl rfl hl0.1 rfl (lv_room (Nat.le_of_ble_eq_true rfl)) d_R_canDance_8 ⟨(Nat.le_of_ble_eq_true rfl), (Nat.le_of_ble_eq_true rfl)⟩) (fun r1 H locs h9 hG => ?_)
    replace h := h9
    clear h9
    refine lv_if_ne (tgt := 18) hx hb d_R_canDance_11 (by decide) (fun hc2 => ?_) (fun hc2 => ?_)
    · replace h := h.2 hc2
      refine lv_iconst (v := 0) hx hb d_R_canDance_18 (by decide) ?_
      exact gzret hx hb hr rfl hlocks hK hG gle.rf ⟨h, rfl⟩ (Nat.le_of_ble_eq_true rfl) (Nat.le_of_ble_eq_true rfl) d_R_canDance_19
    · replace h := h.1 hc2
      refine lv_iconst (v := 1) hx hb d_R_canDance_14 (by decide) ?_
      refine lv_goto (tgt := 19) hx hb d_R_canDance_15 (by decide) ?_
      exact gzret hx hb hr rfl hlocks hK hG gle.rf ⟨h, rfl⟩ (Nat.le_of_ble_eq_true rfl) (Nat.le_of_ble_eq_true rfl) d_R_canDance_19
def w_R_isBeside (post : Int32 → Prop) (S : St) (a0 : Nat) (a1 : Option Nat) : Prop :=
  ∃ y1 : Nat, a1 = some y1 ∧ isA S 2 y1 ∧ w_H_distance (fun (r3 : Int32) => (r3 = 1 → post 1) ∧ (¬ r3 = 1 → post 0)) S (sI S 7 a0) (sI S 8 a0) (sI S 7 y1) (sI S 8 y1)
set_option maxHeartbeats 4000000 in
set_option maxRecDepth 100000 in
theorem m_R_isBeside (l : Launch) (x : Cx) (S : St) (post : Int32 → Prop) (a0 : Nat) (a1 : Option Nat) (fa0 : isA S 2 a0) (h : w_R_isBeside post S a0 a1) : Met l y_R_isBeside [.code y_R_isBeside c_R_isBeside 2 (some .boolean)] { frames := 2, cells := 0, slots := 0, locals := 44 } (va_Pc [.ref a0, va_rf a1] (GW x S)) (va_Qi (gPu post S) (gB x S) (xA x)) 0 0 (xA x) := by
  refine gMet (by decide +kernel) (by simp [lg_sl, gCat, gci1, gcr1, gcl1, gcd1]) ?_
  intro p e s m args below meth c hx hb hr hown hlocks hin hw hK H locs hG ls hlA hml
  have hown : s.vm.findClass "WaltzHall$Dancer" = some m.cls := hown
  have hl0 : lv_has ls 2 [(0, .ref a0), (1, va_rf a1)] := hlA
  unfold w_R_isBeside at h
  refine lv_aload_n hx hb d_R_isBeside_0 rfl (lv_at hl0 0 rfl) ?_
  refine gget hx hb hw hown hK hG kd_R fa0 rfl 1 (by decide) rfl tw_576 (fun _ h9 => h9) d_R_isBeside_1 ?_
  refine lv_aload_n hx hb d_R_isBeside_4 rfl (lv_at hl0 0 rfl) ?_
  refine gget hx hb hw hown hK hG kd_R fa0 rfl 2 (by decide) rfl tw_580 (fun _ h9 => h9) d_R_isBeside_5 ?_
  refine gaload_n hx hb d_R_isBeside_8 rfl (lv_at hl0 1 rfl) ?_
  obtain ⟨y1, ey1, h⟩ := h
  subst ey1
  obtain ⟨f2, h⟩ := h
  refine gget hx hb hw hown hK hG kd_R f2 rfl 1 (by decide) rfl tw_576 (fun _ h9 => h9) d_R_isBeside_9 ?_
  refine lv_aload_n hx hb d_R_isBeside_12 rfl (lv_at hl0 1 rfl) ?_
  refine gget hx hb hw hown hK hG kd_R f2 rfl 2 (by decide) rfl tw_580 (fun _ h9 => h9) d_R_isBeside_13 ?_
  -- call H_distance
  refine gpi hK hG (va_runSN (As := [.int (sI S 7 a0), .int (sI S 8 a0), .int (sI S 7 y1), .int (sI S 8 y1)]) (rest := []) ⟨hx, hb, hml, hown, hw⟩ (m_H_distance l x S _ (sI S 7 a0) (sI S 8 a0) (sI S 7 y1) (sI S 8 y1)  h) ⟨gcn hw tw_674 tw_28 tw_672 hd_H_distance rfl rfl ⟨(Nat.le_of_ble_eq_true rfl), (Nat.le_of_ble_eq_true rfl)⟩, hw _ tw_673, trivial⟩ (gpS hK hG) rfl rfl hl0.1 rfl (lv_room (Nat.le_of_ble_eq_true rfl)) d_R_isBeside_16 ⟨(Nat.le_of_ble_eq_true rfl), (Nat.le_of_ble_eq_true rfl)⟩) (fun r3 H locs h9 hG => ?_)
  replace h := h9
  clear h9
  refine lv_iconst (v := 1) hx hb d_R_isBeside_19 (by decide) ?_
  refine lv_icmp_ne (tgt := 27) hx hb d_R_isBeside_20 (by decide) (fun hc4 => ?_) (fun hc4 => ?_)
  · replace h := h.2 hc4
    refine lv_iconst (v := 0) hx hb d_R_isBeside_27 (by decide) ?_
    exact gzret hx hb hr rfl hlocks hK hG gle.rf ⟨h, rfl⟩ (Nat.le_of_ble_eq_true rfl) (Nat.le_of_ble_eq_true rfl) d_R_isBeside_28
  · replace h := h.1 hc4
    refine lv_iconst (v := 1) hx hb d_R_isBeside_23 (by decide) ?_
    refine lv_goto (tgt := 28) hx hb d_R_isBeside_24 (by decide) ?_
    exact gzret hx hb hr rfl hlocks hK hG gle.rf ⟨h, rfl⟩ (Nat.le_of_ble_eq_true rfl) (Nat.le_of_ble_eq_true rfl) d_R_isBeside_28
def w_R_windBy (post : St → Prop) (S : St) (a0 : Nat) (a1 : Int32) : Prop :=
  ∀ v1 : Int32, v1 = (if ((sI S 10 a0) + a1) < 200 then ((sI S 10 a0) + a1) else 200) → ∀ v2 : Int32, v2 = (if 0 < v1 then v1 else 0) → ∀ S3 : St, S3 = pI S 10 a0 v2 → post S3
set_option maxHeartbeats 4000000 in
set_option maxRecDepth 100000 in
theorem m_R_windBy (l : Launch) (x : Cx) (S : St) (post : St → Prop) (a0 : Nat) (a1 : Int32) (fa0 : isA S 2 a0) (h : w_R_windBy post S a0 a1) : Met l y_R_windBy [.code y_R_windBy c_R_windBy 2 none] { frames := 1, cells := 0, slots := 0, locals := 21 } (va_Pc [.ref a0, .int a1] (GW x S)) (va_Qv post (gB x S) (xA x)) 0 0 (xA x) := by
  refine gMet (by decide +kernel) (Nat.le_of_ble_eq_true rfl) ?_
  intro p e s m args below meth c hx hb hr hown hlocks hin hw hK H locs hG ls hlA hml
  have hown : s.vm.findClass "WaltzHall$Dancer" = some m.cls := hown
  have hl0 : lv_has ls 2 [(0, .ref a0), (1, .int a1)] := hlA
  have leS : gle S S := gle.rf
  unfold w_R_windBy at h
  refine lv_aload_n hx hb d_R_windBy_0 rfl (lv_at hl0 0 rfl) ?_
  refine lv_iconst (v := 0) hx hb d_R_windBy_1 (by decide) ?_
  refine lv_sipush (v := 200) hx hb d_R_windBy_2 (by decide) ?_
  refine lv_aload_n hx hb d_R_windBy_5 rfl (lv_at hl0 0 rfl) ?_
  refine gget hx hb hw hown hK hG kd_R fa0 rfl 4 (by decide) rfl tw_587 (fun _ h9 => h9) d_R_windBy_6 ?_
  refine lv_iload_n hx hb d_R_windBy_9 rfl (lv_at hl0 1 rfl) ?_
  refine lv_iadd hx hb d_R_windBy_10 ?_
  refine va_mmin hx hb (hml.trans hl0.1.symm) hown (hw _ tw_703) (hw _ tw_247) (hw _ tw_40) (hw _ tw_248) (Nat.le_of_ble_eq_true rfl) (Nat.le_of_ble_eq_true rfl) (Nat.le_of_ble_eq_true rfl) (Nat.le_of_ble_eq_true rfl) d_R_windBy_11 ?_
  refine lv_topi (fun v1 ev1 => ?_)
  replace h := h v1 ev1
  refine va_mmax hx hb (hml.trans hl0.1.symm) hown (hw _ tw_704) (hw _ tw_215) (hw _ tw_40) (hw _ tw_216) (Nat.le_of_ble_eq_true rfl) (Nat.le_of_ble_eq_true rfl) (Nat.le_of_ble_eq_true rfl) (Nat.le_of_ble_eq_true rfl) d_R_windBy_14 ?_
  refine lv_topi (fun v2 ev2 => ?_)
  replace h := h v2 ev2
  refine gput (S' := pI S 10 a0 v2) hx hb hw hown hK hG kd_R fa0 rfl 4 (by decide) (gChI fa0 rfl) tw_587 (fun _ h9 => h9) rfl rfl rfl rfl (Nat.le_of_ble_eq_true rfl) d_R_windBy_17 (fun S3 H locs eS3 hle1 hG => ?_)
  replace h := h S3 eS3
  have fa0 := gle_isA hle1 fa0
  have leS := leS.tr hle1
  exact gvret hx hb hr hlocks hK hG leS h (Nat.le_of_ble_eq_true rfl) (Nat.le_of_ble_eq_true rfl) d_R_windBy_20
def w_R_aimAt (post : St → Prop) (S : St) (a0 : Nat) (a1 : Int32) (a2 : Int32) : Prop :=
  ∀ S1 : St, S1 = pI S 19 a0 a1 → ∀ S2 : St, S2 = pI S1 20 a0 a2 → post S2
set_option maxHeartbeats 4000000 in
set_option maxRecDepth 100000 in
theorem m_R_aimAt (l : Launch) (x : Cx) (S : St) (post : St → Prop) (a0 : Nat) (a1 : Int32) (a2 : Int32) (fa0 : isA S 2 a0) (h : w_R_aimAt post S a0 a1 a2) : Met l y_R_aimAt [.code y_R_aimAt c_R_aimAt 3 none] { frames := 0, cells := 0, slots := 0, locals := 0 } (va_Pc [.ref a0, .int a1, .int a2] (GW x S)) (va_Qv post (gB x S) (xA x)) 0 0 (xA x) := by
  refine gMet (by decide +kernel) (Nat.le_of_ble_eq_true rfl) ?_
  intro p e s m args below meth c hx hb hr hown hlocks hin hw hK H locs hG ls hlA hml
  have hown : s.vm.findClass "WaltzHall$Dancer" = some m.cls := hown
  have hl0 : lv_has ls 3 [(0, .ref a0), (1, .int a1), (2, .int a2)] := hlA
  have leS : gle S S := gle.rf
  unfold w_R_aimAt at h
  refine lv_aload_n hx hb d_R_aimAt_0 rfl (lv_at hl0 0 rfl) ?_
  refine lv_iload_n hx hb d_R_aimAt_1 rfl (lv_at hl0 1 rfl) ?_
  refine gput (S' := pI S 19 a0 a1) hx hb hw hown hK hG kd_R fa0 rfl 13 (by decide) (gChI fa0 rfl) tw_609 (fun _ h9 => h9) rfl rfl rfl rfl (Nat.le_of_ble_eq_true rfl) d_R_aimAt_2 (fun S1 H locs eS1 hle1 hG => ?_)
  replace h := h S1 eS1
  have fa0 := gle_isA hle1 fa0
  have leS := leS.tr hle1
  refine lv_aload_n hx hb d_R_aimAt_5 rfl (lv_at hl0 0 rfl) ?_
  refine lv_iload_n hx hb d_R_aimAt_6 rfl (lv_at hl0 2 rfl) ?_
  refine gput (S' := pI S1 20 a0 a2) hx hb hw hown hK hG kd_R fa0 rfl 14 (by decide) (gChI fa0 rfl) tw_611 (fun _ h9 => h9) rfl rfl rfl rfl (Nat.le_of_ble_eq_true rfl) d_R_aimAt_7 (fun S2 H locs eS2 hle1 hG => ?_)
  replace h := h S2 eS2
  have fa0 := gle_isA hle1 fa0
  have leS := leS.tr hle1
  exact gvret hx hb hr hlocks hK hG leS h (Nat.le_of_ble_eq_true rfl) (Nat.le_of_ble_eq_true rfl) d_R_aimAt_10
def w_R_aimFrom (post : St → Prop) (S : St) (a0 : Nat) (a1 : Int32) (a2 : Int32) (a3 : Int32) : Prop :=
  w_H_columnStep (fun (r1 : Int32) => w_H_rowStep (fun (r2 : Int32) => w_R_aimAt (fun (S3 : St) => post S3) S a0 (a1 + r1) (a2 + r2)) S a3) S a3
set_option maxHeartbeats 4000000 in
set_option maxRecDepth 100000 in
theorem m_R_aimFrom (l : Launch) (x : Cx) (S : St) (post : St → Prop) (a0 : Nat) (a1 : Int32) (a2 : Int32) (a3 : Int32) (fa0 : isA S 2 a0) (h : w_R_aimFrom post S a0 a1 a2 a3) : Met l y_R_aimFrom [.code y_R_aimFrom c_R_aimFrom 4 none] { frames := 1, cells := 0, slots := 0, locals := 22 } (va_Pc [.ref a0, .int a1, .int a2, .int a3] (GW x S)) (va_Qv post (gB x S) (xA x)) 0 0 (xA x) := by
  refine gMet (by decide +kernel) (Nat.le_of_ble_eq_true rfl) ?_
  intro p e s m args below meth c hx hb hr hown hlocks hin hw hK H locs hG ls hlA hml
  have hown : s.vm.findClass "WaltzHall$Dancer" = some m.cls := hown
  have hl0 : lv_has ls 4 [(0, .ref a0), (1, .int a1), (2, .int a2), (3, .int a3)] := hlA
  have leS : gle S S := gle.rf
  unfold w_R_aimFrom at h
  refine lv_aload_n hx hb d_R_aimFrom_0 rfl (lv_at hl0 0 rfl) ?_
  refine lv_iload_n hx hb d_R_aimFrom_1 rfl (lv_at hl0 1 rfl) ?_
  refine lv_iload_n hx hb d_R_aimFrom_2 rfl (lv_at hl0 3 rfl) ?_
  -- call H_columnStep
  refine gpi hK hG (va_runSN (As := [.int a3]) (rest := [.int a1, .ref a0]) ⟨hx, hb, hml, hown, hw⟩ (m_H_columnStep l x S _ a3  h) ⟨gcn hw tw_544 tw_28 tw_831 hd_H_columnStep rfl rfl ⟨(Nat.le_of_ble_eq_true rfl), (Nat.le_of_ble_eq_true rfl)⟩, hw _ tw_543, trivial⟩ (gpS hK hG) rfl rfl hl0.1 rfl (lv_room (Nat.le_of_ble_eq_true rfl)) d_R_aimFrom_3 ⟨(Nat.le_of_ble_eq_true rfl), (Nat.le_of_ble_eq_true rfl)⟩) (fun r1 H locs h9 hG => ?_)
  replace h := h9
  clear h9
  refine lv_iadd hx hb d_R_aimFrom_6 ?_
  refine lv_iload_n hx hb d_R_aimFrom_7 rfl (lv_at hl0 2 rfl) ?_
  refine lv_iload_n hx hb d_R_aimFrom_8 rfl (lv_at hl0 3 rfl) ?_
  -- call H_rowStep
  refine gpi hK hG (va_runSN (As := [.int a3]) (rest := [.int a2, .int (a1 + r1), .ref a0]) ⟨hx, hb, hml, hown, hw⟩ (m_H_rowStep l x S _ a3  h) ⟨gcn hw tw_547 tw_28 tw_832 hd_H_rowStep rfl rfl ⟨(Nat.le_of_ble_eq_true rfl), (Nat.le_of_ble_eq_true rfl)⟩, hw _ tw_546, trivial⟩ (gpS hK hG) rfl rfl hl0.1 rfl (lv_room (Nat.le_of_ble_eq_true rfl)) d_R_aimFrom_9 ⟨(Nat.le_of_ble_eq_true rfl), (Nat.le_of_ble_eq_true rfl)⟩) (fun r2 H locs h9 hG => ?_)
  replace h := h9
  clear h9
  refine lv_iadd hx hb d_R_aimFrom_12 ?_
  -- call R_aimAt
  refine gcv hK hG (va_runV (As := [.int (a1 + r1), .int (a2 + r2)]) (rest := []) ⟨hx, hb, hml, hown, hw⟩ (m_R_aimAt l x S _ a0 (a1 + r1) (a2 + r2) fa0 h) ⟨gcb hw tw_823 tw_52 tw_833 hd_R_aimAt rfl rfl ⟨(Nat.le_of_ble_eq_true rfl), (Nat.le_of_ble_eq_true rfl)⟩, hw _ tw_821, hw _ tw_822⟩ (gpV hK hG kd_R fa0 rfl) rfl rfl hl0.1 rfl (lv_room (Nat.le_of_ble_eq_true rfl)) d_R_aimFrom_13 ⟨(Nat.le_of_ble_eq_true rfl), (Nat.le_of_ble_eq_true rfl)⟩) (fun S3 H locs h9 hle1 hG => ?_)
  replace h := h9
  clear h9
  have fa0 := gle_isA hle1 fa0
  have leS := leS.tr hle1
  exact gvret hx hb hr hlocks hK hG leS h (Nat.le_of_ble_eq_true rfl) (Nat.le_of_ble_eq_true rfl) d_R_aimFrom_16
def w_R_aimsOffFloor (post : Int32 → Prop) (S : St) (a0 : Nat) : Prop :=
  w_H_isOnFloor (fun (r1 : Int32) => (r1 = 0 → post 1) ∧ (¬ r1 = 0 → post 0)) S (sI S 19 a0) (sI S 20 a0)
set_option maxHeartbeats 4000000 in
set_option maxRecDepth 100000 in
theorem m_R_aimsOffFloor (l : Launch) (x : Cx) (S : St) (post : Int32 → Prop) (a0 : Nat) (fa0 : isA S 2 a0) (h : w_R_aimsOffFloor post S a0) : Met l y_R_aimsOffFloor [.code y_R_aimsOffFloor c_R_aimsOffFloor 1 (some .boolean)] { frames := 1, cells := 0, slots := 0, locals := 21 } (va_Pc [.ref a0] (GW x S)) (va_Qi (gPu post S) (gB x S) (xA x)) 0 0 (xA x) := by
  refine gMet (by decide +kernel) (Nat.le_of_ble_eq_true rfl) ?_
  intro p e s m args below meth c hx hb hr hown hlocks hin hw hK H locs hG ls hlA hml
  have hown : s.vm.findClass "WaltzHall$Dancer" = some m.cls := hown
  have hl0 : lv_has ls 1 [(0, .ref a0)] := hlA
  unfold w_R_aimsOffFloor at h
  refine lv_aload_n hx hb d_R_aimsOffFloor_0 rfl (lv_at hl0 0 rfl) ?_
  refine gget hx hb hw hown hK hG kd_R fa0 rfl 13 (by decide) rfl tw_609 (fun _ h9 => h9) d_R_aimsOffFloor_1 ?_
  refine lv_aload_n hx hb d_R_aimsOffFloor_4 rfl (lv_at hl0 0 rfl) ?_
  refine gget hx hb hw hown hK hG kd_R fa0 rfl 14 (by decide) rfl tw_611 (fun _ h9 => h9) d_R_aimsOffFloor_5 ?_
  -- call H_isOnFloor
  refine gpi hK hG (va_runSN (As := [.int (sI S 19 a0), .int (sI S 20 a0)]) (rest := []) ⟨hx, hb, hml, hown, hw⟩ (m_H_isOnFloor l x S _ (sI S 19 a0) (sI S 20 a0)  h) ⟨gcn hw tw_561 tw_28 tw_848 hd_H_isOnFloor rfl rfl ⟨(Nat.le_of_ble_eq_true rfl), (Nat.le_of_ble_eq_true rfl)⟩, hw _ tw_560, trivial⟩ (gpS hK hG) rfl rfl hl0.1 rfl (lv_room (Nat.le_of_ble_eq_true rfl)) d_R_aimsOffFloor_8 ⟨(Nat.le_of_ble_eq_true rfl), (Nat.le_of_ble_eq_true rfl)⟩) (fun r1 H locs h9 hG => ?_)
  replace h := h9
  clear h9
  refine lv_if_ne (tgt := 18) hx hb d_R_aimsOffFloor_11 (by decide) (fun hc2 => ?_) (fun hc2 => ?_)
  · replace h := h.2 hc2
    refine lv_iconst (v := 0) hx hb d_R_aimsOffFloor_18 (by decide) ?_
    exact gzret hx hb hr rfl hlocks hK hG gle.rf ⟨h, rfl⟩ (Nat.le_of_ble_eq_true rfl) (Nat.le_of_ble_eq_true rfl) d_R_aimsOffFloor_19
  · replace h := h.1 hc2
    refine lv_iconst (v := 1) hx hb d_R_aimsOffFloor_14 (by decide) ?_
    refine lv_goto (tgt := 19) hx hb d_R_aimsOffFloor_15 (by decide) ?_
    exact gzret hx hb hr rfl hlocks hK hG gle.rf ⟨h, rfl⟩ (Nat.le_of_ble_eq_true rfl) (Nat.le_of_ble_eq_true rfl) d_R_aimsOffFloor_19
def w_R_goAndTurn (post : St → Prop) (S : St) (a0 : Nat) (a1 : Int32) : Prop :=
  ∀ S1 : St, S1 = pI S 7 a0 (sI S 19 a0) → ∀ S2 : St, S2 = pI S1 8 a0 (sI S1 20 a0) → w_H_turned (fun (r3 : Int32) => ∀ S4 : St, S4 = pI S2 9 a0 r3 → ∀ S5 : St, S5 = pI S4 10 a0 ((sI S4 10 a0) - (sI S4 11 a0)) → ∀ S6 : St, S6 = pI S5 17 a0 ((sI S5 17 a0) + 1) → post S6) S2 (sI S2 9 a0) a1
set_option maxHeartbeats 4000000 in
set_option maxRecDepth 100000 in
theorem m_R_goAndTurn (l : Launch) (x : Cx) (S : St) (post : St → Prop) (a0 : Nat) (a1 : Int32) (fa0 : isA S 2 a0) (h : w_R_goAndTurn post S a0 a1) : Met l y_R_goAndTurn [.code y_R_goAndTurn c_R_goAndTurn 2 none] { frames := 2, cells := 0, slots := 0, locals := 43 } (va_Pc [.ref a0, .int a1] (GW x S)) (va_Qv post (gB x S) (xA x)) 0 0 (xA x) := by
  refine gMet (by decide +kernel) (Nat.le_of_ble_eq_true rfl) ?_
  intro p e s m args below meth c hx hb hr hown hlocks hin hw hK H locs hG ls hlA hml
  have hown : s.vm.findClass "WaltzHall$Dancer" = some m.cls := hown
  have hl0 : lv_has ls 2 [(0, .ref a0), (1, .int a1)] := hlA
  have leS : gle S S := gle.rf
  unfold w_R_goAndTurn at h
  refine lv_aload_n hx hb d_R_goAndTurn_0 rfl (lv_at hl0 0 rfl) ?_
  refine lv_aload_n hx hb d_R_goAndTurn_1 rfl (lv_at hl0 0 rfl) ?_
  refine gget hx hb hw hown hK hG kd_R fa0 rfl 13 (by decide) rfl tw_609 (fun _ h9 => h9) d_R_goAndTurn_2 ?_
  refine gput (S' := pI S 7 a0 (sI S 19 a0)) hx hb hw hown hK hG kd_R fa0 rfl 1 (by decide) (gChI fa0 rfl) tw_576 (fun _ h9 => h9) rfl rfl rfl rfl (Nat.le_of_ble_eq_true rfl) d_R_goAndTurn_5 (fun S1 H locs eS1 hle1 hG => ?_)
  replace h := h S1 eS1
  have fa0 := gle_isA hle1 fa0
  have leS := leS.tr hle1
  refine lv_aload_n hx hb d_R_goAndTurn_8 rfl (lv_at hl0 0 rfl) ?_
  refine lv_aload_n hx hb d_R_goAndTurn_9 rfl (lv_at hl0 0 rfl) ?_
  refine gget hx hb hw hown hK hG kd_R fa0 rfl 14 (by decide) rfl tw_611 (fun _ h9 => h9) d_R_goAndTurn_10 ?_
  refine gput (S' := pI S1 8 a0 (sI S1 20 a0)) hx hb hw hown hK hG kd_R fa0 rfl 2 (by decide) (gChI fa0 rfl) tw_580 (fun _ h9 => h9) rfl rfl rfl rfl (Nat.le_of_ble_eq_true rfl) d_R_goAndTurn_13 (fun S2 H locs eS2 hle1 hG => ?_)
  replace h := h S2 eS2
  have fa0 := gle_isA hle1 fa0
  have leS := leS.tr hle1
  refine lv_aload_n hx hb d_R_goAndTurn_16 rfl (lv_at hl0 0 rfl) ?_
  refine lv_aload_n hx hb d_R_goAndTurn_17 rfl (lv_at hl0 0 rfl) ?_
  refine gget hx hb hw hown hK hG kd_R fa0 rfl 3 (by decide) rfl tw_584 (fun _ h9 => h9) d_R_goAndTurn_18 ?_
  refine lv_iload_n hx hb d_R_goAndTurn_21 rfl (lv_at hl0 1 rfl) ?_
  -- call H_turned
  refine gpi hK hG (va_runSN (As := [.int (sI S2 9 a0), .int a1]) (rest := [.ref a0]) ⟨hx, hb, hml, hown, hw⟩ (m_H_turned l x S2 _ (sI S2 9 a0) a1  h) ⟨gcn hw tw_538 tw_28 tw_860 hd_H_turned rfl rfl ⟨(Nat.le_of_ble_eq_true rfl), (Nat.le_of_ble_eq_true rfl)⟩, hw _ tw_537, trivial⟩ (gpS hK hG) rfl rfl hl0.1 rfl (lv_room (Nat.le_of_ble_eq_true rfl)) d_R_goAndTurn_22 ⟨(Nat.le_of_ble_eq_true rfl), (Nat.le_of_ble_eq_true rfl)⟩) (fun r3 H locs h9 hG => ?_)
  replace h := h9
  clear h9
  refine gput (S' := pI S2 9 a0 r3) hx hb hw hown hK hG kd_R fa0 rfl 3 (by decide) (gChI fa0 rfl) tw_584 (fun _ h9 => h9) rfl rfl rfl rfl (Nat.le_of_ble_eq_true rfl) d_R_goAndTurn_25 (fun S4 H locs eS4 hle1 hG => ?_)
  replace h := h S4 eS4
  have fa0 := gle_isA hle1 fa0
  have leS := leS.tr hle1
  refine lv_aload_n hx hb d_R_goAndTurn_28 rfl (lv_at hl0 0 rfl) ?_
  refine lv_dup hx hb d_R_goAndTurn_29 rfl ?_
  refine gget hx hb hw hown hK hG kd_R fa0 rfl 4 (by decide) rfl tw_587 (fun _ h9 => h9) d_R_goAndTurn_30 ?_
  refine lv_aload_n hx hb d_R_goAndTurn_33 rfl (lv_at hl0 0 rfl) ?_
  refine gget hx hb hw hown hK hG kd_R fa0 rfl 5 (by decide) rfl tw_590 (fun _ h9 => h9) d_R_goAndTurn_34 ?_
  refine lv_isub hx hb d_R_goAndTurn_37 ?_
  refine gput (S' := pI S4 10 a0 ((sI S4 10 a0) - (sI S4 11 a0))) hx hb hw hown hK hG kd_R fa0 rfl 4 (by decide) (gChI fa0 rfl) tw_587 (fun _ h9 => h9) rfl rfl rfl rfl (Nat.le_of_ble_eq_true rfl) d_R_goAndTurn_38 (fun S5 H locs eS5 hle1 hG => ?_)
  replace h := h S5 eS5
  have fa0 := gle_isA hle1 fa0
  have leS := leS.tr hle1
  refine lv_aload_n hx hb d_R_goAndTurn_41 rfl (lv_at hl0 0 rfl) ?_
  refine lv_dup hx hb d_R_goAndTurn_42 rfl ?_
  refine gget hx hb hw hown hK hG kd_R fa0 rfl 11 (by decide) rfl tw_606 (fun _ h9 => h9) d_R_goAndTurn_43 ?_
  refine lv_iconst (v := 1) hx hb d_R_goAndTurn_46 (by decide) ?_
  refine lv_iadd hx hb d_R_goAndTurn_47 ?_
  refine gput (S' := pI S5 17 a0 ((sI S5 17 a0) + 1)) hx hb hw hown hK hG kd_R fa0 rfl 11 (by decide) (gChI fa0 rfl) tw_606 (fun _ h9 => h9) rfl rfl rfl rfl (Nat.le_of_ble_eq_true rfl) d_R_goAndTurn_48 (fun S6 H locs eS6 hle1 hG => ?_)
  replace h := h S6 eS6
  have fa0 := gle_isA hle1 fa0
  have leS := leS.tr hle1
  exact gvret hx hb hr hlocks hK hG leS h (Nat.le_of_ble_eq_true rfl) (Nat.le_of_ble_eq_true rfl) d_R_goAndTurn_51
def w_R_stagger (post : St → Prop) (S : St) (a0 : Nat) : Prop :=
  ∀ S1 : St, S1 = pI S 16 a0 3 → ∀ S2 : St, S2 = pI S1 18 a0 ((sI S1 18 a0) + 1) → post S2
set_option maxHeartbeats 4000000 in
set_option maxRecDepth 100000 in
theorem m_R_stagger (l : Launch) (x : Cx) (S : St) (post : St → Prop) (a0 : Nat) (fa0 : isA S 2 a0) (h : w_R_stagger post S a0) : Met l y_R_stagger [.code y_R_stagger c_R_stagger 1 none] { frames := 0, cells := 0, slots := 0, locals := 0 } (va_Pc [.ref a0] (GW x S)) (va_Qv post (gB x S) (xA x)) 0 0 (xA x) := by
  refine gMet (by decide +kernel) (Nat.le_of_ble_eq_true rfl) ?_
  intro p e s m args below meth c hx hb hr hown hlocks hin hw hK H locs hG ls hlA hml
  have hown : s.vm.findClass "WaltzHall$Dancer" = some m.cls := hown
  have hl0 : lv_has ls 1 [(0, .ref a0)] := hlA
  have leS : gle S S := gle.rf
  unfold w_R_stagger at h
  refine lv_aload_n hx hb d_R_stagger_0 rfl (lv_at hl0 0 rfl) ?_
  refine lv_iconst (v := 3) hx hb d_R_stagger_1 (by decide) ?_
  refine gput (S' := pI S 16 a0 3) hx hb hw hown hK hG kd_R fa0 rfl 10 (by decide) (gChI fa0 rfl) tw_604 (fun _ h9 => h9) rfl rfl rfl rfl (Nat.le_of_ble_eq_true rfl) d_R_stagger_2 (fun S1 H locs eS1 hle1 hG => ?_)
  replace h := h S1 eS1
  have fa0 := gle_isA hle1 fa0
  have leS := leS.tr hle1
  refine lv_aload_n hx hb d_R_stagger_5 rfl (lv_at hl0 0 rfl) ?_
  refine lv_dup hx hb d_R_stagger_6 rfl ?_
  refine gget hx hb hw hown hK hG kd_R fa0 rfl 12 (by decide) rfl tw_607 (fun _ h9 => h9) d_R_stagger_7 ?_
  refine lv_iconst (v := 1) hx hb d_R_stagger_10 (by decide) ?_
  refine lv_iadd hx hb d_R_stagger_11 ?_
  refine gput (S' := pI S1 18 a0 ((sI S1 18 a0) + 1)) hx hb hw hown hK hG kd_R fa0 rfl 12 (by decide) (gChI fa0 rfl) tw_607 (fun _ h9 => h9) rfl rfl rfl rfl (Nat.le_of_ble_eq_true rfl) d_R_stagger_12 (fun S2 H locs eS2 hle1 hG => ?_)
  replace h := h S2 eS2
  have fa0 := gle_isA hle1 fa0
  have leS := leS.tr hle1
  exact gvret hx hb hr hlocks hK hG leS h (Nat.le_of_ble_eq_true rfl) (Nat.le_of_ble_eq_true rfl) d_R_stagger_15
def w_R_directionTo (post : Int32 → Prop) (S : St) (a0 : Nat) (a1 : Option Nat) : Prop :=
  ∃ y1 : Nat, a1 = some y1 ∧ isA S 2 y1 ∧ ((sI S 7 y1) = (sI S 7 a0) → ((sI S 8 y1) ≤ (sI S 8 a0) → post 0) ∧ (¬ (sI S 8 y1) ≤ (sI S 8 a0) → post 2)) ∧ (¬ (sI S 7 y1) = (sI S 7 a0) → ((sI S 7 y1) ≤ (sI S 7 a0) → post 3) ∧ (¬ (sI S 7 y1) ≤ (sI S 7 a0) → post 1))
set_option maxHeartbeats 4000000 in
set_option maxRecDepth 100000 in
theorem m_R_directionTo (l : Launch) (x : Cx) (S : St) (post : Int32 → Prop) (a0 : Nat) (a1 : Option Nat) (fa0 : isA S 2 a0) (h : w_R_directionTo post S a0 a1) : Met l y_R_directionTo [.code y_R_directionTo c_R_directionTo 2 (some .int)] { frames := 0, cells := 0, slots := 0, locals := 0 } (va_Pc [.ref a0, va_rf a1] (GW x S)) (va_Qi (gPu post S) (gB x S) (xA x)) 0 0 (xA x) := by
  refine gMet (by decide +kernel) (by simp [lg_sl, gCat, gci1, gcr1, gcl1, gcd1]) ?_
  intro p e s m args below meth c hx hb hr hown hlocks hin hw hK H locs hG ls hlA hml
  have hown : s.vm.findClass "WaltzHall$Dancer" = some m.cls := hown
  have hl0 : lv_has ls 2 [(0, .ref a0), (1, va_rf a1)] := hlA
  unfold w_R_directionTo at h
  refine gaload_n hx hb d_R_directionTo_0 rfl (lv_at hl0 1 rfl) ?_
  obtain ⟨y1, ey1, h⟩ := h
  subst ey1
  obtain ⟨f2, h⟩ := h
  refine gget hx hb hw hown hK hG kd_R f2 rfl 1 (by decide) rfl tw_576 (fun _ h9 => h9) d_R_directionTo_1 ?_
  refine lv_aload_n hx hb d_R_directionTo_4 rfl (lv_at hl0 0 rfl) ?_
  refine gget hx hb hw hown hK hG kd_R fa0 rfl 1 (by decide) rfl tw_576 (fun _ h9 => h9) d_R_directionTo_5 ?_
  refine lv_icmp_eq (tgt := 28) hx hb d_R_directionTo_8 (by decide) (fun hc5 => ?_) (fun hc5 => ?_)
  · replace h := h.1 hc5
    refine lv_aload_n hx hb d_R_directionTo_28 rfl (lv_at hl0 1 rfl) ?_
    refine gget hx hb hw hown hK hG kd_R f2 rfl 2 (by decide) rfl tw_580 (fun _ h9 => h9) d_R_directionTo_29 ?_
    refine lv_aload_n hx hb d_R_directionTo_32 rfl (lv_at hl0 0 rfl) ?_
    refine gget hx hb hw hown hK hG kd_R fa0 rfl 2 (by decide) rfl tw_580 (fun _ h9 => h9) d_R_directionTo_33 ?_
    refine lv_icmp_le (tgt := 43) hx hb d_R_directionTo_36 (by decide) (fun hc3 => ?_) (fun hc3 => ?_)
    · replace h := h.1 hc3
      refine lv_iconst (v := 0) hx hb d_R_directionTo_43 (by decide) ?_
      exact giret hx hb hr hlocks hK hG gle.rf ⟨h, rfl⟩ (Nat.le_of_ble_eq_true rfl) (Nat.le_of_ble_eq_true rfl) d_R_directionTo_44
    · replace h := h.2 hc3
      refine lv_iconst (v := 2) hx hb d_R_directionTo_39 (by decide) ?_
      refine lv_goto (tgt := 44) hx hb d_R_directionTo_40 (by decide) ?_
      exact giret hx hb hr hlocks hK hG gle.rf ⟨h, rfl⟩ (Nat.le_of_ble_eq_true rfl) (Nat.le_of_ble_eq_true rfl) d_R_directionTo_44
  · replace h := h.2 hc5
    refine lv_aload_n hx hb d_R_directionTo_11 rfl (lv_at hl0 1 rfl) ?_
    refine gget hx hb hw hown hK hG kd_R f2 rfl 1 (by decide) rfl tw_576 (fun _ h9 => h9) d_R_directionTo_12 ?_
    refine lv_aload_n hx hb d_R_directionTo_15 rfl (lv_at hl0 0 rfl) ?_
    refine gget hx hb hw hown hK hG kd_R fa0 rfl 1 (by decide) rfl tw_576 (fun _ h9 => h9) d_R_directionTo_16 ?_
    refine lv_icmp_le (tgt := 26) hx hb d_R_directionTo_19 (by decide) (fun hc4 => ?_) (fun hc4 => ?_)
    · replace h := h.1 hc4
      refine lv_iconst (v := 3) hx hb d_R_directionTo_26 (by decide) ?_
      exact giret hx hb hr hlocks hK hG gle.rf ⟨h, rfl⟩ (Nat.le_of_ble_eq_true rfl) (Nat.le_of_ble_eq_true rfl) d_R_directionTo_27
    · replace h := h.2 hc4
      refine lv_iconst (v := 1) hx hb d_R_directionTo_22 (by decide) ?_
      refine lv_goto (tgt := 27) hx hb d_R_directionTo_23 (by decide) ?_
      exact giret hx hb hr hlocks hK hG gle.rf ⟨h, rfl⟩ (Nat.le_of_ble_eq_true rfl) (Nat.le_of_ble_eq_true rfl) d_R_directionTo_27
def w_R_standAlone (post : St → Prop) (S : St) (a0 : Nat) : Prop :=
  ∀ S1 : St, S1 = pQ S 14 a0 none → ∀ S2 : St, S2 = pI S1 15 a0 0 → post S2
set_option maxHeartbeats 4000000 in
set_option maxRecDepth 100000 in
theorem m_R_standAlone (l : Launch) (x : Cx) (S : St) (post : St → Prop) (a0 : Nat) (fa0 : isA S 2 a0) (h : w_R_standAlone post S a0) : Met l y_R_standAlone [.code y_R_standAlone c_R_standAlone 1 none] { frames := 0, cells := 0, slots := 0, locals := 0 } (va_Pc [.ref a0] (GW x S)) (va_Qv post (gB x S) (xA x)) 0 0 (xA x) := by
  refine gMet (by decide +kernel) (Nat.le_of_ble_eq_true rfl) ?_
  intro p e s m args below meth c hx hb hr hown hlocks hin hw hK H locs hG ls hlA hml
  have hown : s.vm.findClass "WaltzHall$Dancer" = some m.cls := hown
  have hl0 : lv_has ls 1 [(0, .ref a0)] := hlA
  have leS : gle S S := gle.rf
  unfold w_R_standAlone at h
  refine lv_aload_n hx hb d_R_standAlone_0 rfl (lv_at hl0 0 rfl) ?_
  refine gnull hx hb d_R_standAlone_1 ?_
  refine gput (S' := pQ S 14 a0 none) hx hb hw hown hK hG kd_R fa0 rfl 8 (by decide) (gChQ fa0 rfl) tw_598 (fun _ h9 => h9) rfl rfl (gNo _ _) (gFo _ _) (Nat.le_of_ble_eq_true rfl) d_R_standAlone_2 (fun S1 H locs eS1 hle1 hG => ?_)
  replace h := h S1 eS1
  have fa0 := gle_isA hle1 fa0
  have leS := leS.tr hle1
  refine lv_aload_n hx hb d_R_standAlone_5 rfl (lv_at hl0 0 rfl) ?_
  refine lv_iconst (v := 0) hx hb d_R_standAlone_6 (by decide) ?_
  refine gput (S' := pI S1 15 a0 0) hx hb hw hown hK hG kd_R fa0 rfl 9 (by decide) (gChI fa0 rfl) tw_601 (fun _ h9 => h9) rfl rfl rfl rfl (Nat.le_of_ble_eq_true rfl) d_R_standAlone_7 (fun S2 H locs eS2 hle1 hG => ?_)
  replace h := h S2 eS2
  have fa0 := gle_isA hle1 fa0
  have leS := leS.tr hle1
  exact gvret hx hb hr hlocks hK hG leS h (Nat.le_of_ble_eq_true rfl) (Nat.le_of_ble_eq_true rfl) d_R_standAlone_10
def w_R_becomeLike (post : St → Prop) (S : St) (a0 : Nat) (a1 : Option Nat) : Prop :=
  ∃ y1 : Nat, a1 = some y1 ∧ isA S 2 y1 ∧ ∀ S3 : St, S3 = pI S 7 a0 (sI S 7 y1) → ∀ S4 : St, S4 = pI S3 8 a0 (sI S3 8 y1) → ∀ S5 : St, S5 = pI S4 9 a0 (sI S4 9 y1) → ∀ S6 : St, S6 = pI S5 10 a0 (sI S5 10 y1) → ∀ S7 : St, S7 = pI S6 11 a0 (sI S6 11 y1) → ∀ o8 : Option Nat, o8 = sQ S7 12 y1 → ∀ S9 : St, S9 = pQ S7 12 a0 o8 → ∀ S10 : St, S10 = pI S9 13 a0 (sI S9 13 y1) → gBo (sI S10 15 y1) ∧ ∀ S12 : St, S12 = pI S10 15 a0 (sI S10 15 y1) → ∀ S13 : St, S13 = pI S12 16 a0 (sI S12 16 y1) → ∀ S14 : St, S14 = pI S13 17 a0 (sI S13 17 y1) → ∀ S15 : St, S15 = pI S14 18 a0 (sI S14 18 y1) → post S15
set_option maxHeartbeats 4000000 in
set_option maxRecDepth 100000 in
theorem m_R_becomeLike (l : Launch) (x : Cx) (S : St) (post : St → Prop) (a0 : Nat) (a1 : Option Nat) (fa0 : isA S 2 a0) (h : w_R_becomeLike post S a0 a1) : Met l y_R_becomeLike [.code y_R_becomeLike c_R_becomeLike 2 none] { frames := 0, cells := 0, slots := 0, locals := 0 } (va_Pc [.ref a0, va_rf a1] (GW x S)) (va_Qv post (gB x S) (xA x)) 0 0 (xA x) := by
  refine gMet (by decide +kernel) (by simp [lg_sl, gCat, gci1, gcr1, gcl1, gcd1]) ?_
  intro p e s m args below meth c hx hb hr hown hlocks hin hw hK H locs hG ls hlA hml
  have hown : s.vm.findClass "WaltzHall$Dancer" = some m.cls := hown
  have hl0 : lv_has ls 2 [(0, .ref a0), (1, va_rf a1)] := hlA
  have leS : gle S S := gle.rf
  unfold w_R_becomeLike at h
  refine lv_aload_n hx hb d_R_becomeLike_0 rfl (lv_at hl0 0 rfl) ?_
  refine gaload_n hx hb d_R_becomeLike_1 rfl (lv_at hl0 1 rfl) ?_
  obtain ⟨y1, ey1, h⟩ := h
  subst ey1
  obtain ⟨f2, h⟩ := h
  refine gget hx hb hw hown hK hG kd_R f2 rfl 1 (by decide) rfl tw_576 (fun _ h9 => h9) d_R_becomeLike_2 ?_
  refine gput (S' := pI S 7 a0 (sI S 7 y1)) hx hb hw hown hK hG kd_R fa0 rfl 1 (by decide) (gChI fa0 rfl) tw_576 (fun _ h9 => h9) rfl rfl rfl rfl (Nat.le_of_ble_eq_true rfl) d_R_becomeLike_5 (fun S3 H locs eS3 hle1 hG => ?_)
  replace h := h S3 eS3
  have fa0 := gle_isA hle1 fa0
  have f2 := gle_isA hle1 f2
  have leS := leS.tr hle1
  refine lv_aload_n hx hb d_R_becomeLike_8 rfl (lv_at hl0 0 rfl) ?_
  refine lv_aload_n hx hb d_R_becomeLike_9 rfl (lv_at hl0 1 rfl) ?_
  refine gget hx hb hw hown hK hG kd_R f2 rfl 2 (by decide) rfl tw_580 (fun _ h9 => h9) d_R_becomeLike_10 ?_
  refine gput (S' := pI S3 8 a0 (sI S3 8 y1)) hx hb hw hown hK hG kd_R fa0 rfl 2 (by decide) (gChI fa0 rfl) tw_580 (fun _ h9 => h9) rfl rfl rfl rfl (Nat.le_of_ble_eq_true rfl) d_R_becomeLike_13 (fun S4 H locs eS4 hle1 hG => ?_)
  replace h := h S4 eS4
  have fa0 := gle_isA hle1 fa0
  have f2 := gle_isA hle1 f2
  have leS := leS.tr hle1
  refine lv_aload_n hx hb d_R_becomeLike_16 rfl (lv_at hl0 0 rfl) ?_
  refine lv_aload_n hx hb d_R_becomeLike_17 rfl (lv_at hl0 1 rfl) ?_
  refine gget hx hb hw hown hK hG kd_R f2 rfl 3 (by decide) rfl tw_584 (fun _ h9 => h9) d_R_becomeLike_18 ?_
  refine gput (S' := pI S4 9 a0 (sI S4 9 y1)) hx hb hw hown hK hG kd_R fa0 rfl 3 (by decide) (gChI fa0 rfl) tw_584 (fun _ h9 => h9) rfl rfl rfl rfl (Nat.le_of_ble_eq_true rfl) d_R_becomeLike_21 (fun S5 H locs eS5 hle1 hG => ?_)
  replace h := h S5 eS5
  have fa0 := gle_isA hle1 fa0
  have f2 := gle_isA hle1 f2
  have leS := leS.tr hle1
  refine lv_aload_n hx hb d_R_becomeLike_24 rfl (lv_at hl0 0 rfl) ?_
  refine lv_aload_n hx hb d_R_becomeLike_25 rfl (lv_at hl0 1 rfl) ?_
  refine gget hx hb hw hown hK hG kd_R f2 rfl 4 (by decide) rfl tw_587 (fun _ h9 => h9) d_R_becomeLike_26 ?_
  refine gput (S' := pI S5 10 a0 (sI S5 10 y1)) hx hb hw hown hK hG kd_R fa0 rfl 4 (by decide) (gChI fa0 rfl) tw_587 (fun _ h9 => h9) rfl rfl rfl rfl (Nat.le_of_ble_eq_true rfl) d_R_becomeLike_29 (fun S6 H locs eS6 hle1 hG => ?_)
  replace h := h S6 eS6
  have fa0 := gle_isA hle1 fa0
  have f2 := gle_isA hle1 f2
  have leS := leS.tr hle1
  refine lv_aload_n hx hb d_R_becomeLike_32 rfl (lv_at hl0 0 rfl) ?_
  refine lv_aload_n hx hb d_R_becomeLike_33 rfl (lv_at hl0 1 rfl) ?_
  refine gget hx hb hw hown hK hG kd_R f2 rfl 5 (by decide) rfl tw_590 (fun _ h9 => h9) d_R_becomeLike_34 ?_
  refine gput (S' := pI S6 11 a0 (sI S6 11 y1)) hx hb hw hown hK hG kd_R fa0 rfl 5 (by decide) (gChI fa0 rfl) tw_590 (fun _ h9 => h9) rfl rfl rfl rfl (Nat.le_of_ble_eq_true rfl) d_R_becomeLike_37 (fun S7 H locs eS7 hle1 hG => ?_)
  replace h := h S7 eS7
  have fa0 := gle_isA hle1 fa0
  have f2 := gle_isA hle1 f2
  have leS := leS.tr hle1
  refine lv_aload_n hx hb d_R_becomeLike_40 rfl (lv_at hl0 0 rfl) ?_
  refine lv_aload_n hx hb d_R_becomeLike_41 rfl (lv_at hl0 1 rfl) ?_
  refine gget hx hb hw hown hK hG kd_R f2 rfl 6 (by decide) rfl tw_592 (fun _ h9 => h9) d_R_becomeLike_42 ?_
  refine gtopq (fun o8 eo8 => ?_)
  replace h := h o8 eo8
  refine gput (S' := pQ S7 12 a0 o8) hx hb hw hown hK hG kd_R fa0 rfl 6 (by decide) (gChQ fa0 rfl) tw_592 (fun _ h9 => h9) rfl rfl (gNo _ _) (gFo _ _) (Nat.le_of_ble_eq_true rfl) d_R_becomeLike_45 (fun S9 H locs eS9 hle1 hG => ?_)
  replace h := h S9 eS9
  have fa0 := gle_isA hle1 fa0
  have f2 := gle_isA hle1 f2
  have leS := leS.tr hle1
  refine lv_aload_n hx hb d_R_becomeLike_48 rfl (lv_at hl0 0 rfl) ?_
  refine lv_aload_n hx hb d_R_becomeLike_49 rfl (lv_at hl0 1 rfl) ?_
  refine gget hx hb hw hown hK hG kd_R f2 rfl 7 (by decide) rfl tw_595 (fun _ h9 => h9) d_R_becomeLike_50 ?_
  refine gput (S' := pI S9 13 a0 (sI S9 13 y1)) hx hb hw hown hK hG kd_R fa0 rfl 7 (by decide) (gChI fa0 rfl) tw_595 (fun _ h9 => h9) rfl rfl rfl rfl (Nat.le_of_ble_eq_true rfl) d_R_becomeLike_53 (fun S10 H locs eS10 hle1 hG => ?_)
  replace h := h S10 eS10
  have fa0 := gle_isA hle1 fa0
  have f2 := gle_isA hle1 f2
  have leS := leS.tr hle1
  refine lv_aload_n hx hb d_R_becomeLike_56 rfl (lv_at hl0 0 rfl) ?_
  refine lv_aload_n hx hb d_R_becomeLike_57 rfl (lv_at hl0 1 rfl) ?_
  refine gget hx hb hw hown hK hG kd_R f2 rfl 9 (by decide) rfl tw_601 (fun _ h9 => h9) d_R_becomeLike_58 ?_
  obtain ⟨hb11, h⟩ := h
  refine gput (S' := pI S10 15 a0 (sI S10 15 y1)) hx hb hw hown hK hG kd_R fa0 rfl 9 (by decide) (gChI fa0 rfl) tw_601 (fun _ h9 => h9) rfl rfl (gBo_n hb11) (gBo_f hb11) (Nat.le_of_ble_eq_true rfl) d_R_becomeLike_61 (fun S12 H locs eS12 hle1 hG => ?_)
  replace h := h S12 eS12
  have fa0 := gle_isA hle1 fa0
  have f2 := gle_isA hle1 f2
  have leS := leS.tr hle1
  refine lv_aload_n hx hb d_R_becomeLike_64 rfl (lv_at hl0 0 rfl) ?_
  refine lv_aload_n hx hb d_R_becomeLike_65 rfl (lv_at hl0 1 rfl) ?_
  refine gget hx hb hw hown hK hG kd_R f2 rfl 10 (by decide) rfl tw_604 (fun _ h9 => h9) d_R_becomeLike_66 ?_
  refine gput (S' := pI S12 16 a0 (sI S12 16 y1)) hx hb hw hown hK hG kd_R fa0 rfl 10 (by decide) (gChI fa0 rfl) tw_604 (fun _ h9 => h9) rfl rfl rfl rfl (Nat.le_of_ble_eq_true rfl) d_R_becomeLike_69 (fun S13 H locs eS13 hle1 hG => ?_)
  replace h := h S13 eS13
  have fa0 := gle_isA hle1 fa0
  have f2 := gle_isA hle1 f2
  have leS := leS.tr hle1
  refine lv_aload_n hx hb d_R_becomeLike_72 rfl (lv_at hl0 0 rfl) ?_
  refine lv_aload_n hx hb d_R_becomeLike_73 rfl (lv_at hl0 1 rfl) ?_
  refine gget hx hb hw hown hK hG kd_R f2 rfl 11 (by decide) rfl tw_606 (fun _ h9 => h9) d_R_becomeLike_74 ?_
  refine gput (S' := pI S13 17 a0 (sI S13 17 y1)) hx hb hw hown hK hG kd_R fa0 rfl 11 (by decide) (gChI fa0 rfl) tw_606 (fun _ h9 => h9) rfl rfl rfl rfl (Nat.le_of_ble_eq_true rfl) d_R_becomeLike_77 (fun S14 H locs eS14 hle1 hG => ?_)
  replace h := h S14 eS14
  have fa0 := gle_isA hle1 fa0
  have f2 := gle_isA hle1 f2
  have leS := leS.tr hle1
  refine lv_aload_n hx hb d_R_becomeLike_80 rfl (lv_at hl0 0 rfl) ?_
  refine lv_aload_n hx hb d_R_becomeLike_81 rfl (lv_at hl0 1 rfl) ?_
  refine gget hx hb hw hown hK hG kd_R f2 rfl 12 (by decide) rfl tw_607 (fun _ h9 => h9) d_R_becomeLike_82 ?_
  refine gput (S' := pI S14 18 a0 (sI S14 18 y1)) hx hb hw hown hK hG kd_R fa0 rfl 12 (by decide) (gChI fa0 rfl) tw_607 (fun _ h9 => h9) rfl rfl rfl rfl (Nat.le_of_ble_eq_true rfl) d_R_becomeLike_85 (fun S15 H locs eS15 hle1 hG => ?_)
  replace h := h S15 eS15
  have fa0 := gle_isA hle1 fa0
  have f2 := gle_isA hle1 f2
  have leS := leS.tr hle1
  exact gvret hx hb hr hlocks hK hG leS h (Nat.le_of_ble_eq_true rfl) (Nat.le_of_ble_eq_true rfl) d_R_becomeLike_88
