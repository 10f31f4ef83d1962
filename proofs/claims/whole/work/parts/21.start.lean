theorem g_ms {s : State} {args : Array Value} {own text : String} {k : Nat} (h1 : (Cond.stringRef own k text).before args s = true) (hex : (Cond.exactly (.string own k) "java/lang/String").before args s = true) : ∃ a, vk_R own k text a s := by
  obtain ⟨a, c, cA, kA, q1, -⟩ := Cond.exactly_spec (args := args) (first := s) (o := none) (s := s) (idx := []) (t := .string own k) (cls := "java/lang/String") hex
  exact ⟨a, vk_R.of h1 q1⟩
theorem g_tx {s : State} {args : Array Value} {own : String} {k : Nat} (L : Nat) (bs : List Int32) (hL : L < 2 ^ 31) (hex : (Cond.exactly (.string own k) "java/lang/String").before args s = true) (hco : (Cond.eq (.field (.string own k) "java/lang/String" "coder" "B") (.int 0)).before args s = true)
    (har : (Cond.arrayOf (.field (.string own k) "java/lang/String" "value" "[B") .byte).before args s = true) (hle : (Cond.eq (.length (.field (.string own k) "java/lang/String" "value" "[B")) (.int (Int32.ofNat L))).before args s = true)
    (hel : ∀ j : Nat, j < L → (Cond.eq (.elem (.field (.string own k) "java/lang/String" "value" "[B") (.int (Int32.ofNat j))) (.int (bs.getD j 0))).before args s = true) : ∃ a v : Nat, vk_S 1 [L] [bs] (fun _ => a) (fun _ => v) (fun q : Nat => s.heap.size ≤ q) s s.heap ∧ (Term.string own k).eval args s none [] s = some (.ref a) := by
  obtain ⟨adK, adV, h1, h2⟩ := vk_Sof (N := 1) (tm := fun _ => .string own k) (len := [L]) (byt := [bs]) (A := fun q : Nat => s.heap.size ≤ q) (args := args) (s := s)
    (fun i hi => by obtain rfl : i = 0 := by omega
                    exact hL) (fun i hi => hex) (fun i hi => hco) (fun i hi => har) (fun i hi => by obtain rfl : i = 0 := by omega
                                                                                                    exact hle) (fun i hi j hj => by obtain rfl : i = 0 := by omega
                                                                                                                                    exact hel j hj) (fun i j hi hj hne => absurd (show i = j by omega) hne) (fun a h => Nat.not_le.mpr h)
  refine ⟨adK 0, adV 0, ⟨fun i hi => ?_, fun i j hi hj _ => by omega⟩, h2 0 (by decide)⟩
  obtain rfl : i = 0 := by omega
  exact h1.1 0 hi
theorem g_arr {s : State} {args : Array Value} {type : FieldType} (hne : ∀ C, type ≠ .object C) (h : (Cond.arrayClass type).before args s = true) : ∃ cA : ClassId, ArrOfT s cA type ∧ va_RA s cA type := by
  obtain ⟨c, k, comp, h1, h2, h3⟩ := Cond.arrayClass_spec (args := args) (first := s) (o := none) (s := s) (idx := []) h
  refine ⟨c, fun n z => ⟨(fun k h => by cases h), k, h2, comp, h3⟩, ?_⟩
  cases type with
  | object C => exact absurd rfl (hne C)
  | _ => exact h1
theorem g_arrO {s : State} {args : Array Value} {C : String} (h : (Cond.arrayOver (.object C)).before args s = true) : ∃ cA : ClassId, ArrOfT s cA (.object C) ∧ va_RA s cA (.object C) := by
  obtain ⟨comp, c, k, h1, h2, h3, h4, h5⟩ := Cond.arrayOver_spec (args := args) (first := s) (o := none) (s := s) (idx := []) h
  exact ⟨c, fun n z => ⟨(fun k h => by cases h), k, h3, comp, h4⟩, k, comp, h3, h4, h1, h5⟩
def gvC : Cond := Jvm.Cond.and given_1 narrow_1
set_option maxHeartbeats 4000000 in
set_option maxRecDepth 100000 in
theorem g_cx {s : State} {b : Nat} (hts : ∀ w ∈ lw_tbl, w.before #[Value.ref b] s = true) (hgv : gvC.before #[Value.ref b] s = true) : ∃ x : Cx, (xA x = fun q : Nat => s.heap.size ≤ q) ∧ GK x s ∧ gNc s := by
  have hq := flat_of_before _ hgv
  have hA : ∀ a : Nat, a < s.heap.size → ¬ (fun q : Nat => s.heap.size ≤ q) a := fun a h => Nat.not_le.mpr h
  obtain ⟨c0, i0, hc0⟩ := u_known (C := "java/util/ArrayList") (T := T_AL) (N := 3) (n := 3) (gWd.use (gWd.of hts) #[]) kw_AL (show (Cond.instantiable "java/util/ArrayList" 3).before #[] s = true from va_tabs rfl rfl (hts _ (List.mem_of_getElem? (i := 81) (by decide +kernel))))
  obtain ⟨c1, i1, hc1⟩ := u_known (C := "WaltzHall$Dance") (T := T_D) (N := 3) (n := 3) (gWd.use (gWd.of hts) #[]) kw_D (show (Cond.instantiable "WaltzHall$Dance" 3).before #[] s = true from va_tabs rfl rfl (hts _ (List.mem_of_getElem? (i := 107) (by decide +kernel))))
  obtain ⟨c2, i2, hc2⟩ := u_known (C := "WaltzHall$Dancer") (T := T_R) (N := 15) (n := 15) (gWd.use (gWd.of hts) #[]) kw_R (show (Cond.instantiable "WaltzHall$Dancer" 15).before #[] s = true from va_tabs rfl rfl (hts _ (List.mem_of_getElem? (i := 568) (by decide +kernel))))
  obtain ⟨c3, i3, hc3⟩ := u_known (C := "WaltzHall$Floor") (T := T_F) (N := 3) (n := 3) (gWd.use (gWd.of hts) #[]) kw_F (show (Cond.instantiable "WaltzHall$Floor" 3).before #[] s = true from va_tabs rfl rfl (hts _ (List.mem_of_getElem? (i := 176) (by decide +kernel))))
  obtain ⟨c4, i4, hc4⟩ := u_known (C := "WaltzHall$Tape") (T := T_T) (N := 2) (n := 2) (gWd.use (gWd.of hts) #[]) kw_T (show (Cond.instantiable "WaltzHall$Tape" 2).before #[] s = true from va_tabs rfl rfl (hts _ (List.mem_of_getElem? (i := 64) (by decide +kernel))))
  obtain ⟨c5, i5, hc5⟩ := u_known (C := "WaltzHall$Winder") (T := T_N) (N := 7) (n := 7) (gWd.use (gWd.of hts) #[]) kw_N (show (Cond.instantiable "WaltzHall$Winder" 7).before #[] s = true from va_tabs rfl rfl (hts _ (List.mem_of_getElem? (i := 729) (by decide +kernel))))
  obtain ⟨c6, i6, hc6⟩ := u_known (C := "WaltzHall") (T := T_H) (N := 5) (n := 5) (gWd.use (gWd.of hts) #[]) kw_H (show (Cond.instantiable "WaltzHall" 5).before #[] s = true from va_tabs rfl rfl (hts _ (List.mem_of_getElem? (i := 56) (by decide +kernel))))
  obtain ⟨c7, i7, hc7⟩ := u_known (C := "WaltzHallModel$State") (T := T_S) (N := 18) (n := 18) (gWd.use (gWd.of hts) #[]) kw_S (show (Cond.instantiable "WaltzHallModel$State" 18).before #[] s = true from va_tabs rfl rfl (hts _ (List.mem_of_getElem? (i := 935) (by decide +kernel))))
  obtain ⟨c8, i8, hc8⟩ := u_known (C := "WaltzHallModel") (T := T_M) (N := 7) (n := 7) (gWd.use (gWd.of hts) #[]) kw_M (show (Cond.instantiable "WaltzHallModel" 7).before #[] s = true from va_tabs rfl rfl (hts _ (List.mem_of_getElem? (i := 929) (by decide +kernel))))
  obtain ⟨tB, htB⟩ := g_arr (type := .byte) (by intro C h; cases h) (hts _ (List.mem_of_getElem? (i := 79) (by decide +kernel)))
  obtain ⟨tI, htI⟩ := g_arr (type := .int) (by intro C h; cases h) (hts _ (List.mem_of_getElem? (i := 760) (by decide +kernel)))
  obtain ⟨tZ, htZ⟩ := g_arr (type := .boolean) (by intro C h; cases h) (hts _ (List.mem_of_getElem? (i := 1012) (by decide +kernel)))
  obtain ⟨tO, htO⟩ := g_arrO (C := "java/lang/Object") (hts _ (List.mem_of_getElem? (i := 244) (by decide +kernel)))
  obtain ⟨tJ, htJ⟩ := g_arr (type := .long) (by intro C h; cases h) (hts _ (List.mem_of_getElem? (i := 1242) (by decide +kernel)))
  obtain ⟨aDX, eDX, tDX⟩ := va_Tof (tm := .static "WaltzHallModel" "DX" "[I") (ty := .int) (N := 4) (f := fun j => .int (dxT j)) (by decide) (hq _ (List.mem_of_getElem? (i := 27) (by decide +kernel))) (va_eqt (hq _ (List.mem_of_getElem? (i := 28) (by decide +kernel)))) (fun j hj => by
    rcases (show j = 0 ∨ j = 1 ∨ j = 2 ∨ j = 3 by omega) with rfl | rfl | rfl | rfl
    · exact va_eqt (hq _ (List.mem_of_getElem? (i := 29) (by decide +kernel)))
    · exact va_eqt (hq _ (List.mem_of_getElem? (i := 30) (by decide +kernel)))
    · exact va_eqt (hq _ (List.mem_of_getElem? (i := 31) (by decide +kernel)))
    · exact va_eqt (hq _ (List.mem_of_getElem? (i := 32) (by decide +kernel)))) hA
  have zDX := va_Zof (hts _ (List.mem_of_getElem? (i := 1078) (by decide +kernel))) (hts _ (List.mem_of_getElem? (i := 43) (by decide +kernel))) eDX hA
  obtain ⟨aDY, eDY, tDY⟩ := va_Tof (tm := .static "WaltzHallModel" "DY" "[I") (ty := .int) (N := 4) (f := fun j => .int (dyT j)) (by decide) (hq _ (List.mem_of_getElem? (i := 34) (by decide +kernel))) (va_eqt (hq _ (List.mem_of_getElem? (i := 35) (by decide +kernel)))) (fun j hj => by
    rcases (show j = 0 ∨ j = 1 ∨ j = 2 ∨ j = 3 by omega) with rfl | rfl | rfl | rfl
    · exact va_eqt (hq _ (List.mem_of_getElem? (i := 36) (by decide +kernel)))
    · exact va_eqt (hq _ (List.mem_of_getElem? (i := 37) (by decide +kernel)))
    · exact va_eqt (hq _ (List.mem_of_getElem? (i := 38) (by decide +kernel)))
    · exact va_eqt (hq _ (List.mem_of_getElem? (i := 39) (by decide +kernel)))) hA
  have zDY := va_Zof (hts _ (List.mem_of_getElem? (i := 1080) (by decide +kernel))) (hts _ (List.mem_of_getElem? (i := 43) (by decide +kernel))) eDY hA
  obtain ⟨k0, v0, hS0, hE0⟩ := g_tx (own := "WaltzHall") (k := 25) 4 [102, 114, 98, 108] (by decide) (hq _ (List.mem_of_getElem? (i := 74) (by decide +kernel))) (hq _ (List.mem_of_getElem? (i := 75) (by decide +kernel))) (hq _ (List.mem_of_getElem? (i := 76) (by decide +kernel))) (hq _ (List.mem_of_getElem? (i := 77) (by decide +kernel))) (fun j hj => by
    rcases (show j = 0 ∨ j = 1 ∨ j = 2 ∨ j = 3 by omega) with rfl | rfl | rfl | rfl
    · exact (hq _ (List.mem_of_getElem? (i := 78) (by decide +kernel)))
    · exact (hq _ (List.mem_of_getElem? (i := 79) (by decide +kernel)))
    · exact (hq _ (List.mem_of_getElem? (i := 80) (by decide +kernel)))
    · exact (hq _ (List.mem_of_getElem? (i := 81) (by decide +kernel))))
  obtain ⟨k1, v1, hS1, hE1⟩ := g_tx (own := "WaltzHall") (k := 48) 8 [102, 116, 102, 116, 102, 116, 102, 116] (by decide) (hq _ (List.mem_of_getElem? (i := 82) (by decide +kernel))) (hq _ (List.mem_of_getElem? (i := 83) (by decide +kernel))) (hq _ (List.mem_of_getElem? (i := 84) (by decide +kernel))) (hq _ (List.mem_of_getElem? (i := 85) (by decide +kernel))) (fun j hj => by
    rcases (show j = 0 ∨ j = 1 ∨ j = 2 ∨ j = 3 ∨ j = 4 ∨ j = 5 ∨ j = 6 ∨ j = 7 by omega) with rfl | rfl | rfl | rfl | rfl | rfl | rfl | rfl
    · exact (hq _ (List.mem_of_getElem? (i := 86) (by decide +kernel)))
    · exact (hq _ (List.mem_of_getElem? (i := 87) (by decide +kernel)))
    · exact (hq _ (List.mem_of_getElem? (i := 88) (by decide +kernel)))
    · exact (hq _ (List.mem_of_getElem? (i := 89) (by decide +kernel)))
    · exact (hq _ (List.mem_of_getElem? (i := 90) (by decide +kernel)))
    · exact (hq _ (List.mem_of_getElem? (i := 91) (by decide +kernel)))
    · exact (hq _ (List.mem_of_getElem? (i := 92) (by decide +kernel)))
    · exact (hq _ (List.mem_of_getElem? (i := 93) (by decide +kernel))))
  obtain ⟨k2, v2, hS2, hE2⟩ := g_tx (own := "WaltzHall") (k := 50) 4 [115, 115, 119, 108] (by decide) (hq _ (List.mem_of_getElem? (i := 94) (by decide +kernel))) (hq _ (List.mem_of_getElem? (i := 95) (by decide +kernel))) (hq _ (List.mem_of_getElem? (i := 96) (by decide +kernel))) (hq _ (List.mem_of_getElem? (i := 97) (by decide +kernel))) (fun j hj => by
    rcases (show j = 0 ∨ j = 1 ∨ j = 2 ∨ j = 3 by omega) with rfl | rfl | rfl | rfl
    · exact (hq _ (List.mem_of_getElem? (i := 98) (by decide +kernel)))
    · exact (hq _ (List.mem_of_getElem? (i := 99) (by decide +kernel)))
    · exact (hq _ (List.mem_of_getElem? (i := 100) (by decide +kernel)))
    · exact (hq _ (List.mem_of_getElem? (i := 101) (by decide +kernel))))
  obtain ⟨k3, v3, hS3, hE3⟩ := g_tx (own := "WaltzHall") (k := 52) 1 [119] (by decide) (hq _ (List.mem_of_getElem? (i := 102) (by decide +kernel))) (hq _ (List.mem_of_getElem? (i := 103) (by decide +kernel))) (hq _ (List.mem_of_getElem? (i := 104) (by decide +kernel))) (hq _ (List.mem_of_getElem? (i := 105) (by decide +kernel))) (fun j hj => by
    obtain rfl : j = 0 := by omega
    · exact (hq _ (List.mem_of_getElem? (i := 106) (by decide +kernel))))
  obtain ⟨k4, v4, hS4, hE4⟩ := g_tx (own := "WaltzHall") (k := 54) 5 [102, 98, 102, 98, 116] (by decide) (hq _ (List.mem_of_getElem? (i := 107) (by decide +kernel))) (hq _ (List.mem_of_getElem? (i := 108) (by decide +kernel))) (hq _ (List.mem_of_getElem? (i := 109) (by decide +kernel))) (hq _ (List.mem_of_getElem? (i := 110) (by decide +kernel))) (fun j hj => by
    rcases (show j = 0 ∨ j = 1 ∨ j = 2 ∨ j = 3 ∨ j = 4 by omega) with rfl | rfl | rfl | rfl | rfl
    · exact (hq _ (List.mem_of_getElem? (i := 111) (by decide +kernel)))
    · exact (hq _ (List.mem_of_getElem? (i := 112) (by decide +kernel)))
    · exact (hq _ (List.mem_of_getElem? (i := 113) (by decide +kernel)))
    · exact (hq _ (List.mem_of_getElem? (i := 114) (by decide +kernel)))
    · exact (hq _ (List.mem_of_getElem? (i := 115) (by decide +kernel))))
  obtain ⟨k5, v5, hS5, hE5⟩ := g_tx (own := "WaltzHall") (k := 56) 6 [114, 114, 108, 108, 117, 117] (by decide) (hq _ (List.mem_of_getElem? (i := 116) (by decide +kernel))) (hq _ (List.mem_of_getElem? (i := 117) (by decide +kernel))) (hq _ (List.mem_of_getElem? (i := 118) (by decide +kernel))) (hq _ (List.mem_of_getElem? (i := 119) (by decide +kernel))) (fun j hj => by
    rcases (show j = 0 ∨ j = 1 ∨ j = 2 ∨ j = 3 ∨ j = 4 ∨ j = 5 by omega) with rfl | rfl | rfl | rfl | rfl | rfl
    · exact (hq _ (List.mem_of_getElem? (i := 120) (by decide +kernel)))
    · exact (hq _ (List.mem_of_getElem? (i := 121) (by decide +kernel)))
    · exact (hq _ (List.mem_of_getElem? (i := 122) (by decide +kernel)))
    · exact (hq _ (List.mem_of_getElem? (i := 123) (by decide +kernel)))
    · exact (hq _ (List.mem_of_getElem? (i := 124) (by decide +kernel)))
    · exact (hq _ (List.mem_of_getElem? (i := 125) (by decide +kernel))))
  obtain ⟨k6, v6, hS6, hE6⟩ := g_tx (own := "WaltzHall") (k := 58) 4 [102, 108, 98, 114] (by decide) (hq _ (List.mem_of_getElem? (i := 126) (by decide +kernel))) (hq _ (List.mem_of_getElem? (i := 127) (by decide +kernel))) (hq _ (List.mem_of_getElem? (i := 128) (by decide +kernel))) (hq _ (List.mem_of_getElem? (i := 129) (by decide +kernel))) (fun j hj => by
    rcases (show j = 0 ∨ j = 1 ∨ j = 2 ∨ j = 3 by omega) with rfl | rfl | rfl | rfl
    · exact (hq _ (List.mem_of_getElem? (i := 130) (by decide +kernel)))
    · exact (hq _ (List.mem_of_getElem? (i := 131) (by decide +kernel)))
    · exact (hq _ (List.mem_of_getElem? (i := 132) (by decide +kernel)))
    · exact (hq _ (List.mem_of_getElem? (i := 133) (by decide +kernel))))
  obtain ⟨k7, v7, hS7, hE7⟩ := g_tx (own := "WaltzHall") (k := 60) 4 [116, 117, 116, 117] (by decide) (hq _ (List.mem_of_getElem? (i := 134) (by decide +kernel))) (hq _ (List.mem_of_getElem? (i := 135) (by decide +kernel))) (hq _ (List.mem_of_getElem? (i := 136) (by decide +kernel))) (hq _ (List.mem_of_getElem? (i := 137) (by decide +kernel))) (fun j hj => by
    rcases (show j = 0 ∨ j = 1 ∨ j = 2 ∨ j = 3 by omega) with rfl | rfl | rfl | rfl
    · exact (hq _ (List.mem_of_getElem? (i := 138) (by decide +kernel)))
    · exact (hq _ (List.mem_of_getElem? (i := 139) (by decide +kernel)))
    · exact (hq _ (List.mem_of_getElem? (i := 140) (by decide +kernel)))
    · exact (hq _ (List.mem_of_getElem? (i := 141) (by decide +kernel))))
  obtain ⟨k8, v8, hS8, hE8⟩ := g_tx (own := "WaltzHallModel") (k := 60) 8 [102, 98, 108, 114, 116, 117, 115, 119] (by decide) (hq _ (List.mem_of_getElem? (i := 657) (by decide +kernel))) (hq _ (List.mem_of_getElem? (i := 658) (by decide +kernel))) (hq _ (List.mem_of_getElem? (i := 659) (by decide +kernel))) (hq _ (List.mem_of_getElem? (i := 660) (by decide +kernel))) (fun j hj => by
    rcases (show j = 0 ∨ j = 1 ∨ j = 2 ∨ j = 3 ∨ j = 4 ∨ j = 5 ∨ j = 6 ∨ j = 7 by omega) with rfl | rfl | rfl | rfl | rfl | rfl | rfl | rfl
    · exact (hq _ (List.mem_of_getElem? (i := 661) (by decide +kernel)))
    · exact (hq _ (List.mem_of_getElem? (i := 662) (by decide +kernel)))
    · exact (hq _ (List.mem_of_getElem? (i := 663) (by decide +kernel)))
    · exact (hq _ (List.mem_of_getElem? (i := 664) (by decide +kernel)))
    · exact (hq _ (List.mem_of_getElem? (i := 665) (by decide +kernel)))
    · exact (hq _ (List.mem_of_getElem? (i := 666) (by decide +kernel)))
    · exact (hq _ (List.mem_of_getElem? (i := 667) (by decide +kernel)))
    · exact (hq _ (List.mem_of_getElem? (i := 668) (by decide +kernel))))
  obtain ⟨k9, v9, hS9, hE9⟩ := g_tx (own := "WaltzHallModel") (k := 178) 4 [102, 114, 98, 108] (by decide) (hq _ (List.mem_of_getElem? (i := 669) (by decide +kernel))) (hq _ (List.mem_of_getElem? (i := 670) (by decide +kernel))) (hq _ (List.mem_of_getElem? (i := 671) (by decide +kernel))) (hq _ (List.mem_of_getElem? (i := 672) (by decide +kernel))) (fun j hj => by
    rcases (show j = 0 ∨ j = 1 ∨ j = 2 ∨ j = 3 by omega) with rfl | rfl | rfl | rfl
    · exact (hq _ (List.mem_of_getElem? (i := 673) (by decide +kernel)))
    · exact (hq _ (List.mem_of_getElem? (i := 674) (by decide +kernel)))
    · exact (hq _ (List.mem_of_getElem? (i := 675) (by decide +kernel)))
    · exact (hq _ (List.mem_of_getElem? (i := 676) (by decide +kernel))))
  obtain ⟨k10, v10, hS10, hE10⟩ := g_tx (own := "WaltzHallModel") (k := 180) 8 [102, 116, 102, 116, 102, 116, 102, 116] (by decide) (hq _ (List.mem_of_getElem? (i := 678) (by decide +kernel))) (hq _ (List.mem_of_getElem? (i := 679) (by decide +kernel))) (hq _ (List.mem_of_getElem? (i := 680) (by decide +kernel))) (hq _ (List.mem_of_getElem? (i := 681) (by decide +kernel))) (fun j hj => by
    rcases (show j = 0 ∨ j = 1 ∨ j = 2 ∨ j = 3 ∨ j = 4 ∨ j = 5 ∨ j = 6 ∨ j = 7 by omega) with rfl | rfl | rfl | rfl | rfl | rfl | rfl | rfl
    · exact (hq _ (List.mem_of_getElem? (i := 682) (by decide +kernel)))
    · exact (hq _ (List.mem_of_getElem? (i := 683) (by decide +kernel)))
    · exact (hq _ (List.mem_of_getElem? (i := 684) (by decide +kernel)))
    · exact (hq _ (List.mem_of_getElem? (i := 685) (by decide +kernel)))
    · exact (hq _ (List.mem_of_getElem? (i := 686) (by decide +kernel)))
    · exact (hq _ (List.mem_of_getElem? (i := 687) (by decide +kernel)))
    · exact (hq _ (List.mem_of_getElem? (i := 688) (by decide +kernel)))
    · exact (hq _ (List.mem_of_getElem? (i := 689) (by decide +kernel))))
  obtain ⟨k11, v11, hS11, hE11⟩ := g_tx (own := "WaltzHallModel") (k := 182) 4 [115, 115, 119, 108] (by decide) (hq _ (List.mem_of_getElem? (i := 691) (by decide +kernel))) (hq _ (List.mem_of_getElem? (i := 692) (by decide +kernel))) (hq _ (List.mem_of_getElem? (i := 693) (by decide +kernel))) (hq _ (List.mem_of_getElem? (i := 694) (by decide +kernel))) (fun j hj => by
    rcases (show j = 0 ∨ j = 1 ∨ j = 2 ∨ j = 3 by omega) with rfl | rfl | rfl | rfl
    · exact (hq _ (List.mem_of_getElem? (i := 695) (by decide +kernel)))
    · exact (hq _ (List.mem_of_getElem? (i := 696) (by decide +kernel)))
    · exact (hq _ (List.mem_of_getElem? (i := 697) (by decide +kernel)))
    · exact (hq _ (List.mem_of_getElem? (i := 698) (by decide +kernel))))
  obtain ⟨k12, v12, hS12, hE12⟩ := g_tx (own := "WaltzHallModel") (k := 184) 1 [119] (by decide) (hq _ (List.mem_of_getElem? (i := 700) (by decide +kernel))) (hq _ (List.mem_of_getElem? (i := 701) (by decide +kernel))) (hq _ (List.mem_of_getElem? (i := 702) (by decide +kernel))) (hq _ (List.mem_of_getElem? (i := 703) (by decide +kernel))) (fun j hj => by
    obtain rfl : j = 0 := by omega
    · exact (hq _ (List.mem_of_getElem? (i := 704) (by decide +kernel))))
  obtain ⟨k13, v13, hS13, hE13⟩ := g_tx (own := "WaltzHallModel") (k := 186) 5 [102, 98, 102, 98, 116] (by decide) (hq _ (List.mem_of_getElem? (i := 706) (by decide +kernel))) (hq _ (List.mem_of_getElem? (i := 707) (by decide +kernel))) (hq _ (List.mem_of_getElem? (i := 708) (by decide +kernel))) (hq _ (List.mem_of_getElem? (i := 709) (by decide +kernel))) (fun j hj => by
    rcases (show j = 0 ∨ j = 1 ∨ j = 2 ∨ j = 3 ∨ j = 4 by omega) with rfl | rfl | rfl | rfl | rfl
    · exact (hq _ (List.mem_of_getElem? (i := 710) (by decide +kernel)))
    · exact (hq _ (List.mem_of_getElem? (i := 711) (by decide +kernel)))
    · exact (hq _ (List.mem_of_getElem? (i := 712) (by decide +kernel)))
    · exact (hq _ (List.mem_of_getElem? (i := 713) (by decide +kernel)))
    · exact (hq _ (List.mem_of_getElem? (i := 714) (by decide +kernel))))
  obtain ⟨k14, v14, hS14, hE14⟩ := g_tx (own := "WaltzHallModel") (k := 188) 6 [114, 114, 108, 108, 117, 117] (by decide) (hq _ (List.mem_of_getElem? (i := 716) (by decide +kernel))) (hq _ (List.mem_of_getElem? (i := 717) (by decide +kernel))) (hq _ (List.mem_of_getElem? (i := 718) (by decide +kernel))) (hq _ (List.mem_of_getElem? (i := 719) (by decide +kernel))) (fun j hj => by
    rcases (show j = 0 ∨ j = 1 ∨ j = 2 ∨ j = 3 ∨ j = 4 ∨ j = 5 by omega) with rfl | rfl | rfl | rfl | rfl | rfl
    · exact (hq _ (List.mem_of_getElem? (i := 720) (by decide +kernel)))
    · exact (hq _ (List.mem_of_getElem? (i := 721) (by decide +kernel)))
    · exact (hq _ (List.mem_of_getElem? (i := 722) (by decide +kernel)))
    · exact (hq _ (List.mem_of_getElem? (i := 723) (by decide +kernel)))
    · exact (hq _ (List.mem_of_getElem? (i := 724) (by decide +kernel)))
    · exact (hq _ (List.mem_of_getElem? (i := 725) (by decide +kernel))))
  obtain ⟨k15, v15, hS15, hE15⟩ := g_tx (own := "WaltzHallModel") (k := 190) 4 [102, 108, 98, 114] (by decide) (hq _ (List.mem_of_getElem? (i := 727) (by decide +kernel))) (hq _ (List.mem_of_getElem? (i := 728) (by decide +kernel))) (hq _ (List.mem_of_getElem? (i := 729) (by decide +kernel))) (hq _ (List.mem_of_getElem? (i := 730) (by decide +kernel))) (fun j hj => by
    rcases (show j = 0 ∨ j = 1 ∨ j = 2 ∨ j = 3 by omega) with rfl | rfl | rfl | rfl
    · exact (hq _ (List.mem_of_getElem? (i := 731) (by decide +kernel)))
    · exact (hq _ (List.mem_of_getElem? (i := 732) (by decide +kernel)))
    · exact (hq _ (List.mem_of_getElem? (i := 733) (by decide +kernel)))
    · exact (hq _ (List.mem_of_getElem? (i := 734) (by decide +kernel))))
  obtain ⟨k16, v16, hS16, hE16⟩ := g_tx (own := "WaltzHallModel") (k := 192) 4 [116, 117, 116, 117] (by decide) (hq _ (List.mem_of_getElem? (i := 736) (by decide +kernel))) (hq _ (List.mem_of_getElem? (i := 737) (by decide +kernel))) (hq _ (List.mem_of_getElem? (i := 738) (by decide +kernel))) (hq _ (List.mem_of_getElem? (i := 739) (by decide +kernel))) (fun j hj => by
    rcases (show j = 0 ∨ j = 1 ∨ j = 2 ∨ j = 3 by omega) with rfl | rfl | rfl | rfl
    · exact (hq _ (List.mem_of_getElem? (i := 740) (by decide +kernel)))
    · exact (hq _ (List.mem_of_getElem? (i := 741) (by decide +kernel)))
    · exact (hq _ (List.mem_of_getElem? (i := 742) (by decide +kernel)))
    · exact (hq _ (List.mem_of_getElem? (i := 743) (by decide +kernel))))
  obtain ⟨aFS, eFS, tFS⟩ := va_Tof (tm := .static "WaltzHallModel" "FIRST" "[Ljava/lang/String;") (ty := .object "java/lang/String") (N := 8) (f := fun j => .ref (([k0, k1, k2, k3, k4, k5, k6, k7, k8, k9, k10, k11, k12, k13, k14, k15, k16] : List Nat).getD (9 + j) 0)) (by decide) (hq _ (List.mem_of_getElem? (i := 16) (by decide +kernel))) (va_eqt (hq _ (List.mem_of_getElem? (i := 17) (by decide +kernel)))) (fun j hj => by
    rcases (show j = 0 ∨ j = 1 ∨ j = 2 ∨ j = 3 ∨ j = 4 ∨ j = 5 ∨ j = 6 ∨ j = 7 by omega) with rfl | rfl | rfl | rfl | rfl | rfl | rfl | rfl
    · exact Cond.eq_refs (hq _ (List.mem_of_getElem? (i := 18) (by decide +kernel))) hE9 rfl
    · exact Cond.eq_refs (hq _ (List.mem_of_getElem? (i := 19) (by decide +kernel))) hE10 rfl
    · exact Cond.eq_refs (hq _ (List.mem_of_getElem? (i := 20) (by decide +kernel))) hE11 rfl
    · exact Cond.eq_refs (hq _ (List.mem_of_getElem? (i := 21) (by decide +kernel))) hE12 rfl
    · exact Cond.eq_refs (hq _ (List.mem_of_getElem? (i := 22) (by decide +kernel))) hE13 rfl
    · exact Cond.eq_refs (hq _ (List.mem_of_getElem? (i := 23) (by decide +kernel))) hE14 rfl
    · exact Cond.eq_refs (hq _ (List.mem_of_getElem? (i := 24) (by decide +kernel))) hE15 rfl
    · exact Cond.eq_refs (hq _ (List.mem_of_getElem? (i := 25) (by decide +kernel))) hE16 rfl) hA
  have zFS := va_Zof (hts _ (List.mem_of_getElem? (i := 1014) (by decide +kernel))) (hts _ (List.mem_of_getElem? (i := 43) (by decide +kernel))) eFS hA
  obtain ⟨aEM, eEM, tEM⟩ := va_Tof (tm := .static "java/util/ArrayList" "DEFAULTCAPACITY_EMPTY_ELEMENTDATA" "[Ljava/lang/Object;") (ty := .object "java/lang/Object") (N := 0) (f := fun _ => .null) (by decide) (hq _ (List.mem_of_getElem? (i := 5) (by decide +kernel))) (va_eqt (hq _ (List.mem_of_getElem? (i := 7) (by decide +kernel)))) (fun j hj => absurd hj (Nat.not_lt_zero j)) hA
  have zEM := va_Zof (hts _ (List.mem_of_getElem? (i := 93) (by decide +kernel))) (hts _ (List.mem_of_getElem? (i := 32) (by decide +kernel))) eEM hA
  have zCS := va_Zof (C := "java/lang/String") (n := "COMPACT_STRINGS") (d := "Z") (v := .int 1) (hts _ (List.mem_of_getElem? (i := 122) (by decide +kernel))) (hts _ (List.mem_of_getElem? (i := 34) (by decide +kernel))) (va_eqt (hq _ (List.mem_of_getElem? (i := 8) (by decide +kernel)))) hA
  have zSI := va_Zqof (C := "jdk/internal/util/Preconditions") (n := "SIOOBE_FORMATTER") (d := "Ljava/util/function/BiFunction;") (hts _ (List.mem_of_getElem? (i := 138) (by decide +kernel))) (hts _ (List.mem_of_getElem? (i := 36) (by decide +kernel))) (hq _ (List.mem_of_getElem? (i := 9) (by decide +kernel))) hA
  have zUS := vx_Zqof (C := "java/lang/Throwable") (n := "UNASSIGNED_STACK") (d := "[Ljava/lang/StackTraceElement;") (hts _ (List.mem_of_getElem? (i := 390) (by decide +kernel))) (hts _ (List.mem_of_getElem? (i := 45) (by decide +kernel))) (hq _ (List.mem_of_getElem? (i := 13) (by decide +kernel))) hA
  have zSS := vx_Zqof (C := "java/lang/Throwable") (n := "SUPPRESSED_SENTINEL") (d := "Ljava/util/List;") (hts _ (List.mem_of_getElem? (i := 392) (by decide +kernel))) (hts _ (List.mem_of_getElem? (i := 45) (by decide +kernel))) (hq _ (List.mem_of_getElem? (i := 14) (by decide +kernel))) hA
  refine ⟨((fun k => ([c0, c1, c2, c3, c4, c5, c6, c7, c8] : List ClassId).getD k 0, fun k => ([i0, i1, i2, i3, i4, i5, i6, i7, i8] : List (Nat → Nat)).getD k (fun _ => 0)), tB, tI, tZ, tO, tJ, (fun q : Nat => s.heap.size ≤ q), aDX, aDY, aEM, aFS, (fun i => ([k0, k1, k2, k3, k4, k5, k6, k7, k8, k9, k10, k11, k12, k13, k14, k15, k16] : List Nat).getD i 0), (fun i => ([v0, v1, v2, v3, v4, v5, v6, v7, v8, v9, v10, v11, v12, v13, v14, v15, v16] : List Nat).getD i 0)), rfl, ⟨⟨?_, ?_⟩, fun q h => h, gWd.of hts, ⟨?_, ?_⟩, ⟨zDX, tDX⟩, ⟨zDY, tDY⟩, ⟨zFS, tFS⟩, ⟨zEM, tEM⟩, zCS, zSI, zUS, zSS, ?_⟩, ?_⟩
  · intro k q hq
    match k, hq with
    | 0, hq => cases hq; exact hc0
    | 1, hq => cases hq; exact hc1
    | 2, hq => cases hq; exact hc2
    | 3, hq => cases hq; exact hc3
    | 4, hq => cases hq; exact hc4
    | 5, hq => cases hq; exact hc5
    | 6, hq => cases hq; exact hc6
    | 7, hq => cases hq; exact hc7
    | 8, hq => cases hq; exact hc8
    | k + 9, hq => simp [gCl] at hq
  · intro k q hq
    match k, hq with
    | 0, hq => cases hq; exact htB
    | 1, hq => cases hq; exact htI
    | 2, hq => cases hq; exact htZ
    | 3, hq => cases hq; exact htO
    | 4, hq => cases hq; exact htJ
    | k + 5, hq => simp [gTy] at hq
  · exact List.forall_mem_cons.mpr ⟨vk_R.of (hts _ (List.mem_of_getElem? (i := 108) (by decide +kernel))) hE0, List.forall_mem_cons.mpr ⟨vk_R.of (hts _ (List.mem_of_getElem? (i := 254) (by decide +kernel))) hE1, List.forall_mem_cons.mpr ⟨vk_R.of (hts _ (List.mem_of_getElem? (i := 255) (by decide +kernel))) hE2, List.forall_mem_cons.mpr ⟨vk_R.of (hts _ (List.mem_of_getElem? (i := 256) (by decide +kernel))) hE3, List.forall_mem_cons.mpr ⟨vk_R.of (hts _ (List.mem_of_getElem? (i := 257) (by decide +kernel))) hE4, List.forall_mem_cons.mpr ⟨vk_R.of (hts _ (List.mem_of_getElem? (i := 258) (by decide +kernel))) hE5, List.forall_mem_cons.mpr ⟨vk_R.of (hts _ (List.mem_of_getElem? (i := 259) (by decide +kernel))) hE6, List.forall_mem_cons.mpr ⟨vk_R.of (hts _ (List.mem_of_getElem? (i := 260) (by decide +kernel))) hE7, List.forall_mem_cons.mpr ⟨vk_R.of (hts _ (List.mem_of_getElem? (i := 1067) (by decide +kernel))) hE8, List.forall_mem_cons.mpr ⟨vk_R.of (hts _ (List.mem_of_getElem? (i := 1269) (by decide +kernel))) hE9, List.forall_mem_cons.mpr ⟨vk_R.of (hts _ (List.mem_of_getElem? (i := 1270) (by decide +kernel))) hE10, List.forall_mem_cons.mpr ⟨vk_R.of (hts _ (List.mem_of_getElem? (i := 1271) (by decide +kernel))) hE11, List.forall_mem_cons.mpr ⟨vk_R.of (hts _ (List.mem_of_getElem? (i := 1272) (by decide +kernel))) hE12, List.forall_mem_cons.mpr ⟨vk_R.of (hts _ (List.mem_of_getElem? (i := 1273) (by decide +kernel))) hE13, List.forall_mem_cons.mpr ⟨vk_R.of (hts _ (List.mem_of_getElem? (i := 1274) (by decide +kernel))) hE14, List.forall_mem_cons.mpr ⟨vk_R.of (hts _ (List.mem_of_getElem? (i := 1275) (by decide +kernel))) hE15, List.forall_mem_cons.mpr ⟨vk_R.of (hts _ (List.mem_of_getElem? (i := 1276) (by decide +kernel))) hE16, fun _ h => absurd h List.not_mem_nil⟩⟩⟩⟩⟩⟩⟩⟩⟩⟩⟩⟩⟩⟩⟩⟩⟩
  · exact List.forall_mem_cons.mpr ⟨(g_ms (hts _ (List.mem_of_getElem? (i := 404) (by decide +kernel))) (hq _ (List.mem_of_getElem? (i := 142) (by decide +kernel)))), List.forall_mem_cons.mpr ⟨(g_ms (hts _ (List.mem_of_getElem? (i := 451) (by decide +kernel))) (hq _ (List.mem_of_getElem? (i := 166) (by decide +kernel)))), List.forall_mem_cons.mpr ⟨(g_ms (hts _ (List.mem_of_getElem? (i := 515) (by decide +kernel))) (hq _ (List.mem_of_getElem? (i := 217) (by decide +kernel)))), List.forall_mem_cons.mpr ⟨(g_ms (hts _ (List.mem_of_getElem? (i := 562) (by decide +kernel))) (hq _ (List.mem_of_getElem? (i := 280) (by decide +kernel)))), List.forall_mem_cons.mpr ⟨(g_ms (hts _ (List.mem_of_getElem? (i := 567) (by decide +kernel))) (hq _ (List.mem_of_getElem? (i := 310) (by decide +kernel)))), List.forall_mem_cons.mpr ⟨(g_ms (hts _ (List.mem_of_getElem? (i := 667) (by decide +kernel))) (hq _ (List.mem_of_getElem? (i := 370) (by decide +kernel)))), List.forall_mem_cons.mpr ⟨(g_ms (hts _ (List.mem_of_getElem? (i := 678) (by decide +kernel))) (hq _ (List.mem_of_getElem? (i := 398) (by decide +kernel)))), List.forall_mem_cons.mpr ⟨(g_ms (hts _ (List.mem_of_getElem? (i := 686) (by decide +kernel))) (hq _ (List.mem_of_getElem? (i := 455) (by decide +kernel)))), List.forall_mem_cons.mpr ⟨(g_ms (hts _ (List.mem_of_getElem? (i := 698) (by decide +kernel))) (hq _ (List.mem_of_getElem? (i := 477) (by decide +kernel)))), List.forall_mem_cons.mpr ⟨(g_ms (hts _ (List.mem_of_getElem? (i := 719) (by decide +kernel))) (hq _ (List.mem_of_getElem? (i := 501) (by decide +kernel)))), List.forall_mem_cons.mpr ⟨(g_ms (hts _ (List.mem_of_getElem? (i := 727) (by decide +kernel))) (hq _ (List.mem_of_getElem? (i := 517) (by decide +kernel)))), List.forall_mem_cons.mpr ⟨(g_ms (hts _ (List.mem_of_getElem? (i := 728) (by decide +kernel))) (hq _ (List.mem_of_getElem? (i := 545) (by decide +kernel)))), List.forall_mem_cons.mpr ⟨(g_ms (hts _ (List.mem_of_getElem? (i := 773) (by decide +kernel))) (hq _ (List.mem_of_getElem? (i := 591) (by decide +kernel)))), List.forall_mem_cons.mpr ⟨(g_ms (hts _ (List.mem_of_getElem? (i := 922) (by decide +kernel))) (hq _ (List.mem_of_getElem? (i := 634) (by decide +kernel)))), List.forall_mem_cons.mpr ⟨(g_ms (hts _ (List.mem_of_getElem? (i := 479) (by decide +kernel))) (hq _ (List.mem_of_getElem? (i := 200) (by decide +kernel)))), List.forall_mem_cons.mpr ⟨(g_ms (hts _ (List.mem_of_getElem? (i := 659) (by decide +kernel))) (hq _ (List.mem_of_getElem? (i := 352) (by decide +kernel)))), List.forall_mem_cons.mpr ⟨(g_ms (hts _ (List.mem_of_getElem? (i := 772) (by decide +kernel))) (hq _ (List.mem_of_getElem? (i := 573) (by decide +kernel)))), List.forall_mem_cons.mpr ⟨(g_ms (hts _ (List.mem_of_getElem? (i := 527) (by decide +kernel))) (hq _ (List.mem_of_getElem? (i := 248) (by decide +kernel)))), List.forall_mem_cons.mpr ⟨(g_ms (hts _ (List.mem_of_getElem? (i := 795) (by decide +kernel))) (hq _ (List.mem_of_getElem? (i := 612) (by decide +kernel)))), fun _ h => absurd h List.not_mem_nil⟩⟩⟩⟩⟩⟩⟩⟩⟩⟩⟩⟩⟩⟩⟩⟩⟩⟩⟩
  · intro i hi
    match i, hi with
    | 0, _ => exact hS0
    | 1, _ => exact hS1
    | 2, _ => exact hS2
    | 3, _ => exact hS3
    | 4, _ => exact hS4
    | 5, _ => exact hS5
    | 6, _ => exact hS6
    | 7, _ => exact hS7
    | 8, _ => exact hS8
    | 9, _ => exact hS9
    | 10, _ => exact hS10
    | 11, _ => exact hS11
    | 12, _ => exact hS12
    | 13, _ => exact hS13
    | 14, _ => exact hS14
    | 15, _ => exact hS15
    | 16, _ => exact hS16
    | k + 17, hk => exact absurd hk (by omega)
  · exact List.forall_mem_cons.mpr ⟨va_Nc.of (hq _ (List.mem_of_getElem? (i := 58) (by decide +kernel))), List.forall_mem_cons.mpr ⟨va_Nc.of (hq _ (List.mem_of_getElem? (i := 69) (by decide +kernel))), List.forall_mem_cons.mpr ⟨va_Nc.of (hq _ (List.mem_of_getElem? (i := 70) (by decide +kernel))), fun _ h => absurd h List.not_mem_nil⟩⟩⟩
def S0 (e : Nat) : St := mS [] (fun _ => 0) (fun _ => 0) (fun _ _ => 0) (fun _ _ => none) (fun _ _ => 0) (fun _ _ => none) (fun _ _ => 0) e
/-- the law's end from what the pool must give -/
theorem whole_at {p : Program} {e : Env} {s : State} {m : MethodId} {below : List Frame} {meth : Method} {c : Code} (l : Launch) (hflags : l.flags = flags0) {b L : Nat} {xs : Nat → Int32} (hlaw : ∀ e9 : Nat, w_L_law (S0 e9) L xs) (C0 : lw_At p s m meth c b L xs) : W p l e room_1 s m #[Value.ref b] below meth c s.heap [] 0 0 (lw_Z below #[Value.ref b] s) (entryFrame m ([Value.ref b] : List Value).toArray 9) := by
  obtain ⟨hx, hb, hr, hml, hown, hts, hX, hbl, hlocks, hgv⟩ := C0
  obtain ⟨x, hxA, hK, hN⟩ := g_cx hts hgv
  have hl := lv_entry ([.ref b]) (n := 9) (Nat.le_of_ble_eq_true rfl)
  rw [lg_entry_eq]
  generalize (lg_sl ([.ref b]) ++ List.replicate (9 - (lg_sl ([.ref b])).length) Slot.unset).toArray = ls at hl ⊢
  have hl : lv_has ls 9 [(0, .ref b)] := hl
  have hlt : l.stackTraces = false := by
    unfold Launch.stackTraces
    rw [hflags]
    decide
  exact m_L_law l hlt x (S0 (xEm x)) hx hb hr hml hown hlocks (hK.2.2.1.use _) hK hN hX hbl (by rw [hxA]; exact Nat.not_le.mpr hbl) (by rw [hxA]; exact fun q h => h) s.heap [] ⟨fun k q h => by simp [gWs, S0, sL, mS, va_pl] at h, ⟨fun i j p q h => by simp [gWs, S0, sL, mS, va_pl] at h, fun k q h => by simp [gWs, S0, sL, mS, va_pl] at h⟩, va_S.rf, rfl⟩ ls hl (hlaw _)
