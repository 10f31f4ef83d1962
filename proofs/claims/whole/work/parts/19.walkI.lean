def gNc (U : State) : Prop := ∀ q ∈ ([("java/lang/IllegalStateException", "java/lang/IllegalArgumentException"), ("java/lang/IllegalStateException", "java/lang/IndexOutOfBoundsException"), ("java/lang/IllegalArgumentException", "java/lang/IndexOutOfBoundsException")] : List (String × String)), va_Nc q.1 q.2 U
theorem gNc.moved {u U : State} (hvm : u.vm.Alike U.vm) (h : gNc u) : gNc U := fun q hq => (h q hq).moved hvm
def GL (x : Cx) (S : St) (U : State) : Prop := GW x S U ∧ gNc U
theorem GL.blind {x : Cx} {S : St} {As : List Value} : FrameBlind (va_Pc As (GL x S)) := fun a U g mk q => ⟨q.1, GW.same (s := U) (U := U.calling g mk a) rfl rfl q.2.1, q.2.2.moved (Vm.Alike.refl _)⟩
section GX19
variable {p : Program} {l : Launch} {e : Env} {R : Room} {s : State} {m : MethodId} {args : Array Value} {below : List Frame} {meth : Method} {c : Code} {H : Heap} {locs : List Loc} {cells slots : Nat} {Q : State → Prop}
variable {cc : ByteArray} {pc index : Nat} {ls : Array Slot} {rest : List Value} {x : Cx} {S : St} {own : String} {mc ms : Nat} {st0 : List Value} {va : Array Value}
theorem gpSL {As : List Value} (hK : GK x s) (hN : gNc s) (hG : GH x S s H locs) : PreS s H (va_Pc As (GL x S)) As := ⟨GL.blind, fun _ hU hW => ⟨rfl, GW.at hK hG hU hW, hN.moved hW.alike⟩⟩
theorem gMetL {l : Launch} {y : MethodName} {cc : ByteArray} {maxL : Nat} {ret : Option FieldType} {rm : Room} {x : Cx} {S : St} {As : List Value} {Qc : Array Value → State → Outcome → State → Prop} {mc ms : Nat} (hh : List (Nat × Nat × Nat × Nat)) (hy : plainName y.cls = true) (hlen : (lg_sl As).length ≤ maxL) (hwc : Cond.codeWith y cc maxL ret hh ∈ gG)
    (body : ∀ (p : Program) (e : Env) (s : State) (m : MethodId) (args : Array Value) (below : List Frame) (meth : Method) (c : Code), p.tables.exec = Jvm.exec → c.code = cc → meth.sig.returnType = ret → s.vm.findClass y.cls = some m.cls → meth.locks = false → meth.name = y.name → (∀ w ∈ gG, w.before args s = true) → GK x s → gNc s → ∀ (H : Heap) (locs : List Loc), GH x S s H locs → ∀ ls : Array Slot, lv_has ls maxL (lv_args 0 As) → c.maxLocals = maxL → c.exceptionTable.toList = tableOf hh →
      W p l e rm s m args below meth c H locs 0 0 (MQ below Qc args s mc ms (xA x)) (F0 m 0 ls [])) : Met l y [.codeWith y cc maxL ret hh] rm (va_Pc As (GL x S)) Qc mc ms (xA x) := by
  refine va_MetW (cc := cc) (maxL := maxL) (ret := ret) (hh := hh) hy rfl ?_
  intro p e s m args below meth c s₁ B hml hv
  obtain ⟨rfl, ⟨h1, h2, h3, h4⟩, hN⟩ := hv
  rw [lg_entry_eq]
  exact body p e s m _ below meth c B.exec B.bytes B.returns (findClass_of_methodNamed B.named) B.notSynchronized (name_of_methodNamed B.named B.method).1 (h4.2.2.1.use _) h4 hN _ _ ⟨h1, h2, va_S.rf, h3⟩ _ (lv_entry As hlen) hml (vx_table (x := y) B (h4.2.2.1.use _ _ hwc))
theorem gcsw {y : MethodName} {bytes : ByteArray} {maxL mc ms n : Nat} {ret : Option FieldType} {hh : List (Nat × Nat × Nat × Nat)} {rm : Room} (hw : ∀ w ∈ gG, w.before args s = true) (h1 : Cond.codeWith y bytes maxL ret hh ∈ gG) (h2 : Cond.initialized y.cls ∈ gG) (h3 : Cond.methodLink own index y ∈ gG) (h4 : Cond.static y ∈ gG) (hd : y.cls ≠ "java/lang/invoke/MethodHandle" ∧ y.cls ≠ "java/lang/invoke/VarHandle" ∧ (parseMethodDescriptor y.desc).map (fun d => d.parameters.length) = some n) (hrc : rm.cells = mc) (hrs : rm.slots = ms) (hR : rm.frames + 1 ≤ R.frames ∧ 8 + (maxL + 11) + rm.locals ≤ R.locals) :
    vx_CSW R s args own index y bytes maxL ret hh [.codeWith y bytes maxL ret hh] rm mc ms n := by
  refine ⟨⟨hrc, hrs, hR.1, hR.2, fun w hw' a' U hW => ?_, List.mem_cons_self⟩, hw _ h1, hw _ h2, ⟨hd.1, hd.2.1⟩, fun sig h => ?_, hw _ h3, hw _ h4⟩
  · cases List.mem_singleton.mp hw'
    exact word_at hW (Or.inl (by first | rfl | simp [Cond.onTables, Cond.keeps, Cond.steady])) (hw _ h1)
  · have h5 := hd.2.2
    rw [h] at h5
    exact (Option.some.inj h5).symm
theorem gcatch {post : Int32 → St → Prop} {px : String → St → Prop} (hG : GH x S s H locs) (hr : vx_Run p l e R s m args below meth c H locs cells slots mc ms (F0 m pc ls st0) rest (va_Qi post (gB x S) (xA x) va) (gX x S px) (xA x))
    (kx : ∀ (E : String) (S1 : St) (H1 : Heap) (locs1 : List Loc) (q9 : Nat) (ce : Cell), px E S1 → gle S S1 → GH x S1 s H1 locs1 → H1[q9]? = some ce → ce.vm = .none → s.vm.findClass E = some ce.cls → vx_W p l e R s m args below meth c H1 locs1 (cells + mc) (slots + ms) Q (F0 m pc ls rest) q9)
    (kk : ∀ (r : Int32) (S1 : St) (H1 : Heap) (locs1 : List Loc), post r S1 → gle S S1 → GH x S1 s H1 locs1 → W p l e R s m args below meth c H1 locs1 (cells + mc) (slots + ms) Q (F0 m (pc + 3) ls (.int r :: rest))) : W p l e R s m args below meth c H locs cells slots Q (F0 m pc ls st0) :=
  vx_calli hr hG.2.2.1 (fun _ _ h => h) (fun _ h => h) (fun _ _ h => h)
    (fun E ce q9 u t H1 locs1 ht _ _ hB _ _ hS hce hv hcl => kx E u H1 locs1 q9 ce hB.1 hB.2.2 (GH.backP ht hB.2.1 hS) hce hv hcl)
    (fun r u t H1 locs1 ht _ hp hB _ _ hS => kk r u H1 locs1 hp hB.2 (GH.back ht hB.1 hS))
theorem gcatchp {post : Int32 → Prop} {px : String → Prop} (hG : GH x S s H locs) (hr : vx_Run p l e R s m args below meth c H locs cells slots mc ms (F0 m pc ls st0) rest (va_Qi (gPu post S) (gB x S) (xA x) va) (gX x S (gPx px S)) (xA x))
    (kx : ∀ (E : String) (H1 : Heap) (locs1 : List Loc) (q9 : Nat) (ce : Cell), px E → GH x S s H1 locs1 → H1[q9]? = some ce → ce.vm = .none → s.vm.findClass E = some ce.cls → vx_W p l e R s m args below meth c H1 locs1 (cells + mc) (slots + ms) Q (F0 m pc ls rest) q9)
    (kk : ∀ (r : Int32) (H1 : Heap) (locs1 : List Loc), post r → GH x S s H1 locs1 → W p l e R s m args below meth c H1 locs1 (cells + mc) (slots + ms) Q (F0 m (pc + 3) ls (.int r :: rest))) : W p l e R s m args below meth c H locs cells slots Q (F0 m pc ls st0) :=
  gcatch hG hr (fun E S1 H1 locs1 q9 ce h _ hG1 hce hv hcl => kx E H1 locs1 q9 ce h.1 (by rw [h.2]; exact hG1) hce hv hcl)
    (fun r S1 H1 locs1 h _ hG1 => kk r H1 locs1 h.1 (by rw [h.2]; exact hG1))
end GX19
section GX19b
variable {s : State} {args : Array Value} {own E nm nm2 : String} {a b c ct a2 b2 c2 ct2 pc : Nat}
theorem gpass1 (h0 : ct ≠ 0) (hl : (Cond.classLink own ct nm).before args s = true) (hn : va_Nc E nm s) : ∀ z ∈ [(⟨a, b, c, ct⟩ : ExceptionTableEntry)], covers z pc = false ∨ (z.catchType ≠ 0 ∧ ∃ nm : String, (Cond.classLink own z.catchType nm).before args s = true ∧ va_Nc E nm s) := by
  intro z hz
  cases List.mem_singleton.mp hz
  exact Or.inr ⟨h0, nm, hl, hn⟩
theorem gpass2 (h0 : ct ≠ 0) (hl : (Cond.classLink own ct nm).before args s = true) (hn : va_Nc E nm s) (h02 : ct2 ≠ 0) (hl2 : (Cond.classLink own ct2 nm2).before args s = true) (hn2 : va_Nc E nm2 s) : ∀ z ∈ [(⟨a, b, c, ct⟩ : ExceptionTableEntry), ⟨a2, b2, c2, ct2⟩], covers z pc = false ∨ (z.catchType ≠ 0 ∧ ∃ nm : String, (Cond.classLink own z.catchType nm).before args s = true ∧ va_Nc E nm s) := by
  intro z hz
  rcases List.mem_cons.mp hz with rfl | hz
  · exact Or.inr ⟨h0, nm, hl, hn⟩
  · cases List.mem_singleton.mp hz
    exact Or.inr ⟨h02, nm2, hl2, hn2⟩
end GX19b
theorem tw_353 : (Jvm.Cond.codeWith ({ cls := "WaltzHallLaw", name := "feed", desc := "(LWaltzHall;IIIII[J)I" } : Jvm.MethodName) method_3_code (8 : Nat) (Option.some Jvm.ClassFile.FieldType.int) [((0 : Nat), (16 : Nat), (19 : Nat), (13 : Nat))]) ∈ gG := gmm 353 (by decide +kernel) (by decide +kernel)
theorem tw_354 : (Jvm.Cond.classLink "WaltzHallLaw" (13 : Nat) "java/lang/IllegalStateException") ∈ gG := gmm 354 (by decide +kernel) (by decide +kernel)
theorem tw_355 : (Jvm.Cond.methodLink "WaltzHallLaw" (7 : Nat) ({ cls := "WaltzHall", name := "feed", desc := "(IIIII)I" } : Jvm.MethodName)) ∈ gG := gmm 355 (by decide +kernel) (by decide +kernel)
theorem tw_356 : (Jvm.Cond.instanceMethod ({ cls := "WaltzHall", name := "feed", desc := "(IIIII)I" } : Jvm.MethodName)) ∈ gG := gmm 356 (by decide +kernel) (by decide +kernel)
theorem tw_357 : (Jvm.Cond.selects "WaltzHall" ({ cls := "WaltzHall", name := "feed", desc := "(IIIII)I" } : Jvm.MethodName) ({ cls := "WaltzHall", name := "feed", desc := "(IIIII)I" } : Jvm.MethodName)) ∈ gG := gmm 357 (by decide +kernel) (by decide +kernel)
theorem tw_358 : (Jvm.Cond.code ({ cls := "WaltzHall", name := "feed", desc := "(IIIII)I" } : Jvm.MethodName) prog_1_method_2_code (6 : Nat) (Option.some Jvm.ClassFile.FieldType.int)) ∈ gG := gmm 358 (by decide +kernel) (by decide +kernel)
theorem tw_365 : (Jvm.Cond.castable "java/lang/IllegalStateException" "java/lang/IllegalStateException") ∈ gG := gmm 365 (by decide +kernel) (by decide +kernel)
theorem tw_436 : (Jvm.Cond.codeWith ({ cls := "WaltzHallLaw", name := "trim", desc := "(LWaltzHall;I[J)I" } : Jvm.MethodName) method_4_code (4 : Nat) (Option.some Jvm.ClassFile.FieldType.int) [((0 : Nat), (9 : Nat), (12 : Nat), (19 : Nat))]) ∈ gG := gmm 436 (by decide +kernel) (by decide +kernel)
theorem tw_437 : (Jvm.Cond.classLink "WaltzHallLaw" (19 : Nat) "java/lang/IllegalArgumentException") ∈ gG := gmm 437 (by decide +kernel) (by decide +kernel)
theorem tw_438 : (Jvm.Cond.methodLink "WaltzHallLaw" (15 : Nat) ({ cls := "WaltzHall", name := "trim", desc := "(I)I" } : Jvm.MethodName)) ∈ gG := gmm 438 (by decide +kernel) (by decide +kernel)
theorem tw_439 : (Jvm.Cond.instanceMethod ({ cls := "WaltzHall", name := "trim", desc := "(I)I" } : Jvm.MethodName)) ∈ gG := gmm 439 (by decide +kernel) (by decide +kernel)
theorem tw_440 : (Jvm.Cond.selects "WaltzHall" ({ cls := "WaltzHall", name := "trim", desc := "(I)I" } : Jvm.MethodName) ({ cls := "WaltzHall", name := "trim", desc := "(I)I" } : Jvm.MethodName)) ∈ gG := gmm 440 (by decide +kernel) (by decide +kernel)
theorem tw_441 : (Jvm.Cond.code ({ cls := "WaltzHall", name := "trim", desc := "(I)I" } : Jvm.MethodName) prog_1_method_3_code (2 : Nat) (Option.some Jvm.ClassFile.FieldType.int)) ∈ gG := gmm 441 (by decide +kernel) (by decide +kernel)
theorem tw_444 : (Jvm.Cond.castable "java/lang/IllegalArgumentException" "java/lang/IllegalArgumentException") ∈ gG := gmm 444 (by decide +kernel) (by decide +kernel)
theorem tw_460 : (Jvm.Cond.codeWith ({ cls := "WaltzHallLaw", name := "learn", desc := "(LWaltzHall;I[J)I" } : Jvm.MethodName) method_5_code (4 : Nat) (Option.some Jvm.ClassFile.FieldType.int) [((0 : Nat), (9 : Nat), (12 : Nat), (24 : Nat))]) ∈ gG := gmm 460 (by decide +kernel) (by decide +kernel)
theorem tw_461 : (Jvm.Cond.classLink "WaltzHallLaw" (24 : Nat) "java/lang/IndexOutOfBoundsException") ∈ gG := gmm 461 (by decide +kernel) (by decide +kernel)
theorem tw_462 : (Jvm.Cond.methodLink "WaltzHallLaw" (21 : Nat) ({ cls := "WaltzHall", name := "learn", desc := "(I)I" } : Jvm.MethodName)) ∈ gG := gmm 462 (by decide +kernel) (by decide +kernel)
theorem tw_463 : (Jvm.Cond.instanceMethod ({ cls := "WaltzHall", name := "learn", desc := "(I)I" } : Jvm.MethodName)) ∈ gG := gmm 463 (by decide +kernel) (by decide +kernel)
theorem tw_464 : (Jvm.Cond.selects "WaltzHall" ({ cls := "WaltzHall", name := "learn", desc := "(I)I" } : Jvm.MethodName) ({ cls := "WaltzHall", name := "learn", desc := "(I)I" } : Jvm.MethodName)) ∈ gG := gmm 464 (by decide +kernel) (by decide +kernel)
theorem tw_465 : (Jvm.Cond.code ({ cls := "WaltzHall", name := "learn", desc := "(I)I" } : Jvm.MethodName) prog_1_method_4_code (4 : Nat) (Option.some Jvm.ClassFile.FieldType.int)) ∈ gG := gmm 465 (by decide +kernel) (by decide +kernel)
theorem tw_472 : (Jvm.Cond.castable "java/lang/IndexOutOfBoundsException" "java/lang/IndexOutOfBoundsException") ∈ gG := gmm 472 (by decide +kernel) (by decide +kernel)
theorem tw_510 : (Jvm.Cond.codeWith ({ cls := "WaltzHallLaw", name := "figure", desc := "(LWaltzHall;II[J)I" } : Jvm.MethodName) method_6_code (5 : Nat) (Option.some Jvm.ClassFile.FieldType.int) [((0 : Nat), (10 : Nat), (13 : Nat), (24 : Nat))]) ∈ gG := gmm 510 (by decide +kernel) (by decide +kernel)
theorem tw_511 : (Jvm.Cond.methodLink "WaltzHallLaw" (26 : Nat) ({ cls := "WaltzHall", name := "figure", desc := "(II)I" } : Jvm.MethodName)) ∈ gG := gmm 511 (by decide +kernel) (by decide +kernel)
theorem tw_512 : (Jvm.Cond.instanceMethod ({ cls := "WaltzHall", name := "figure", desc := "(II)I" } : Jvm.MethodName)) ∈ gG := gmm 512 (by decide +kernel) (by decide +kernel)
theorem tw_513 : (Jvm.Cond.selects "WaltzHall" ({ cls := "WaltzHall", name := "figure", desc := "(II)I" } : Jvm.MethodName) ({ cls := "WaltzHall", name := "figure", desc := "(II)I" } : Jvm.MethodName)) ∈ gG := gmm 513 (by decide +kernel) (by decide +kernel)
theorem tw_514 : (Jvm.Cond.code ({ cls := "WaltzHall", name := "figure", desc := "(II)I" } : Jvm.MethodName) prog_1_method_5_code (4 : Nat) (Option.some Jvm.ClassFile.FieldType.int)) ∈ gG := gmm 514 (by decide +kernel) (by decide +kernel)
theorem tw_519 : (Jvm.Cond.codeWith ({ cls := "WaltzHallLaw", name := "drift", desc := "(LWaltzHall;II[J)I" } : Jvm.MethodName) method_7_code (5 : Nat) (Option.some Jvm.ClassFile.FieldType.int) [((0 : Nat), (10 : Nat), (13 : Nat), (24 : Nat))]) ∈ gG := gmm 519 (by decide +kernel) (by decide +kernel)
theorem tw_520 : (Jvm.Cond.methodLink "WaltzHallLaw" (30 : Nat) ({ cls := "WaltzHall", name := "drift", desc := "(II)I" } : Jvm.MethodName)) ∈ gG := gmm 520 (by decide +kernel) (by decide +kernel)
theorem tw_521 : (Jvm.Cond.instanceMethod ({ cls := "WaltzHall", name := "drift", desc := "(II)I" } : Jvm.MethodName)) ∈ gG := gmm 521 (by decide +kernel) (by decide +kernel)
theorem tw_522 : (Jvm.Cond.selects "WaltzHall" ({ cls := "WaltzHall", name := "drift", desc := "(II)I" } : Jvm.MethodName) ({ cls := "WaltzHall", name := "drift", desc := "(II)I" } : Jvm.MethodName)) ∈ gG := gmm 522 (by decide +kernel) (by decide +kernel)
theorem tw_523 : (Jvm.Cond.code ({ cls := "WaltzHall", name := "drift", desc := "(II)I" } : Jvm.MethodName) prog_1_method_6_code (4 : Nat) (Option.some Jvm.ClassFile.FieldType.int)) ∈ gG := gmm 523 (by decide +kernel) (by decide +kernel)
theorem tw_554 : (Jvm.Cond.codeWith ({ cls := "WaltzHallLaw", name := "come", desc := "(LWaltzHall;IIII[J)I" } : Jvm.MethodName) method_8_code (7 : Nat) (Option.some Jvm.ClassFile.FieldType.int) [((0 : Nat), (14 : Nat), (17 : Nat), (19 : Nat)), ((0 : Nat), (14 : Nat), (21 : Nat), (13 : Nat))]) ∈ gG := gmm 554 (by decide +kernel) (by decide +kernel)
theorem tw_555 : (Jvm.Cond.methodLink "WaltzHallLaw" (33 : Nat) ({ cls := "WaltzHall", name := "come", desc := "(IIII)I" } : Jvm.MethodName)) ∈ gG := gmm 555 (by decide +kernel) (by decide +kernel)
theorem tw_556 : (Jvm.Cond.instanceMethod ({ cls := "WaltzHall", name := "come", desc := "(IIII)I" } : Jvm.MethodName)) ∈ gG := gmm 556 (by decide +kernel) (by decide +kernel)
theorem tw_557 : (Jvm.Cond.selects "WaltzHall" ({ cls := "WaltzHall", name := "come", desc := "(IIII)I" } : Jvm.MethodName) ({ cls := "WaltzHall", name := "come", desc := "(IIII)I" } : Jvm.MethodName)) ∈ gG := gmm 557 (by decide +kernel) (by decide +kernel)
theorem tw_558 : (Jvm.Cond.code ({ cls := "WaltzHall", name := "come", desc := "(IIII)I" } : Jvm.MethodName) prog_1_method_7_code (6 : Nat) (Option.some Jvm.ClassFile.FieldType.int)) ∈ gG := gmm 558 (by decide +kernel) (by decide +kernel)
theorem tw_646 : (Jvm.Cond.codeWith ({ cls := "WaltzHallLaw", name := "dance", desc := "(LWaltzHall;II[J)I" } : Jvm.MethodName) method_9_code (5 : Nat) (Option.some Jvm.ClassFile.FieldType.int) [((0 : Nat), (10 : Nat), (13 : Nat), (24 : Nat))]) ∈ gG := gmm 646 (by decide +kernel) (by decide +kernel)
theorem tw_647 : (Jvm.Cond.methodLink "WaltzHallLaw" (37 : Nat) ({ cls := "WaltzHall", name := "dance", desc := "(II)I" } : Jvm.MethodName)) ∈ gG := gmm 647 (by decide +kernel) (by decide +kernel)
theorem tw_648 : (Jvm.Cond.instanceMethod ({ cls := "WaltzHall", name := "dance", desc := "(II)I" } : Jvm.MethodName)) ∈ gG := gmm 648 (by decide +kernel) (by decide +kernel)
theorem tw_649 : (Jvm.Cond.selects "WaltzHall" ({ cls := "WaltzHall", name := "dance", desc := "(II)I" } : Jvm.MethodName) ({ cls := "WaltzHall", name := "dance", desc := "(II)I" } : Jvm.MethodName)) ∈ gG := gmm 649 (by decide +kernel) (by decide +kernel)
theorem tw_650 : (Jvm.Cond.code ({ cls := "WaltzHall", name := "dance", desc := "(II)I" } : Jvm.MethodName) prog_1_method_8_code (6 : Nat) (Option.some Jvm.ClassFile.FieldType.int)) ∈ gG := gmm 650 (by decide +kernel) (by decide +kernel)
theorem tw_662 : (Jvm.Cond.codeWith ({ cls := "WaltzHallLaw", name := "pair", desc := "(LWaltzHall;II[J)I" } : Jvm.MethodName) method_10_code (5 : Nat) (Option.some Jvm.ClassFile.FieldType.int) [((0 : Nat), (10 : Nat), (13 : Nat), (24 : Nat)), ((0 : Nat), (10 : Nat), (17 : Nat), (19 : Nat)), ((0 : Nat), (10 : Nat), (21 : Nat), (13 : Nat))]) ∈ gG := gmm 662 (by decide +kernel) (by decide +kernel)
theorem tw_663 : (Jvm.Cond.methodLink "WaltzHallLaw" (40 : Nat) ({ cls := "WaltzHall", name := "pair", desc := "(II)I" } : Jvm.MethodName)) ∈ gG := gmm 663 (by decide +kernel) (by decide +kernel)
theorem tw_664 : (Jvm.Cond.instanceMethod ({ cls := "WaltzHall", name := "pair", desc := "(II)I" } : Jvm.MethodName)) ∈ gG := gmm 664 (by decide +kernel) (by decide +kernel)
theorem tw_665 : (Jvm.Cond.selects "WaltzHall" ({ cls := "WaltzHall", name := "pair", desc := "(II)I" } : Jvm.MethodName) ({ cls := "WaltzHall", name := "pair", desc := "(II)I" } : Jvm.MethodName)) ∈ gG := gmm 665 (by decide +kernel) (by decide +kernel)
theorem tw_666 : (Jvm.Cond.code ({ cls := "WaltzHall", name := "pair", desc := "(II)I" } : Jvm.MethodName) prog_1_method_9_code (5 : Nat) (Option.some Jvm.ClassFile.FieldType.int)) ∈ gG := gmm 666 (by decide +kernel) (by decide +kernel)
theorem tw_681 : (Jvm.Cond.codeWith ({ cls := "WaltzHallLaw", name := "part", desc := "(LWaltzHall;I[J)I" } : Jvm.MethodName) method_11_code (4 : Nat) (Option.some Jvm.ClassFile.FieldType.int) [((0 : Nat), (9 : Nat), (12 : Nat), (24 : Nat)), ((0 : Nat), (9 : Nat), (15 : Nat), (13 : Nat))]) ∈ gG := gmm 681 (by decide +kernel) (by decide +kernel)
theorem tw_682 : (Jvm.Cond.methodLink "WaltzHallLaw" (43 : Nat) ({ cls := "WaltzHall", name := "part", desc := "(I)I" } : Jvm.MethodName)) ∈ gG := gmm 682 (by decide +kernel) (by decide +kernel)
theorem tw_683 : (Jvm.Cond.instanceMethod ({ cls := "WaltzHall", name := "part", desc := "(I)I" } : Jvm.MethodName)) ∈ gG := gmm 683 (by decide +kernel) (by decide +kernel)
theorem tw_684 : (Jvm.Cond.selects "WaltzHall" ({ cls := "WaltzHall", name := "part", desc := "(I)I" } : Jvm.MethodName) ({ cls := "WaltzHall", name := "part", desc := "(I)I" } : Jvm.MethodName)) ∈ gG := gmm 684 (by decide +kernel) (by decide +kernel)
theorem tw_685 : (Jvm.Cond.code ({ cls := "WaltzHall", name := "part", desc := "(I)I" } : Jvm.MethodName) prog_1_method_10_code (4 : Nat) (Option.some Jvm.ClassFile.FieldType.int)) ∈ gG := gmm 685 (by decide +kernel) (by decide +kernel)
theorem tw_693 : (Jvm.Cond.codeWith ({ cls := "WaltzHallLaw", name := "wind", desc := "(LWaltzHall;II[J)I" } : Jvm.MethodName) method_12_code (5 : Nat) (Option.some Jvm.ClassFile.FieldType.int) [((0 : Nat), (10 : Nat), (13 : Nat), (24 : Nat)), ((0 : Nat), (10 : Nat), (17 : Nat), (19 : Nat))]) ∈ gG := gmm 693 (by decide +kernel) (by decide +kernel)
theorem tw_694 : (Jvm.Cond.methodLink "WaltzHallLaw" (46 : Nat) ({ cls := "WaltzHall", name := "wind", desc := "(II)I" } : Jvm.MethodName)) ∈ gG := gmm 694 (by decide +kernel) (by decide +kernel)
theorem tw_695 : (Jvm.Cond.instanceMethod ({ cls := "WaltzHall", name := "wind", desc := "(II)I" } : Jvm.MethodName)) ∈ gG := gmm 695 (by decide +kernel) (by decide +kernel)
theorem tw_696 : (Jvm.Cond.selects "WaltzHall" ({ cls := "WaltzHall", name := "wind", desc := "(II)I" } : Jvm.MethodName) ({ cls := "WaltzHall", name := "wind", desc := "(II)I" } : Jvm.MethodName)) ∈ gG := gmm 696 (by decide +kernel) (by decide +kernel)
theorem tw_697 : (Jvm.Cond.code ({ cls := "WaltzHall", name := "wind", desc := "(II)I" } : Jvm.MethodName) prog_1_method_11_code (4 : Nat) (Option.some Jvm.ClassFile.FieldType.int)) ∈ gG := gmm 697 (by decide +kernel) (by decide +kernel)
theorem tw_707 : (Jvm.Cond.codeWith ({ cls := "WaltzHallLaw", name := "dancer", desc := "(LWaltzHall;II[J)I" } : Jvm.MethodName) method_13_code (5 : Nat) (Option.some Jvm.ClassFile.FieldType.int) [((0 : Nat), (10 : Nat), (13 : Nat), (24 : Nat))]) ∈ gG := gmm 707 (by decide +kernel) (by decide +kernel)
theorem tw_708 : (Jvm.Cond.methodLink "WaltzHallLaw" (49 : Nat) ({ cls := "WaltzHall", name := "dancer", desc := "(II)I" } : Jvm.MethodName)) ∈ gG := gmm 708 (by decide +kernel) (by decide +kernel)
theorem tw_709 : (Jvm.Cond.instanceMethod ({ cls := "WaltzHall", name := "dancer", desc := "(II)I" } : Jvm.MethodName)) ∈ gG := gmm 709 (by decide +kernel) (by decide +kernel)
theorem tw_710 : (Jvm.Cond.selects "WaltzHall" ({ cls := "WaltzHall", name := "dancer", desc := "(II)I" } : Jvm.MethodName) ({ cls := "WaltzHall", name := "dancer", desc := "(II)I" } : Jvm.MethodName)) ∈ gG := gmm 710 (by decide +kernel) (by decide +kernel)
theorem tw_711 : (Jvm.Cond.code ({ cls := "WaltzHall", name := "dancer", desc := "(II)I" } : Jvm.MethodName) prog_1_method_12_code (4 : Nat) (Option.some Jvm.ClassFile.FieldType.int)) ∈ gG := gmm 711 (by decide +kernel) (by decide +kernel)
theorem tw_714 : (Jvm.Cond.codeWith ({ cls := "WaltzHallLaw", name := "at", desc := "(LWaltzHall;II[J)I" } : Jvm.MethodName) method_14_code (5 : Nat) (Option.some Jvm.ClassFile.FieldType.int) [((0 : Nat), (10 : Nat), (13 : Nat), (24 : Nat))]) ∈ gG := gmm 714 (by decide +kernel) (by decide +kernel)
theorem tw_715 : (Jvm.Cond.methodLink "WaltzHallLaw" (52 : Nat) ({ cls := "WaltzHall", name := "at", desc := "(II)I" } : Jvm.MethodName)) ∈ gG := gmm 715 (by decide +kernel) (by decide +kernel)
theorem tw_716 : (Jvm.Cond.instanceMethod ({ cls := "WaltzHall", name := "at", desc := "(II)I" } : Jvm.MethodName)) ∈ gG := gmm 716 (by decide +kernel) (by decide +kernel)
theorem tw_717 : (Jvm.Cond.selects "WaltzHall" ({ cls := "WaltzHall", name := "at", desc := "(II)I" } : Jvm.MethodName) ({ cls := "WaltzHall", name := "at", desc := "(II)I" } : Jvm.MethodName)) ∈ gG := gmm 717 (by decide +kernel) (by decide +kernel)
theorem tw_718 : (Jvm.Cond.code ({ cls := "WaltzHall", name := "at", desc := "(II)I" } : Jvm.MethodName) prog_1_method_13_code (4 : Nat) (Option.some Jvm.ClassFile.FieldType.int)) ∈ gG := gmm 718 (by decide +kernel) (by decide +kernel)
theorem tw_722 : (Jvm.Cond.codeWith ({ cls := "WaltzHallLaw", name := "addWinder", desc := "(LWaltzHall;III[J)I" } : Jvm.MethodName) method_15_code (6 : Nat) (Option.some Jvm.ClassFile.FieldType.int) [((0 : Nat), (12 : Nat), (15 : Nat), (19 : Nat)), ((0 : Nat), (12 : Nat), (19 : Nat), (13 : Nat))]) ∈ gG := gmm 722 (by decide +kernel) (by decide +kernel)
theorem tw_723 : (Jvm.Cond.methodLink "WaltzHallLaw" (55 : Nat) ({ cls := "WaltzHall", name := "addWinder", desc := "(III)I" } : Jvm.MethodName)) ∈ gG := gmm 723 (by decide +kernel) (by decide +kernel)
theorem tw_724 : (Jvm.Cond.instanceMethod ({ cls := "WaltzHall", name := "addWinder", desc := "(III)I" } : Jvm.MethodName)) ∈ gG := gmm 724 (by decide +kernel) (by decide +kernel)
theorem tw_725 : (Jvm.Cond.selects "WaltzHall" ({ cls := "WaltzHall", name := "addWinder", desc := "(III)I" } : Jvm.MethodName) ({ cls := "WaltzHall", name := "addWinder", desc := "(III)I" } : Jvm.MethodName)) ∈ gG := gmm 725 (by decide +kernel) (by decide +kernel)
theorem tw_726 : (Jvm.Cond.code ({ cls := "WaltzHall", name := "addWinder", desc := "(III)I" } : Jvm.MethodName) prog_1_method_14_code (6 : Nat) (Option.some Jvm.ClassFile.FieldType.int)) ∈ gG := gmm 726 (by decide +kernel) (by decide +kernel)
theorem tw_763 : (Jvm.Cond.codeWith ({ cls := "WaltzHallLaw", name := "call", desc := "(LWaltzHall;II[J)I" } : Jvm.MethodName) method_16_code (5 : Nat) (Option.some Jvm.ClassFile.FieldType.int) [((0 : Nat), (10 : Nat), (13 : Nat), (24 : Nat)), ((0 : Nat), (10 : Nat), (17 : Nat), (13 : Nat))]) ∈ gG := gmm 763 (by decide +kernel) (by decide +kernel)
theorem tw_764 : (Jvm.Cond.methodLink "WaltzHallLaw" (59 : Nat) ({ cls := "WaltzHall", name := "call", desc := "(II)I" } : Jvm.MethodName)) ∈ gG := gmm 764 (by decide +kernel) (by decide +kernel)
theorem tw_765 : (Jvm.Cond.instanceMethod ({ cls := "WaltzHall", name := "call", desc := "(II)I" } : Jvm.MethodName)) ∈ gG := gmm 765 (by decide +kernel) (by decide +kernel)
theorem tw_766 : (Jvm.Cond.selects "WaltzHall" ({ cls := "WaltzHall", name := "call", desc := "(II)I" } : Jvm.MethodName) ({ cls := "WaltzHall", name := "call", desc := "(II)I" } : Jvm.MethodName)) ∈ gG := gmm 766 (by decide +kernel) (by decide +kernel)
theorem tw_767 : (Jvm.Cond.code ({ cls := "WaltzHall", name := "call", desc := "(II)I" } : Jvm.MethodName) prog_1_method_15_code (5 : Nat) (Option.some Jvm.ClassFile.FieldType.int)) ∈ gG := gmm 767 (by decide +kernel) (by decide +kernel)
theorem tw_780 : (Jvm.Cond.codeWith ({ cls := "WaltzHallLaw", name := "winder", desc := "(LWaltzHall;II[J)I" } : Jvm.MethodName) method_17_code (5 : Nat) (Option.some Jvm.ClassFile.FieldType.int) [((0 : Nat), (10 : Nat), (13 : Nat), (24 : Nat))]) ∈ gG := gmm 780 (by decide +kernel) (by decide +kernel)
theorem tw_781 : (Jvm.Cond.methodLink "WaltzHallLaw" (62 : Nat) ({ cls := "WaltzHall", name := "winder", desc := "(II)I" } : Jvm.MethodName)) ∈ gG := gmm 781 (by decide +kernel) (by decide +kernel)
theorem tw_782 : (Jvm.Cond.instanceMethod ({ cls := "WaltzHall", name := "winder", desc := "(II)I" } : Jvm.MethodName)) ∈ gG := gmm 782 (by decide +kernel) (by decide +kernel)
theorem tw_783 : (Jvm.Cond.selects "WaltzHall" ({ cls := "WaltzHall", name := "winder", desc := "(II)I" } : Jvm.MethodName) ({ cls := "WaltzHall", name := "winder", desc := "(II)I" } : Jvm.MethodName)) ∈ gG := gmm 783 (by decide +kernel) (by decide +kernel)
theorem tw_784 : (Jvm.Cond.code ({ cls := "WaltzHall", name := "winder", desc := "(II)I" } : Jvm.MethodName) prog_1_method_16_code (4 : Nat) (Option.some Jvm.ClassFile.FieldType.int)) ∈ gG := gmm 784 (by decide +kernel) (by decide +kernel)
theorem tw_787 : (Jvm.Cond.codeWith ({ cls := "WaltzHallLaw", name := "pass", desc := "(LWaltzHall;I[J)I" } : Jvm.MethodName) method_18_code (4 : Nat) (Option.some Jvm.ClassFile.FieldType.int) [((0 : Nat), (9 : Nat), (12 : Nat), (19 : Nat))]) ∈ gG := gmm 787 (by decide +kernel) (by decide +kernel)
theorem tw_788 : (Jvm.Cond.methodLink "WaltzHallLaw" (65 : Nat) ({ cls := "WaltzHall", name := "pass", desc := "(I)I" } : Jvm.MethodName)) ∈ gG := gmm 788 (by decide +kernel) (by decide +kernel)
theorem tw_789 : (Jvm.Cond.instanceMethod ({ cls := "WaltzHall", name := "pass", desc := "(I)I" } : Jvm.MethodName)) ∈ gG := gmm 789 (by decide +kernel) (by decide +kernel)
theorem tw_790 : (Jvm.Cond.selects "WaltzHall" ({ cls := "WaltzHall", name := "pass", desc := "(I)I" } : Jvm.MethodName) ({ cls := "WaltzHall", name := "pass", desc := "(I)I" } : Jvm.MethodName)) ∈ gG := gmm 790 (by decide +kernel) (by decide +kernel)
theorem tw_791 : (Jvm.Cond.code ({ cls := "WaltzHall", name := "pass", desc := "(I)I" } : Jvm.MethodName) prog_1_method_17_code (4 : Nat) (Option.some Jvm.ClassFile.FieldType.int)) ∈ gG := gmm 791 (by decide +kernel) (by decide +kernel)
theorem tw_877 : (Jvm.Cond.codeWith ({ cls := "WaltzHallLaw", name := "count", desc := "(LWaltzHall;I[J)I" } : Jvm.MethodName) method_19_code (4 : Nat) (Option.some Jvm.ClassFile.FieldType.int) [((0 : Nat), (9 : Nat), (12 : Nat), (24 : Nat))]) ∈ gG := gmm 877 (by decide +kernel) (by decide +kernel)
theorem tw_878 : (Jvm.Cond.methodLink "WaltzHallLaw" (68 : Nat) ({ cls := "WaltzHall", name := "count", desc := "(I)I" } : Jvm.MethodName)) ∈ gG := gmm 878 (by decide +kernel) (by decide +kernel)
theorem tw_879 : (Jvm.Cond.instanceMethod ({ cls := "WaltzHall", name := "count", desc := "(I)I" } : Jvm.MethodName)) ∈ gG := gmm 879 (by decide +kernel) (by decide +kernel)
theorem tw_880 : (Jvm.Cond.selects "WaltzHall" ({ cls := "WaltzHall", name := "count", desc := "(I)I" } : Jvm.MethodName) ({ cls := "WaltzHall", name := "count", desc := "(I)I" } : Jvm.MethodName)) ∈ gG := gmm 880 (by decide +kernel) (by decide +kernel)
theorem tw_881 : (Jvm.Cond.code ({ cls := "WaltzHall", name := "count", desc := "(I)I" } : Jvm.MethodName) prog_1_method_18_code (2 : Nat) (Option.some Jvm.ClassFile.FieldType.int)) ∈ gG := gmm 881 (by decide +kernel) (by decide +kernel)
theorem tw_884 : (Jvm.Cond.codeWith ({ cls := "WaltzHallLaw", name := "foresee", desc := "(LWaltzHall;III[J)I" } : Jvm.MethodName) method_20_code (6 : Nat) (Option.some Jvm.ClassFile.FieldType.int) [((0 : Nat), (12 : Nat), (15 : Nat), (24 : Nat)), ((0 : Nat), (12 : Nat), (19 : Nat), (19 : Nat))]) ∈ gG := gmm 884 (by decide +kernel) (by decide +kernel)
theorem tw_885 : (Jvm.Cond.methodLink "WaltzHallLaw" (71 : Nat) ({ cls := "WaltzHall", name := "foresee", desc := "(III)I" } : Jvm.MethodName)) ∈ gG := gmm 885 (by decide +kernel) (by decide +kernel)
theorem tw_886 : (Jvm.Cond.instanceMethod ({ cls := "WaltzHall", name := "foresee", desc := "(III)I" } : Jvm.MethodName)) ∈ gG := gmm 886 (by decide +kernel) (by decide +kernel)
theorem tw_887 : (Jvm.Cond.selects "WaltzHall" ({ cls := "WaltzHall", name := "foresee", desc := "(III)I" } : Jvm.MethodName) ({ cls := "WaltzHall", name := "foresee", desc := "(III)I" } : Jvm.MethodName)) ∈ gG := gmm 887 (by decide +kernel) (by decide +kernel)
theorem tw_888 : (Jvm.Cond.code ({ cls := "WaltzHall", name := "foresee", desc := "(III)I" } : Jvm.MethodName) prog_1_method_19_code (6 : Nat) (Option.some Jvm.ClassFile.FieldType.int)) ∈ gG := gmm 888 (by decide +kernel) (by decide +kernel)
theorem tw_906 : (Jvm.Cond.codeWith ({ cls := "WaltzHallLaw", name := "firstToStop", desc := "(LWaltzHall;I[J)I" } : Jvm.MethodName) method_21_code (4 : Nat) (Option.some Jvm.ClassFile.FieldType.int) [((0 : Nat), (9 : Nat), (12 : Nat), (19 : Nat))]) ∈ gG := gmm 906 (by decide +kernel) (by decide +kernel)
theorem tw_907 : (Jvm.Cond.methodLink "WaltzHallLaw" (74 : Nat) ({ cls := "WaltzHall", name := "firstToStop", desc := "(I)I" } : Jvm.MethodName)) ∈ gG := gmm 907 (by decide +kernel) (by decide +kernel)
theorem tw_908 : (Jvm.Cond.instanceMethod ({ cls := "WaltzHall", name := "firstToStop", desc := "(I)I" } : Jvm.MethodName)) ∈ gG := gmm 908 (by decide +kernel) (by decide +kernel)
theorem tw_909 : (Jvm.Cond.selects "WaltzHall" ({ cls := "WaltzHall", name := "firstToStop", desc := "(I)I" } : Jvm.MethodName) ({ cls := "WaltzHall", name := "firstToStop", desc := "(I)I" } : Jvm.MethodName)) ∈ gG := gmm 909 (by decide +kernel) (by decide +kernel)
theorem tw_910 : (Jvm.Cond.code ({ cls := "WaltzHall", name := "firstToStop", desc := "(I)I" } : Jvm.MethodName) prog_1_method_20_code (4 : Nat) (Option.some Jvm.ClassFile.FieldType.int)) ∈ gG := gmm 910 (by decide +kernel) (by decide +kernel)
theorem tw_917 : (Jvm.Cond.codeWith ({ cls := "WaltzHallLaw", name := "meet", desc := "(LWaltzHall;III[J)I" } : Jvm.MethodName) method_22_code (6 : Nat) (Option.some Jvm.ClassFile.FieldType.int) [((0 : Nat), (12 : Nat), (15 : Nat), (24 : Nat)), ((0 : Nat), (12 : Nat), (19 : Nat), (19 : Nat))]) ∈ gG := gmm 917 (by decide +kernel) (by decide +kernel)
theorem tw_918 : (Jvm.Cond.methodLink "WaltzHallLaw" (77 : Nat) ({ cls := "WaltzHall", name := "meet", desc := "(III)I" } : Jvm.MethodName)) ∈ gG := gmm 918 (by decide +kernel) (by decide +kernel)
theorem tw_919 : (Jvm.Cond.instanceMethod ({ cls := "WaltzHall", name := "meet", desc := "(III)I" } : Jvm.MethodName)) ∈ gG := gmm 919 (by decide +kernel) (by decide +kernel)
theorem tw_920 : (Jvm.Cond.selects "WaltzHall" ({ cls := "WaltzHall", name := "meet", desc := "(III)I" } : Jvm.MethodName) ({ cls := "WaltzHall", name := "meet", desc := "(III)I" } : Jvm.MethodName)) ∈ gG := gmm 920 (by decide +kernel) (by decide +kernel)
theorem tw_921 : (Jvm.Cond.code ({ cls := "WaltzHall", name := "meet", desc := "(III)I" } : Jvm.MethodName) prog_1_method_21_code (5 : Nat) (Option.some Jvm.ClassFile.FieldType.int)) ∈ gG := gmm 921 (by decide +kernel) (by decide +kernel)
theorem hd_H_addWinder : y_H_addWinder.cls ≠ "java/lang/invoke/MethodHandle" ∧ y_H_addWinder.cls ≠ "java/lang/invoke/VarHandle" ∧ (parseMethodDescriptor y_H_addWinder.desc).map (fun d => d.parameters.length) = some 3 := by decide +kernel
theorem hd_H_at : y_H_at.cls ≠ "java/lang/invoke/MethodHandle" ∧ y_H_at.cls ≠ "java/lang/invoke/VarHandle" ∧ (parseMethodDescriptor y_H_at.desc).map (fun d => d.parameters.length) = some 2 := by decide +kernel
theorem hd_H_call : y_H_call.cls ≠ "java/lang/invoke/MethodHandle" ∧ y_H_call.cls ≠ "java/lang/invoke/VarHandle" ∧ (parseMethodDescriptor y_H_call.desc).map (fun d => d.parameters.length) = some 2 := by decide +kernel
theorem hd_H_come : y_H_come.cls ≠ "java/lang/invoke/MethodHandle" ∧ y_H_come.cls ≠ "java/lang/invoke/VarHandle" ∧ (parseMethodDescriptor y_H_come.desc).map (fun d => d.parameters.length) = some 4 := by decide +kernel
theorem hd_H_count : y_H_count.cls ≠ "java/lang/invoke/MethodHandle" ∧ y_H_count.cls ≠ "java/lang/invoke/VarHandle" ∧ (parseMethodDescriptor y_H_count.desc).map (fun d => d.parameters.length) = some 1 := by decide +kernel
theorem hd_H_dance : y_H_dance.cls ≠ "java/lang/invoke/MethodHandle" ∧ y_H_dance.cls ≠ "java/lang/invoke/VarHandle" ∧ (parseMethodDescriptor y_H_dance.desc).map (fun d => d.parameters.length) = some 2 := by decide +kernel
theorem hd_H_dancer : y_H_dancer.cls ≠ "java/lang/invoke/MethodHandle" ∧ y_H_dancer.cls ≠ "java/lang/invoke/VarHandle" ∧ (parseMethodDescriptor y_H_dancer.desc).map (fun d => d.parameters.length) = some 2 := by decide +kernel
theorem hd_H_drift : y_H_drift.cls ≠ "java/lang/invoke/MethodHandle" ∧ y_H_drift.cls ≠ "java/lang/invoke/VarHandle" ∧ (parseMethodDescriptor y_H_drift.desc).map (fun d => d.parameters.length) = some 2 := by decide +kernel
theorem hd_H_feed : y_H_feed.cls ≠ "java/lang/invoke/MethodHandle" ∧ y_H_feed.cls ≠ "java/lang/invoke/VarHandle" ∧ (parseMethodDescriptor y_H_feed.desc).map (fun d => d.parameters.length) = some 5 := by decide +kernel
theorem hd_H_figure : y_H_figure.cls ≠ "java/lang/invoke/MethodHandle" ∧ y_H_figure.cls ≠ "java/lang/invoke/VarHandle" ∧ (parseMethodDescriptor y_H_figure.desc).map (fun d => d.parameters.length) = some 2 := by decide +kernel
theorem hd_H_firstToStop : y_H_firstToStop.cls ≠ "java/lang/invoke/MethodHandle" ∧ y_H_firstToStop.cls ≠ "java/lang/invoke/VarHandle" ∧ (parseMethodDescriptor y_H_firstToStop.desc).map (fun d => d.parameters.length) = some 1 := by decide +kernel
theorem hd_H_foresee : y_H_foresee.cls ≠ "java/lang/invoke/MethodHandle" ∧ y_H_foresee.cls ≠ "java/lang/invoke/VarHandle" ∧ (parseMethodDescriptor y_H_foresee.desc).map (fun d => d.parameters.length) = some 3 := by decide +kernel
theorem hd_H_learn : y_H_learn.cls ≠ "java/lang/invoke/MethodHandle" ∧ y_H_learn.cls ≠ "java/lang/invoke/VarHandle" ∧ (parseMethodDescriptor y_H_learn.desc).map (fun d => d.parameters.length) = some 1 := by decide +kernel
theorem hd_H_meet : y_H_meet.cls ≠ "java/lang/invoke/MethodHandle" ∧ y_H_meet.cls ≠ "java/lang/invoke/VarHandle" ∧ (parseMethodDescriptor y_H_meet.desc).map (fun d => d.parameters.length) = some 3 := by decide +kernel
theorem hd_H_pair : y_H_pair.cls ≠ "java/lang/invoke/MethodHandle" ∧ y_H_pair.cls ≠ "java/lang/invoke/VarHandle" ∧ (parseMethodDescriptor y_H_pair.desc).map (fun d => d.parameters.length) = some 2 := by decide +kernel
theorem hd_H_part : y_H_part.cls ≠ "java/lang/invoke/MethodHandle" ∧ y_H_part.cls ≠ "java/lang/invoke/VarHandle" ∧ (parseMethodDescriptor y_H_part.desc).map (fun d => d.parameters.length) = some 1 := by decide +kernel
theorem hd_H_pass : y_H_pass.cls ≠ "java/lang/invoke/MethodHandle" ∧ y_H_pass.cls ≠ "java/lang/invoke/VarHandle" ∧ (parseMethodDescriptor y_H_pass.desc).map (fun d => d.parameters.length) = some 1 := by decide +kernel
theorem hd_H_trim : y_H_trim.cls ≠ "java/lang/invoke/MethodHandle" ∧ y_H_trim.cls ≠ "java/lang/invoke/VarHandle" ∧ (parseMethodDescriptor y_H_trim.desc).map (fun d => d.parameters.length) = some 1 := by decide +kernel
theorem hd_H_wind : y_H_wind.cls ≠ "java/lang/invoke/MethodHandle" ∧ y_H_wind.cls ≠ "java/lang/invoke/VarHandle" ∧ (parseMethodDescriptor y_H_wind.desc).map (fun d => d.parameters.length) = some 2 := by decide +kernel
theorem hd_H_winder : y_H_winder.cls ≠ "java/lang/invoke/MethodHandle" ∧ y_H_winder.cls ≠ "java/lang/invoke/VarHandle" ∧ (parseMethodDescriptor y_H_winder.desc).map (fun d => d.parameters.length) = some 2 := by decide +kernel
def w_L_feed (post : Int32 → St → Prop) (S : St) (a0 : Option Nat) (a1 : Int32) (a2 : Int32) (a3 : Int32) (a4 : Int32) (a5 : Int32) (a6 : Option Nat) : Prop :=
  ∃ y1 : Nat, a0 = some y1 ∧ isA S 6 y1 ∧ w_H_feed (fun (r3 : Int32) (S4 : St) => ∃ y6 : Nat, a6 = some y6 ∧ isA S4 13 y6 ∧ vp_in 0 (sN S4 y6) ∧ ∀ S9 : St, S9 = pJ S4 y6 ((0 : Int32).toNatClampNeg) (r3.toInt64) → post 0 S9) (fun (E9 : String) (S9 : St) => (E9 = "java/lang/IllegalStateException" ∧ post 1 S9)) S y1 a1 a2 a3 a4 a5
set_option maxHeartbeats 4000000 in
set_option maxRecDepth 100000 in
theorem m_L_feed (l : Launch) (hlt : l.stackTraces = false) (x : Cx) (S : St) (post : Int32 → St → Prop) (a0 : Option Nat) (a1 : Int32) (a2 : Int32) (a3 : Int32) (a4 : Int32) (a5 : Int32) (a6 : Option Nat) (h : w_L_feed post S a0 a1 a2 a3 a4 a5 a6) : Met l y_L_feed [.codeWith y_L_feed c_L_feed 8 (some .int) [(0, 16, 19, 13)]] { frames := 7, cells := 1, slots := 6, locals := 115 } (va_Pc [va_rf a0, .int a1, .int a2, .int a3, .int a4, .int a5, va_rf a6] (GL x S)) (va_Qi post (gB x S) (xA x)) 1 6 (xA x) := by
  refine gMetL [(0, 16, 19, 13)] (by decide +kernel) (by simp [lg_sl, gCat, gci1, gcr1, gcl1, gcd1]) tw_353 ?_
  intro p e s m args below meth c hx hb hr hown hlocks hin hw hK hN H locs hG ls hlA hml htab
  have hown : s.vm.findClass "WaltzHallLaw" = some m.cls := hown
  have hl0 : lv_has ls 8 [(0, va_rf a0), (1, .int a1), (2, .int a2), (3, .int a3), (4, .int a4), (5, .int a5), (6, va_rf a6)] := by simpa [lv_args, gCat, gci1, gcr1, gcl1, gcd1] using hlA
  have leS : gle S S := gle.rf
  unfold w_L_feed at h
  refine gaload hx hb d_L_feed_0 (lv_at hl0 6 rfl) ?_
  refine lv_iconst (v := 0) hx hb d_L_feed_2 (by decide) ?_
  refine gaload_n hx hb d_L_feed_3 rfl (lv_at hl0 0 rfl) ?_
  refine lv_iload_n hx hb d_L_feed_4 rfl (lv_at hl0 1 rfl) ?_
  refine lv_iload_n hx hb d_L_feed_5 rfl (lv_at hl0 2 rfl) ?_
  refine lv_iload_n hx hb d_L_feed_6 rfl (lv_at hl0 3 rfl) ?_
  refine lv_iload hx hb d_L_feed_7 (lv_at hl0 4 rfl) ?_
  refine lv_iload hx hb d_L_feed_9 (lv_at hl0 5 rfl) ?_
  obtain ⟨y1, ey1, h⟩ := h
  subst ey1
  obtain ⟨f2, h⟩ := h
  -- call H_feed
  refine gcatch hG (vx_runV (As := [.int a1, .int a2, .int a3, .int a4, .int a5]) (rest := [.int 0, va_rf a6]) ⟨hx, hb, hml, hown, hw⟩ (m_H_feed l hlt x S _ _ y1 a1 a2 a3 a4 a5 f2 h) ⟨gcb hw tw_358 tw_28 tw_355 hd_H_feed rfl rfl ⟨(Nat.le_of_ble_eq_true rfl), (Nat.le_of_ble_eq_true rfl)⟩, hw _ tw_356, hw _ tw_357⟩ (gpV hK hG kd_H f2 rfl) rfl rfl hl0.1 rfl (lv_room (by simp [gCat, gci1, gcr1, gcl1, gcd1])) d_L_feed_11 ⟨(Nat.le_of_ble_eq_true rfl), (Nat.le_of_ble_eq_true rfl)⟩) (fun E9 S9 H locs q9 ce9 h9 hle1 hG hce hv hcl => ?_) (fun r3 S4 H locs h9 hle1 hG => ?_)
  · clear h
    rcases h9 with ⟨e9, h9⟩
    · subst e9
      refine vx_catch (own := "WaltzHallLaw") (name := "java/lang/IllegalStateException") hown [] ⟨0, 16, 19, 13⟩ [] (by rw [htab]; rfl) (fun z hz => absurd hz List.not_mem_nil) (by decide) (by decide) (hw _ tw_354) (hw _ tw_365) hce hv hcl ?_
      replace h := h9
      have f2 := gle_isA hle1 f2
      have leS := leS.tr hle1
      refine lv_astore (lv' := [(7, .ref q9), (0, .ref y1), (1, .int a1), (2, .int a2), (3, .int a3), (4, .int a4), (5, .int a5), (6, va_rf a6)]) hx hb d_L_feed_19 hl0 (by decide) (by simp [gCat, gCatB, gci1, gcr1, gcl1, gcd1] <;> rfl) (fun ls hl5 => ?_)
      refine lv_iconst (v := 1) hx hb d_L_feed_21 (by decide) ?_
      exact giret hx hb hr hlocks hK hG leS h (Nat.le_of_ble_eq_true rfl) (Nat.le_of_ble_eq_true rfl) d_L_feed_22
  replace h := h9
  clear h9
  have f2 := gle_isA hle1 f2
  have leS := leS.tr hle1
  refine lv_i2l hx hb d_L_feed_14 rfl ?_
  obtain ⟨y6, ey6, h⟩ := h
  subst ey6
  obtain ⟨f7, h⟩ := h
  obtain ⟨hi8, h⟩ := h
  refine glast hx hb hK hG f7 hi8 d_L_feed_15 (fun S9 H locs eS9 hle1 hG => ?_)
  replace h := h S9 eS9
  have f2 := gle_isA hle1 f2
  have f7 := gle_isA hle1 f7
  have leS := leS.tr hle1
  refine lv_goto (tgt := 23) hx hb d_L_feed_16 (by decide) ?_
  refine lv_iconst (v := 0) hx hb d_L_feed_23 (by decide) ?_
  exact giret hx hb hr hlocks hK hG leS h (Nat.le_of_ble_eq_true rfl) (Nat.le_of_ble_eq_true rfl) d_L_feed_24
def w_L_trim (post : Int32 → St → Prop) (S : St) (a0 : Option Nat) (a1 : Int32) (a2 : Option Nat) : Prop :=
  ∃ y1 : Nat, a0 = some y1 ∧ isA S 6 y1 ∧ w_H_trim (fun (r3 : Int32) (S4 : St) => ∃ y6 : Nat, a2 = some y6 ∧ isA S4 13 y6 ∧ vp_in 0 (sN S4 y6) ∧ ∀ S9 : St, S9 = pJ S4 y6 ((0 : Int32).toNatClampNeg) (r3.toInt64) → post 0 S9) (fun (E9 : String) (S9 : St) => (E9 = "java/lang/IllegalArgumentException" ∧ post 1 S9)) S y1 a1
set_option maxHeartbeats 4000000 in
set_option maxRecDepth 100000 in
theorem m_L_trim (l : Launch) (hlt : l.stackTraces = false) (x : Cx) (S : St) (post : Int32 → St → Prop) (a0 : Option Nat) (a1 : Int32) (a2 : Option Nat) (h : w_L_trim post S a0 a1 a2) : Met l y_L_trim [.codeWith y_L_trim c_L_trim 4 (some .int) [(0, 9, 12, 19)]] { frames := 7, cells := 1, slots := 6, locals := 111 } (va_Pc [va_rf a0, .int a1, va_rf a2] (GL x S)) (va_Qi post (gB x S) (xA x)) 1 6 (xA x) := by
  refine gMetL [(0, 9, 12, 19)] (by decide +kernel) (by simp [lg_sl, gCat, gci1, gcr1, gcl1, gcd1]) tw_436 ?_
  intro p e s m args below meth c hx hb hr hown hlocks hin hw hK hN H locs hG ls hlA hml htab
  have hown : s.vm.findClass "WaltzHallLaw" = some m.cls := hown
  have hl0 : lv_has ls 4 [(0, va_rf a0), (1, .int a1), (2, va_rf a2)] := by simpa [lv_args, gCat, gci1, gcr1, gcl1, gcd1] using hlA
  have leS : gle S S := gle.rf
  unfold w_L_trim at h
  refine gaload_n hx hb d_L_trim_0 rfl (lv_at hl0 2 rfl) ?_
  refine lv_iconst (v := 0) hx hb d_L_trim_1 (by decide) ?_
  refine gaload_n hx hb d_L_trim_2 rfl (lv_at hl0 0 rfl) ?_
  refine lv_iload_n hx hb d_L_trim_3 rfl (lv_at hl0 1 rfl) ?_
  obtain ⟨y1, ey1, h⟩ := h
  subst ey1
  obtain ⟨f2, h⟩ := h
  -- call H_trim
  refine gcatch hG (vx_runV (As := [.int a1]) (rest := [.int 0, va_rf a2]) ⟨hx, hb, hml, hown, hw⟩ (m_H_trim l hlt x S _ _ y1 a1 f2 h) ⟨gcb hw tw_441 tw_28 tw_438 hd_H_trim rfl rfl ⟨(Nat.le_of_ble_eq_true rfl), (Nat.le_of_ble_eq_true rfl)⟩, hw _ tw_439, hw _ tw_440⟩ (gpV hK hG kd_H f2 rfl) rfl rfl hl0.1 rfl (lv_room (by simp [gCat, gci1, gcr1, gcl1, gcd1])) d_L_trim_4 ⟨(Nat.le_of_ble_eq_true rfl), (Nat.le_of_ble_eq_true rfl)⟩) (fun E9 S9 H locs q9 ce9 h9 hle1 hG hce hv hcl => ?_) (fun r3 S4 H locs h9 hle1 hG => ?_)
  · clear h
    rcases h9 with ⟨e9, h9⟩
    · subst e9
      refine vx_catch (own := "WaltzHallLaw") (name := "java/lang/IllegalArgumentException") hown [] ⟨0, 9, 12, 19⟩ [] (by rw [htab]; rfl) (fun z hz => absurd hz List.not_mem_nil) (by decide) (by decide) (hw _ tw_437) (hw _ tw_444) hce hv hcl ?_
      replace h := h9
      have f2 := gle_isA hle1 f2
      have leS := leS.tr hle1
      refine lv_astore_n (i := 3) (lv' := [(3, .ref q9), (0, .ref y1), (1, .int a1), (2, va_rf a2)]) hx hb d_L_trim_12 rfl hl0 (by decide) (by simp [gCat, gCatB, gci1, gcr1, gcl1, gcd1] <;> rfl) (fun ls hl5 => ?_)
      refine lv_iconst (v := 1) hx hb d_L_trim_13 (by decide) ?_
      exact giret hx hb hr hlocks hK hG leS h (Nat.le_of_ble_eq_true rfl) (Nat.le_of_ble_eq_true rfl) d_L_trim_14
  replace h := h9
  clear h9
  have f2 := gle_isA hle1 f2
  have leS := leS.tr hle1
  refine lv_i2l hx hb d_L_trim_7 rfl ?_
  obtain ⟨y6, ey6, h⟩ := h
  subst ey6
  obtain ⟨f7, h⟩ := h
  obtain ⟨hi8, h⟩ := h
  refine glast hx hb hK hG f7 hi8 d_L_trim_8 (fun S9 H locs eS9 hle1 hG => ?_)
  replace h := h S9 eS9
  have f2 := gle_isA hle1 f2
  have f7 := gle_isA hle1 f7
  have leS := leS.tr hle1
  refine lv_goto (tgt := 15) hx hb d_L_trim_9 (by decide) ?_
  refine lv_iconst (v := 0) hx hb d_L_trim_15 (by decide) ?_
  exact giret hx hb hr hlocks hK hG leS h (Nat.le_of_ble_eq_true rfl) (Nat.le_of_ble_eq_true rfl) d_L_trim_16
def w_L_learn (post : Int32 → St → Prop) (S : St) (a0 : Option Nat) (a1 : Int32) (a2 : Option Nat) : Prop :=
  ∃ y1 : Nat, a0 = some y1 ∧ isA S 6 y1 ∧ w_H_learn (fun (r3 : Int32) (S4 : St) => ∃ y6 : Nat, a2 = some y6 ∧ isA S4 13 y6 ∧ vp_in 0 (sN S4 y6) ∧ ∀ S9 : St, S9 = pJ S4 y6 ((0 : Int32).toNatClampNeg) (r3.toInt64) → post 0 S9) (fun (E9 : String) (S9 : St) => (E9 = "java/lang/IndexOutOfBoundsException" ∧ post 1 S9)) S y1 a1
set_option maxHeartbeats 4000000 in
set_option maxRecDepth 100000 in
theorem m_L_learn (l : Launch) (hlt : l.stackTraces = false) (x : Cx) (S : St) (post : Int32 → St → Prop) (a0 : Option Nat) (a1 : Int32) (a2 : Option Nat) (h : w_L_learn post S a0 a1 a2) : Met l y_L_learn [.codeWith y_L_learn c_L_learn 4 (some .int) [(0, 9, 12, 24)]] { frames := 8, cells := 1, slots := 6, locals := 134 } (va_Pc [va_rf a0, .int a1, va_rf a2] (GL x S)) (va_Qi post (gB x S) (xA x)) 1 6 (xA x) := by
  refine gMetL [(0, 9, 12, 24)] (by decide +kernel) (by simp [lg_sl, gCat, gci1, gcr1, gcl1, gcd1]) tw_460 ?_
  intro p e s m args below meth c hx hb hr hown hlocks hin hw hK hN H locs hG ls hlA hml htab
  have hown : s.vm.findClass "WaltzHallLaw" = some m.cls := hown
  have hl0 : lv_has ls 4 [(0, va_rf a0), (1, .int a1), (2, va_rf a2)] := by simpa [lv_args, gCat, gci1, gcr1, gcl1, gcd1] using hlA
  have leS : gle S S := gle.rf
  unfold w_L_learn at h
  refine gaload_n hx hb d_L_learn_0 rfl (lv_at hl0 2 rfl) ?_
  refine lv_iconst (v := 0) hx hb d_L_learn_1 (by decide) ?_
  refine gaload_n hx hb d_L_learn_2 rfl (lv_at hl0 0 rfl) ?_
  refine lv_iload_n hx hb d_L_learn_3 rfl (lv_at hl0 1 rfl) ?_
  obtain ⟨y1, ey1, h⟩ := h
  subst ey1
  obtain ⟨f2, h⟩ := h
  -- call H_learn
  refine gcatch hG (vx_runV (As := [.int a1]) (rest := [.int 0, va_rf a2]) ⟨hx, hb, hml, hown, hw⟩ (m_H_learn l hlt x S _ _ y1 a1 f2 h) ⟨gcb hw tw_465 tw_28 tw_462 hd_H_learn rfl rfl ⟨(Nat.le_of_ble_eq_true rfl), (Nat.le_of_ble_eq_true rfl)⟩, hw _ tw_463, hw _ tw_464⟩ (gpV hK hG kd_H f2 rfl) rfl rfl hl0.1 rfl (lv_room (by simp [gCat, gci1, gcr1, gcl1, gcd1])) d_L_learn_4 ⟨(Nat.le_of_ble_eq_true rfl), (Nat.le_of_ble_eq_true rfl)⟩) (fun E9 S9 H locs q9 ce9 h9 hle1 hG hce hv hcl => ?_) (fun r3 S4 H locs h9 hle1 hG => ?_)
  · clear h
    rcases h9 with ⟨e9, h9⟩
    · subst e9
      refine vx_catch (own := "WaltzHallLaw") (name := "java/lang/IndexOutOfBoundsException") hown [] ⟨0, 9, 12, 24⟩ [] (by rw [htab]; rfl) (fun z hz => absurd hz List.not_mem_nil) (by decide) (by decide) (hw _ tw_461) (hw _ tw_472) hce hv hcl ?_
      replace h := h9
      have f2 := gle_isA hle1 f2
      have leS := leS.tr hle1
      refine lv_astore_n (i := 3) (lv' := [(3, .ref q9), (0, .ref y1), (1, .int a1), (2, va_rf a2)]) hx hb d_L_learn_12 rfl hl0 (by decide) (by simp [gCat, gCatB, gci1, gcr1, gcl1, gcd1] <;> rfl) (fun ls hl5 => ?_)
      refine lv_iconst (v := 1) hx hb d_L_learn_13 (by decide) ?_
      exact giret hx hb hr hlocks hK hG leS h (Nat.le_of_ble_eq_true rfl) (Nat.le_of_ble_eq_true rfl) d_L_learn_14
  replace h := h9
  clear h9
  have f2 := gle_isA hle1 f2
  have leS := leS.tr hle1
  refine lv_i2l hx hb d_L_learn_7 rfl ?_
  obtain ⟨y6, ey6, h⟩ := h
  subst ey6
  obtain ⟨f7, h⟩ := h
  obtain ⟨hi8, h⟩ := h
  refine glast hx hb hK hG f7 hi8 d_L_learn_8 (fun S9 H locs eS9 hle1 hG => ?_)
  replace h := h S9 eS9
  have f2 := gle_isA hle1 f2
  have f7 := gle_isA hle1 f7
  have leS := leS.tr hle1
  refine lv_goto (tgt := 15) hx hb d_L_learn_9 (by decide) ?_
  refine lv_iconst (v := 0) hx hb d_L_learn_15 (by decide) ?_
  exact giret hx hb hr hlocks hK hG leS h (Nat.le_of_ble_eq_true rfl) (Nat.le_of_ble_eq_true rfl) d_L_learn_16
def w_L_figure (post : Int32 → St → Prop) (S : St) (a0 : Option Nat) (a1 : Int32) (a2 : Int32) (a3 : Option Nat) : Prop :=
  ∃ y1 : Nat, a0 = some y1 ∧ isA S 6 y1 ∧ w_H_figure (fun (r3 : Int32) => ∃ y5 : Nat, a3 = some y5 ∧ isA S 13 y5 ∧ vp_in 0 (sN S y5) ∧ ∀ S8 : St, S8 = pJ S y5 ((0 : Int32).toNatClampNeg) (r3.toInt64) → post 0 S8) (fun (E9 : String) => (E9 = "java/lang/IndexOutOfBoundsException" ∧ post 1 S)) S y1 a1 a2
set_option maxHeartbeats 4000000 in
set_option maxRecDepth 100000 in
theorem m_L_figure (l : Launch) (hlt : l.stackTraces = false) (x : Cx) (S : St) (post : Int32 → St → Prop) (a0 : Option Nat) (a1 : Int32) (a2 : Int32) (a3 : Option Nat) (h : w_L_figure post S a0 a1 a2 a3) : Met l y_L_figure [.codeWith y_L_figure c_L_figure 5 (some .int) [(0, 10, 13, 24)]] { frames := 8, cells := 2, slots := 12, locals := 134 } (va_Pc [va_rf a0, .int a1, .int a2, va_rf a3] (GL x S)) (va_Qi post (gB x S) (xA x)) 2 12 (xA x) := by
  refine gMetL [(0, 10, 13, 24)] (by decide +kernel) (by simp [lg_sl, gCat, gci1, gcr1, gcl1, gcd1]) tw_510 ?_
  intro p e s m args below meth c hx hb hr hown hlocks hin hw hK hN H locs hG ls hlA hml htab
  have hown : s.vm.findClass "WaltzHallLaw" = some m.cls := hown
  have hl0 : lv_has ls 5 [(0, va_rf a0), (1, .int a1), (2, .int a2), (3, va_rf a3)] := by simpa [lv_args, gCat, gci1, gcr1, gcl1, gcd1] using hlA
  have leS : gle S S := gle.rf
  unfold w_L_figure at h
  refine gaload_n hx hb d_L_figure_0 rfl (lv_at hl0 3 rfl) ?_
  refine lv_iconst (v := 0) hx hb d_L_figure_1 (by decide) ?_
  refine gaload_n hx hb d_L_figure_2 rfl (lv_at hl0 0 rfl) ?_
  refine lv_iload_n hx hb d_L_figure_3 rfl (lv_at hl0 1 rfl) ?_
  refine lv_iload_n hx hb d_L_figure_4 rfl (lv_at hl0 2 rfl) ?_
  obtain ⟨y1, ey1, h⟩ := h
  subst ey1
  obtain ⟨f2, h⟩ := h
  -- call H_figure
  refine gcatchp hG (vx_runV (As := [.int a1, .int a2]) (rest := [.int 0, va_rf a3]) ⟨hx, hb, hml, hown, hw⟩ (m_H_figure l hlt x S _ _ y1 a1 a2 f2 h) ⟨gcb hw tw_514 tw_28 tw_511 hd_H_figure rfl rfl ⟨(Nat.le_of_ble_eq_true rfl), (Nat.le_of_ble_eq_true rfl)⟩, hw _ tw_512, hw _ tw_513⟩ (gpV hK hG kd_H f2 rfl) rfl rfl hl0.1 rfl (lv_room (by simp [gCat, gci1, gcr1, gcl1, gcd1])) d_L_figure_5 ⟨(Nat.le_of_ble_eq_true rfl), (Nat.le_of_ble_eq_true rfl)⟩) (fun E9 H locs q9 ce9 h9 hG hce hv hcl => ?_) (fun r3 H locs h9 hG => ?_)
  · clear h
    rcases h9 with ⟨e9, h9⟩
    · subst e9
      refine vx_catch (own := "WaltzHallLaw") (name := "java/lang/IndexOutOfBoundsException") hown [] ⟨0, 10, 13, 24⟩ [] (by rw [htab]; rfl) (fun z hz => absurd hz List.not_mem_nil) (by decide) (by decide) (hw _ tw_461) (hw _ tw_472) hce hv hcl ?_
      replace h := h9
      refine lv_astore (lv' := [(4, .ref q9), (0, .ref y1), (1, .int a1), (2, .int a2), (3, va_rf a3)]) hx hb d_L_figure_13 hl0 (by decide) (by simp [gCat, gCatB, gci1, gcr1, gcl1, gcd1] <;> rfl) (fun ls hl4 => ?_)
      refine lv_iconst (v := 1) hx hb d_L_figure_15 (by decide) ?_
      exact giret hx hb hr hlocks hK hG leS h (Nat.le_of_ble_eq_true rfl) (Nat.le_of_ble_eq_true rfl) d_L_figure_16
  replace h := h9
  clear h9
  refine lv_i2l hx hb d_L_figure_8 rfl ?_
  obtain ⟨y5, ey5, h⟩ := h
  subst ey5
  obtain ⟨f6, h⟩ := h
  obtain ⟨hi7, h⟩ := h
  refine glast hx hb hK hG f6 hi7 d_L_figure_9 (fun S8 H locs eS8 hle1 hG => ?_)
  replace h := h S8 eS8
  have f2 := gle_isA hle1 f2
  have f6 := gle_isA hle1 f6
  have leS := leS.tr hle1
  refine lv_goto (tgt := 17) hx hb d_L_figure_10 (by decide) ?_
  refine lv_iconst (v := 0) hx hb d_L_figure_17 (by decide) ?_
  exact giret hx hb hr hlocks hK hG leS h (Nat.le_of_ble_eq_true rfl) (Nat.le_of_ble_eq_true rfl) d_L_figure_18
def w_L_drift (post : Int32 → St → Prop) (S : St) (a0 : Option Nat) (a1 : Int32) (a2 : Int32) (a3 : Option Nat) : Prop :=
  ∃ y1 : Nat, a0 = some y1 ∧ isA S 6 y1 ∧ w_H_drift (fun (r3 : Int32) => ∃ y5 : Nat, a3 = some y5 ∧ isA S 13 y5 ∧ vp_in 0 (sN S y5) ∧ ∀ S8 : St, S8 = pJ S y5 ((0 : Int32).toNatClampNeg) (r3.toInt64) → post 0 S8) (fun (E9 : String) => (E9 = "java/lang/IndexOutOfBoundsException" ∧ post 1 S)) S y1 a1 a2
set_option maxHeartbeats 4000000 in
set_option maxRecDepth 100000 in
theorem m_L_drift (l : Launch) (hlt : l.stackTraces = false) (x : Cx) (S : St) (post : Int32 → St → Prop) (a0 : Option Nat) (a1 : Int32) (a2 : Int32) (a3 : Option Nat) (h : w_L_drift post S a0 a1 a2 a3) : Met l y_L_drift [.codeWith y_L_drift c_L_drift 5 (some .int) [(0, 10, 13, 24)]] { frames := 8, cells := 2, slots := 12, locals := 134 } (va_Pc [va_rf a0, .int a1, .int a2, va_rf a3] (GL x S)) (va_Qi post (gB x S) (xA x)) 2 12 (xA x) := by
  refine gMetL [(0, 10, 13, 24)] (by decide +kernel) (by simp [lg_sl, gCat, gci1, gcr1, gcl1, gcd1]) tw_519 ?_
  intro p e s m args below meth c hx hb hr hown hlocks hin hw hK hN H locs hG ls hlA hml htab
  have hown : s.vm.findClass "WaltzHallLaw" = some m.cls := hown
  have hl0 : lv_has ls 5 [(0, va_rf a0), (1, .int a1), (2, .int a2), (3, va_rf a3)] := by simpa [lv_args, gCat, gci1, gcr1, gcl1, gcd1] using hlA
  have leS : gle S S := gle.rf
  unfold w_L_drift at h
  refine gaload_n hx hb d_L_drift_0 rfl (lv_at hl0 3 rfl) ?_
  refine lv_iconst (v := 0) hx hb d_L_drift_1 (by decide) ?_
  refine gaload_n hx hb d_L_drift_2 rfl (lv_at hl0 0 rfl) ?_
  refine lv_iload_n hx hb d_L_drift_3 rfl (lv_at hl0 1 rfl) ?_
  refine lv_iload_n hx hb d_L_drift_4 rfl (lv_at hl0 2 rfl) ?_
  obtain ⟨y1, ey1, h⟩ := h
  subst ey1
  obtain ⟨f2, h⟩ := h
  -- call H_drift
  refine gcatchp hG (vx_runV (As := [.int a1, .int a2]) (rest := [.int 0, va_rf a3]) ⟨hx, hb, hml, hown, hw⟩ (m_H_drift l hlt x S _ _ y1 a1 a2 f2 h) ⟨gcb hw tw_523 tw_28 tw_520 hd_H_drift rfl rfl ⟨(Nat.le_of_ble_eq_true rfl), (Nat.le_of_ble_eq_true rfl)⟩, hw _ tw_521, hw _ tw_522⟩ (gpV hK hG kd_H f2 rfl) rfl rfl hl0.1 rfl (lv_room (by simp [gCat, gci1, gcr1, gcl1, gcd1])) d_L_drift_5 ⟨(Nat.le_of_ble_eq_true rfl), (Nat.le_of_ble_eq_true rfl)⟩) (fun E9 H locs q9 ce9 h9 hG hce hv hcl => ?_) (fun r3 H locs h9 hG => ?_)
  · clear h
    rcases h9 with ⟨e9, h9⟩
    · subst e9
      refine vx_catch (own := "WaltzHallLaw") (name := "java/lang/IndexOutOfBoundsException") hown [] ⟨0, 10, 13, 24⟩ [] (by rw [htab]; rfl) (fun z hz => absurd hz List.not_mem_nil) (by decide) (by decide) (hw _ tw_461) (hw _ tw_472) hce hv hcl ?_
      replace h := h9
      refine lv_astore (lv' := [(4, .ref q9), (0, .ref y1), (1, .int a1), (2, .int a2), (3, va_rf a3)]) hx hb d_L_drift_13 hl0 (by decide) (by simp [gCat, gCatB, gci1, gcr1, gcl1, gcd1] <;> rfl) (fun ls hl4 => ?_)
      refine lv_iconst (v := 1) hx hb d_L_drift_15 (by decide) ?_
      exact giret hx hb hr hlocks hK hG leS h (Nat.le_of_ble_eq_true rfl) (Nat.le_of_ble_eq_true rfl) d_L_drift_16
  replace h := h9
  clear h9
  refine lv_i2l hx hb d_L_drift_8 rfl ?_
  obtain ⟨y5, ey5, h⟩ := h
  subst ey5
  obtain ⟨f6, h⟩ := h
  obtain ⟨hi7, h⟩ := h
  refine glast hx hb hK hG f6 hi7 d_L_drift_9 (fun S8 H locs eS8 hle1 hG => ?_)
  replace h := h S8 eS8
  have f2 := gle_isA hle1 f2
  have f6 := gle_isA hle1 f6
  have leS := leS.tr hle1
  refine lv_goto (tgt := 17) hx hb d_L_drift_10 (by decide) ?_
  refine lv_iconst (v := 0) hx hb d_L_drift_17 (by decide) ?_
  exact giret hx hb hr hlocks hK hG leS h (Nat.le_of_ble_eq_true rfl) (Nat.le_of_ble_eq_true rfl) d_L_drift_18
def w_L_come (post : Int32 → St → Prop) (S : St) (a0 : Option Nat) (a1 : Int32) (a2 : Int32) (a3 : Int32) (a4 : Int32) (a5 : Option Nat) : Prop :=
  ∃ y1 : Nat, a0 = some y1 ∧ isA S 6 y1 ∧ w_H_come (fun (r3 : Int32) (S4 : St) => ∃ y7 : Nat, a5 = some y7 ∧ isA S4 13 y7 ∧ vp_in 0 (sN S4 y7) ∧ ∀ S10 : St, S10 = pJ S4 y7 ((0 : Int32).toNatClampNeg) (r3.toInt64) → post 0 S10) (fun (E9 : String) (S9 : St) => (E9 = "java/lang/IllegalArgumentException" ∧ post 1 S9) ∨ (E9 = "java/lang/IllegalStateException" ∧ post 2 S9)) S y1 a1 a2 a3 a4
set_option maxHeartbeats 4000000 in
set_option maxRecDepth 100000 in
theorem m_L_come (l : Launch) (hlt : l.stackTraces = false) (x : Cx) (S : St) (post : Int32 → St → Prop) (a0 : Option Nat) (a1 : Int32) (a2 : Int32) (a3 : Int32) (a4 : Int32) (a5 : Option Nat) (h : w_L_come post S a0 a1 a2 a3 a4 a5) : Met l y_L_come [.codeWith y_L_come c_L_come 7 (some .int) [(0, 14, 17, 19), (0, 14, 21, 13)]] { frames := 7, cells := 2, slots := 25, locals := 133 } (va_Pc [va_rf a0, .int a1, .int a2, .int a3, .int a4, va_rf a5] (GL x S)) (va_Qi post (gB x S) (xA x)) 2 25 (xA x) := by
  refine gMetL [(0, 14, 17, 19), (0, 14, 21, 13)] (by decide +kernel) (by simp [lg_sl, gCat, gci1, gcr1, gcl1, gcd1]) tw_554 ?_
  intro p e s m args below meth c hx hb hr hown hlocks hin hw hK hN H locs hG ls hlA hml htab
  have hown : s.vm.findClass "WaltzHallLaw" = some m.cls := hown
  have hl0 : lv_has ls 7 [(0, va_rf a0), (1, .int a1), (2, .int a2), (3, .int a3), (4, .int a4), (5, va_rf a5)] := by simpa [lv_args, gCat, gci1, gcr1, gcl1, gcd1] using hlA
  have leS : gle S S := gle.rf
  unfold w_L_come at h
  refine gaload hx hb d_L_come_0 (lv_at hl0 5 rfl) ?_
  refine lv_iconst (v := 0) hx hb d_L_come_2 (by decide) ?_
  refine gaload_n hx hb d_L_come_3 rfl (lv_at hl0 0 rfl) ?_
  refine lv_iload_n hx hb d_L_come_4 rfl (lv_at hl0 1 rfl) ?_
  refine lv_iload_n hx hb d_L_come_5 rfl (lv_at hl0 2 rfl) ?_
  refine lv_iload_n hx hb d_L_come_6 rfl (lv_at hl0 3 rfl) ?_
  refine lv_iload hx hb d_L_come_7 (lv_at hl0 4 rfl) ?_
  obtain ⟨y1, ey1, h⟩ := h
  subst ey1
  obtain ⟨f2, h⟩ := h
  -- call H_come
  refine gcatch hG (vx_runV (As := [.int a1, .int a2, .int a3, .int a4]) (rest := [.int 0, va_rf a5]) ⟨hx, hb, hml, hown, hw⟩ (m_H_come l hlt x S _ _ y1 a1 a2 a3 a4 f2 h) ⟨gcb hw tw_558 tw_28 tw_555 hd_H_come rfl rfl ⟨(Nat.le_of_ble_eq_true rfl), (Nat.le_of_ble_eq_true rfl)⟩, hw _ tw_556, hw _ tw_557⟩ (gpV hK hG kd_H f2 rfl) rfl rfl hl0.1 rfl (lv_room (by simp [gCat, gci1, gcr1, gcl1, gcd1])) d_L_come_9 ⟨(Nat.le_of_ble_eq_true rfl), (Nat.le_of_ble_eq_true rfl)⟩) (fun E9 S9 H locs q9 ce9 h9 hle1 hG hce hv hcl => ?_) (fun r3 S4 H locs h9 hle1 hG => ?_)
  · clear h
    rcases h9 with ⟨e9, h9⟩ | ⟨e9, h9⟩
    · subst e9
      refine vx_catch (own := "WaltzHallLaw") (name := "java/lang/IllegalArgumentException") hown [] ⟨0, 14, 17, 19⟩ [⟨0, 14, 21, 13⟩] (by rw [htab]; rfl) (fun z hz => absurd hz List.not_mem_nil) (by decide) (by decide) (hw _ tw_437) (hw _ tw_444) hce hv hcl ?_
      replace h := h9
      have f2 := gle_isA hle1 f2
      have leS := leS.tr hle1
      refine lv_astore (lv' := [(6, .ref q9), (0, .ref y1), (1, .int a1), (2, .int a2), (3, .int a3), (4, .int a4), (5, va_rf a5)]) hx hb d_L_come_17 hl0 (by decide) (by simp [gCat, gCatB, gci1, gcr1, gcl1, gcd1] <;> rfl) (fun ls hl5 => ?_)
      refine lv_iconst (v := 1) hx hb d_L_come_19 (by decide) ?_
      exact giret hx hb hr hlocks hK hG leS h (Nat.le_of_ble_eq_true rfl) (Nat.le_of_ble_eq_true rfl) d_L_come_20
    · subst e9
      refine vx_catch (own := "WaltzHallLaw") (name := "java/lang/IllegalStateException") hown [⟨0, 14, 17, 19⟩] ⟨0, 14, 21, 13⟩ [] (by rw [htab]; rfl) (gpass1 (by decide) (hw _ tw_437) (hN ("java/lang/IllegalStateException", "java/lang/IllegalArgumentException") (by decide))) (by decide) (by decide) (hw _ tw_354) (hw _ tw_365) hce hv hcl ?_
      replace h := h9
      have f2 := gle_isA hle1 f2
      have leS := leS.tr hle1
      refine lv_astore (lv' := [(6, .ref q9), (0, .ref y1), (1, .int a1), (2, .int a2), (3, .int a3), (4, .int a4), (5, va_rf a5)]) hx hb d_L_come_21 hl0 (by decide) (by simp [gCat, gCatB, gci1, gcr1, gcl1, gcd1] <;> rfl) (fun ls hl6 => ?_)
      refine lv_iconst (v := 2) hx hb d_L_come_23 (by decide) ?_
      exact giret hx hb hr hlocks hK hG leS h (Nat.le_of_ble_eq_true rfl) (Nat.le_of_ble_eq_true rfl) d_L_come_24
  replace h := h9
  clear h9
  have f2 := gle_isA hle1 f2
  have leS := leS.tr hle1
  refine lv_i2l hx hb d_L_come_12 rfl ?_
  obtain ⟨y7, ey7, h⟩ := h
  subst ey7
  obtain ⟨f8, h⟩ := h
  obtain ⟨hi9, h⟩ := h
  refine glast hx hb hK hG f8 hi9 d_L_come_13 (fun S10 H locs eS10 hle1 hG => ?_)
  replace h := h S10 eS10
  have f2 := gle_isA hle1 f2
  have f8 := gle_isA hle1 f8
  have leS := leS.tr hle1
  refine lv_goto (tgt := 25) hx hb d_L_come_14 (by decide) ?_
  refine lv_iconst (v := 0) hx hb d_L_come_25 (by decide) ?_
  exact giret hx hb hr hlocks hK hG leS h (Nat.le_of_ble_eq_true rfl) (Nat.le_of_ble_eq_true rfl) d_L_come_26
def w_L_dance (post : Int32 → St → Prop) (S : St) (a0 : Option Nat) (a1 : Int32) (a2 : Int32) (a3 : Option Nat) : Prop :=
  ∃ y1 : Nat, a0 = some y1 ∧ isA S 6 y1 ∧ w_H_dance (fun (r3 : Int32) (S4 : St) => ∃ y6 : Nat, a3 = some y6 ∧ isA S4 13 y6 ∧ vp_in 0 (sN S4 y6) ∧ ∀ S9 : St, S9 = pJ S4 y6 ((0 : Int32).toNatClampNeg) (r3.toInt64) → post 0 S9) (fun (E9 : String) (S9 : St) => (E9 = "java/lang/IndexOutOfBoundsException" ∧ post 1 S9)) S y1 a1 a2
set_option maxHeartbeats 4000000 in
set_option maxRecDepth 100000 in
theorem m_L_dance (l : Launch) (hlt : l.stackTraces = false) (x : Cx) (S : St) (post : Int32 → St → Prop) (a0 : Option Nat) (a1 : Int32) (a2 : Int32) (a3 : Option Nat) (h : w_L_dance post S a0 a1 a2 a3) : Met l y_L_dance [.codeWith y_L_dance c_L_dance 5 (some .int) [(0, 10, 13, 24)]] { frames := 8, cells := 2, slots := 12, locals := 137 } (va_Pc [va_rf a0, .int a1, .int a2, va_rf a3] (GL x S)) (va_Qi post (gB x S) (xA x)) 2 12 (xA x) := by
  refine gMetL [(0, 10, 13, 24)] (by decide +kernel) (by simp [lg_sl, gCat, gci1, gcr1, gcl1, gcd1]) tw_646 ?_
  intro p e s m args below meth c hx hb hr hown hlocks hin hw hK hN H locs hG ls hlA hml htab
  have hown : s.vm.findClass "WaltzHallLaw" = some m.cls := hown
  have hl0 : lv_has ls 5 [(0, va_rf a0), (1, .int a1), (2, .int a2), (3, va_rf a3)] := by simpa [lv_args, gCat, gci1, gcr1, gcl1, gcd1] using hlA
  have leS : gle S S := gle.rf
  unfold w_L_dance at h
  refine gaload_n hx hb d_L_dance_0 rfl (lv_at hl0 3 rfl) ?_
  refine lv_iconst (v := 0) hx hb d_L_dance_1 (by decide) ?_
  refine gaload_n hx hb d_L_dance_2 rfl (lv_at hl0 0 rfl) ?_
  refine lv_iload_n hx hb d_L_dance_3 rfl (lv_at hl0 1 rfl) ?_
  refine lv_iload_n hx hb d_L_dance_4 rfl (lv_at hl0 2 rfl) ?_
  obtain ⟨y1, ey1, h⟩ := h
  subst ey1
  obtain ⟨f2, h⟩ := h
  -- call H_dance
  refine gcatch hG (vx_runV (As := [.int a1, .int a2]) (rest := [.int 0, va_rf a3]) ⟨hx, hb, hml, hown, hw⟩ (m_H_dance l hlt x S _ _ y1 a1 a2 f2 h) ⟨gcb hw tw_650 tw_28 tw_647 hd_H_dance rfl rfl ⟨(Nat.le_of_ble_eq_true rfl), (Nat.le_of_ble_eq_true rfl)⟩, hw _ tw_648, hw _ tw_649⟩ (gpV hK hG kd_H f2 rfl) rfl rfl hl0.1 rfl (lv_room (by simp [gCat, gci1, gcr1, gcl1, gcd1])) d_L_dance_5 ⟨(Nat.le_of_ble_eq_true rfl), (Nat.le_of_ble_eq_true rfl)⟩) (fun E9 S9 H locs q9 ce9 h9 hle1 hG hce hv hcl => ?_) (fun r3 S4 H locs h9 hle1 hG => ?_)
  · clear h
    rcases h9 with ⟨e9, h9⟩
    · subst e9
      refine vx_catch (own := "WaltzHallLaw") (name := "java/lang/IndexOutOfBoundsException") hown [] ⟨0, 10, 13, 24⟩ [] (by rw [htab]; rfl) (fun z hz => absurd hz List.not_mem_nil) (by decide) (by decide) (hw _ tw_461) (hw _ tw_472) hce hv hcl ?_
      replace h := h9
      have f2 := gle_isA hle1 f2
      have leS := leS.tr hle1
      refine lv_astore (lv' := [(4, .ref q9), (0, .ref y1), (1, .int a1), (2, .int a2), (3, va_rf a3)]) hx hb d_L_dance_13 hl0 (by decide) (by simp [gCat, gCatB, gci1, gcr1, gcl1, gcd1] <;> rfl) (fun ls hl5 => ?_)
      refine lv_iconst (v := 1) hx hb d_L_dance_15 (by decide) ?_
      exact giret hx hb hr hlocks hK hG leS h (Nat.le_of_ble_eq_true rfl) (Nat.le_of_ble_eq_true rfl) d_L_dance_16
  replace h := h9
  clear h9
  have f2 := gle_isA hle1 f2
  have leS := leS.tr hle1
  refine lv_i2l hx hb d_L_dance_8 rfl ?_
  obtain ⟨y6, ey6, h⟩ := h
  subst ey6
  obtain ⟨f7, h⟩ := h
  obtain ⟨hi8, h⟩ := h
  refine glast hx hb hK hG f7 hi8 d_L_dance_9 (fun S9 H locs eS9 hle1 hG => ?_)
  replace h := h S9 eS9
  have f2 := gle_isA hle1 f2
  have f7 := gle_isA hle1 f7
  have leS := leS.tr hle1
  refine lv_goto (tgt := 17) hx hb d_L_dance_10 (by decide) ?_
  refine lv_iconst (v := 0) hx hb d_L_dance_17 (by decide) ?_
  exact giret hx hb hr hlocks hK hG leS h (Nat.le_of_ble_eq_true rfl) (Nat.le_of_ble_eq_true rfl) d_L_dance_18
def w_L_pair (post : Int32 → St → Prop) (S : St) (a0 : Option Nat) (a1 : Int32) (a2 : Int32) (a3 : Option Nat) : Prop :=
  ∃ y1 : Nat, a0 = some y1 ∧ isA S 6 y1 ∧ w_H_pair (fun (r3 : Int32) (S4 : St) => ∃ y8 : Nat, a3 = some y8 ∧ isA S4 13 y8 ∧ vp_in 0 (sN S4 y8) ∧ ∀ S11 : St, S11 = pJ S4 y8 ((0 : Int32).toNatClampNeg) (r3.toInt64) → post 0 S11) (fun (E9 : String) (S9 : St) => (E9 = "java/lang/IndexOutOfBoundsException" ∧ post 1 S9) ∨ (E9 = "java/lang/IllegalArgumentException" ∧ post 2 S9) ∨ (E9 = "java/lang/IllegalStateException" ∧ post 3 S9)) S y1 a1 a2
set_option maxHeartbeats 4000000 in
set_option maxRecDepth 100000 in
theorem m_L_pair (l : Launch) (hlt : l.stackTraces = false) (x : Cx) (S : St) (post : Int32 → St → Prop) (a0 : Option Nat) (a1 : Int32) (a2 : Int32) (a3 : Option Nat) (h : w_L_pair post S a0 a1 a2 a3) : Met l y_L_pair [.codeWith y_L_pair c_L_pair 5 (some .int) [(0, 10, 13, 24), (0, 10, 17, 19), (0, 10, 21, 13)]] { frames := 8, cells := 3, slots := 18, locals := 136 } (va_Pc [va_rf a0, .int a1, .int a2, va_rf a3] (GL x S)) (va_Qi post (gB x S) (xA x)) 3 18 (xA x) := by
  refine gMetL [(0, 10, 13, 24), (0, 10, 17, 19), (0, 10, 21, 13)] (by decide +kernel) (by simp [lg_sl, gCat, gci1, gcr1, gcl1, gcd1]) tw_662 ?_
  intro p e s m args below meth c hx hb hr hown hlocks hin hw hK hN H locs hG ls hlA hml htab
  have hown : s.vm.findClass "WaltzHallLaw" = some m.cls := hown
  have hl0 : lv_has ls 5 [(0, va_rf a0), (1, .int a1), (2, .int a2), (3, va_rf a3)] := by simpa [lv_args, gCat, gci1, gcr1, gcl1, gcd1] using hlA
  have leS : gle S S := gle.rf
  unfold w_L_pair at h
  refine gaload_n hx hb d_L_pair_0 rfl (lv_at hl0 3 rfl) ?_
  refine lv_iconst (v := 0) hx hb d_L_pair_1 (by decide) ?_
  refine gaload_n hx hb d_L_pair_2 rfl (lv_at hl0 0 rfl) ?_
  refine lv_iload_n hx hb d_L_pair_3 rfl (lv_at hl0 1 rfl) ?_
  refine lv_iload_n hx hb d_L_pair_4 rfl (lv_at hl0 2 rfl) ?_
  obtain ⟨y1, ey1, h⟩ := h
  subst ey1
  obtain ⟨f2, h⟩ := h
  -- call H_pair
  refine gcatch hG (vx_runV (As := [.int a1, .int a2]) (rest := [.int 0, va_rf a3]) ⟨hx, hb, hml, hown, hw⟩ (m_H_pair l hlt x S _ _ y1 a1 a2 f2 h) ⟨gcb hw tw_666 tw_28 tw_663 hd_H_pair rfl rfl ⟨(Nat.le_of_ble_eq_true rfl), (Nat.le_of_ble_eq_true rfl)⟩, hw _ tw_664, hw _ tw_665⟩ (gpV hK hG kd_H f2 rfl) rfl rfl hl0.1 rfl (lv_room (by simp [gCat, gci1, gcr1, gcl1, gcd1])) d_L_pair_5 ⟨(Nat.le_of_ble_eq_true rfl), (Nat.le_of_ble_eq_true rfl)⟩) (fun E9 S9 H locs q9 ce9 h9 hle1 hG hce hv hcl => ?_) (fun r3 S4 H locs h9 hle1 hG => ?_)
  · clear h
    rcases h9 with ⟨e9, h9⟩ | ⟨e9, h9⟩ | ⟨e9, h9⟩
    · subst e9
      refine vx_catch (own := "WaltzHallLaw") (name := "java/lang/IndexOutOfBoundsException") hown [] ⟨0, 10, 13, 24⟩ [⟨0, 10, 17, 19⟩, ⟨0, 10, 21, 13⟩] (by rw [htab]; rfl) (fun z hz => absurd hz List.not_mem_nil) (by decide) (by decide) (hw _ tw_461) (hw _ tw_472) hce hv hcl ?_
      replace h := h9
      have f2 := gle_isA hle1 f2
      have leS := leS.tr hle1
      refine lv_astore (lv' := [(4, .ref q9), (0, .ref y1), (1, .int a1), (2, .int a2), (3, va_rf a3)]) hx hb d_L_pair_13 hl0 (by decide) (by simp [gCat, gCatB, gci1, gcr1, gcl1, gcd1] <;> rfl) (fun ls hl5 => ?_)
      refine lv_iconst (v := 1) hx hb d_L_pair_15 (by decide) ?_
      exact giret hx hb hr hlocks hK hG leS h (Nat.le_of_ble_eq_true rfl) (Nat.le_of_ble_eq_true rfl) d_L_pair_16
    · subst e9
      refine vx_catch (own := "WaltzHallLaw") (name := "java/lang/IllegalArgumentException") hown [⟨0, 10, 13, 24⟩] ⟨0, 10, 17, 19⟩ [⟨0, 10, 21, 13⟩] (by rw [htab]; rfl) (gpass1 (by decide) (hw _ tw_461) (hN ("java/lang/IllegalArgumentException", "java/lang/IndexOutOfBoundsException") (by decide))) (by decide) (by decide) (hw _ tw_437) (hw _ tw_444) hce hv hcl ?_
      replace h := h9
      have f2 := gle_isA hle1 f2
      have leS := leS.tr hle1
      refine lv_astore (lv' := [(4, .ref q9), (0, .ref y1), (1, .int a1), (2, .int a2), (3, va_rf a3)]) hx hb d_L_pair_17 hl0 (by decide) (by simp [gCat, gCatB, gci1, gcr1, gcl1, gcd1] <;> rfl) (fun ls hl6 => ?_)
      refine lv_iconst (v := 2) hx hb d_L_pair_19 (by decide) ?_
      exact giret hx hb hr hlocks hK hG leS h (Nat.le_of_ble_eq_true rfl) (Nat.le_of_ble_eq_true rfl) d_L_pair_20
    · subst e9
      refine vx_catch (own := "WaltzHallLaw") (name := "java/lang/IllegalStateException") hown [⟨0, 10, 13, 24⟩, ⟨0, 10, 17, 19⟩] ⟨0, 10, 21, 13⟩ [] (by rw [htab]; rfl) (gpass2 (by decide) (hw _ tw_461) (hN ("java/lang/IllegalStateException", "java/lang/IndexOutOfBoundsException") (by decide)) (by decide) (hw _ tw_437) (hN ("java/lang/IllegalStateException", "java/lang/IllegalArgumentException") (by decide))) (by decide) (by decide) (hw _ tw_354) (hw _ tw_365) hce hv hcl ?_
      replace h := h9
      have f2 := gle_isA hle1 f2
      have leS := leS.tr hle1
      refine lv_astore (lv' := [(4, .ref q9), (0, .ref y1), (1, .int a1), (2, .int a2), (3, va_rf a3)]) hx hb d_L_pair_21 hl0 (by decide) (by simp [gCat, gCatB, gci1, gcr1, gcl1, gcd1] <;> rfl) (fun ls hl7 => ?_)
      refine lv_iconst (v := 3) hx hb d_L_pair_23 (by decide) ?_
      exact giret hx hb hr hlocks hK hG leS h (Nat.le_of_ble_eq_true rfl) (Nat.le_of_ble_eq_true rfl) d_L_pair_24
  replace h := h9
  clear h9
  have f2 := gle_isA hle1 f2
  have leS := leS.tr hle1
  refine lv_i2l hx hb d_L_pair_8 rfl ?_
  obtain ⟨y8, ey8, h⟩ := h
  subst ey8
  obtain ⟨f9, h⟩ := h
  obtain ⟨hi10, h⟩ := h
  refine glast hx hb hK hG f9 hi10 d_L_pair_9 (fun S11 H locs eS11 hle1 hG => ?_)
  replace h := h S11 eS11
  have f2 := gle_isA hle1 f2
  have f9 := gle_isA hle1 f9
  have leS := leS.tr hle1
  refine lv_goto (tgt := 25) hx hb d_L_pair_10 (by decide) ?_
  refine lv_iconst (v := 0) hx hb d_L_pair_25 (by decide) ?_
  exact giret hx hb hr hlocks hK hG leS h (Nat.le_of_ble_eq_true rfl) (Nat.le_of_ble_eq_true rfl) d_L_pair_26
def w_L_part (post : Int32 → St → Prop) (S : St) (a0 : Option Nat) (a1 : Int32) (a2 : Option Nat) : Prop :=
  ∃ y1 : Nat, a0 = some y1 ∧ isA S 6 y1 ∧ w_H_part (fun (r3 : Int32) (S4 : St) => ∃ y7 : Nat, a2 = some y7 ∧ isA S4 13 y7 ∧ vp_in 0 (sN S4 y7) ∧ ∀ S10 : St, S10 = pJ S4 y7 ((0 : Int32).toNatClampNeg) (r3.toInt64) → post 0 S10) (fun (E9 : String) (S9 : St) => (E9 = "java/lang/IndexOutOfBoundsException" ∧ post 1 S9) ∨ (E9 = "java/lang/IllegalStateException" ∧ post 2 S9)) S y1 a1
set_option maxHeartbeats 4000000 in
set_option maxRecDepth 100000 in
theorem m_L_part (l : Launch) (hlt : l.stackTraces = false) (x : Cx) (S : St) (post : Int32 → St → Prop) (a0 : Option Nat) (a1 : Int32) (a2 : Option Nat) (h : w_L_part post S a0 a1 a2) : Met l y_L_part [.codeWith y_L_part c_L_part 4 (some .int) [(0, 9, 12, 24), (0, 9, 15, 13)]] { frames := 8, cells := 2, slots := 12, locals := 135 } (va_Pc [va_rf a0, .int a1, va_rf a2] (GL x S)) (va_Qi post (gB x S) (xA x)) 2 12 (xA x) := by
  refine gMetL [(0, 9, 12, 24), (0, 9, 15, 13)] (by decide +kernel) (by simp [lg_sl, gCat, gci1, gcr1, gcl1, gcd1]) tw_681 ?_
  intro p e s m args below meth c hx hb hr hown hlocks hin hw hK hN H locs hG ls hlA hml htab
  have hown : s.vm.findClass "WaltzHallLaw" = some m.cls := hown
  have hl0 : lv_has ls 4 [(0, va_rf a0), (1, .int a1), (2, va_rf a2)] := by simpa [lv_args, gCat, gci1, gcr1, gcl1, gcd1] using hlA
  have leS : gle S S := gle.rf
  unfold w_L_part at h
  refine gaload_n hx hb d_L_part_0 rfl (lv_at hl0 2 rfl) ?_
  refine lv_iconst (v := 0) hx hb d_L_part_1 (by decide) ?_
  refine gaload_n hx hb d_L_part_2 rfl (lv_at hl0 0 rfl) ?_
  refine lv_iload_n hx hb d_L_part_3 rfl (lv_at hl0 1 rfl) ?_
  obtain ⟨y1, ey1, h⟩ := h
  subst ey1
  obtain ⟨f2, h⟩ := h
  -- call H_part
  refine gcatch hG (vx_runV (As := [.int a1]) (rest := [.int 0, va_rf a2]) ⟨hx, hb, hml, hown, hw⟩ (m_H_part l hlt x S _ _ y1 a1 f2 h) ⟨gcb hw tw_685 tw_28 tw_682 hd_H_part rfl rfl ⟨(Nat.le_of_ble_eq_true rfl), (Nat.le_of_ble_eq_true rfl)⟩, hw _ tw_683, hw _ tw_684⟩ (gpV hK hG kd_H f2 rfl) rfl rfl hl0.1 rfl (lv_room (by simp [gCat, gci1, gcr1, gcl1, gcd1])) d_L_part_4 ⟨(Nat.le_of_ble_eq_true rfl), (Nat.le_of_ble_eq_true rfl)⟩) (fun E9 S9 H locs q9 ce9 h9 hle1 hG hce hv hcl => ?_) (fun r3 S4 H locs h9 hle1 hG => ?_)
  · clear h
    rcases h9 with ⟨e9, h9⟩ | ⟨e9, h9⟩
    · subst e9
      refine vx_catch (own := "WaltzHallLaw") (name := "java/lang/IndexOutOfBoundsException") hown [] ⟨0, 9, 12, 24⟩ [⟨0, 9, 15, 13⟩] (by rw [htab]; rfl) (fun z hz => absurd hz List.not_mem_nil) (by decide) (by decide) (hw _ tw_461) (hw _ tw_472) hce hv hcl ?_
      replace h := h9
      have f2 := gle_isA hle1 f2
      have leS := leS.tr hle1
      refine lv_astore_n (i := 3) (lv' := [(3, .ref q9), (0, .ref y1), (1, .int a1), (2, va_rf a2)]) hx hb d_L_part_12 rfl hl0 (by decide) (by simp [gCat, gCatB, gci1, gcr1, gcl1, gcd1] <;> rfl) (fun ls hl5 => ?_)
      refine lv_iconst (v := 1) hx hb d_L_part_13 (by decide) ?_
      exact giret hx hb hr hlocks hK hG leS h (Nat.le_of_ble_eq_true rfl) (Nat.le_of_ble_eq_true rfl) d_L_part_14
    · subst e9
      refine vx_catch (own := "WaltzHallLaw") (name := "java/lang/IllegalStateException") hown [⟨0, 9, 12, 24⟩] ⟨0, 9, 15, 13⟩ [] (by rw [htab]; rfl) (gpass1 (by decide) (hw _ tw_461) (hN ("java/lang/IllegalStateException", "java/lang/IndexOutOfBoundsException") (by decide))) (by decide) (by decide) (hw _ tw_354) (hw _ tw_365) hce hv hcl ?_
      replace h := h9
      have f2 := gle_isA hle1 f2
      have leS := leS.tr hle1
      refine lv_astore_n (i := 3) (lv' := [(3, .ref q9), (0, .ref y1), (1, .int a1), (2, va_rf a2)]) hx hb d_L_part_15 rfl hl0 (by decide) (by simp [gCat, gCatB, gci1, gcr1, gcl1, gcd1] <;> rfl) (fun ls hl6 => ?_)
      refine lv_iconst (v := 2) hx hb d_L_part_16 (by decide) ?_
      exact giret hx hb hr hlocks hK hG leS h (Nat.le_of_ble_eq_true rfl) (Nat.le_of_ble_eq_true rfl) d_L_part_17
  replace h := h9
  clear h9
  have f2 := gle_isA hle1 f2
  have leS := leS.tr hle1
  refine lv_i2l hx hb d_L_part_7 rfl ?_
  obtain ⟨y7, ey7, h⟩ := h
  subst ey7
  obtain ⟨f8, h⟩ := h
  obtain ⟨hi9, h⟩ := h
  refine glast hx hb hK hG f8 hi9 d_L_part_8 (fun S10 H locs eS10 hle1 hG => ?_)
  replace h := h S10 eS10
  have f2 := gle_isA hle1 f2
  have f8 := gle_isA hle1 f8
  have leS := leS.tr hle1
  refine lv_goto (tgt := 18) hx hb d_L_part_9 (by decide) ?_
  refine lv_iconst (v := 0) hx hb d_L_part_18 (by decide) ?_
  exact giret hx hb hr hlocks hK hG leS h (Nat.le_of_ble_eq_true rfl) (Nat.le_of_ble_eq_true rfl) d_L_part_19
def w_L_wind (post : Int32 → St → Prop) (S : St) (a0 : Option Nat) (a1 : Int32) (a2 : Int32) (a3 : Option Nat) : Prop :=
  ∃ y1 : Nat, a0 = some y1 ∧ isA S 6 y1 ∧ w_H_wind (fun (r3 : Int32) (S4 : St) => ∃ y7 : Nat, a3 = some y7 ∧ isA S4 13 y7 ∧ vp_in 0 (sN S4 y7) ∧ ∀ S10 : St, S10 = pJ S4 y7 ((0 : Int32).toNatClampNeg) (r3.toInt64) → post 0 S10) (fun (E9 : String) (S9 : St) => (E9 = "java/lang/IndexOutOfBoundsException" ∧ post 1 S9) ∨ (E9 = "java/lang/IllegalArgumentException" ∧ post 2 S9)) S y1 a1 a2
set_option maxHeartbeats 4000000 in
set_option maxRecDepth 100000 in
theorem m_L_wind (l : Launch) (hlt : l.stackTraces = false) (x : Cx) (S : St) (post : Int32 → St → Prop) (a0 : Option Nat) (a1 : Int32) (a2 : Int32) (a3 : Option Nat) (h : w_L_wind post S a0 a1 a2 a3) : Met l y_L_wind [.codeWith y_L_wind c_L_wind 5 (some .int) [(0, 10, 13, 24), (0, 10, 17, 19)]] { frames := 8, cells := 2, slots := 12, locals := 135 } (va_Pc [va_rf a0, .int a1, .int a2, va_rf a3] (GL x S)) (va_Qi post (gB x S) (xA x)) 2 12 (xA x) := by
  refine gMetL [(0, 10, 13, 24), (0, 10, 17, 19)] (by decide +kernel) (by simp [lg_sl, gCat, gci1, gcr1, gcl1, gcd1]) tw_693 ?_
  intro p e s m args below meth c hx hb hr hown hlocks hin hw hK hN H locs hG ls hlA hml htab
  have hown : s.vm.findClass "WaltzHallLaw" = some m.cls := hown
  have hl0 : lv_has ls 5 [(0, va_rf a0), (1, .int a1), (2, .int a2), (3, va_rf a3)] := by simpa [lv_args, gCat, gci1, gcr1, gcl1, gcd1] using hlA
  have leS : gle S S := gle.rf
  unfold w_L_wind at h
  refine gaload_n hx hb d_L_wind_0 rfl (lv_at hl0 3 rfl) ?_
  refine lv_iconst (v := 0) hx hb d_L_wind_1 (by decide) ?_
  refine gaload_n hx hb d_L_wind_2 rfl (lv_at hl0 0 rfl) ?_
  refine lv_iload_n hx hb d_L_wind_3 rfl (lv_at hl0 1 rfl) ?_
  refine lv_iload_n hx hb d_L_wind_4 rfl (lv_at hl0 2 rfl) ?_
  obtain ⟨y1, ey1, h⟩ := h
  subst ey1
  obtain ⟨f2, h⟩ := h
  -- call H_wind
  refine gcatch hG (vx_runV (As := [.int a1, .int a2]) (rest := [.int 0, va_rf a3]) ⟨hx, hb, hml, hown, hw⟩ (m_H_wind l hlt x S _ _ y1 a1 a2 f2 h) ⟨gcb hw tw_697 tw_28 tw_694 hd_H_wind rfl rfl ⟨(Nat.le_of_ble_eq_true rfl), (Nat.le_of_ble_eq_true rfl)⟩, hw _ tw_695, hw _ tw_696⟩ (gpV hK hG kd_H f2 rfl) rfl rfl hl0.1 rfl (lv_room (by simp [gCat, gci1, gcr1, gcl1, gcd1])) d_L_wind_5 ⟨(Nat.le_of_ble_eq_true rfl), (Nat.le_of_ble_eq_true rfl)⟩) (fun E9 S9 H locs q9 ce9 h9 hle1 hG hce hv hcl => ?_) (fun r3 S4 H locs h9 hle1 hG => ?_)
  · clear h
    rcases h9 with ⟨e9, h9⟩ | ⟨e9, h9⟩
    · subst e9
      refine vx_catch (own := "WaltzHallLaw") (name := "java/lang/IndexOutOfBoundsException") hown [] ⟨0, 10, 13, 24⟩ [⟨0, 10, 17, 19⟩] (by rw [htab]; rfl) (fun z hz => absurd hz List.not_mem_nil) (by decide) (by decide) (hw _ tw_461) (hw _ tw_472) hce hv hcl ?_
      replace h := h9
      have f2 := gle_isA hle1 f2
      have leS := leS.tr hle1
      refine lv_astore (lv' := [(4, .ref q9), (0, .ref y1), (1, .int a1), (2, .int a2), (3, va_rf a3)]) hx hb d_L_wind_13 hl0 (by decide) (by simp [gCat, gCatB, gci1, gcr1, gcl1, gcd1] <;> rfl) (fun ls hl5 => ?_)
      refine lv_iconst (v := 1) hx hb d_L_wind_15 (by decide) ?_
      exact giret hx hb hr hlocks hK hG leS h (Nat.le_of_ble_eq_true rfl) (Nat.le_of_ble_eq_true rfl) d_L_wind_16
    · subst e9
      refine vx_catch (own := "WaltzHallLaw") (name := "java/lang/IllegalArgumentException") hown [⟨0, 10, 13, 24⟩] ⟨0, 10, 17, 19⟩ [] (by rw [htab]; rfl) (gpass1 (by decide) (hw _ tw_461) (hN ("java/lang/IllegalArgumentException", "java/lang/IndexOutOfBoundsException") (by decide))) (by decide) (by decide) (hw _ tw_437) (hw _ tw_444) hce hv hcl ?_
      replace h := h9
      have f2 := gle_isA hle1 f2
      have leS := leS.tr hle1
      refine lv_astore (lv' := [(4, .ref q9), (0, .ref y1), (1, .int a1), (2, .int a2), (3, va_rf a3)]) hx hb d_L_wind_17 hl0 (by decide) (by simp [gCat, gCatB, gci1, gcr1, gcl1, gcd1] <;> rfl) (fun ls hl6 => ?_)
      refine lv_iconst (v := 2) hx hb d_L_wind_19 (by decide) ?_
      exact giret hx hb hr hlocks hK hG leS h (Nat.le_of_ble_eq_true rfl) (Nat.le_of_ble_eq_true rfl) d_L_wind_20
  replace h := h9
  clear h9
  have f2 := gle_isA hle1 f2
  have leS := leS.tr hle1
  refine lv_i2l hx hb d_L_wind_8 rfl ?_
  obtain ⟨y7, ey7, h⟩ := h
  subst ey7
  obtain ⟨f8, h⟩ := h
  obtain ⟨hi9, h⟩ := h
  refine glast hx hb hK hG f8 hi9 d_L_wind_9 (fun S10 H locs eS10 hle1 hG => ?_)
  replace h := h S10 eS10
  have f2 := gle_isA hle1 f2
  have f8 := gle_isA hle1 f8
  have leS := leS.tr hle1
  refine lv_goto (tgt := 21) hx hb d_L_wind_10 (by decide) ?_
  refine lv_iconst (v := 0) hx hb d_L_wind_21 (by decide) ?_
  exact giret hx hb hr hlocks hK hG leS h (Nat.le_of_ble_eq_true rfl) (Nat.le_of_ble_eq_true rfl) d_L_wind_22
def w_L_dancer (post : Int32 → St → Prop) (S : St) (a0 : Option Nat) (a1 : Int32) (a2 : Int32) (a3 : Option Nat) : Prop :=
  ∃ y1 : Nat, a0 = some y1 ∧ isA S 6 y1 ∧ w_H_dancer (fun (r3 : Int32) => ∃ y5 : Nat, a3 = some y5 ∧ isA S 13 y5 ∧ vp_in 0 (sN S y5) ∧ ∀ S8 : St, S8 = pJ S y5 ((0 : Int32).toNatClampNeg) (r3.toInt64) → post 0 S8) (fun (E9 : String) => (E9 = "java/lang/IndexOutOfBoundsException" ∧ post 1 S)) S y1 a1 a2
set_option maxHeartbeats 4000000 in
set_option maxRecDepth 100000 in
theorem m_L_dancer (l : Launch) (hlt : l.stackTraces = false) (x : Cx) (S : St) (post : Int32 → St → Prop) (a0 : Option Nat) (a1 : Int32) (a2 : Int32) (a3 : Option Nat) (h : w_L_dancer post S a0 a1 a2 a3) : Met l y_L_dancer [.codeWith y_L_dancer c_L_dancer 5 (some .int) [(0, 10, 13, 24)]] { frames := 8, cells := 2, slots := 12, locals := 135 } (va_Pc [va_rf a0, .int a1, .int a2, va_rf a3] (GL x S)) (va_Qi post (gB x S) (xA x)) 2 12 (xA x) := by
  refine gMetL [(0, 10, 13, 24)] (by decide +kernel) (by simp [lg_sl, gCat, gci1, gcr1, gcl1, gcd1]) tw_707 ?_
  intro p e s m args below meth c hx hb hr hown hlocks hin hw hK hN H locs hG ls hlA hml htab
  have hown : s.vm.findClass "WaltzHallLaw" = some m.cls := hown
  have hl0 : lv_has ls 5 [(0, va_rf a0), (1, .int a1), (2, .int a2), (3, va_rf a3)] := by simpa [lv_args, gCat, gci1, gcr1, gcl1, gcd1] using hlA
  have leS : gle S S := gle.rf
  unfold w_L_dancer at h
  refine gaload_n hx hb d_L_dancer_0 rfl (lv_at hl0 3 rfl) ?_
  refine lv_iconst (v := 0) hx hb d_L_dancer_1 (by decide) ?_
  refine gaload_n hx hb d_L_dancer_2 rfl (lv_at hl0 0 rfl) ?_
  refine lv_iload_n hx hb d_L_dancer_3 rfl (lv_at hl0 1 rfl) ?_
  refine lv_iload_n hx hb d_L_dancer_4 rfl (lv_at hl0 2 rfl) ?_
  obtain ⟨y1, ey1, h⟩ := h
  subst ey1
  obtain ⟨f2, h⟩ := h
  -- call H_dancer
  refine gcatchp hG (vx_runV (As := [.int a1, .int a2]) (rest := [.int 0, va_rf a3]) ⟨hx, hb, hml, hown, hw⟩ (m_H_dancer l hlt x S _ _ y1 a1 a2 f2 h) ⟨gcb hw tw_711 tw_28 tw_708 hd_H_dancer rfl rfl ⟨(Nat.le_of_ble_eq_true rfl), (Nat.le_of_ble_eq_true rfl)⟩, hw _ tw_709, hw _ tw_710⟩ (gpV hK hG kd_H f2 rfl) rfl rfl hl0.1 rfl (lv_room (by simp [gCat, gci1, gcr1, gcl1, gcd1])) d_L_dancer_5 ⟨(Nat.le_of_ble_eq_true rfl), (Nat.le_of_ble_eq_true rfl)⟩) (fun E9 H locs q9 ce9 h9 hG hce hv hcl => ?_) (fun r3 H locs h9 hG => ?_)
  · clear h
    rcases h9 with ⟨e9, h9⟩
    · subst e9
      refine vx_catch (own := "WaltzHallLaw") (name := "java/lang/IndexOutOfBoundsException") hown [] ⟨0, 10, 13, 24⟩ [] (by rw [htab]; rfl) (fun z hz => absurd hz List.not_mem_nil) (by decide) (by decide) (hw _ tw_461) (hw _ tw_472) hce hv hcl ?_
      replace h := h9
      refine lv_astore (lv' := [(4, .ref q9), (0, .ref y1), (1, .int a1), (2, .int a2), (3, va_rf a3)]) hx hb d_L_dancer_13 hl0 (by decide) (by simp [gCat, gCatB, gci1, gcr1, gcl1, gcd1] <;> rfl) (fun ls hl4 => ?_)
      refine lv_iconst (v := 1) hx hb d_L_dancer_15 (by decide) ?_
      exact giret hx hb hr hlocks hK hG leS h (Nat.le_of_ble_eq_true rfl) (Nat.le_of_ble_eq_true rfl) d_L_dancer_16
  replace h := h9
  clear h9
  refine lv_i2l hx hb d_L_dancer_8 rfl ?_
  obtain ⟨y5, ey5, h⟩ := h
  subst ey5
  obtain ⟨f6, h⟩ := h
  obtain ⟨hi7, h⟩ := h
  refine glast hx hb hK hG f6 hi7 d_L_dancer_9 (fun S8 H locs eS8 hle1 hG => ?_)
  replace h := h S8 eS8
  have f2 := gle_isA hle1 f2
  have f6 := gle_isA hle1 f6
  have leS := leS.tr hle1
  refine lv_goto (tgt := 17) hx hb d_L_dancer_10 (by decide) ?_
  refine lv_iconst (v := 0) hx hb d_L_dancer_17 (by decide) ?_
  exact giret hx hb hr hlocks hK hG leS h (Nat.le_of_ble_eq_true rfl) (Nat.le_of_ble_eq_true rfl) d_L_dancer_18
def w_L_at (post : Int32 → St → Prop) (S : St) (a0 : Option Nat) (a1 : Int32) (a2 : Int32) (a3 : Option Nat) : Prop :=
  ∃ y1 : Nat, a0 = some y1 ∧ isA S 6 y1 ∧ w_H_at (fun (r3 : Int32) => ∃ y5 : Nat, a3 = some y5 ∧ isA S 13 y5 ∧ vp_in 0 (sN S y5) ∧ ∀ S8 : St, S8 = pJ S y5 ((0 : Int32).toNatClampNeg) (r3.toInt64) → post 0 S8) (fun (E9 : String) => (E9 = "java/lang/IndexOutOfBoundsException" ∧ post 1 S)) S y1 a1 a2
set_option maxHeartbeats 4000000 in
set_option maxRecDepth 100000 in
theorem m_L_at (l : Launch) (hlt : l.stackTraces = false) (x : Cx) (S : St) (post : Int32 → St → Prop) (a0 : Option Nat) (a1 : Int32) (a2 : Int32) (a3 : Option Nat) (h : w_L_at post S a0 a1 a2 a3) : Met l y_L_at [.codeWith y_L_at c_L_at 5 (some .int) [(0, 10, 13, 24)]] { frames := 7, cells := 1, slots := 6, locals := 113 } (va_Pc [va_rf a0, .int a1, .int a2, va_rf a3] (GL x S)) (va_Qi post (gB x S) (xA x)) 1 6 (xA x) := by
  refine gMetL [(0, 10, 13, 24)] (by decide +kernel) (by simp [lg_sl, gCat, gci1, gcr1, gcl1, gcd1]) tw_714 ?_
  intro p e s m args below meth c hx hb hr hown hlocks hin hw hK hN H locs hG ls hlA hml htab
  have hown : s.vm.findClass "WaltzHallLaw" = some m.cls := hown
  have hl0 : lv_has ls 5 [(0, va_rf a0), (1, .int a1), (2, .int a2), (3, va_rf a3)] := by simpa [lv_args, gCat, gci1, gcr1, gcl1, gcd1] using hlA
  have leS : gle S S := gle.rf
  unfold w_L_at at h
  refine gaload_n hx hb d_L_at_0 rfl (lv_at hl0 3 rfl) ?_
  refine lv_iconst (v := 0) hx hb d_L_at_1 (by decide) ?_
  refine gaload_n hx hb d_L_at_2 rfl (lv_at hl0 0 rfl) ?_
  refine lv_iload_n hx hb d_L_at_3 rfl (lv_at hl0 1 rfl) ?_
  refine lv_iload_n hx hb d_L_at_4 rfl (lv_at hl0 2 rfl) ?_
  obtain ⟨y1, ey1, h⟩ := h
  subst ey1
  obtain ⟨f2, h⟩ := h
  -- call H_at
  refine gcatchp hG (vx_runV (As := [.int a1, .int a2]) (rest := [.int 0, va_rf a3]) ⟨hx, hb, hml, hown, hw⟩ (m_H_at l hlt x S _ _ y1 a1 a2 f2 h) ⟨gcb hw tw_718 tw_28 tw_715 hd_H_at rfl rfl ⟨(Nat.le_of_ble_eq_true rfl), (Nat.le_of_ble_eq_true rfl)⟩, hw _ tw_716, hw _ tw_717⟩ (gpV hK hG kd_H f2 rfl) rfl rfl hl0.1 rfl (lv_room (by simp [gCat, gci1, gcr1, gcl1, gcd1])) d_L_at_5 ⟨(Nat.le_of_ble_eq_true rfl), (Nat.le_of_ble_eq_true rfl)⟩) (fun E9 H locs q9 ce9 h9 hG hce hv hcl => ?_) (fun r3 H locs h9 hG => ?_)
  · clear h
    rcases h9 with ⟨e9, h9⟩
    · subst e9
      refine vx_catch (own := "WaltzHallLaw") (name := "java/lang/IndexOutOfBoundsException") hown [] ⟨0, 10, 13, 24⟩ [] (by rw [htab]; rfl) (fun z hz => absurd hz List.not_mem_nil) (by decide) (by decide) (hw _ tw_461) (hw _ tw_472) hce hv hcl ?_
      replace h := h9
      refine lv_astore (lv' := [(4, .ref q9), (0, .ref y1), (1, .int a1), (2, .int a2), (3, va_rf a3)]) hx hb d_L_at_13 hl0 (by decide) (by simp [gCat, gCatB, gci1, gcr1, gcl1, gcd1] <;> rfl) (fun ls hl4 => ?_)
      refine lv_iconst (v := 1) hx hb d_L_at_15 (by decide) ?_
      exact giret hx hb hr hlocks hK hG leS h (Nat.le_of_ble_eq_true rfl) (Nat.le_of_ble_eq_true rfl) d_L_at_16
  replace h := h9
  clear h9
  refine lv_i2l hx hb d_L_at_8 rfl ?_
  obtain ⟨y5, ey5, h⟩ := h
  subst ey5
  obtain ⟨f6, h⟩ := h
  obtain ⟨hi7, h⟩ := h
  refine glast hx hb hK hG f6 hi7 d_L_at_9 (fun S8 H locs eS8 hle1 hG => ?_)
  replace h := h S8 eS8
  have f2 := gle_isA hle1 f2
  have f6 := gle_isA hle1 f6
  have leS := leS.tr hle1
  refine lv_goto (tgt := 17) hx hb d_L_at_10 (by decide) ?_
  refine lv_iconst (v := 0) hx hb d_L_at_17 (by decide) ?_
  exact giret hx hb hr hlocks hK hG leS h (Nat.le_of_ble_eq_true rfl) (Nat.le_of_ble_eq_true rfl) d_L_at_18
def w_L_addWinder (post : Int32 → St → Prop) (S : St) (a0 : Option Nat) (a1 : Int32) (a2 : Int32) (a3 : Int32) (a4 : Option Nat) : Prop :=
  ∃ y1 : Nat, a0 = some y1 ∧ isA S 6 y1 ∧ w_H_addWinder (fun (r3 : Int32) (S4 : St) => ∃ y7 : Nat, a4 = some y7 ∧ isA S4 13 y7 ∧ vp_in 0 (sN S4 y7) ∧ ∀ S10 : St, S10 = pJ S4 y7 ((0 : Int32).toNatClampNeg) (r3.toInt64) → post 0 S10) (fun (E9 : String) (S9 : St) => (E9 = "java/lang/IllegalArgumentException" ∧ post 1 S9) ∨ (E9 = "java/lang/IllegalStateException" ∧ post 2 S9)) S y1 a1 a2 a3
set_option maxHeartbeats 4000000 in
set_option maxRecDepth 100000 in
theorem m_L_addWinder (l : Launch) (hlt : l.stackTraces = false) (x : Cx) (S : St) (post : Int32 → St → Prop) (a0 : Option Nat) (a1 : Int32) (a2 : Int32) (a3 : Int32) (a4 : Option Nat) (h : w_L_addWinder post S a0 a1 a2 a3 a4) : Met l y_L_addWinder [.codeWith y_L_addWinder c_L_addWinder 6 (some .int) [(0, 12, 15, 19), (0, 12, 19, 13)]] { frames := 7, cells := 3, slots := 25, locals := 133 } (va_Pc [va_rf a0, .int a1, .int a2, .int a3, va_rf a4] (GL x S)) (va_Qi post (gB x S) (xA x)) 3 25 (xA x) := by
  refine gMetL [(0, 12, 15, 19), (0, 12, 19, 13)] (by decide +kernel) (by simp [lg_sl, gCat, gci1, gcr1, gcl1, gcd1]) tw_722 ?_
  intro p e s m args below meth c hx hb hr hown hlocks hin hw hK hN H locs hG ls hlA hml htab
  have hown : s.vm.findClass "WaltzHallLaw" = some m.cls := hown
  have hl0 : lv_has ls 6 [(0, va_rf a0), (1, .int a1), (2, .int a2), (3, .int a3), (4, va_rf a4)] := by simpa [lv_args, gCat, gci1, gcr1, gcl1, gcd1] using hlA
  have leS : gle S S := gle.rf
  unfold w_L_addWinder at h
  refine gaload hx hb d_L_addWinder_0 (lv_at hl0 4 rfl) ?_
  refine lv_iconst (v := 0) hx hb d_L_addWinder_2 (by decide) ?_
  refine gaload_n hx hb d_L_addWinder_3 rfl (lv_at hl0 0 rfl) ?_
  refine lv_iload_n hx hb d_L_addWinder_4 rfl (lv_at hl0 1 rfl) ?_
  refine lv_iload_n hx hb d_L_addWinder_5 rfl (lv_at hl0 2 rfl) ?_
  refine lv_iload_n hx hb d_L_addWinder_6 rfl (lv_at hl0 3 rfl) ?_
  obtain ⟨y1, ey1, h⟩ := h
  subst ey1
  obtain ⟨f2, h⟩ := h
  -- call H_addWinder
  refine gcatch hG (vx_runV (As := [.int a1, .int a2, .int a3]) (rest := [.int 0, va_rf a4]) ⟨hx, hb, hml, hown, hw⟩ (m_H_addWinder l hlt x S _ _ y1 a1 a2 a3 f2 h) ⟨gcb hw tw_726 tw_28 tw_723 hd_H_addWinder rfl rfl ⟨(Nat.le_of_ble_eq_true rfl), (Nat.le_of_ble_eq_true rfl)⟩, hw _ tw_724, hw _ tw_725⟩ (gpV hK hG kd_H f2 rfl) rfl rfl hl0.1 rfl (lv_room (by simp [gCat, gci1, gcr1, gcl1, gcd1])) d_L_addWinder_7 ⟨(Nat.le_of_ble_eq_true rfl), (Nat.le_of_ble_eq_true rfl)⟩) (fun E9 S9 H locs q9 ce9 h9 hle1 hG hce hv hcl => ?_) (fun r3 S4 H locs h9 hle1 hG => ?_)
  · clear h
    rcases h9 with ⟨e9, h9⟩ | ⟨e9, h9⟩
    · subst e9
      refine vx_catch (own := "WaltzHallLaw") (name := "java/lang/IllegalArgumentException") hown [] ⟨0, 12, 15, 19⟩ [⟨0, 12, 19, 13⟩] (by rw [htab]; rfl) (fun z hz => absurd hz List.not_mem_nil) (by decide) (by decide) (hw _ tw_437) (hw _ tw_444) hce hv hcl ?_
      replace h := h9
      have f2 := gle_isA hle1 f2
      have leS := leS.tr hle1
      refine lv_astore (lv' := [(5, .ref q9), (0, .ref y1), (1, .int a1), (2, .int a2), (3, .int a3), (4, va_rf a4)]) hx hb d_L_addWinder_15 hl0 (by decide) (by simp [gCat, gCatB, gci1, gcr1, gcl1, gcd1] <;> rfl) (fun ls hl5 => ?_)
      refine lv_iconst (v := 1) hx hb d_L_addWinder_17 (by decide) ?_
      exact giret hx hb hr hlocks hK hG leS h (Nat.le_of_ble_eq_true rfl) (Nat.le_of_ble_eq_true rfl) d_L_addWinder_18
    · subst e9
      refine vx_catch (own := "WaltzHallLaw") (name := "java/lang/IllegalStateException") hown [⟨0, 12, 15, 19⟩] ⟨0, 12, 19, 13⟩ [] (by rw [htab]; rfl) (gpass1 (by decide) (hw _ tw_437) (hN ("java/lang/IllegalStateException", "java/lang/IllegalArgumentException") (by decide))) (by decide) (by decide) (hw _ tw_354) (hw _ tw_365) hce hv hcl ?_
      replace h := h9
      have f2 := gle_isA hle1 f2
      have leS := leS.tr hle1
      refine lv_astore (lv' := [(5, .ref q9), (0, .ref y1), (1, .int a1), (2, .int a2), (3, .int a3), (4, va_rf a4)]) hx hb d_L_addWinder_19 hl0 (by decide) (by simp [gCat, gCatB, gci1, gcr1, gcl1, gcd1] <;> rfl) (fun ls hl6 => ?_)
      refine lv_iconst (v := 2) hx hb d_L_addWinder_21 (by decide) ?_
      exact giret hx hb hr hlocks hK hG leS h (Nat.le_of_ble_eq_true rfl) (Nat.le_of_ble_eq_true rfl) d_L_addWinder_22
  replace h := h9
  clear h9
  have f2 := gle_isA hle1 f2
  have leS := leS.tr hle1
  refine lv_i2l hx hb d_L_addWinder_10 rfl ?_
  obtain ⟨y7, ey7, h⟩ := h
  subst ey7
  obtain ⟨f8, h⟩ := h
  obtain ⟨hi9, h⟩ := h
  refine glast hx hb hK hG f8 hi9 d_L_addWinder_11 (fun S10 H locs eS10 hle1 hG => ?_)
  replace h := h S10 eS10
  have f2 := gle_isA hle1 f2
  have f8 := gle_isA hle1 f8
  have leS := leS.tr hle1
  refine lv_goto (tgt := 23) hx hb d_L_addWinder_12 (by decide) ?_
  refine lv_iconst (v := 0) hx hb d_L_addWinder_23 (by decide) ?_
  exact giret hx hb hr hlocks hK hG leS h (Nat.le_of_ble_eq_true rfl) (Nat.le_of_ble_eq_true rfl) d_L_addWinder_24
def w_L_call (post : Int32 → St → Prop) (S : St) (a0 : Option Nat) (a1 : Int32) (a2 : Int32) (a3 : Option Nat) : Prop :=
  ∃ y1 : Nat, a0 = some y1 ∧ isA S 6 y1 ∧ w_H_call (fun (r3 : Int32) (S4 : St) => ∃ y7 : Nat, a3 = some y7 ∧ isA S4 13 y7 ∧ vp_in 0 (sN S4 y7) ∧ ∀ S10 : St, S10 = pJ S4 y7 ((0 : Int32).toNatClampNeg) (r3.toInt64) → post 0 S10) (fun (E9 : String) (S9 : St) => (E9 = "java/lang/IndexOutOfBoundsException" ∧ post 1 S9) ∨ (E9 = "java/lang/IllegalStateException" ∧ post 2 S9)) S y1 a1 a2
set_option maxHeartbeats 4000000 in
set_option maxRecDepth 100000 in
theorem m_L_call (l : Launch) (hlt : l.stackTraces = false) (x : Cx) (S : St) (post : Int32 → St → Prop) (a0 : Option Nat) (a1 : Int32) (a2 : Int32) (a3 : Option Nat) (h : w_L_call post S a0 a1 a2 a3) : Met l y_L_call [.codeWith y_L_call c_L_call 5 (some .int) [(0, 10, 13, 24), (0, 10, 17, 13)]] { frames := 8, cells := 3, slots := 18, locals := 136 } (va_Pc [va_rf a0, .int a1, .int a2, va_rf a3] (GL x S)) (va_Qi post (gB x S) (xA x)) 3 18 (xA x) := by
  refine gMetL [(0, 10, 13, 24), (0, 10, 17, 13)] (by decide +kernel) (by simp [lg_sl, gCat, gci1, gcr1, gcl1, gcd1]) tw_763 ?_
  intro p e s m args below meth c hx hb hr hown hlocks hin hw hK hN H locs hG ls hlA hml htab
  have hown : s.vm.findClass "WaltzHallLaw" = some m.cls := hown
  have hl0 : lv_has ls 5 [(0, va_rf a0), (1, .int a1), (2, .int a2), (3, va_rf a3)] := by simpa [lv_args, gCat, gci1, gcr1, gcl1, gcd1] using hlA
  have leS : gle S S := gle.rf
  unfold w_L_call at h
  refine gaload_n hx hb d_L_call_0 rfl (lv_at hl0 3 rfl) ?_
  refine lv_iconst (v := 0) hx hb d_L_call_1 (by decide) ?_
  refine gaload_n hx hb d_L_call_2 rfl (lv_at hl0 0 rfl) ?_
  refine lv_iload_n hx hb d_L_call_3 rfl (lv_at hl0 1 rfl) ?_
  refine lv_iload_n hx hb d_L_call_4 rfl (lv_at hl0 2 rfl) ?_
  obtain ⟨y1, ey1, h⟩ := h
  subst ey1
  obtain ⟨f2, h⟩ := h
  -- call H_call
  refine gcatch hG (vx_runV (As := [.int a1, .int a2]) (rest := [.int 0, va_rf a3]) ⟨hx, hb, hml, hown, hw⟩ (m_H_call l hlt x S _ _ y1 a1 a2 f2 h) ⟨gcb hw tw_767 tw_28 tw_764 hd_H_call rfl rfl ⟨(Nat.le_of_ble_eq_true rfl), (Nat.le_of_ble_eq_true rfl)⟩, hw _ tw_765, hw _ tw_766⟩ (gpV hK hG kd_H f2 rfl) rfl rfl hl0.1 rfl (lv_room (by simp [gCat, gci1, gcr1, gcl1, gcd1])) d_L_call_5 ⟨(Nat.le_of_ble_eq_true rfl), (Nat.le_of_ble_eq_true rfl)⟩) (fun E9 S9 H locs q9 ce9 h9 hle1 hG hce hv hcl => ?_) (fun r3 S4 H locs h9 hle1 hG => ?_)
  · clear h
    rcases h9 with ⟨e9, h9⟩ | ⟨e9, h9⟩
    · subst e9
      refine vx_catch (own := "WaltzHallLaw") (name := "java/lang/IndexOutOfBoundsException") hown [] ⟨0, 10, 13, 24⟩ [⟨0, 10, 17, 13⟩] (by rw [htab]; rfl) (fun z hz => absurd hz List.not_mem_nil) (by decide) (by decide) (hw _ tw_461) (hw _ tw_472) hce hv hcl ?_
      replace h := h9
      have f2 := gle_isA hle1 f2
      have leS := leS.tr hle1
      refine lv_astore (lv' := [(4, .ref q9), (0, .ref y1), (1, .int a1), (2, .int a2), (3, va_rf a3)]) hx hb d_L_call_13 hl0 (by decide) (by simp [gCat, gCatB, gci1, gcr1, gcl1, gcd1] <;> rfl) (fun ls hl5 => ?_)
      refine lv_iconst (v := 1) hx hb d_L_call_15 (by decide) ?_
      exact giret hx hb hr hlocks hK hG leS h (Nat.le_of_ble_eq_true rfl) (Nat.le_of_ble_eq_true rfl) d_L_call_16
    · subst e9
      refine vx_catch (own := "WaltzHallLaw") (name := "java/lang/IllegalStateException") hown [⟨0, 10, 13, 24⟩] ⟨0, 10, 17, 13⟩ [] (by rw [htab]; rfl) (gpass1 (by decide) (hw _ tw_461) (hN ("java/lang/IllegalStateException", "java/lang/IndexOutOfBoundsException") (by decide))) (by decide) (by decide) (hw _ tw_354) (hw _ tw_365) hce hv hcl ?_
      replace h := h9
      have f2 := gle_isA hle1 f2
      have leS := leS.tr hle1
      refine lv_astore (lv' := [(4, .ref q9), (0, .ref y1), (1, .int a1), (2, .int a2), (3, va_rf a3)]) hx hb d_L_call_17 hl0 (by decide) (by simp [gCat, gCatB, gci1, gcr1, gcl1, gcd1] <;> rfl) (fun ls hl6 => ?_)
      refine lv_iconst (v := 2) hx hb d_L_call_19 (by decide) ?_
      exact giret hx hb hr hlocks hK hG leS h (Nat.le_of_ble_eq_true rfl) (Nat.le_of_ble_eq_true rfl) d_L_call_20
  replace h := h9
  clear h9
  have f2 := gle_isA hle1 f2
  have leS := leS.tr hle1
  refine lv_i2l hx hb d_L_call_8 rfl ?_
  obtain ⟨y7, ey7, h⟩ := h
  subst ey7
  obtain ⟨f8, h⟩ := h
  obtain ⟨hi9, h⟩ := h
  refine glast hx hb hK hG f8 hi9 d_L_call_9 (fun S10 H locs eS10 hle1 hG => ?_)
  replace h := h S10 eS10
  have f2 := gle_isA hle1 f2
  have f8 := gle_isA hle1 f8
  have leS := leS.tr hle1
  refine lv_goto (tgt := 21) hx hb d_L_call_10 (by decide) ?_
  refine lv_iconst (v := 0) hx hb d_L_call_21 (by decide) ?_
  exact giret hx hb hr hlocks hK hG leS h (Nat.le_of_ble_eq_true rfl) (Nat.le_of_ble_eq_true rfl) d_L_call_22
def w_L_winder (post : Int32 → St → Prop) (S : St) (a0 : Option Nat) (a1 : Int32) (a2 : Int32) (a3 : Option Nat) : Prop :=
  ∃ y1 : Nat, a0 = some y1 ∧ isA S 6 y1 ∧ w_H_winder (fun (r3 : Int32) => ∃ y5 : Nat, a3 = some y5 ∧ isA S 13 y5 ∧ vp_in 0 (sN S y5) ∧ ∀ S8 : St, S8 = pJ S y5 ((0 : Int32).toNatClampNeg) (r3.toInt64) → post 0 S8) (fun (E9 : String) => (E9 = "java/lang/IndexOutOfBoundsException" ∧ post 1 S)) S y1 a1 a2
set_option maxHeartbeats 4000000 in
set_option maxRecDepth 100000 in
theorem m_L_winder (l : Launch) (hlt : l.stackTraces = false) (x : Cx) (S : St) (post : Int32 → St → Prop) (a0 : Option Nat) (a1 : Int32) (a2 : Int32) (a3 : Option Nat) (h : w_L_winder post S a0 a1 a2 a3) : Met l y_L_winder [.codeWith y_L_winder c_L_winder 5 (some .int) [(0, 10, 13, 24)]] { frames := 8, cells := 2, slots := 12, locals := 134 } (va_Pc [va_rf a0, .int a1, .int a2, va_rf a3] (GL x S)) (va_Qi post (gB x S) (xA x)) 2 12 (xA x) := by
  refine gMetL [(0, 10, 13, 24)] (by decide +kernel) (by simp [lg_sl, gCat, gci1, gcr1, gcl1, gcd1]) tw_780 ?_
  intro p e s m args below meth c hx hb hr hown hlocks hin hw hK hN H locs hG ls hlA hml htab
  have hown : s.vm.findClass "WaltzHallLaw" = some m.cls := hown
  have hl0 : lv_has ls 5 [(0, va_rf a0), (1, .int a1), (2, .int a2), (3, va_rf a3)] := by simpa [lv_args, gCat, gci1, gcr1, gcl1, gcd1] using hlA
  have leS : gle S S := gle.rf
  unfold w_L_winder at h
  refine gaload_n hx hb d_L_winder_0 rfl (lv_at hl0 3 rfl) ?_
  refine lv_iconst (v := 0) hx hb d_L_winder_1 (by decide) ?_
  refine gaload_n hx hb d_L_winder_2 rfl (lv_at hl0 0 rfl) ?_
  refine lv_iload_n hx hb d_L_winder_3 rfl (lv_at hl0 1 rfl) ?_
  refine lv_iload_n hx hb d_L_winder_4 rfl (lv_at hl0 2 rfl) ?_
  obtain ⟨y1, ey1, h⟩ := h
  subst ey1
  obtain ⟨f2, h⟩ := h
  -- call H_winder
  refine gcatchp hG (vx_runV (As := [.int a1, .int a2]) (rest := [.int 0, va_rf a3]) ⟨hx, hb, hml, hown, hw⟩ (m_H_winder l hlt x S _ _ y1 a1 a2 f2 h) ⟨gcb hw tw_784 tw_28 tw_781 hd_H_winder rfl rfl ⟨(Nat.le_of_ble_eq_true rfl), (Nat.le_of_ble_eq_true rfl)⟩, hw _ tw_782, hw _ tw_783⟩ (gpV hK hG kd_H f2 rfl) rfl rfl hl0.1 rfl (lv_room (by simp [gCat, gci1, gcr1, gcl1, gcd1])) d_L_winder_5 ⟨(Nat.le_of_ble_eq_true rfl), (Nat.le_of_ble_eq_true rfl)⟩) (fun E9 H locs q9 ce9 h9 hG hce hv hcl => ?_) (fun r3 H locs h9 hG => ?_)
  · clear h
    rcases h9 with ⟨e9, h9⟩
    · subst e9
      refine vx_catch (own := "WaltzHallLaw") (name := "java/lang/IndexOutOfBoundsException") hown [] ⟨0, 10, 13, 24⟩ [] (by rw [htab]; rfl) (fun z hz => absurd hz List.not_mem_nil) (by decide) (by decide) (hw _ tw_461) (hw _ tw_472) hce hv hcl ?_
      replace h := h9
      refine lv_astore (lv' := [(4, .ref q9), (0, .ref y1), (1, .int a1), (2, .int a2), (3, va_rf a3)]) hx hb d_L_winder_13 hl0 (by decide) (by simp [gCat, gCatB, gci1, gcr1, gcl1, gcd1] <;> rfl) (fun ls hl4 => ?_)
      refine lv_iconst (v := 1) hx hb d_L_winder_15 (by decide) ?_
      exact giret hx hb hr hlocks hK hG leS h (Nat.le_of_ble_eq_true rfl) (Nat.le_of_ble_eq_true rfl) d_L_winder_16
  replace h := h9
  clear h9
  refine lv_i2l hx hb d_L_winder_8 rfl ?_
  obtain ⟨y5, ey5, h⟩ := h
  subst ey5
  obtain ⟨f6, h⟩ := h
  obtain ⟨hi7, h⟩ := h
  refine glast hx hb hK hG f6 hi7 d_L_winder_9 (fun S8 H locs eS8 hle1 hG => ?_)
  replace h := h S8 eS8
  have f2 := gle_isA hle1 f2
  have f6 := gle_isA hle1 f6
  have leS := leS.tr hle1
  refine lv_goto (tgt := 17) hx hb d_L_winder_10 (by decide) ?_
  refine lv_iconst (v := 0) hx hb d_L_winder_17 (by decide) ?_
  exact giret hx hb hr hlocks hK hG leS h (Nat.le_of_ble_eq_true rfl) (Nat.le_of_ble_eq_true rfl) d_L_winder_18
def w_L_pass (post : Int32 → St → Prop) (S : St) (a0 : Option Nat) (a1 : Int32) (a2 : Option Nat) : Prop :=
  ∃ y1 : Nat, a0 = some y1 ∧ isA S 6 y1 ∧ w_H_pass (fun (r3 : Int32) (S4 : St) => ∃ y6 : Nat, a2 = some y6 ∧ isA S4 13 y6 ∧ vp_in 0 (sN S4 y6) ∧ ∀ S9 : St, S9 = pJ S4 y6 ((0 : Int32).toNatClampNeg) (r3.toInt64) → post 0 S9) (fun (E9 : String) (S9 : St) => (E9 = "java/lang/IllegalArgumentException" ∧ post 1 S9)) S y1 a1
set_option maxHeartbeats 4000000 in
set_option maxRecDepth 100000 in
theorem m_L_pass (l : Launch) (hlt : l.stackTraces = false) (x : Cx) (S : St) (post : Int32 → St → Prop) (a0 : Option Nat) (a1 : Int32) (a2 : Option Nat) (h : w_L_pass post S a0 a1 a2) : Met l y_L_pass [.codeWith y_L_pass c_L_pass 4 (some .int) [(0, 9, 12, 19)]] { frames := 8, cells := 1, slots := 6, locals := 182 } (va_Pc [va_rf a0, .int a1, va_rf a2] (GL x S)) (va_Qi post (gB x S) (xA x)) 1 6 (xA x) := by
  refine gMetL [(0, 9, 12, 19)] (by decide +kernel) (by simp [lg_sl, gCat, gci1, gcr1, gcl1, gcd1]) tw_787 ?_
  intro p e s m args below meth c hx hb hr hown hlocks hin hw hK hN H locs hG ls hlA hml htab
  have hown : s.vm.findClass "WaltzHallLaw" = some m.cls := hown
  have hl0 : lv_has ls 4 [(0, va_rf a0), (1, .int a1), (2, va_rf a2)] := by simpa [lv_args, gCat, gci1, gcr1, gcl1, gcd1] using hlA
  have leS : gle S S := gle.rf
  unfold w_L_pass at h
  refine gaload_n hx hb d_L_pass_0 rfl (lv_at hl0 2 rfl) ?_
  refine lv_iconst (v := 0) hx hb d_L_pass_1 (by decide) ?_
  refine gaload_n hx hb d_L_pass_2 rfl (lv_at hl0 0 rfl) ?_
  refine lv_iload_n hx hb d_L_pass_3 rfl (lv_at hl0 1 rfl) ?_
  obtain ⟨y1, ey1, h⟩ := h
  subst ey1
  obtain ⟨f2, h⟩ := h
  -- call H_pass
  refine gcatch hG (vx_runV (As := [.int a1]) (rest := [.int 0, va_rf a2]) ⟨hx, hb, hml, hown, hw⟩ (m_H_pass l hlt x S _ _ y1 a1 f2 h) ⟨gcb hw tw_791 tw_28 tw_788 hd_H_pass rfl rfl ⟨(Nat.le_of_ble_eq_true rfl), (Nat.le_of_ble_eq_true rfl)⟩, hw _ tw_789, hw _ tw_790⟩ (gpV hK hG kd_H f2 rfl) rfl rfl hl0.1 rfl (lv_room (by simp [gCat, gci1, gcr1, gcl1, gcd1])) d_L_pass_4 ⟨(Nat.le_of_ble_eq_true rfl), (Nat.le_of_ble_eq_true rfl)⟩) (fun E9 S9 H locs q9 ce9 h9 hle1 hG hce hv hcl => ?_) (fun r3 S4 H locs h9 hle1 hG => ?_)
  · clear h
    rcases h9 with ⟨e9, h9⟩
    · subst e9
      refine vx_catch (own := "WaltzHallLaw") (name := "java/lang/IllegalArgumentException") hown [] ⟨0, 9, 12, 19⟩ [] (by rw [htab]; rfl) (fun z hz => absurd hz List.not_mem_nil) (by decide) (by decide) (hw _ tw_437) (hw _ tw_444) hce hv hcl ?_
      replace h := h9
      have f2 := gle_isA hle1 f2
      have leS := leS.tr hle1
      refine lv_astore_n (i := 3) (lv' := [(3, .ref q9), (0, .ref y1), (1, .int a1), (2, va_rf a2)]) hx hb d_L_pass_12 rfl hl0 (by decide) (by simp [gCat, gCatB, gci1, gcr1, gcl1, gcd1] <;> rfl) (fun ls hl5 => ?_)
      refine lv_iconst (v := 1) hx hb d_L_pass_13 (by decide) ?_
      exact giret hx hb hr hlocks hK hG leS h (Nat.le_of_ble_eq_true rfl) (Nat.le_of_ble_eq_true rfl) d_L_pass_14
  replace h := h9
  clear h9
  have f2 := gle_isA hle1 f2
  have leS := leS.tr hle1
  refine lv_i2l hx hb d_L_pass_7 rfl ?_
  obtain ⟨y6, ey6, h⟩ := h
  subst ey6
  obtain ⟨f7, h⟩ := h
  obtain ⟨hi8, h⟩ := h
  refine glast hx hb hK hG f7 hi8 d_L_pass_8 (fun S9 H locs eS9 hle1 hG => ?_)
  replace h := h S9 eS9
  have f2 := gle_isA hle1 f2
  have f7 := gle_isA hle1 f7
  have leS := leS.tr hle1
  refine lv_goto (tgt := 15) hx hb d_L_pass_9 (by decide) ?_
  refine lv_iconst (v := 0) hx hb d_L_pass_15 (by decide) ?_
  exact giret hx hb hr hlocks hK hG leS h (Nat.le_of_ble_eq_true rfl) (Nat.le_of_ble_eq_true rfl) d_L_pass_16
def w_L_count (post : Int32 → St → Prop) (S : St) (a0 : Option Nat) (a1 : Int32) (a2 : Option Nat) : Prop :=
  ∃ y1 : Nat, a0 = some y1 ∧ isA S 6 y1 ∧ w_H_count (fun (r3 : Int32) => ∃ y5 : Nat, a2 = some y5 ∧ isA S 13 y5 ∧ vp_in 0 (sN S y5) ∧ ∀ S8 : St, S8 = pJ S y5 ((0 : Int32).toNatClampNeg) (r3.toInt64) → post 0 S8) (fun (E9 : String) => (E9 = "java/lang/IndexOutOfBoundsException" ∧ post 1 S)) S y1 a1
set_option maxHeartbeats 4000000 in
set_option maxRecDepth 100000 in
theorem m_L_count (l : Launch) (hlt : l.stackTraces = false) (x : Cx) (S : St) (post : Int32 → St → Prop) (a0 : Option Nat) (a1 : Int32) (a2 : Option Nat) (h : w_L_count post S a0 a1 a2) : Met l y_L_count [.codeWith y_L_count c_L_count 4 (some .int) [(0, 9, 12, 24)]] { frames := 8, cells := 1, slots := 6, locals := 132 } (va_Pc [va_rf a0, .int a1, va_rf a2] (GL x S)) (va_Qi post (gB x S) (xA x)) 1 6 (xA x) := by
  refine gMetL [(0, 9, 12, 24)] (by decide +kernel) (by simp [lg_sl, gCat, gci1, gcr1, gcl1, gcd1]) tw_877 ?_
  intro p e s m args below meth c hx hb hr hown hlocks hin hw hK hN H locs hG ls hlA hml htab
  have hown : s.vm.findClass "WaltzHallLaw" = some m.cls := hown
  have hl0 : lv_has ls 4 [(0, va_rf a0), (1, .int a1), (2, va_rf a2)] := by simpa [lv_args, gCat, gci1, gcr1, gcl1, gcd1] using hlA
  have leS : gle S S := gle.rf
  unfold w_L_count at h
  refine gaload_n hx hb d_L_count_0 rfl (lv_at hl0 2 rfl) ?_
  refine lv_iconst (v := 0) hx hb d_L_count_1 (by decide) ?_
  refine gaload_n hx hb d_L_count_2 rfl (lv_at hl0 0 rfl) ?_
  refine lv_iload_n hx hb d_L_count_3 rfl (lv_at hl0 1 rfl) ?_
  obtain ⟨y1, ey1, h⟩ := h
  subst ey1
  obtain ⟨f2, h⟩ := h
  -- call H_count
  refine gcatchp hG (vx_runV (As := [.int a1]) (rest := [.int 0, va_rf a2]) ⟨hx, hb, hml, hown, hw⟩ (m_H_count l hlt x S _ _ y1 a1 f2 h) ⟨gcb hw tw_881 tw_28 tw_878 hd_H_count rfl rfl ⟨(Nat.le_of_ble_eq_true rfl), (Nat.le_of_ble_eq_true rfl)⟩, hw _ tw_879, hw _ tw_880⟩ (gpV hK hG kd_H f2 rfl) rfl rfl hl0.1 rfl (lv_room (by simp [gCat, gci1, gcr1, gcl1, gcd1])) d_L_count_4 ⟨(Nat.le_of_ble_eq_true rfl), (Nat.le_of_ble_eq_true rfl)⟩) (fun E9 H locs q9 ce9 h9 hG hce hv hcl => ?_) (fun r3 H locs h9 hG => ?_)
  · clear h
    rcases h9 with ⟨e9, h9⟩
    · subst e9
      refine vx_catch (own := "WaltzHallLaw") (name := "java/lang/IndexOutOfBoundsException") hown [] ⟨0, 9, 12, 24⟩ [] (by rw [htab]; rfl) (fun z hz => absurd hz List.not_mem_nil) (by decide) (by decide) (hw _ tw_461) (hw _ tw_472) hce hv hcl ?_
      replace h := h9
      refine lv_astore_n (i := 3) (lv' := [(3, .ref q9), (0, .ref y1), (1, .int a1), (2, va_rf a2)]) hx hb d_L_count_12 rfl hl0 (by decide) (by simp [gCat, gCatB, gci1, gcr1, gcl1, gcd1] <;> rfl) (fun ls hl4 => ?_)
      refine lv_iconst (v := 1) hx hb d_L_count_13 (by decide) ?_
      exact giret hx hb hr hlocks hK hG leS h (Nat.le_of_ble_eq_true rfl) (Nat.le_of_ble_eq_true rfl) d_L_count_14
  replace h := h9
  clear h9
  refine lv_i2l hx hb d_L_count_7 rfl ?_
  obtain ⟨y5, ey5, h⟩ := h
  subst ey5
  obtain ⟨f6, h⟩ := h
  obtain ⟨hi7, h⟩ := h
  refine glast hx hb hK hG f6 hi7 d_L_count_8 (fun S8 H locs eS8 hle1 hG => ?_)
  replace h := h S8 eS8
  have f2 := gle_isA hle1 f2
  have f6 := gle_isA hle1 f6
  have leS := leS.tr hle1
  refine lv_goto (tgt := 15) hx hb d_L_count_9 (by decide) ?_
  refine lv_iconst (v := 0) hx hb d_L_count_15 (by decide) ?_
  exact giret hx hb hr hlocks hK hG leS h (Nat.le_of_ble_eq_true rfl) (Nat.le_of_ble_eq_true rfl) d_L_count_16
def w_L_foresee (post : Int32 → St → Prop) (S : St) (a0 : Option Nat) (a1 : Int32) (a2 : Int32) (a3 : Int32) (a4 : Option Nat) : Prop :=
  ∃ y1 : Nat, a0 = some y1 ∧ isA S 6 y1 ∧ w_H_foresee (fun (r3 : Int32) (S4 : St) => ∃ y7 : Nat, a4 = some y7 ∧ isA S4 13 y7 ∧ vp_in 0 (sN S4 y7) ∧ ∀ S10 : St, S10 = pJ S4 y7 ((0 : Int32).toNatClampNeg) (r3.toInt64) → post 0 S10) (fun (E9 : String) (S9 : St) => (E9 = "java/lang/IndexOutOfBoundsException" ∧ post 1 S9) ∨ (E9 = "java/lang/IllegalArgumentException" ∧ post 2 S9)) S y1 a1 a2 a3
set_option maxHeartbeats 4000000 in
set_option maxRecDepth 100000 in
theorem m_L_foresee (l : Launch) (hlt : l.stackTraces = false) (x : Cx) (S : St) (post : Int32 → St → Prop) (a0 : Option Nat) (a1 : Int32) (a2 : Int32) (a3 : Int32) (a4 : Option Nat) (h : w_L_foresee post S a0 a1 a2 a3 a4) : Met l y_L_foresee [.codeWith y_L_foresee c_L_foresee 6 (some .int) [(0, 12, 15, 24), (0, 12, 19, 19)]] { frames := 8, cells := 67, slots := 1042, locals := 184 } (va_Pc [va_rf a0, .int a1, .int a2, .int a3, va_rf a4] (GL x S)) (va_Qi post (gB x S) (xA x)) 67 1042 (xA x) := by
  refine gMetL [(0, 12, 15, 24), (0, 12, 19, 19)] (by decide +kernel) (by simp [lg_sl, gCat, gci1, gcr1, gcl1, gcd1]) tw_884 ?_
  intro p e s m args below meth c hx hb hr hown hlocks hin hw hK hN H locs hG ls hlA hml htab
  have hown : s.vm.findClass "WaltzHallLaw" = some m.cls := hown
  have hl0 : lv_has ls 6 [(0, va_rf a0), (1, .int a1), (2, .int a2), (3, .int a3), (4, va_rf a4)] := by simpa [lv_args, gCat, gci1, gcr1, gcl1, gcd1] using hlA
  have leS : gle S S := gle.rf
  unfold w_L_foresee at h
  refine gaload hx hb d_L_foresee_0 (lv_at hl0 4 rfl) ?_
  refine lv_iconst (v := 0) hx hb d_L_foresee_2 (by decide) ?_
  refine gaload_n hx hb d_L_foresee_3 rfl (lv_at hl0 0 rfl) ?_
  refine lv_iload_n hx hb d_L_foresee_4 rfl (lv_at hl0 1 rfl) ?_
  refine lv_iload_n hx hb d_L_foresee_5 rfl (lv_at hl0 2 rfl) ?_
  refine lv_iload_n hx hb d_L_foresee_6 rfl (lv_at hl0 3 rfl) ?_
  obtain ⟨y1, ey1, h⟩ := h
  subst ey1
  obtain ⟨f2, h⟩ := h
  -- call H_foresee
  refine gcatch hG (vx_runV (As := [.int a1, .int a2, .int a3]) (rest := [.int 0, va_rf a4]) ⟨hx, hb, hml, hown, hw⟩ (m_H_foresee l hlt x S _ _ y1 a1 a2 a3 f2 h) ⟨gcb hw tw_888 tw_28 tw_885 hd_H_foresee rfl rfl ⟨(Nat.le_of_ble_eq_true rfl), (Nat.le_of_ble_eq_true rfl)⟩, hw _ tw_886, hw _ tw_887⟩ (gpV hK hG kd_H f2 rfl) rfl rfl hl0.1 rfl (lv_room (by simp [gCat, gci1, gcr1, gcl1, gcd1])) d_L_foresee_7 ⟨(Nat.le_of_ble_eq_true rfl), (Nat.le_of_ble_eq_true rfl)⟩) (fun E9 S9 H locs q9 ce9 h9 hle1 hG hce hv hcl => ?_) (fun r3 S4 H locs h9 hle1 hG => ?_)
  · clear h
    rcases h9 with ⟨e9, h9⟩ | ⟨e9, h9⟩
    · subst e9
      refine vx_catch (own := "WaltzHallLaw") (name := "java/lang/IndexOutOfBoundsException") hown [] ⟨0, 12, 15, 24⟩ [⟨0, 12, 19, 19⟩] (by rw [htab]; rfl) (fun z hz => absurd hz List.not_mem_nil) (by decide) (by decide) (hw _ tw_461) (hw _ tw_472) hce hv hcl ?_
      replace h := h9
      have f2 := gle_isA hle1 f2
      have leS := leS.tr hle1
      refine lv_astore (lv' := [(5, .ref q9), (0, .ref y1), (1, .int a1), (2, .int a2), (3, .int a3), (4, va_rf a4)]) hx hb d_L_foresee_15 hl0 (by decide) (by simp [gCat, gCatB, gci1, gcr1, gcl1, gcd1] <;> rfl) (fun ls hl5 => ?_)
      refine lv_iconst (v := 1) hx hb d_L_foresee_17 (by decide) ?_
      exact giret hx hb hr hlocks hK hG leS h (Nat.le_of_ble_eq_true rfl) (Nat.le_of_ble_eq_true rfl) d_L_foresee_18
    · subst e9
      refine vx_catch (own := "WaltzHallLaw") (name := "java/lang/IllegalArgumentException") hown [⟨0, 12, 15, 24⟩] ⟨0, 12, 19, 19⟩ [] (by rw [htab]; rfl) (gpass1 (by decide) (hw _ tw_461) (hN ("java/lang/IllegalArgumentException", "java/lang/IndexOutOfBoundsException") (by decide))) (by decide) (by decide) (hw _ tw_437) (hw _ tw_444) hce hv hcl ?_
      replace h := h9
      have f2 := gle_isA hle1 f2
      have leS := leS.tr hle1
      refine lv_astore (lv' := [(5, .ref q9), (0, .ref y1), (1, .int a1), (2, .int a2), (3, .int a3), (4, va_rf a4)]) hx hb d_L_foresee_19 hl0 (by decide) (by simp [gCat, gCatB, gci1, gcr1, gcl1, gcd1] <;> rfl) (fun ls hl6 => ?_)
      refine lv_iconst (v := 2) hx hb d_L_foresee_21 (by decide) ?_
      exact giret hx hb hr hlocks hK hG leS h (Nat.le_of_ble_eq_true rfl) (Nat.le_of_ble_eq_true rfl) d_L_foresee_22
  replace h := h9
  clear h9
  have f2 := gle_isA hle1 f2
  have leS := leS.tr hle1
  refine lv_i2l hx hb d_L_foresee_10 rfl ?_
  obtain ⟨y7, ey7, h⟩ := h
  subst ey7
  obtain ⟨f8, h⟩ := h
  obtain ⟨hi9, h⟩ := h
  refine glast hx hb hK hG f8 hi9 d_L_foresee_11 (fun S10 H locs eS10 hle1 hG => ?_)
  replace h := h S10 eS10
  have f2 := gle_isA hle1 f2
  have f8 := gle_isA hle1 f8
  have leS := leS.tr hle1
  refine lv_goto (tgt := 23) hx hb d_L_foresee_12 (by decide) ?_
  refine lv_iconst (v := 0) hx hb d_L_foresee_23 (by decide) ?_
  exact giret hx hb hr hlocks hK hG leS h (Nat.le_of_ble_eq_true rfl) (Nat.le_of_ble_eq_true rfl) d_L_foresee_24
def w_L_firstToStop (post : Int32 → St → Prop) (S : St) (a0 : Option Nat) (a1 : Int32) (a2 : Option Nat) : Prop :=
  ∃ y1 : Nat, a0 = some y1 ∧ isA S 6 y1 ∧ w_H_firstToStop (fun (r3 : Int32) (S4 : St) => ∃ y6 : Nat, a2 = some y6 ∧ isA S4 13 y6 ∧ vp_in 0 (sN S4 y6) ∧ ∀ S9 : St, S9 = pJ S4 y6 ((0 : Int32).toNatClampNeg) (r3.toInt64) → post 0 S9) (fun (E9 : String) (S9 : St) => (E9 = "java/lang/IllegalArgumentException" ∧ post 1 S9)) S y1 a1
set_option maxHeartbeats 4000000 in
set_option maxRecDepth 100000 in
theorem m_L_firstToStop (l : Launch) (hlt : l.stackTraces = false) (x : Cx) (S : St) (post : Int32 → St → Prop) (a0 : Option Nat) (a1 : Int32) (a2 : Option Nat) (h : w_L_firstToStop post S a0 a1 a2) : Met l y_L_firstToStop [.codeWith y_L_firstToStop c_L_firstToStop 4 (some .int) [(0, 9, 12, 19)]] { frames := 8, cells := 65, slots := 1030, locals := 182 } (va_Pc [va_rf a0, .int a1, va_rf a2] (GL x S)) (va_Qi post (gB x S) (xA x)) 65 1030 (xA x) := by
  refine gMetL [(0, 9, 12, 19)] (by decide +kernel) (by simp [lg_sl, gCat, gci1, gcr1, gcl1, gcd1]) tw_906 ?_
  intro p e s m args below meth c hx hb hr hown hlocks hin hw hK hN H locs hG ls hlA hml htab
  have hown : s.vm.findClass "WaltzHallLaw" = some m.cls := hown
  have hl0 : lv_has ls 4 [(0, va_rf a0), (1, .int a1), (2, va_rf a2)] := by simpa [lv_args, gCat, gci1, gcr1, gcl1, gcd1] using hlA
  have leS : gle S S := gle.rf
  unfold w_L_firstToStop at h
  refine gaload_n hx hb d_L_firstToStop_0 rfl (lv_at hl0 2 rfl) ?_
  refine lv_iconst (v := 0) hx hb d_L_firstToStop_1 (by decide) ?_
  refine gaload_n hx hb d_L_firstToStop_2 rfl (lv_at hl0 0 rfl) ?_
  refine lv_iload_n hx hb d_L_firstToStop_3 rfl (lv_at hl0 1 rfl) ?_
  obtain ⟨y1, ey1, h⟩ := h
  subst ey1
  obtain ⟨f2, h⟩ := h
  -- call H_firstToStop
  refine gcatch hG (vx_runV (As := [.int a1]) (rest := [.int 0, va_rf a2]) ⟨hx, hb, hml, hown, hw⟩ (m_H_firstToStop l hlt x S _ _ y1 a1 f2 h) ⟨gcb hw tw_910 tw_28 tw_907 hd_H_firstToStop rfl rfl ⟨(Nat.le_of_ble_eq_true rfl), (Nat.le_of_ble_eq_true rfl)⟩, hw _ tw_908, hw _ tw_909⟩ (gpV hK hG kd_H f2 rfl) rfl rfl hl0.1 rfl (lv_room (by simp [gCat, gci1, gcr1, gcl1, gcd1])) d_L_firstToStop_4 ⟨(Nat.le_of_ble_eq_true rfl), (Nat.le_of_ble_eq_true rfl)⟩) (fun E9 S9 H locs q9 ce9 h9 hle1 hG hce hv hcl => ?_) (fun r3 S4 H locs h9 hle1 hG => ?_)
  · clear h
    rcases h9 with ⟨e9, h9⟩
    · subst e9
      refine vx_catch (own := "WaltzHallLaw") (name := "java/lang/IllegalArgumentException") hown [] ⟨0, 9, 12, 19⟩ [] (by rw [htab]; rfl) (fun z hz => absurd hz List.not_mem_nil) (by decide) (by decide) (hw _ tw_437) (hw _ tw_444) hce hv hcl ?_
      replace h := h9
      have f2 := gle_isA hle1 f2
      have leS := leS.tr hle1
      refine lv_astore_n (i := 3) (lv' := [(3, .ref q9), (0, .ref y1), (1, .int a1), (2, va_rf a2)]) hx hb d_L_firstToStop_12 rfl hl0 (by decide) (by simp [gCat, gCatB, gci1, gcr1, gcl1, gcd1] <;> rfl) (fun ls hl5 => ?_)
      refine lv_iconst (v := 1) hx hb d_L_firstToStop_13 (by decide) ?_
      exact giret hx hb hr hlocks hK hG leS h (Nat.le_of_ble_eq_true rfl) (Nat.le_of_ble_eq_true rfl) d_L_firstToStop_14
  replace h := h9
  clear h9
  have f2 := gle_isA hle1 f2
  have leS := leS.tr hle1
  refine lv_i2l hx hb d_L_firstToStop_7 rfl ?_
  obtain ⟨y6, ey6, h⟩ := h
  subst ey6
  obtain ⟨f7, h⟩ := h
  obtain ⟨hi8, h⟩ := h
  refine glast hx hb hK hG f7 hi8 d_L_firstToStop_8 (fun S9 H locs eS9 hle1 hG => ?_)
  replace h := h S9 eS9
  have f2 := gle_isA hle1 f2
  have f7 := gle_isA hle1 f7
  have leS := leS.tr hle1
  refine lv_goto (tgt := 15) hx hb d_L_firstToStop_9 (by decide) ?_
  refine lv_iconst (v := 0) hx hb d_L_firstToStop_15 (by decide) ?_
  exact giret hx hb hr hlocks hK hG leS h (Nat.le_of_ble_eq_true rfl) (Nat.le_of_ble_eq_true rfl) d_L_firstToStop_16
def w_L_meet (post : Int32 → St → Prop) (S : St) (a0 : Option Nat) (a1 : Int32) (a2 : Int32) (a3 : Int32) (a4 : Option Nat) : Prop :=
  ∃ y1 : Nat, a0 = some y1 ∧ isA S 6 y1 ∧ w_H_meet (fun (r3 : Int32) (S4 : St) => ∃ y7 : Nat, a4 = some y7 ∧ isA S4 13 y7 ∧ vp_in 0 (sN S4 y7) ∧ ∀ S10 : St, S10 = pJ S4 y7 ((0 : Int32).toNatClampNeg) (r3.toInt64) → post 0 S10) (fun (E9 : String) (S9 : St) => (E9 = "java/lang/IndexOutOfBoundsException" ∧ post 1 S9) ∨ (E9 = "java/lang/IllegalArgumentException" ∧ post 2 S9)) S y1 a1 a2 a3
set_option maxHeartbeats 4000000 in
set_option maxRecDepth 100000 in
theorem m_L_meet (l : Launch) (hlt : l.stackTraces = false) (x : Cx) (S : St) (post : Int32 → St → Prop) (a0 : Option Nat) (a1 : Int32) (a2 : Int32) (a3 : Int32) (a4 : Option Nat) (h : w_L_meet post S a0 a1 a2 a3 a4) : Met l y_L_meet [.codeWith y_L_meet c_L_meet 6 (some .int) [(0, 12, 15, 24), (0, 12, 19, 19)]] { frames := 8, cells := 67, slots := 1042, locals := 183 } (va_Pc [va_rf a0, .int a1, .int a2, .int a3, va_rf a4] (GL x S)) (va_Qi post (gB x S) (xA x)) 67 1042 (xA x) := by
  refine gMetL [(0, 12, 15, 24), (0, 12, 19, 19)] (by decide +kernel) (by simp [lg_sl, gCat, gci1, gcr1, gcl1, gcd1]) tw_917 ?_
  intro p e s m args below meth c hx hb hr hown hlocks hin hw hK hN H locs hG ls hlA hml htab
  have hown : s.vm.findClass "WaltzHallLaw" = some m.cls := hown
  have hl0 : lv_has ls 6 [(0, va_rf a0), (1, .int a1), (2, .int a2), (3, .int a3), (4, va_rf a4)] := by simpa [lv_args, gCat, gci1, gcr1, gcl1, gcd1] using hlA
  have leS : gle S S := gle.rf
  unfold w_L_meet at h
  refine gaload hx hb d_L_meet_0 (lv_at hl0 4 rfl) ?_
  refine lv_iconst (v := 0) hx hb d_L_meet_2 (by decide) ?_
  refine gaload_n hx hb d_L_meet_3 rfl (lv_at hl0 0 rfl) ?_
  refine lv_iload_n hx hb d_L_meet_4 rfl (lv_at hl0 1 rfl) ?_
  refine lv_iload_n hx hb d_L_meet_5 rfl (lv_at hl0 2 rfl) ?_
  refine lv_iload_n hx hb d_L_meet_6 rfl (lv_at hl0 3 rfl) ?_
  obtain ⟨y1, ey1, h⟩ := h
  subst ey1
  obtain ⟨f2, h⟩ := h
  -- call H_meet
  refine gcatch hG (vx_runV (As := [.int a1, .int a2, .int a3]) (rest := [.int 0, va_rf a4]) ⟨hx, hb, hml, hown, hw⟩ (m_H_meet l hlt x S _ _ y1 a1 a2 a3 f2 h) ⟨gcb hw tw_921 tw_28 tw_918 hd_H_meet rfl rfl ⟨(Nat.le_of_ble_eq_true rfl), (Nat.le_of_ble_eq_true rfl)⟩, hw _ tw_919, hw _ tw_920⟩ (gpV hK hG kd_H f2 rfl) rfl rfl hl0.1 rfl (lv_room (by simp [gCat, gci1, gcr1, gcl1, gcd1])) d_L_meet_7 ⟨(Nat.le_of_ble_eq_true rfl), (Nat.le_of_ble_eq_true rfl)⟩) (fun E9 S9 H locs q9 ce9 h9 hle1 hG hce hv hcl => ?_) (fun r3 S4 H locs h9 hle1 hG => ?_)
  · clear h
    rcases h9 with ⟨e9, h9⟩ | ⟨e9, h9⟩
    · subst e9
      refine vx_catch (own := "WaltzHallLaw") (name := "java/lang/IndexOutOfBoundsException") hown [] ⟨0, 12, 15, 24⟩ [⟨0, 12, 19, 19⟩] (by rw [htab]; rfl) (fun z hz => absurd hz List.not_mem_nil) (by decide) (by decide) (hw _ tw_461) (hw _ tw_472) hce hv hcl ?_
      replace h := h9
      have f2 := gle_isA hle1 f2
      have leS := leS.tr hle1
      refine lv_astore (lv' := [(5, .ref q9), (0, .ref y1), (1, .int a1), (2, .int a2), (3, .int a3), (4, va_rf a4)]) hx hb d_L_meet_15 hl0 (by decide) (by simp [gCat, gCatB, gci1, gcr1, gcl1, gcd1] <;> rfl) (fun ls hl5 => ?_)
      refine lv_iconst (v := 1) hx hb d_L_meet_17 (by decide) ?_
      exact giret hx hb hr hlocks hK hG leS h (Nat.le_of_ble_eq_true rfl) (Nat.le_of_ble_eq_true rfl) d_L_meet_18
    · subst e9
      refine vx_catch (own := "WaltzHallLaw") (name := "java/lang/IllegalArgumentException") hown [⟨0, 12, 15, 24⟩] ⟨0, 12, 19, 19⟩ [] (by rw [htab]; rfl) (gpass1 (by decide) (hw _ tw_461) (hN ("java/lang/IllegalArgumentException", "java/lang/IndexOutOfBoundsException") (by decide))) (by decide) (by decide) (hw _ tw_437) (hw _ tw_444) hce hv hcl ?_
      replace h := h9
      have f2 := gle_isA hle1 f2
      have leS := leS.tr hle1
      refine lv_astore (lv' := [(5, .ref q9), (0, .ref y1), (1, .int a1), (2, .int a2), (3, .int a3), (4, va_rf a4)]) hx hb d_L_meet_19 hl0 (by decide) (by simp [gCat, gCatB, gci1, gcr1, gcl1, gcd1] <;> rfl) (fun ls hl6 => ?_)
      refine lv_iconst (v := 2) hx hb d_L_meet_21 (by decide) ?_
      exact giret hx hb hr hlocks hK hG leS h (Nat.le_of_ble_eq_true rfl) (Nat.le_of_ble_eq_true rfl) d_L_meet_22
  replace h := h9
  clear h9
  have f2 := gle_isA hle1 f2
  have leS := leS.tr hle1
  refine lv_i2l hx hb d_L_meet_10 rfl ?_
  obtain ⟨y7, ey7, h⟩ := h
  subst ey7
  obtain ⟨f8, h⟩ := h
  obtain ⟨hi9, h⟩ := h
  refine glast hx hb hK hG f8 hi9 d_L_meet_11 (fun S10 H locs eS10 hle1 hG => ?_)
  replace h := h S10 eS10
  have f2 := gle_isA hle1 f2
  have f8 := gle_isA hle1 f8
  have leS := leS.tr hle1
  refine lv_goto (tgt := 23) hx hb d_L_meet_12 (by decide) ?_
  refine lv_iconst (v := 0) hx hb d_L_meet_23 (by decide) ?_
  exact giret hx hb hr hlocks hK hG leS h (Nat.le_of_ble_eq_true rfl) (Nat.le_of_ble_eq_true rfl) d_L_meet_24
