/-! THE CLAIM OUT OF ONE WALK OF THE LAW'S BODY. Your part is whole_start (and what it stands on); all else here is the same for every law, but numbers. -/
def R_law : String := "WaltzHallLaw"
def lw_P (b : Addr) (xs : List Int32) (args : Array Value) (s : State) : Prop := args = #[.ref b] ∧ s.IntsAt b xs ∧ xs.length ≤ 3072 ∧ (Jvm.Cond.and given_1 narrow_1).before args s = true
/-- what a walk over the start with the record d0 says of its end, said of the start itself -/
theorem lw_closed {s t : State} {o : Outcome} {d0 : Drawn} {L : List Loc} {k n : Nat} (hd0 : s.drawn.sameBut d0 lw_cs) (hv : ∃ v, o = .returned v) (hW : (s.setDrawn d0).WarmedH t.vm) (hs : (s.setDrawn d0).sameButNew ({ t with vm := s.vm } : State) L k n) : State.butDraws s t lw_cs (fun t1 => Framed s o t1 L k n) := by
  have h2 : t.drawn = d0 := congrArg State.drawn hs.1
  refine ⟨⟨hv, hW, State.sameButNew.setDrawn hs s.drawn⟩, ?_, by decide⟩
  rw [h2]
  exact hd0
def lw_Q (_ : Array Value) (s : State) (o : Outcome) (t : State) : Prop := o = .returned (some (.int 1)) ∧ State.butDraws s t lw_cs (fun t1 => Framed s o t1 [] 601024 7293034)
def lw_Z (below : List Frame) (a : Array Value) (s : State) : State → Prop := fun t => ∃ o, t.status = .running ∧ Ended t below o ∧ lw_Q a s o t
/-- the law's own end, with 1 on the stack, nothing written that was there before, its room as the claim has it; d0: the record of draws at this point (at the entry s.drawn: begin with 'refine W.base ?_' and 'have hd0 := Drawn.sameBut.refl s.drawn lw_cs') -/
theorem lw_ret {p : Program} {l : Launch} {e : Env} {s : State} {m : MethodId} {below : List Frame} {meth : Method} {c : Code} {b : Nat} {d0 : Drawn} (hd0 : s.drawn.sameBut d0 lw_cs) (hx : p.tables.exec = Jvm.exec) (hb : c.code = code) (hr : meth.sig.returnType = ret) (hlocks : meth.locks = false) {pc : Nat} {H : Heap} {ls : Array Slot} (hdg : decode code pc = .ok (.ireturn, 1)) : W p l e room_1 (s.setDrawn d0) m #[Value.ref b] below meth c H [] 601024 7293034 (lw_Z below #[Value.ref b] s) (F0 m pc ls [.int 1]) := by
  intro T hT X
  obtain ⟨fs, hret, hrun, hended, hW, hframe⟩ := X.leave (v := some (.int 1)) (hlocks := hlocks) (fun h => by rw [hr] at h; cases h)
  have hmeth' : T.vm.method? m = some meth := X.method'
  refine ⟨T.setFrames fs, ?_, .returned (some (.int 1)), hrun, hended, rfl, lw_closed hd0 ⟨_, rfl⟩ hW hframe⟩
  jvm_step X.here [X.here.top, hx, hb, hdg, hmeth', hr, ret, narrow_b1]
  (try refine ⟨rfl, ?_⟩); (try refine ⟨rfl, ?_⟩)
  first | (intro acts; rw [hret _ acts rfl rfl rfl]) | rw [hret _ _ rfl rfl rfl]
  exact Steps.refl _
/-- what holds at the law's entry: the machine, the code, the tables' words (any of lw_tbl by 'hts w (by decide +kernel)'), the script of L ints xs at the cell b, what the Statement gives of the start (any of its parts by flat_of_before) -/
def lw_At (p : Program) (s : State) (m : MethodId) (meth : Method) (c : Code) (b L : Nat) (xs : Nat → Int32) : Prop :=
  p.tables.exec = Jvm.exec ∧ c.code = code ∧ meth.sig.returnType = ret ∧ c.maxLocals = 9 ∧ s.vm.findClass R_law = some m.cls ∧ (∀ w ∈ lw_tbl, w.before #[Value.ref b] s = true) ∧ va_X b L xs s s.heap ∧ b < s.heap.size ∧ meth.locks = false ∧ (Jvm.Cond.and given_1 narrow_1).before #[Value.ref b] s = true
section GX20
variable {p : Program} {l : Launch} {e : Env} {R : Room} {s : State} {m : MethodId} {args : Array Value} {below : List Frame} {meth : Method} {c : Code} {H : Heap} {locs : List Loc} {cells slots : Nat} {Q : State → Prop}
variable {cc : ByteArray} {pc : Nat} {ls : Array Slot} {rest : List Value} {x : Cx} {S : St} {mc ms : Nat} {st0 : List Value} {va : Array Value}
theorem gcd {post : UInt64 → St → Prop} (hK : GK x s) (hG : GH x S s H locs) (hr : va_Run p l e R s m args below meth c H locs cells slots mc ms (F0 m pc ls st0) rest (va_Qd post (gB x S) (xA x) va) (xA x))
    (kk : ∀ (r : UInt64) (S1 : St) (H1 : Heap) (locs1 : List Loc), post r S1 → gle S S1 → GH x S1 s H1 locs1 → W p l e R s m args below meth c H1 locs1 (cells + mc) (slots + ms) Q (F0 m (pc + 3) ls (.double r :: rest))) : W p l e R s m args below meth c H locs cells slots Q (F0 m pc ls st0) :=
  va_calld hr hG.2.2.1 (fun _ _ h => h) (fun _ h => h) (fun r u t H1 locs1 ht _ hp hB _ _ hS => kk r u H1 locs1 hp hB.2 (GH.back ht hB.1 hS))
theorem gpd {post : UInt64 → Prop} (hK : GK x s) (hG : GH x S s H locs) (hr : va_Run p l e R s m args below meth c H locs cells slots mc ms (F0 m pc ls st0) rest (va_Qd (gPu post S) (gB x S) (xA x) va) (xA x))
    (kk : ∀ (r : UInt64) (H1 : Heap) (locs1 : List Loc), post r → GH x S s H1 locs1 → W p l e R s m args below meth c H1 locs1 (cells + mc) (slots + ms) Q (F0 m (pc + 3) ls (.double r :: rest))) : W p l e R s m args below meth c H locs cells slots Q (F0 m pc ls st0) :=
  gcd hK hG hr (fun r S1 H1 locs1 h _ hG1 => kk r H1 locs1 h.1 (by rw [h.2]; exact hG1))
end GX20
theorem tw_27 : (Jvm.Cond.initialized "WaltzHallLaw") ∈ gG := gmm 27 (by decide +kernel) (by decide +kernel)
theorem tw_55 : (Jvm.Cond.classLink "WaltzHallLaw" (8 : Nat) "WaltzHall") ∈ gG := gmm 55 (by decide +kernel) (by decide +kernel)
theorem tw_56 : (Jvm.Cond.instantiable "WaltzHall" (5 : Nat)) ∈ gG := gmm 56 (by decide +kernel) (by decide +kernel)
theorem tw_57 : (Jvm.Cond.methodLink "WaltzHallLaw" (80 : Nat) ({ cls := "WaltzHall", name := "<init>", desc := "()V" } : Jvm.MethodName)) ∈ gG := gmm 57 (by decide +kernel) (by decide +kernel)
theorem tw_58 : (Jvm.Cond.instanceMethod ({ cls := "WaltzHall", name := "<init>", desc := "()V" } : Jvm.MethodName)) ∈ gG := gmm 58 (by decide +kernel) (by decide +kernel)
theorem tw_59 : (Jvm.Cond.code ({ cls := "WaltzHall", name := "<init>", desc := "()V" } : Jvm.MethodName) prog_1_method_1_code (1 : Nat) (Option.none : Option Jvm.ClassFile.FieldType)) ∈ gG := gmm 59 (by decide +kernel) (by decide +kernel)
theorem tw_277 : (Jvm.Cond.methodLink "WaltzHallLaw" (155 : Nat) ({ cls := "WaltzHall", name := "tension", desc := "()D" } : Jvm.MethodName)) ∈ gG := gmm 277 (by decide +kernel) (by decide +kernel)
theorem tw_278 : (Jvm.Cond.instanceMethod ({ cls := "WaltzHall", name := "tension", desc := "()D" } : Jvm.MethodName)) ∈ gG := gmm 278 (by decide +kernel) (by decide +kernel)
theorem tw_279 : (Jvm.Cond.selects "WaltzHall" ({ cls := "WaltzHall", name := "tension", desc := "()D" } : Jvm.MethodName) ({ cls := "WaltzHall", name := "tension", desc := "()D" } : Jvm.MethodName)) ∈ gG := gmm 279 (by decide +kernel) (by decide +kernel)
theorem tw_280 : (Jvm.Cond.code ({ cls := "WaltzHall", name := "tension", desc := "()D" } : Jvm.MethodName) prog_1_method_22_code (2 : Nat) (Option.some Jvm.ClassFile.FieldType.double)) ∈ gG := gmm 280 (by decide +kernel) (by decide +kernel)
theorem tw_307 : (Jvm.Cond.methodLink "WaltzHallLaw" (160 : Nat) ({ cls := "WaltzHall", name := "digest", desc := "()J" } : Jvm.MethodName)) ∈ gG := gmm 307 (by decide +kernel) (by decide +kernel)
theorem tw_308 : (Jvm.Cond.instanceMethod ({ cls := "WaltzHall", name := "digest", desc := "()J" } : Jvm.MethodName)) ∈ gG := gmm 308 (by decide +kernel) (by decide +kernel)
theorem tw_309 : (Jvm.Cond.selects "WaltzHall" ({ cls := "WaltzHall", name := "digest", desc := "()J" } : Jvm.MethodName) ({ cls := "WaltzHall", name := "digest", desc := "()J" } : Jvm.MethodName)) ∈ gG := gmm 309 (by decide +kernel) (by decide +kernel)
theorem tw_310 : (Jvm.Cond.code ({ cls := "WaltzHall", name := "digest", desc := "()J" } : Jvm.MethodName) prog_1_method_23_code (5 : Nat) (Option.some Jvm.ClassFile.FieldType.long)) ∈ gG := gmm 310 (by decide +kernel) (by decide +kernel)
theorem tw_351 : (Jvm.Cond.methodLink "WaltzHallLaw" (84 : Nat) ({ cls := "WaltzHallLaw", name := "feed", desc := "(LWaltzHall;IIIII[J)I" } : Jvm.MethodName)) ∈ gG := gmm 351 (by decide +kernel) (by decide +kernel)
theorem tw_352 : (Jvm.Cond.static ({ cls := "WaltzHallLaw", name := "feed", desc := "(LWaltzHall;IIIII[J)I" } : Jvm.MethodName)) ∈ gG := gmm 352 (by decide +kernel) (by decide +kernel)
theorem tw_434 : (Jvm.Cond.methodLink "WaltzHallLaw" (94 : Nat) ({ cls := "WaltzHallLaw", name := "trim", desc := "(LWaltzHall;I[J)I" } : Jvm.MethodName)) ∈ gG := gmm 434 (by decide +kernel) (by decide +kernel)
theorem tw_435 : (Jvm.Cond.static ({ cls := "WaltzHallLaw", name := "trim", desc := "(LWaltzHall;I[J)I" } : Jvm.MethodName)) ∈ gG := gmm 435 (by decide +kernel) (by decide +kernel)
theorem tw_458 : (Jvm.Cond.methodLink "WaltzHallLaw" (98 : Nat) ({ cls := "WaltzHallLaw", name := "learn", desc := "(LWaltzHall;I[J)I" } : Jvm.MethodName)) ∈ gG := gmm 458 (by decide +kernel) (by decide +kernel)
theorem tw_459 : (Jvm.Cond.static ({ cls := "WaltzHallLaw", name := "learn", desc := "(LWaltzHall;I[J)I" } : Jvm.MethodName)) ∈ gG := gmm 459 (by decide +kernel) (by decide +kernel)
theorem tw_508 : (Jvm.Cond.methodLink "WaltzHallLaw" (101 : Nat) ({ cls := "WaltzHallLaw", name := "figure", desc := "(LWaltzHall;II[J)I" } : Jvm.MethodName)) ∈ gG := gmm 508 (by decide +kernel) (by decide +kernel)
theorem tw_509 : (Jvm.Cond.static ({ cls := "WaltzHallLaw", name := "figure", desc := "(LWaltzHall;II[J)I" } : Jvm.MethodName)) ∈ gG := gmm 509 (by decide +kernel) (by decide +kernel)
theorem tw_517 : (Jvm.Cond.methodLink "WaltzHallLaw" (105 : Nat) ({ cls := "WaltzHallLaw", name := "drift", desc := "(LWaltzHall;II[J)I" } : Jvm.MethodName)) ∈ gG := gmm 517 (by decide +kernel) (by decide +kernel)
theorem tw_518 : (Jvm.Cond.static ({ cls := "WaltzHallLaw", name := "drift", desc := "(LWaltzHall;II[J)I" } : Jvm.MethodName)) ∈ gG := gmm 518 (by decide +kernel) (by decide +kernel)
theorem tw_552 : (Jvm.Cond.methodLink "WaltzHallLaw" (108 : Nat) ({ cls := "WaltzHallLaw", name := "come", desc := "(LWaltzHall;IIII[J)I" } : Jvm.MethodName)) ∈ gG := gmm 552 (by decide +kernel) (by decide +kernel)
theorem tw_553 : (Jvm.Cond.static ({ cls := "WaltzHallLaw", name := "come", desc := "(LWaltzHall;IIII[J)I" } : Jvm.MethodName)) ∈ gG := gmm 553 (by decide +kernel) (by decide +kernel)
theorem tw_644 : (Jvm.Cond.methodLink "WaltzHallLaw" (112 : Nat) ({ cls := "WaltzHallLaw", name := "dance", desc := "(LWaltzHall;II[J)I" } : Jvm.MethodName)) ∈ gG := gmm 644 (by decide +kernel) (by decide +kernel)
theorem tw_645 : (Jvm.Cond.static ({ cls := "WaltzHallLaw", name := "dance", desc := "(LWaltzHall;II[J)I" } : Jvm.MethodName)) ∈ gG := gmm 645 (by decide +kernel) (by decide +kernel)
theorem tw_660 : (Jvm.Cond.methodLink "WaltzHallLaw" (115 : Nat) ({ cls := "WaltzHallLaw", name := "pair", desc := "(LWaltzHall;II[J)I" } : Jvm.MethodName)) ∈ gG := gmm 660 (by decide +kernel) (by decide +kernel)
theorem tw_661 : (Jvm.Cond.static ({ cls := "WaltzHallLaw", name := "pair", desc := "(LWaltzHall;II[J)I" } : Jvm.MethodName)) ∈ gG := gmm 661 (by decide +kernel) (by decide +kernel)
theorem tw_679 : (Jvm.Cond.methodLink "WaltzHallLaw" (118 : Nat) ({ cls := "WaltzHallLaw", name := "part", desc := "(LWaltzHall;I[J)I" } : Jvm.MethodName)) ∈ gG := gmm 679 (by decide +kernel) (by decide +kernel)
theorem tw_680 : (Jvm.Cond.static ({ cls := "WaltzHallLaw", name := "part", desc := "(LWaltzHall;I[J)I" } : Jvm.MethodName)) ∈ gG := gmm 680 (by decide +kernel) (by decide +kernel)
theorem tw_691 : (Jvm.Cond.methodLink "WaltzHallLaw" (121 : Nat) ({ cls := "WaltzHallLaw", name := "wind", desc := "(LWaltzHall;II[J)I" } : Jvm.MethodName)) ∈ gG := gmm 691 (by decide +kernel) (by decide +kernel)
theorem tw_692 : (Jvm.Cond.static ({ cls := "WaltzHallLaw", name := "wind", desc := "(LWaltzHall;II[J)I" } : Jvm.MethodName)) ∈ gG := gmm 692 (by decide +kernel) (by decide +kernel)
theorem tw_705 : (Jvm.Cond.methodLink "WaltzHallLaw" (124 : Nat) ({ cls := "WaltzHallLaw", name := "dancer", desc := "(LWaltzHall;II[J)I" } : Jvm.MethodName)) ∈ gG := gmm 705 (by decide +kernel) (by decide +kernel)
theorem tw_706 : (Jvm.Cond.static ({ cls := "WaltzHallLaw", name := "dancer", desc := "(LWaltzHall;II[J)I" } : Jvm.MethodName)) ∈ gG := gmm 706 (by decide +kernel) (by decide +kernel)
theorem tw_712 : (Jvm.Cond.methodLink "WaltzHallLaw" (127 : Nat) ({ cls := "WaltzHallLaw", name := "at", desc := "(LWaltzHall;II[J)I" } : Jvm.MethodName)) ∈ gG := gmm 712 (by decide +kernel) (by decide +kernel)
theorem tw_713 : (Jvm.Cond.static ({ cls := "WaltzHallLaw", name := "at", desc := "(LWaltzHall;II[J)I" } : Jvm.MethodName)) ∈ gG := gmm 713 (by decide +kernel) (by decide +kernel)
theorem tw_720 : (Jvm.Cond.methodLink "WaltzHallLaw" (130 : Nat) ({ cls := "WaltzHallLaw", name := "addWinder", desc := "(LWaltzHall;III[J)I" } : Jvm.MethodName)) ∈ gG := gmm 720 (by decide +kernel) (by decide +kernel)
theorem tw_721 : (Jvm.Cond.static ({ cls := "WaltzHallLaw", name := "addWinder", desc := "(LWaltzHall;III[J)I" } : Jvm.MethodName)) ∈ gG := gmm 721 (by decide +kernel) (by decide +kernel)
theorem tw_761 : (Jvm.Cond.methodLink "WaltzHallLaw" (134 : Nat) ({ cls := "WaltzHallLaw", name := "call", desc := "(LWaltzHall;II[J)I" } : Jvm.MethodName)) ∈ gG := gmm 761 (by decide +kernel) (by decide +kernel)
theorem tw_762 : (Jvm.Cond.static ({ cls := "WaltzHallLaw", name := "call", desc := "(LWaltzHall;II[J)I" } : Jvm.MethodName)) ∈ gG := gmm 762 (by decide +kernel) (by decide +kernel)
theorem tw_778 : (Jvm.Cond.methodLink "WaltzHallLaw" (137 : Nat) ({ cls := "WaltzHallLaw", name := "winder", desc := "(LWaltzHall;II[J)I" } : Jvm.MethodName)) ∈ gG := gmm 778 (by decide +kernel) (by decide +kernel)
theorem tw_779 : (Jvm.Cond.static ({ cls := "WaltzHallLaw", name := "winder", desc := "(LWaltzHall;II[J)I" } : Jvm.MethodName)) ∈ gG := gmm 779 (by decide +kernel) (by decide +kernel)
theorem tw_785 : (Jvm.Cond.methodLink "WaltzHallLaw" (140 : Nat) ({ cls := "WaltzHallLaw", name := "pass", desc := "(LWaltzHall;I[J)I" } : Jvm.MethodName)) ∈ gG := gmm 785 (by decide +kernel) (by decide +kernel)
theorem tw_786 : (Jvm.Cond.static ({ cls := "WaltzHallLaw", name := "pass", desc := "(LWaltzHall;I[J)I" } : Jvm.MethodName)) ∈ gG := gmm 786 (by decide +kernel) (by decide +kernel)
theorem tw_875 : (Jvm.Cond.methodLink "WaltzHallLaw" (143 : Nat) ({ cls := "WaltzHallLaw", name := "count", desc := "(LWaltzHall;I[J)I" } : Jvm.MethodName)) ∈ gG := gmm 875 (by decide +kernel) (by decide +kernel)
theorem tw_876 : (Jvm.Cond.static ({ cls := "WaltzHallLaw", name := "count", desc := "(LWaltzHall;I[J)I" } : Jvm.MethodName)) ∈ gG := gmm 876 (by decide +kernel) (by decide +kernel)
theorem tw_882 : (Jvm.Cond.methodLink "WaltzHallLaw" (146 : Nat) ({ cls := "WaltzHallLaw", name := "foresee", desc := "(LWaltzHall;III[J)I" } : Jvm.MethodName)) ∈ gG := gmm 882 (by decide +kernel) (by decide +kernel)
theorem tw_883 : (Jvm.Cond.static ({ cls := "WaltzHallLaw", name := "foresee", desc := "(LWaltzHall;III[J)I" } : Jvm.MethodName)) ∈ gG := gmm 883 (by decide +kernel) (by decide +kernel)
theorem tw_904 : (Jvm.Cond.methodLink "WaltzHallLaw" (149 : Nat) ({ cls := "WaltzHallLaw", name := "firstToStop", desc := "(LWaltzHall;I[J)I" } : Jvm.MethodName)) ∈ gG := gmm 904 (by decide +kernel) (by decide +kernel)
theorem tw_905 : (Jvm.Cond.static ({ cls := "WaltzHallLaw", name := "firstToStop", desc := "(LWaltzHall;I[J)I" } : Jvm.MethodName)) ∈ gG := gmm 905 (by decide +kernel) (by decide +kernel)
theorem tw_915 : (Jvm.Cond.methodLink "WaltzHallLaw" (152 : Nat) ({ cls := "WaltzHallLaw", name := "meet", desc := "(LWaltzHall;III[J)I" } : Jvm.MethodName)) ∈ gG := gmm 915 (by decide +kernel) (by decide +kernel)
theorem tw_916 : (Jvm.Cond.static ({ cls := "WaltzHallLaw", name := "meet", desc := "(LWaltzHall;III[J)I" } : Jvm.MethodName)) ∈ gG := gmm 916 (by decide +kernel) (by decide +kernel)
theorem tw_928 : (Jvm.Cond.classLink "WaltzHallLaw" (81 : Nat) "WaltzHallModel") ∈ gG := gmm 928 (by decide +kernel) (by decide +kernel)
theorem tw_929 : (Jvm.Cond.instantiable "WaltzHallModel" (7 : Nat)) ∈ gG := gmm 929 (by decide +kernel) (by decide +kernel)
theorem tw_930 : (Jvm.Cond.methodLink "WaltzHallLaw" (83 : Nat) ({ cls := "WaltzHallModel", name := "<init>", desc := "()V" } : Jvm.MethodName)) ∈ gG := gmm 930 (by decide +kernel) (by decide +kernel)
theorem tw_931 : (Jvm.Cond.instanceMethod ({ cls := "WaltzHallModel", name := "<init>", desc := "()V" } : Jvm.MethodName)) ∈ gG := gmm 931 (by decide +kernel) (by decide +kernel)
theorem tw_932 : (Jvm.Cond.code ({ cls := "WaltzHallModel", name := "<init>", desc := "()V" } : Jvm.MethodName) prog_8_method_1_code (3 : Nat) (Option.none : Option Jvm.ClassFile.FieldType)) ∈ gG := gmm 932 (by decide +kernel) (by decide +kernel)
theorem tw_1041 : (Jvm.Cond.methodLink "WaltzHallLaw" (90 : Nat) ({ cls := "WaltzHallModel", name := "thrown", desc := "()I" } : Jvm.MethodName)) ∈ gG := gmm 1041 (by decide +kernel) (by decide +kernel)
theorem tw_1042 : (Jvm.Cond.instanceMethod ({ cls := "WaltzHallModel", name := "thrown", desc := "()I" } : Jvm.MethodName)) ∈ gG := gmm 1042 (by decide +kernel) (by decide +kernel)
theorem tw_1043 : (Jvm.Cond.selects "WaltzHallModel" ({ cls := "WaltzHallModel", name := "thrown", desc := "()I" } : Jvm.MethodName) ({ cls := "WaltzHallModel", name := "thrown", desc := "()I" } : Jvm.MethodName)) ∈ gG := gmm 1043 (by decide +kernel) (by decide +kernel)
theorem tw_1044 : (Jvm.Cond.code ({ cls := "WaltzHallModel", name := "thrown", desc := "()I" } : Jvm.MethodName) prog_8_method_2_code (1 : Nat) (Option.some Jvm.ClassFile.FieldType.int)) ∈ gG := gmm 1044 (by decide +kernel) (by decide +kernel)
theorem tw_1045 : (Jvm.Cond.methodLink "WaltzHallLaw" (89 : Nat) ({ cls := "WaltzHallModel", name := "feed", desc := "(IIIII)I" } : Jvm.MethodName)) ∈ gG := gmm 1045 (by decide +kernel) (by decide +kernel)
theorem tw_1046 : (Jvm.Cond.instanceMethod ({ cls := "WaltzHallModel", name := "feed", desc := "(IIIII)I" } : Jvm.MethodName)) ∈ gG := gmm 1046 (by decide +kernel) (by decide +kernel)
theorem tw_1047 : (Jvm.Cond.selects "WaltzHallModel" ({ cls := "WaltzHallModel", name := "feed", desc := "(IIIII)I" } : Jvm.MethodName) ({ cls := "WaltzHallModel", name := "feed", desc := "(IIIII)I" } : Jvm.MethodName)) ∈ gG := gmm 1047 (by decide +kernel) (by decide +kernel)
theorem tw_1048 : (Jvm.Cond.code ({ cls := "WaltzHallModel", name := "feed", desc := "(IIIII)I" } : Jvm.MethodName) prog_8_method_5_code (12 : Nat) (Option.some Jvm.ClassFile.FieldType.int)) ∈ gG := gmm 1048 (by decide +kernel) (by decide +kernel)
theorem tw_1053 : (Jvm.Cond.methodLink "WaltzHallLaw" (97 : Nat) ({ cls := "WaltzHallModel", name := "trim", desc := "(I)I" } : Jvm.MethodName)) ∈ gG := gmm 1053 (by decide +kernel) (by decide +kernel)
theorem tw_1054 : (Jvm.Cond.instanceMethod ({ cls := "WaltzHallModel", name := "trim", desc := "(I)I" } : Jvm.MethodName)) ∈ gG := gmm 1054 (by decide +kernel) (by decide +kernel)
theorem tw_1055 : (Jvm.Cond.selects "WaltzHallModel" ({ cls := "WaltzHallModel", name := "trim", desc := "(I)I" } : Jvm.MethodName) ({ cls := "WaltzHallModel", name := "trim", desc := "(I)I" } : Jvm.MethodName)) ∈ gG := gmm 1055 (by decide +kernel) (by decide +kernel)
theorem tw_1056 : (Jvm.Cond.code ({ cls := "WaltzHallModel", name := "trim", desc := "(I)I" } : Jvm.MethodName) prog_8_method_6_code (2 : Nat) (Option.some Jvm.ClassFile.FieldType.int)) ∈ gG := gmm 1056 (by decide +kernel) (by decide +kernel)
theorem tw_1060 : (Jvm.Cond.methodLink "WaltzHallLaw" (100 : Nat) ({ cls := "WaltzHallModel", name := "learn", desc := "(I)I" } : Jvm.MethodName)) ∈ gG := gmm 1060 (by decide +kernel) (by decide +kernel)
theorem tw_1061 : (Jvm.Cond.instanceMethod ({ cls := "WaltzHallModel", name := "learn", desc := "(I)I" } : Jvm.MethodName)) ∈ gG := gmm 1061 (by decide +kernel) (by decide +kernel)
theorem tw_1062 : (Jvm.Cond.selects "WaltzHallModel" ({ cls := "WaltzHallModel", name := "learn", desc := "(I)I" } : Jvm.MethodName) ({ cls := "WaltzHallModel", name := "learn", desc := "(I)I" } : Jvm.MethodName)) ∈ gG := gmm 1062 (by decide +kernel) (by decide +kernel)
theorem tw_1063 : (Jvm.Cond.code ({ cls := "WaltzHallModel", name := "learn", desc := "(I)I" } : Jvm.MethodName) prog_8_method_8_code (5 : Nat) (Option.some Jvm.ClassFile.FieldType.int)) ∈ gG := gmm 1063 (by decide +kernel) (by decide +kernel)
theorem tw_1069 : (Jvm.Cond.methodLink "WaltzHallLaw" (104 : Nat) ({ cls := "WaltzHallModel", name := "figure", desc := "(II)I" } : Jvm.MethodName)) ∈ gG := gmm 1069 (by decide +kernel) (by decide +kernel)
theorem tw_1070 : (Jvm.Cond.instanceMethod ({ cls := "WaltzHallModel", name := "figure", desc := "(II)I" } : Jvm.MethodName)) ∈ gG := gmm 1070 (by decide +kernel) (by decide +kernel)
theorem tw_1071 : (Jvm.Cond.selects "WaltzHallModel" ({ cls := "WaltzHallModel", name := "figure", desc := "(II)I" } : Jvm.MethodName) ({ cls := "WaltzHallModel", name := "figure", desc := "(II)I" } : Jvm.MethodName)) ∈ gG := gmm 1071 (by decide +kernel) (by decide +kernel)
theorem tw_1072 : (Jvm.Cond.code ({ cls := "WaltzHallModel", name := "figure", desc := "(II)I" } : Jvm.MethodName) prog_8_method_9_code (3 : Nat) (Option.some Jvm.ClassFile.FieldType.int)) ∈ gG := gmm 1072 (by decide +kernel) (by decide +kernel)
theorem tw_1073 : (Jvm.Cond.methodLink "WaltzHallLaw" (107 : Nat) ({ cls := "WaltzHallModel", name := "drift", desc := "(II)I" } : Jvm.MethodName)) ∈ gG := gmm 1073 (by decide +kernel) (by decide +kernel)
theorem tw_1074 : (Jvm.Cond.instanceMethod ({ cls := "WaltzHallModel", name := "drift", desc := "(II)I" } : Jvm.MethodName)) ∈ gG := gmm 1074 (by decide +kernel) (by decide +kernel)
theorem tw_1075 : (Jvm.Cond.selects "WaltzHallModel" ({ cls := "WaltzHallModel", name := "drift", desc := "(II)I" } : Jvm.MethodName) ({ cls := "WaltzHallModel", name := "drift", desc := "(II)I" } : Jvm.MethodName)) ∈ gG := gmm 1075 (by decide +kernel) (by decide +kernel)
theorem tw_1076 : (Jvm.Cond.code ({ cls := "WaltzHallModel", name := "drift", desc := "(II)I" } : Jvm.MethodName) prog_8_method_10_code (9 : Nat) (Option.some Jvm.ClassFile.FieldType.int)) ∈ gG := gmm 1076 (by decide +kernel) (by decide +kernel)
theorem tw_1081 : (Jvm.Cond.methodLink "WaltzHallLaw" (111 : Nat) ({ cls := "WaltzHallModel", name := "come", desc := "(IIII)I" } : Jvm.MethodName)) ∈ gG := gmm 1081 (by decide +kernel) (by decide +kernel)
theorem tw_1082 : (Jvm.Cond.instanceMethod ({ cls := "WaltzHallModel", name := "come", desc := "(IIII)I" } : Jvm.MethodName)) ∈ gG := gmm 1082 (by decide +kernel) (by decide +kernel)
theorem tw_1083 : (Jvm.Cond.selects "WaltzHallModel" ({ cls := "WaltzHallModel", name := "come", desc := "(IIII)I" } : Jvm.MethodName) ({ cls := "WaltzHallModel", name := "come", desc := "(IIII)I" } : Jvm.MethodName)) ∈ gG := gmm 1083 (by decide +kernel) (by decide +kernel)
theorem tw_1084 : (Jvm.Cond.code ({ cls := "WaltzHallModel", name := "come", desc := "(IIII)I" } : Jvm.MethodName) prog_8_method_11_code (6 : Nat) (Option.some Jvm.ClassFile.FieldType.int)) ∈ gG := gmm 1084 (by decide +kernel) (by decide +kernel)
theorem tw_1089 : (Jvm.Cond.methodLink "WaltzHallLaw" (114 : Nat) ({ cls := "WaltzHallModel", name := "dance", desc := "(II)I" } : Jvm.MethodName)) ∈ gG := gmm 1089 (by decide +kernel) (by decide +kernel)
theorem tw_1090 : (Jvm.Cond.instanceMethod ({ cls := "WaltzHallModel", name := "dance", desc := "(II)I" } : Jvm.MethodName)) ∈ gG := gmm 1090 (by decide +kernel) (by decide +kernel)
theorem tw_1091 : (Jvm.Cond.selects "WaltzHallModel" ({ cls := "WaltzHallModel", name := "dance", desc := "(II)I" } : Jvm.MethodName) ({ cls := "WaltzHallModel", name := "dance", desc := "(II)I" } : Jvm.MethodName)) ∈ gG := gmm 1091 (by decide +kernel) (by decide +kernel)
theorem tw_1092 : (Jvm.Cond.code ({ cls := "WaltzHallModel", name := "dance", desc := "(II)I" } : Jvm.MethodName) prog_8_method_13_code (4 : Nat) (Option.some Jvm.ClassFile.FieldType.int)) ∈ gG := gmm 1092 (by decide +kernel) (by decide +kernel)
theorem tw_1097 : (Jvm.Cond.methodLink "WaltzHallLaw" (117 : Nat) ({ cls := "WaltzHallModel", name := "pair", desc := "(II)I" } : Jvm.MethodName)) ∈ gG := gmm 1097 (by decide +kernel) (by decide +kernel)
theorem tw_1098 : (Jvm.Cond.instanceMethod ({ cls := "WaltzHallModel", name := "pair", desc := "(II)I" } : Jvm.MethodName)) ∈ gG := gmm 1098 (by decide +kernel) (by decide +kernel)
theorem tw_1099 : (Jvm.Cond.selects "WaltzHallModel" ({ cls := "WaltzHallModel", name := "pair", desc := "(II)I" } : Jvm.MethodName) ({ cls := "WaltzHallModel", name := "pair", desc := "(II)I" } : Jvm.MethodName)) ∈ gG := gmm 1099 (by decide +kernel) (by decide +kernel)
theorem tw_1100 : (Jvm.Cond.code ({ cls := "WaltzHallModel", name := "pair", desc := "(II)I" } : Jvm.MethodName) prog_8_method_14_code (3 : Nat) (Option.some Jvm.ClassFile.FieldType.int)) ∈ gG := gmm 1100 (by decide +kernel) (by decide +kernel)
theorem tw_1114 : (Jvm.Cond.methodLink "WaltzHallLaw" (120 : Nat) ({ cls := "WaltzHallModel", name := "part", desc := "(I)I" } : Jvm.MethodName)) ∈ gG := gmm 1114 (by decide +kernel) (by decide +kernel)
theorem tw_1115 : (Jvm.Cond.instanceMethod ({ cls := "WaltzHallModel", name := "part", desc := "(I)I" } : Jvm.MethodName)) ∈ gG := gmm 1115 (by decide +kernel) (by decide +kernel)
theorem tw_1116 : (Jvm.Cond.selects "WaltzHallModel" ({ cls := "WaltzHallModel", name := "part", desc := "(I)I" } : Jvm.MethodName) ({ cls := "WaltzHallModel", name := "part", desc := "(I)I" } : Jvm.MethodName)) ∈ gG := gmm 1116 (by decide +kernel) (by decide +kernel)
theorem tw_1117 : (Jvm.Cond.code ({ cls := "WaltzHallModel", name := "part", desc := "(I)I" } : Jvm.MethodName) prog_8_method_15_code (8 : Nat) (Option.some Jvm.ClassFile.FieldType.int)) ∈ gG := gmm 1117 (by decide +kernel) (by decide +kernel)
theorem tw_1118 : (Jvm.Cond.methodLink "WaltzHallLaw" (123 : Nat) ({ cls := "WaltzHallModel", name := "wind", desc := "(II)I" } : Jvm.MethodName)) ∈ gG := gmm 1118 (by decide +kernel) (by decide +kernel)
theorem tw_1119 : (Jvm.Cond.instanceMethod ({ cls := "WaltzHallModel", name := "wind", desc := "(II)I" } : Jvm.MethodName)) ∈ gG := gmm 1119 (by decide +kernel) (by decide +kernel)
theorem tw_1120 : (Jvm.Cond.selects "WaltzHallModel" ({ cls := "WaltzHallModel", name := "wind", desc := "(II)I" } : Jvm.MethodName) ({ cls := "WaltzHallModel", name := "wind", desc := "(II)I" } : Jvm.MethodName)) ∈ gG := gmm 1120 (by decide +kernel) (by decide +kernel)
theorem tw_1121 : (Jvm.Cond.code ({ cls := "WaltzHallModel", name := "wind", desc := "(II)I" } : Jvm.MethodName) prog_8_method_16_code (3 : Nat) (Option.some Jvm.ClassFile.FieldType.int)) ∈ gG := gmm 1121 (by decide +kernel) (by decide +kernel)
theorem tw_1124 : (Jvm.Cond.methodLink "WaltzHallLaw" (126 : Nat) ({ cls := "WaltzHallModel", name := "dancer", desc := "(II)I" } : Jvm.MethodName)) ∈ gG := gmm 1124 (by decide +kernel) (by decide +kernel)
theorem tw_1125 : (Jvm.Cond.instanceMethod ({ cls := "WaltzHallModel", name := "dancer", desc := "(II)I" } : Jvm.MethodName)) ∈ gG := gmm 1125 (by decide +kernel) (by decide +kernel)
theorem tw_1126 : (Jvm.Cond.selects "WaltzHallModel" ({ cls := "WaltzHallModel", name := "dancer", desc := "(II)I" } : Jvm.MethodName) ({ cls := "WaltzHallModel", name := "dancer", desc := "(II)I" } : Jvm.MethodName)) ∈ gG := gmm 1126 (by decide +kernel) (by decide +kernel)
theorem tw_1127 : (Jvm.Cond.code ({ cls := "WaltzHallModel", name := "dancer", desc := "(II)I" } : Jvm.MethodName) prog_8_method_18_code (3 : Nat) (Option.some Jvm.ClassFile.FieldType.int)) ∈ gG := gmm 1127 (by decide +kernel) (by decide +kernel)
theorem tw_1132 : (Jvm.Cond.methodLink "WaltzHallLaw" (129 : Nat) ({ cls := "WaltzHallModel", name := "at", desc := "(II)I" } : Jvm.MethodName)) ∈ gG := gmm 1132 (by decide +kernel) (by decide +kernel)
theorem tw_1133 : (Jvm.Cond.instanceMethod ({ cls := "WaltzHallModel", name := "at", desc := "(II)I" } : Jvm.MethodName)) ∈ gG := gmm 1133 (by decide +kernel) (by decide +kernel)
theorem tw_1134 : (Jvm.Cond.selects "WaltzHallModel" ({ cls := "WaltzHallModel", name := "at", desc := "(II)I" } : Jvm.MethodName) ({ cls := "WaltzHallModel", name := "at", desc := "(II)I" } : Jvm.MethodName)) ∈ gG := gmm 1134 (by decide +kernel) (by decide +kernel)
theorem tw_1135 : (Jvm.Cond.code ({ cls := "WaltzHallModel", name := "at", desc := "(II)I" } : Jvm.MethodName) prog_8_method_19_code (3 : Nat) (Option.some Jvm.ClassFile.FieldType.int)) ∈ gG := gmm 1135 (by decide +kernel) (by decide +kernel)
theorem tw_1136 : (Jvm.Cond.methodLink "WaltzHallLaw" (133 : Nat) ({ cls := "WaltzHallModel", name := "addWinder", desc := "(III)I" } : Jvm.MethodName)) ∈ gG := gmm 1136 (by decide +kernel) (by decide +kernel)
theorem tw_1137 : (Jvm.Cond.instanceMethod ({ cls := "WaltzHallModel", name := "addWinder", desc := "(III)I" } : Jvm.MethodName)) ∈ gG := gmm 1137 (by decide +kernel) (by decide +kernel)
theorem tw_1138 : (Jvm.Cond.selects "WaltzHallModel" ({ cls := "WaltzHallModel", name := "addWinder", desc := "(III)I" } : Jvm.MethodName) ({ cls := "WaltzHallModel", name := "addWinder", desc := "(III)I" } : Jvm.MethodName)) ∈ gG := gmm 1138 (by decide +kernel) (by decide +kernel)
theorem tw_1139 : (Jvm.Cond.code ({ cls := "WaltzHallModel", name := "addWinder", desc := "(III)I" } : Jvm.MethodName) prog_8_method_20_code (5 : Nat) (Option.some Jvm.ClassFile.FieldType.int)) ∈ gG := gmm 1139 (by decide +kernel) (by decide +kernel)
theorem tw_1140 : (Jvm.Cond.methodLink "WaltzHallLaw" (136 : Nat) ({ cls := "WaltzHallModel", name := "call", desc := "(II)I" } : Jvm.MethodName)) ∈ gG := gmm 1140 (by decide +kernel) (by decide +kernel)
theorem tw_1141 : (Jvm.Cond.instanceMethod ({ cls := "WaltzHallModel", name := "call", desc := "(II)I" } : Jvm.MethodName)) ∈ gG := gmm 1141 (by decide +kernel) (by decide +kernel)
theorem tw_1142 : (Jvm.Cond.selects "WaltzHallModel" ({ cls := "WaltzHallModel", name := "call", desc := "(II)I" } : Jvm.MethodName) ({ cls := "WaltzHallModel", name := "call", desc := "(II)I" } : Jvm.MethodName)) ∈ gG := gmm 1142 (by decide +kernel) (by decide +kernel)
theorem tw_1143 : (Jvm.Cond.code ({ cls := "WaltzHallModel", name := "call", desc := "(II)I" } : Jvm.MethodName) prog_8_method_22_code (4 : Nat) (Option.some Jvm.ClassFile.FieldType.int)) ∈ gG := gmm 1143 (by decide +kernel) (by decide +kernel)
theorem tw_1148 : (Jvm.Cond.methodLink "WaltzHallLaw" (139 : Nat) ({ cls := "WaltzHallModel", name := "winder", desc := "(II)I" } : Jvm.MethodName)) ∈ gG := gmm 1148 (by decide +kernel) (by decide +kernel)
theorem tw_1149 : (Jvm.Cond.instanceMethod ({ cls := "WaltzHallModel", name := "winder", desc := "(II)I" } : Jvm.MethodName)) ∈ gG := gmm 1149 (by decide +kernel) (by decide +kernel)
theorem tw_1150 : (Jvm.Cond.selects "WaltzHallModel" ({ cls := "WaltzHallModel", name := "winder", desc := "(II)I" } : Jvm.MethodName) ({ cls := "WaltzHallModel", name := "winder", desc := "(II)I" } : Jvm.MethodName)) ∈ gG := gmm 1150 (by decide +kernel) (by decide +kernel)
theorem tw_1151 : (Jvm.Cond.code ({ cls := "WaltzHallModel", name := "winder", desc := "(II)I" } : Jvm.MethodName) prog_8_method_24_code (3 : Nat) (Option.some Jvm.ClassFile.FieldType.int)) ∈ gG := gmm 1151 (by decide +kernel) (by decide +kernel)
theorem tw_1156 : (Jvm.Cond.methodLink "WaltzHallLaw" (142 : Nat) ({ cls := "WaltzHallModel", name := "pass", desc := "(I)I" } : Jvm.MethodName)) ∈ gG := gmm 1156 (by decide +kernel) (by decide +kernel)
theorem tw_1157 : (Jvm.Cond.instanceMethod ({ cls := "WaltzHallModel", name := "pass", desc := "(I)I" } : Jvm.MethodName)) ∈ gG := gmm 1157 (by decide +kernel) (by decide +kernel)
theorem tw_1158 : (Jvm.Cond.selects "WaltzHallModel" ({ cls := "WaltzHallModel", name := "pass", desc := "(I)I" } : Jvm.MethodName) ({ cls := "WaltzHallModel", name := "pass", desc := "(I)I" } : Jvm.MethodName)) ∈ gG := gmm 1158 (by decide +kernel) (by decide +kernel)
theorem tw_1159 : (Jvm.Cond.code ({ cls := "WaltzHallModel", name := "pass", desc := "(I)I" } : Jvm.MethodName) prog_8_method_25_code (4 : Nat) (Option.some Jvm.ClassFile.FieldType.int)) ∈ gG := gmm 1159 (by decide +kernel) (by decide +kernel)
theorem tw_1202 : (Jvm.Cond.methodLink "WaltzHallLaw" (145 : Nat) ({ cls := "WaltzHallModel", name := "count", desc := "(I)I" } : Jvm.MethodName)) ∈ gG := gmm 1202 (by decide +kernel) (by decide +kernel)
theorem tw_1203 : (Jvm.Cond.instanceMethod ({ cls := "WaltzHallModel", name := "count", desc := "(I)I" } : Jvm.MethodName)) ∈ gG := gmm 1203 (by decide +kernel) (by decide +kernel)
theorem tw_1204 : (Jvm.Cond.selects "WaltzHallModel" ({ cls := "WaltzHallModel", name := "count", desc := "(I)I" } : Jvm.MethodName) ({ cls := "WaltzHallModel", name := "count", desc := "(I)I" } : Jvm.MethodName)) ∈ gG := gmm 1204 (by decide +kernel) (by decide +kernel)
theorem tw_1205 : (Jvm.Cond.code ({ cls := "WaltzHallModel", name := "count", desc := "(I)I" } : Jvm.MethodName) prog_8_method_27_code (2 : Nat) (Option.some Jvm.ClassFile.FieldType.int)) ∈ gG := gmm 1205 (by decide +kernel) (by decide +kernel)
theorem tw_1210 : (Jvm.Cond.methodLink "WaltzHallLaw" (148 : Nat) ({ cls := "WaltzHallModel", name := "foresee", desc := "(III)I" } : Jvm.MethodName)) ∈ gG := gmm 1210 (by decide +kernel) (by decide +kernel)
theorem tw_1211 : (Jvm.Cond.instanceMethod ({ cls := "WaltzHallModel", name := "foresee", desc := "(III)I" } : Jvm.MethodName)) ∈ gG := gmm 1211 (by decide +kernel) (by decide +kernel)
theorem tw_1212 : (Jvm.Cond.selects "WaltzHallModel" ({ cls := "WaltzHallModel", name := "foresee", desc := "(III)I" } : Jvm.MethodName) ({ cls := "WaltzHallModel", name := "foresee", desc := "(III)I" } : Jvm.MethodName)) ∈ gG := gmm 1212 (by decide +kernel) (by decide +kernel)
theorem tw_1213 : (Jvm.Cond.code ({ cls := "WaltzHallModel", name := "foresee", desc := "(III)I" } : Jvm.MethodName) prog_8_method_28_code (5 : Nat) (Option.some Jvm.ClassFile.FieldType.int)) ∈ gG := gmm 1213 (by decide +kernel) (by decide +kernel)
theorem tw_1223 : (Jvm.Cond.methodLink "WaltzHallLaw" (151 : Nat) ({ cls := "WaltzHallModel", name := "firstToStop", desc := "(I)I" } : Jvm.MethodName)) ∈ gG := gmm 1223 (by decide +kernel) (by decide +kernel)
theorem tw_1224 : (Jvm.Cond.instanceMethod ({ cls := "WaltzHallModel", name := "firstToStop", desc := "(I)I" } : Jvm.MethodName)) ∈ gG := gmm 1224 (by decide +kernel) (by decide +kernel)
theorem tw_1225 : (Jvm.Cond.selects "WaltzHallModel" ({ cls := "WaltzHallModel", name := "firstToStop", desc := "(I)I" } : Jvm.MethodName) ({ cls := "WaltzHallModel", name := "firstToStop", desc := "(I)I" } : Jvm.MethodName)) ∈ gG := gmm 1225 (by decide +kernel) (by decide +kernel)
theorem tw_1226 : (Jvm.Cond.code ({ cls := "WaltzHallModel", name := "firstToStop", desc := "(I)I" } : Jvm.MethodName) prog_8_method_29_code (5 : Nat) (Option.some Jvm.ClassFile.FieldType.int)) ∈ gG := gmm 1226 (by decide +kernel) (by decide +kernel)
theorem tw_1228 : (Jvm.Cond.methodLink "WaltzHallLaw" (154 : Nat) ({ cls := "WaltzHallModel", name := "meet", desc := "(III)I" } : Jvm.MethodName)) ∈ gG := gmm 1228 (by decide +kernel) (by decide +kernel)
theorem tw_1229 : (Jvm.Cond.instanceMethod ({ cls := "WaltzHallModel", name := "meet", desc := "(III)I" } : Jvm.MethodName)) ∈ gG := gmm 1229 (by decide +kernel) (by decide +kernel)
theorem tw_1230 : (Jvm.Cond.selects "WaltzHallModel" ({ cls := "WaltzHallModel", name := "meet", desc := "(III)I" } : Jvm.MethodName) ({ cls := "WaltzHallModel", name := "meet", desc := "(III)I" } : Jvm.MethodName)) ∈ gG := gmm 1230 (by decide +kernel) (by decide +kernel)
theorem tw_1231 : (Jvm.Cond.code ({ cls := "WaltzHallModel", name := "meet", desc := "(III)I" } : Jvm.MethodName) prog_8_method_30_code (5 : Nat) (Option.some Jvm.ClassFile.FieldType.int)) ∈ gG := gmm 1231 (by decide +kernel) (by decide +kernel)
theorem tw_1232 : (Jvm.Cond.methodLink "WaltzHallLaw" (159 : Nat) ({ cls := "WaltzHallModel", name := "tension", desc := "()D" } : Jvm.MethodName)) ∈ gG := gmm 1232 (by decide +kernel) (by decide +kernel)
theorem tw_1233 : (Jvm.Cond.instanceMethod ({ cls := "WaltzHallModel", name := "tension", desc := "()D" } : Jvm.MethodName)) ∈ gG := gmm 1233 (by decide +kernel) (by decide +kernel)
theorem tw_1234 : (Jvm.Cond.selects "WaltzHallModel" ({ cls := "WaltzHallModel", name := "tension", desc := "()D" } : Jvm.MethodName) ({ cls := "WaltzHallModel", name := "tension", desc := "()D" } : Jvm.MethodName)) ∈ gG := gmm 1234 (by decide +kernel) (by decide +kernel)
theorem tw_1235 : (Jvm.Cond.code ({ cls := "WaltzHallModel", name := "tension", desc := "()D" } : Jvm.MethodName) prog_8_method_31_code (1 : Nat) (Option.some Jvm.ClassFile.FieldType.double)) ∈ gG := gmm 1235 (by decide +kernel) (by decide +kernel)
theorem tw_1236 : (Jvm.Cond.methodLink "WaltzHallLaw" (164 : Nat) ({ cls := "WaltzHallModel", name := "digest", desc := "()J" } : Jvm.MethodName)) ∈ gG := gmm 1236 (by decide +kernel) (by decide +kernel)
theorem tw_1237 : (Jvm.Cond.instanceMethod ({ cls := "WaltzHallModel", name := "digest", desc := "()J" } : Jvm.MethodName)) ∈ gG := gmm 1237 (by decide +kernel) (by decide +kernel)
theorem tw_1238 : (Jvm.Cond.selects "WaltzHallModel" ({ cls := "WaltzHallModel", name := "digest", desc := "()J" } : Jvm.MethodName) ({ cls := "WaltzHallModel", name := "digest", desc := "()J" } : Jvm.MethodName)) ∈ gG := gmm 1238 (by decide +kernel) (by decide +kernel)
theorem tw_1239 : (Jvm.Cond.code ({ cls := "WaltzHallModel", name := "digest", desc := "()J" } : Jvm.MethodName) prog_8_method_32_code (5 : Nat) (Option.some Jvm.ClassFile.FieldType.long)) ∈ gG := gmm 1239 (by decide +kernel) (by decide +kernel)
theorem tw_1242 : (Jvm.Cond.arrayClass Jvm.ClassFile.FieldType.long) ∈ gG := gmm 1242 (by decide +kernel) (by decide +kernel)
theorem hd_H_digest : y_H_digest.cls ≠ "java/lang/invoke/MethodHandle" ∧ y_H_digest.cls ≠ "java/lang/invoke/VarHandle" ∧ (parseMethodDescriptor y_H_digest.desc).map (fun d => d.parameters.length) = some 0 := by decide +kernel
theorem hd_H_init : y_H_init.cls ≠ "java/lang/invoke/MethodHandle" ∧ y_H_init.cls ≠ "java/lang/invoke/VarHandle" ∧ (parseMethodDescriptor y_H_init.desc).map (fun d => d.parameters.length) = some 0 := by decide +kernel
theorem hd_H_tension : y_H_tension.cls ≠ "java/lang/invoke/MethodHandle" ∧ y_H_tension.cls ≠ "java/lang/invoke/VarHandle" ∧ (parseMethodDescriptor y_H_tension.desc).map (fun d => d.parameters.length) = some 0 := by decide +kernel
theorem hd_L_addWinder : y_L_addWinder.cls ≠ "java/lang/invoke/MethodHandle" ∧ y_L_addWinder.cls ≠ "java/lang/invoke/VarHandle" ∧ (parseMethodDescriptor y_L_addWinder.desc).map (fun d => d.parameters.length) = some 5 := by decide +kernel
theorem hd_L_at : y_L_at.cls ≠ "java/lang/invoke/MethodHandle" ∧ y_L_at.cls ≠ "java/lang/invoke/VarHandle" ∧ (parseMethodDescriptor y_L_at.desc).map (fun d => d.parameters.length) = some 4 := by decide +kernel
theorem hd_L_call : y_L_call.cls ≠ "java/lang/invoke/MethodHandle" ∧ y_L_call.cls ≠ "java/lang/invoke/VarHandle" ∧ (parseMethodDescriptor y_L_call.desc).map (fun d => d.parameters.length) = some 4 := by decide +kernel
theorem hd_L_come : y_L_come.cls ≠ "java/lang/invoke/MethodHandle" ∧ y_L_come.cls ≠ "java/lang/invoke/VarHandle" ∧ (parseMethodDescriptor y_L_come.desc).map (fun d => d.parameters.length) = some 6 := by decide +kernel
theorem hd_L_count : y_L_count.cls ≠ "java/lang/invoke/MethodHandle" ∧ y_L_count.cls ≠ "java/lang/invoke/VarHandle" ∧ (parseMethodDescriptor y_L_count.desc).map (fun d => d.parameters.length) = some 3 := by decide +kernel
theorem hd_L_dance : y_L_dance.cls ≠ "java/lang/invoke/MethodHandle" ∧ y_L_dance.cls ≠ "java/lang/invoke/VarHandle" ∧ (parseMethodDescriptor y_L_dance.desc).map (fun d => d.parameters.length) = some 4 := by decide +kernel
theorem hd_L_dancer : y_L_dancer.cls ≠ "java/lang/invoke/MethodHandle" ∧ y_L_dancer.cls ≠ "java/lang/invoke/VarHandle" ∧ (parseMethodDescriptor y_L_dancer.desc).map (fun d => d.parameters.length) = some 4 := by decide +kernel
theorem hd_L_drift : y_L_drift.cls ≠ "java/lang/invoke/MethodHandle" ∧ y_L_drift.cls ≠ "java/lang/invoke/VarHandle" ∧ (parseMethodDescriptor y_L_drift.desc).map (fun d => d.parameters.length) = some 4 := by decide +kernel
theorem hd_L_feed : y_L_feed.cls ≠ "java/lang/invoke/MethodHandle" ∧ y_L_feed.cls ≠ "java/lang/invoke/VarHandle" ∧ (parseMethodDescriptor y_L_feed.desc).map (fun d => d.parameters.length) = some 7 := by decide +kernel
theorem hd_L_figure : y_L_figure.cls ≠ "java/lang/invoke/MethodHandle" ∧ y_L_figure.cls ≠ "java/lang/invoke/VarHandle" ∧ (parseMethodDescriptor y_L_figure.desc).map (fun d => d.parameters.length) = some 4 := by decide +kernel
theorem hd_L_firstToStop : y_L_firstToStop.cls ≠ "java/lang/invoke/MethodHandle" ∧ y_L_firstToStop.cls ≠ "java/lang/invoke/VarHandle" ∧ (parseMethodDescriptor y_L_firstToStop.desc).map (fun d => d.parameters.length) = some 3 := by decide +kernel
theorem hd_L_foresee : y_L_foresee.cls ≠ "java/lang/invoke/MethodHandle" ∧ y_L_foresee.cls ≠ "java/lang/invoke/VarHandle" ∧ (parseMethodDescriptor y_L_foresee.desc).map (fun d => d.parameters.length) = some 5 := by decide +kernel
theorem hd_L_learn : y_L_learn.cls ≠ "java/lang/invoke/MethodHandle" ∧ y_L_learn.cls ≠ "java/lang/invoke/VarHandle" ∧ (parseMethodDescriptor y_L_learn.desc).map (fun d => d.parameters.length) = some 3 := by decide +kernel
theorem hd_L_meet : y_L_meet.cls ≠ "java/lang/invoke/MethodHandle" ∧ y_L_meet.cls ≠ "java/lang/invoke/VarHandle" ∧ (parseMethodDescriptor y_L_meet.desc).map (fun d => d.parameters.length) = some 5 := by decide +kernel
theorem hd_L_pair : y_L_pair.cls ≠ "java/lang/invoke/MethodHandle" ∧ y_L_pair.cls ≠ "java/lang/invoke/VarHandle" ∧ (parseMethodDescriptor y_L_pair.desc).map (fun d => d.parameters.length) = some 4 := by decide +kernel
theorem hd_L_part : y_L_part.cls ≠ "java/lang/invoke/MethodHandle" ∧ y_L_part.cls ≠ "java/lang/invoke/VarHandle" ∧ (parseMethodDescriptor y_L_part.desc).map (fun d => d.parameters.length) = some 3 := by decide +kernel
theorem hd_L_pass : y_L_pass.cls ≠ "java/lang/invoke/MethodHandle" ∧ y_L_pass.cls ≠ "java/lang/invoke/VarHandle" ∧ (parseMethodDescriptor y_L_pass.desc).map (fun d => d.parameters.length) = some 3 := by decide +kernel
theorem hd_L_trim : y_L_trim.cls ≠ "java/lang/invoke/MethodHandle" ∧ y_L_trim.cls ≠ "java/lang/invoke/VarHandle" ∧ (parseMethodDescriptor y_L_trim.desc).map (fun d => d.parameters.length) = some 3 := by decide +kernel
theorem hd_L_wind : y_L_wind.cls ≠ "java/lang/invoke/MethodHandle" ∧ y_L_wind.cls ≠ "java/lang/invoke/VarHandle" ∧ (parseMethodDescriptor y_L_wind.desc).map (fun d => d.parameters.length) = some 4 := by decide +kernel
theorem hd_L_winder : y_L_winder.cls ≠ "java/lang/invoke/MethodHandle" ∧ y_L_winder.cls ≠ "java/lang/invoke/VarHandle" ∧ (parseMethodDescriptor y_L_winder.desc).map (fun d => d.parameters.length) = some 4 := by decide +kernel
theorem hd_M_addWinder : y_M_addWinder.cls ≠ "java/lang/invoke/MethodHandle" ∧ y_M_addWinder.cls ≠ "java/lang/invoke/VarHandle" ∧ (parseMethodDescriptor y_M_addWinder.desc).map (fun d => d.parameters.length) = some 3 := by decide +kernel
theorem hd_M_at : y_M_at.cls ≠ "java/lang/invoke/MethodHandle" ∧ y_M_at.cls ≠ "java/lang/invoke/VarHandle" ∧ (parseMethodDescriptor y_M_at.desc).map (fun d => d.parameters.length) = some 2 := by decide +kernel
theorem hd_M_call : y_M_call.cls ≠ "java/lang/invoke/MethodHandle" ∧ y_M_call.cls ≠ "java/lang/invoke/VarHandle" ∧ (parseMethodDescriptor y_M_call.desc).map (fun d => d.parameters.length) = some 2 := by decide +kernel
theorem hd_M_come : y_M_come.cls ≠ "java/lang/invoke/MethodHandle" ∧ y_M_come.cls ≠ "java/lang/invoke/VarHandle" ∧ (parseMethodDescriptor y_M_come.desc).map (fun d => d.parameters.length) = some 4 := by decide +kernel
theorem hd_M_count : y_M_count.cls ≠ "java/lang/invoke/MethodHandle" ∧ y_M_count.cls ≠ "java/lang/invoke/VarHandle" ∧ (parseMethodDescriptor y_M_count.desc).map (fun d => d.parameters.length) = some 1 := by decide +kernel
theorem hd_M_dance : y_M_dance.cls ≠ "java/lang/invoke/MethodHandle" ∧ y_M_dance.cls ≠ "java/lang/invoke/VarHandle" ∧ (parseMethodDescriptor y_M_dance.desc).map (fun d => d.parameters.length) = some 2 := by decide +kernel
theorem hd_M_dancer : y_M_dancer.cls ≠ "java/lang/invoke/MethodHandle" ∧ y_M_dancer.cls ≠ "java/lang/invoke/VarHandle" ∧ (parseMethodDescriptor y_M_dancer.desc).map (fun d => d.parameters.length) = some 2 := by decide +kernel
theorem hd_M_digest : y_M_digest.cls ≠ "java/lang/invoke/MethodHandle" ∧ y_M_digest.cls ≠ "java/lang/invoke/VarHandle" ∧ (parseMethodDescriptor y_M_digest.desc).map (fun d => d.parameters.length) = some 0 := by decide +kernel
theorem hd_M_drift : y_M_drift.cls ≠ "java/lang/invoke/MethodHandle" ∧ y_M_drift.cls ≠ "java/lang/invoke/VarHandle" ∧ (parseMethodDescriptor y_M_drift.desc).map (fun d => d.parameters.length) = some 2 := by decide +kernel
theorem hd_M_feed : y_M_feed.cls ≠ "java/lang/invoke/MethodHandle" ∧ y_M_feed.cls ≠ "java/lang/invoke/VarHandle" ∧ (parseMethodDescriptor y_M_feed.desc).map (fun d => d.parameters.length) = some 5 := by decide +kernel
theorem hd_M_figure : y_M_figure.cls ≠ "java/lang/invoke/MethodHandle" ∧ y_M_figure.cls ≠ "java/lang/invoke/VarHandle" ∧ (parseMethodDescriptor y_M_figure.desc).map (fun d => d.parameters.length) = some 2 := by decide +kernel
theorem hd_M_firstToStop : y_M_firstToStop.cls ≠ "java/lang/invoke/MethodHandle" ∧ y_M_firstToStop.cls ≠ "java/lang/invoke/VarHandle" ∧ (parseMethodDescriptor y_M_firstToStop.desc).map (fun d => d.parameters.length) = some 1 := by decide +kernel
theorem hd_M_foresee : y_M_foresee.cls ≠ "java/lang/invoke/MethodHandle" ∧ y_M_foresee.cls ≠ "java/lang/invoke/VarHandle" ∧ (parseMethodDescriptor y_M_foresee.desc).map (fun d => d.parameters.length) = some 3 := by decide +kernel
theorem hd_M_init : y_M_init.cls ≠ "java/lang/invoke/MethodHandle" ∧ y_M_init.cls ≠ "java/lang/invoke/VarHandle" ∧ (parseMethodDescriptor y_M_init.desc).map (fun d => d.parameters.length) = some 0 := by decide +kernel
theorem hd_M_learn : y_M_learn.cls ≠ "java/lang/invoke/MethodHandle" ∧ y_M_learn.cls ≠ "java/lang/invoke/VarHandle" ∧ (parseMethodDescriptor y_M_learn.desc).map (fun d => d.parameters.length) = some 1 := by decide +kernel
theorem hd_M_meet : y_M_meet.cls ≠ "java/lang/invoke/MethodHandle" ∧ y_M_meet.cls ≠ "java/lang/invoke/VarHandle" ∧ (parseMethodDescriptor y_M_meet.desc).map (fun d => d.parameters.length) = some 3 := by decide +kernel
theorem hd_M_pair : y_M_pair.cls ≠ "java/lang/invoke/MethodHandle" ∧ y_M_pair.cls ≠ "java/lang/invoke/VarHandle" ∧ (parseMethodDescriptor y_M_pair.desc).map (fun d => d.parameters.length) = some 2 := by decide +kernel
theorem hd_M_part : y_M_part.cls ≠ "java/lang/invoke/MethodHandle" ∧ y_M_part.cls ≠ "java/lang/invoke/VarHandle" ∧ (parseMethodDescriptor y_M_part.desc).map (fun d => d.parameters.length) = some 1 := by decide +kernel
theorem hd_M_pass : y_M_pass.cls ≠ "java/lang/invoke/MethodHandle" ∧ y_M_pass.cls ≠ "java/lang/invoke/VarHandle" ∧ (parseMethodDescriptor y_M_pass.desc).map (fun d => d.parameters.length) = some 1 := by decide +kernel
theorem hd_M_tension : y_M_tension.cls ≠ "java/lang/invoke/MethodHandle" ∧ y_M_tension.cls ≠ "java/lang/invoke/VarHandle" ∧ (parseMethodDescriptor y_M_tension.desc).map (fun d => d.parameters.length) = some 0 := by decide +kernel
theorem hd_M_thrown : y_M_thrown.cls ≠ "java/lang/invoke/MethodHandle" ∧ y_M_thrown.cls ≠ "java/lang/invoke/VarHandle" ∧ (parseMethodDescriptor y_M_thrown.desc).map (fun d => d.parameters.length) = some 0 := by decide +kernel
theorem hd_M_trim : y_M_trim.cls ≠ "java/lang/invoke/MethodHandle" ∧ y_M_trim.cls ≠ "java/lang/invoke/VarHandle" ∧ (parseMethodDescriptor y_M_trim.desc).map (fun d => d.parameters.length) = some 1 := by decide +kernel
theorem hd_M_wind : y_M_wind.cls ≠ "java/lang/invoke/MethodHandle" ∧ y_M_wind.cls ≠ "java/lang/invoke/VarHandle" ∧ (parseMethodDescriptor y_M_wind.desc).map (fun d => d.parameters.length) = some 2 := by decide +kernel
theorem hd_M_winder : y_M_winder.cls ≠ "java/lang/invoke/MethodHandle" ∧ y_M_winder.cls ≠ "java/lang/invoke/VarHandle" ∧ (parseMethodDescriptor y_M_winder.desc).map (fun d => d.parameters.length) = some 2 := by decide +kernel
def w_L_law (S : St) (L : Nat) (xs : Nat → Int32) : Prop :=
  ∀ (q1 : Nat) (S2 : St), q1 ∉ sL S → S2 = pNew S q1 6 0 → w_H_init (fun (S4 : St) => ∀ (q6 : Nat) (S7 : St), q6 ∉ sL S4 → S7 = pNew S4 q6 8 0 → w_M_init (fun (S9 : St) => ∀ (q11 : Nat) (S12 : St), q11 ∉ sL S9 → S12 = pNew S9 q11 13 1 → ∃ J23 : Nat → St → Int32 → Nat → Nat → Prop, (∃ n : Nat, J23 n S12 0 69 924) ∧ ∀ (n23 : Nat) (S_23 : St) (v4_23 : Int32) (kc_23 ks_23 : Nat), J23 n23 S_23 v4_23 kc_23 ks_23 → (kc_23 ≤ 601024 ∧ ks_23 ≤ 7293034) ∧ (((Int32.ofNat L) - 6) < v4_23 → True) ∧ (¬ ((Int32.ofNat L) - 6) < v4_23 → vp_in v4_23 L ∧ ∀ v18 : Int32, v18 = xs v4_23.toNatClampNeg → ∃ J1583 : St → Nat → Nat → Prop, (∀ (S_1583 : St) (kc_1583 ks_1583 : Nat), J1583 S_1583 kc_1583 ks_1583 → (kc_1583 ≤ 601024 ∧ ks_1583 ≤ 7293034) ∧ ∀ v20 : Int32, v20 = v4_23 + 6 → ∃ nx : Nat, nx < n23 ∧ J23 nx S_1583 v20 kc_1583 ks_1583) ∧ ((v18 &&& 31) = 0 → vp_in (v4_23 + 1) L ∧ ∀ v24 : Int32, v24 = xs (v4_23 + 1).toNatClampNeg → vp_in (v4_23 + 2) L ∧ ∀ v26 : Int32, v26 = xs (v4_23 + 2).toNatClampNeg → vp_in (v4_23 + 3) L ∧ ∀ v28 : Int32, v28 = xs (v4_23 + 3).toNatClampNeg → vp_in (v4_23 + 4) L ∧ ∀ v30 : Int32, v30 = xs (v4_23 + 4).toNatClampNeg → vp_in (v4_23 + 5) L ∧ ∀ v32 : Int32, v32 = xs (v4_23 + 5).toNatClampNeg → (kc_23 + 1 ≤ 601024 ∧ ks_23 + 6 ≤ 7293034) ∧ w_L_feed (fun (r33 : Int32) (S34 : St) => vp_in (v4_23 + 1) L ∧ ∀ v38 : Int32, v38 = xs (v4_23 + 1).toNatClampNeg → vp_in (v4_23 + 2) L ∧ ∀ v40 : Int32, v40 = xs (v4_23 + 2).toNatClampNeg → vp_in (v4_23 + 3) L ∧ ∀ v42 : Int32, v42 = xs (v4_23 + 3).toNatClampNeg → vp_in (v4_23 + 4) L ∧ ∀ v44 : Int32, v44 = xs (v4_23 + 4).toNatClampNeg → vp_in (v4_23 + 5) L ∧ ∀ v46 : Int32, v46 = xs (v4_23 + 5).toNatClampNeg → (kc_23 + 2 ≤ 601024 ∧ ks_23 + 11 ≤ 7293034) ∧ w_M_feed (fun (r47 : Int32) (S48 : St) => w_M_thrown (fun (r51 : Int32) => (r51 = r33 → ∃ J245 : Prop, (J245 → J1583 S48 (kc_23 + 2) (ks_23 + 11)) ∧ (r33 = 0 → vp_in 0 (sN S48 q11) ∧ ((lg_cmp (sJ S48 q11 (0 : Int32).toNatClampNeg) (r47.toInt64)) = 0 → J245) ∧ (¬ (lg_cmp (sJ S48 q11 (0 : Int32).toNatClampNeg) (r47.toInt64)) = 0 → False)) ∧ (¬ r33 = 0 → J245)) ∧ (¬ r51 = r33 → False)) S48 q6) S34 q6 v38 v40 v42 v44 v46) S_23 (some q1) v24 v26 v28 v30 v32 (some q11)) ∧ ((v18 &&& 31) = 1 → vp_in (v4_23 + 1) L ∧ ∀ v59 : Int32, v59 = xs (v4_23 + 1).toNatClampNeg → (kc_23 + 1 ≤ 601024 ∧ ks_23 + 6 ≤ 7293034) ∧ w_L_trim (fun (r60 : Int32) (S61 : St) => vp_in (v4_23 + 1) L ∧ ∀ v65 : Int32, v65 = xs (v4_23 + 1).toNatClampNeg → w_M_trim (fun (r66 : Int32) (S67 : St) => w_M_thrown (fun (r69 : Int32) => (r69 = r60 → ∃ J301 : Prop, (J301 → J1583 S67 (kc_23 + 1) (ks_23 + 6)) ∧ (r60 = 0 → vp_in 0 (sN S67 q11) ∧ ((lg_cmp (sJ S67 q11 (0 : Int32).toNatClampNeg) (r66.toInt64)) = 0 → J301) ∧ (¬ (lg_cmp (sJ S67 q11 (0 : Int32).toNatClampNeg) (r66.toInt64)) = 0 → False)) ∧ (¬ r60 = 0 → J301)) ∧ (¬ r69 = r60 → False)) S67 q6) S61 q6 v65) S_23 (some q1) v59 (some q11)) ∧ ((v18 &&& 31) = 2 → vp_in (v4_23 + 1) L ∧ ∀ v77 : Int32, v77 = xs (v4_23 + 1).toNatClampNeg → (kc_23 + 1 ≤ 601024 ∧ ks_23 + 6 ≤ 7293034) ∧ w_L_learn (fun (r78 : Int32) (S79 : St) => vp_in (v4_23 + 1) L ∧ ∀ v83 : Int32, v83 = xs (v4_23 + 1).toNatClampNeg → w_M_learn (fun (r84 : Int32) (S85 : St) => w_M_thrown (fun (r87 : Int32) => (r87 = r78 → ∃ J357 : Prop, (J357 → J1583 S85 (kc_23 + 1) (ks_23 + 6)) ∧ (r78 = 0 → vp_in 0 (sN S85 q11) ∧ ((lg_cmp (sJ S85 q11 (0 : Int32).toNatClampNeg) (r84.toInt64)) = 0 → J357) ∧ (¬ (lg_cmp (sJ S85 q11 (0 : Int32).toNatClampNeg) (r84.toInt64)) = 0 → False)) ∧ (¬ r78 = 0 → J357)) ∧ (¬ r87 = r78 → False)) S85 q6) S79 q6 v83) S_23 (some q1) v77 (some q11)) ∧ ((v18 &&& 31) = 3 → vp_in (v4_23 + 1) L ∧ ∀ v95 : Int32, v95 = xs (v4_23 + 1).toNatClampNeg → vp_in (v4_23 + 2) L ∧ ∀ v97 : Int32, v97 = xs (v4_23 + 2).toNatClampNeg → (kc_23 + 2 ≤ 601024 ∧ ks_23 + 12 ≤ 7293034) ∧ w_L_figure (fun (r98 : Int32) (S99 : St) => vp_in (v4_23 + 1) L ∧ ∀ v103 : Int32, v103 = xs (v4_23 + 1).toNatClampNeg → vp_in (v4_23 + 2) L ∧ ∀ v105 : Int32, v105 = xs (v4_23 + 2).toNatClampNeg → w_M_figure (fun (r106 : Int32) (S107 : St) => w_M_thrown (fun (r109 : Int32) => (r109 = r98 → ∃ J425 : Prop, (J425 → J1583 S107 (kc_23 + 2) (ks_23 + 12)) ∧ (r98 = 0 → vp_in 0 (sN S107 q11) ∧ ((lg_cmp (sJ S107 q11 (0 : Int32).toNatClampNeg) (r106.toInt64)) = 0 → J425) ∧ (¬ (lg_cmp (sJ S107 q11 (0 : Int32).toNatClampNeg) (r106.toInt64)) = 0 → False)) ∧ (¬ r98 = 0 → J425)) ∧ (¬ r109 = r98 → False)) S107 q6) S99 q6 v103 v105) S_23 (some q1) v95 v97 (some q11)) ∧ ((v18 &&& 31) = 4 → vp_in (v4_23 + 1) L ∧ ∀ v117 : Int32, v117 = xs (v4_23 + 1).toNatClampNeg → vp_in (v4_23 + 2) L ∧ ∀ v119 : Int32, v119 = xs (v4_23 + 2).toNatClampNeg → (kc_23 + 2 ≤ 601024 ∧ ks_23 + 12 ≤ 7293034) ∧ w_L_drift (fun (r120 : Int32) (S121 : St) => vp_in (v4_23 + 1) L ∧ ∀ v125 : Int32, v125 = xs (v4_23 + 1).toNatClampNeg → vp_in (v4_23 + 2) L ∧ ∀ v127 : Int32, v127 = xs (v4_23 + 2).toNatClampNeg → w_M_drift (fun (r128 : Int32) (S129 : St) => w_M_thrown (fun (r131 : Int32) => (r131 = r120 → ∃ J493 : Prop, (J493 → J1583 S129 (kc_23 + 2) (ks_23 + 12)) ∧ (r120 = 0 → vp_in 0 (sN S129 q11) ∧ ((lg_cmp (sJ S129 q11 (0 : Int32).toNatClampNeg) (r128.toInt64)) = 0 → J493) ∧ (¬ (lg_cmp (sJ S129 q11 (0 : Int32).toNatClampNeg) (r128.toInt64)) = 0 → False)) ∧ (¬ r120 = 0 → J493)) ∧ (¬ r131 = r120 → False)) S129 q6) S121 q6 v125 v127) S_23 (some q1) v117 v119 (some q11)) ∧ ((v18 &&& 31) = 5 → vp_in (v4_23 + 1) L ∧ ∀ v139 : Int32, v139 = xs (v4_23 + 1).toNatClampNeg → vp_in (v4_23 + 2) L ∧ ∀ v141 : Int32, v141 = xs (v4_23 + 2).toNatClampNeg → vp_in (v4_23 + 3) L ∧ ∀ v143 : Int32, v143 = xs (v4_23 + 3).toNatClampNeg → vp_in (v4_23 + 4) L ∧ ∀ v145 : Int32, v145 = xs (v4_23 + 4).toNatClampNeg → (kc_23 + 2 ≤ 601024 ∧ ks_23 + 25 ≤ 7293034) ∧ w_L_come (fun (r146 : Int32) (S147 : St) => vp_in (v4_23 + 1) L ∧ ∀ v151 : Int32, v151 = xs (v4_23 + 1).toNatClampNeg → vp_in (v4_23 + 2) L ∧ ∀ v153 : Int32, v153 = xs (v4_23 + 2).toNatClampNeg → vp_in (v4_23 + 3) L ∧ ∀ v155 : Int32, v155 = xs (v4_23 + 3).toNatClampNeg → vp_in (v4_23 + 4) L ∧ ∀ v157 : Int32, v157 = xs (v4_23 + 4).toNatClampNeg → w_M_come (fun (r158 : Int32) (S159 : St) => w_M_thrown (fun (r161 : Int32) => (r161 = r146 → ∃ J585 : Prop, (J585 → J1583 S159 (kc_23 + 2) (ks_23 + 25)) ∧ (r146 = 0 → vp_in 0 (sN S159 q11) ∧ ((lg_cmp (sJ S159 q11 (0 : Int32).toNatClampNeg) (r158.toInt64)) = 0 → J585) ∧ (¬ (lg_cmp (sJ S159 q11 (0 : Int32).toNatClampNeg) (r158.toInt64)) = 0 → False)) ∧ (¬ r146 = 0 → J585)) ∧ (¬ r161 = r146 → False)) S159 q6) S147 q6 v151 v153 v155 v157) S_23 (some q1) v139 v141 v143 v145 (some q11)) ∧ ((v18 &&& 31) = 6 → vp_in (v4_23 + 1) L ∧ ∀ v169 : Int32, v169 = xs (v4_23 + 1).toNatClampNeg → vp_in (v4_23 + 2) L ∧ ∀ v171 : Int32, v171 = xs (v4_23 + 2).toNatClampNeg → (kc_23 + 2 ≤ 601024 ∧ ks_23 + 12 ≤ 7293034) ∧ w_L_dance (fun (r172 : Int32) (S173 : St) => vp_in (v4_23 + 1) L ∧ ∀ v177 : Int32, v177 = xs (v4_23 + 1).toNatClampNeg → vp_in (v4_23 + 2) L ∧ ∀ v179 : Int32, v179 = xs (v4_23 + 2).toNatClampNeg → w_M_dance (fun (r180 : Int32) (S181 : St) => w_M_thrown (fun (r183 : Int32) => (r183 = r172 → ∃ J653 : Prop, (J653 → J1583 S181 (kc_23 + 2) (ks_23 + 12)) ∧ (r172 = 0 → vp_in 0 (sN S181 q11) ∧ ((lg_cmp (sJ S181 q11 (0 : Int32).toNatClampNeg) (r180.toInt64)) = 0 → J653) ∧ (¬ (lg_cmp (sJ S181 q11 (0 : Int32).toNatClampNeg) (r180.toInt64)) = 0 → False)) ∧ (¬ r172 = 0 → J653)) ∧ (¬ r183 = r172 → False)) S181 q6) S173 q6 v177 v179) S_23 (some q1) v169 v171 (some q11)) ∧ ((v18 &&& 31) = 7 → vp_in (v4_23 + 1) L ∧ ∀ v191 : Int32, v191 = xs (v4_23 + 1).toNatClampNeg → vp_in (v4_23 + 2) L ∧ ∀ v193 : Int32, v193 = xs (v4_23 + 2).toNatClampNeg → (kc_23 + 3 ≤ 601024 ∧ ks_23 + 18 ≤ 7293034) ∧ w_L_pair (fun (r194 : Int32) (S195 : St) => vp_in (v4_23 + 1) L ∧ ∀ v199 : Int32, v199 = xs (v4_23 + 1).toNatClampNeg → vp_in (v4_23 + 2) L ∧ ∀ v201 : Int32, v201 = xs (v4_23 + 2).toNatClampNeg → w_M_pair (fun (r202 : Int32) (S203 : St) => w_M_thrown (fun (r205 : Int32) => (r205 = r194 → ∃ J721 : Prop, (J721 → J1583 S203 (kc_23 + 3) (ks_23 + 18)) ∧ (r194 = 0 → vp_in 0 (sN S203 q11) ∧ ((lg_cmp (sJ S203 q11 (0 : Int32).toNatClampNeg) (r202.toInt64)) = 0 → J721) ∧ (¬ (lg_cmp (sJ S203 q11 (0 : Int32).toNatClampNeg) (r202.toInt64)) = 0 → False)) ∧ (¬ r194 = 0 → J721)) ∧ (¬ r205 = r194 → False)) S203 q6) S195 q6 v199 v201) S_23 (some q1) v191 v193 (some q11)) ∧ ((v18 &&& 31) = 8 → vp_in (v4_23 + 1) L ∧ ∀ v213 : Int32, v213 = xs (v4_23 + 1).toNatClampNeg → (kc_23 + 2 ≤ 601024 ∧ ks_23 + 12 ≤ 7293034) ∧ w_L_part (fun (r214 : Int32) (S215 : St) => vp_in (v4_23 + 1) L ∧ ∀ v219 : Int32, v219 = xs (v4_23 + 1).toNatClampNeg → (kc_23 + 3 ≤ 601024 ∧ ks_23 + 14 ≤ 7293034) ∧ w_M_part (fun (r220 : Int32) (S221 : St) => w_M_thrown (fun (r224 : Int32) => (r224 = r214 → ∃ J777 : Prop, (J777 → J1583 S221 (kc_23 + 3) (ks_23 + 14)) ∧ (r214 = 0 → vp_in 0 (sN S221 q11) ∧ ((lg_cmp (sJ S221 q11 (0 : Int32).toNatClampNeg) (r220.toInt64)) = 0 → J777) ∧ (¬ (lg_cmp (sJ S221 q11 (0 : Int32).toNatClampNeg) (r220.toInt64)) = 0 → False)) ∧ (¬ r214 = 0 → J777)) ∧ (¬ r224 = r214 → False)) S221 q6) S215 q6 v219) S_23 (some q1) v213 (some q11)) ∧ ((v18 &&& 31) = 9 → vp_in (v4_23 + 1) L ∧ ∀ v232 : Int32, v232 = xs (v4_23 + 1).toNatClampNeg → vp_in (v4_23 + 2) L ∧ ∀ v234 : Int32, v234 = xs (v4_23 + 2).toNatClampNeg → (kc_23 + 2 ≤ 601024 ∧ ks_23 + 12 ≤ 7293034) ∧ w_L_wind (fun (r235 : Int32) (S236 : St) => vp_in (v4_23 + 1) L ∧ ∀ v240 : Int32, v240 = xs (v4_23 + 1).toNatClampNeg → vp_in (v4_23 + 2) L ∧ ∀ v242 : Int32, v242 = xs (v4_23 + 2).toNatClampNeg → w_M_wind (fun (r243 : Int32) (S244 : St) => w_M_thrown (fun (r246 : Int32) => (r246 = r235 → ∃ J845 : Prop, (J845 → J1583 S244 (kc_23 + 2) (ks_23 + 12)) ∧ (r235 = 0 → vp_in 0 (sN S244 q11) ∧ ((lg_cmp (sJ S244 q11 (0 : Int32).toNatClampNeg) (r243.toInt64)) = 0 → J845) ∧ (¬ (lg_cmp (sJ S244 q11 (0 : Int32).toNatClampNeg) (r243.toInt64)) = 0 → False)) ∧ (¬ r235 = 0 → J845)) ∧ (¬ r246 = r235 → False)) S244 q6) S236 q6 v240 v242) S_23 (some q1) v232 v234 (some q11)) ∧ ((v18 &&& 31) = 10 → vp_in (v4_23 + 1) L ∧ ∀ v254 : Int32, v254 = xs (v4_23 + 1).toNatClampNeg → vp_in (v4_23 + 2) L ∧ ∀ v256 : Int32, v256 = xs (v4_23 + 2).toNatClampNeg → (kc_23 + 2 ≤ 601024 ∧ ks_23 + 12 ≤ 7293034) ∧ w_L_dancer (fun (r257 : Int32) (S258 : St) => vp_in (v4_23 + 1) L ∧ ∀ v262 : Int32, v262 = xs (v4_23 + 1).toNatClampNeg → vp_in (v4_23 + 2) L ∧ ∀ v264 : Int32, v264 = xs (v4_23 + 2).toNatClampNeg → (kc_23 + 3 ≤ 601024 ∧ ks_23 + 24 ≤ 7293034) ∧ w_M_dancer (fun (r265 : Int32) (S266 : St) => w_M_thrown (fun (r269 : Int32) => (r269 = r257 → ∃ J913 : Prop, (J913 → J1583 S266 (kc_23 + 3) (ks_23 + 24)) ∧ (r257 = 0 → vp_in 0 (sN S266 q11) ∧ ((lg_cmp (sJ S266 q11 (0 : Int32).toNatClampNeg) (r265.toInt64)) = 0 → J913) ∧ (¬ (lg_cmp (sJ S266 q11 (0 : Int32).toNatClampNeg) (r265.toInt64)) = 0 → False)) ∧ (¬ r257 = 0 → J913)) ∧ (¬ r269 = r257 → False)) S266 q6) S258 q6 v262 v264) S_23 (some q1) v254 v256 (some q11)) ∧ ((v18 &&& 31) = 11 → vp_in (v4_23 + 1) L ∧ ∀ v277 : Int32, v277 = xs (v4_23 + 1).toNatClampNeg → vp_in (v4_23 + 2) L ∧ ∀ v279 : Int32, v279 = xs (v4_23 + 2).toNatClampNeg → (kc_23 + 1 ≤ 601024 ∧ ks_23 + 6 ≤ 7293034) ∧ w_L_at (fun (r280 : Int32) (S281 : St) => vp_in (v4_23 + 1) L ∧ ∀ v285 : Int32, v285 = xs (v4_23 + 1).toNatClampNeg → vp_in (v4_23 + 2) L ∧ ∀ v287 : Int32, v287 = xs (v4_23 + 2).toNatClampNeg → w_M_at (fun (r288 : Int32) (S289 : St) => w_M_thrown (fun (r291 : Int32) => (r291 = r280 → ∃ J981 : Prop, (J981 → J1583 S289 (kc_23 + 1) (ks_23 + 6)) ∧ (r280 = 0 → vp_in 0 (sN S289 q11) ∧ ((lg_cmp (sJ S289 q11 (0 : Int32).toNatClampNeg) (r288.toInt64)) = 0 → J981) ∧ (¬ (lg_cmp (sJ S289 q11 (0 : Int32).toNatClampNeg) (r288.toInt64)) = 0 → False)) ∧ (¬ r280 = 0 → J981)) ∧ (¬ r291 = r280 → False)) S289 q6) S281 q6 v285 v287) S_23 (some q1) v277 v279 (some q11)) ∧ ((v18 &&& 31) = 12 → vp_in (v4_23 + 1) L ∧ ∀ v299 : Int32, v299 = xs (v4_23 + 1).toNatClampNeg → vp_in (v4_23 + 2) L ∧ ∀ v301 : Int32, v301 = xs (v4_23 + 2).toNatClampNeg → vp_in (v4_23 + 3) L ∧ ∀ v303 : Int32, v303 = xs (v4_23 + 3).toNatClampNeg → (kc_23 + 3 ≤ 601024 ∧ ks_23 + 25 ≤ 7293034) ∧ w_L_addWinder (fun (r304 : Int32) (S305 : St) => vp_in (v4_23 + 1) L ∧ ∀ v309 : Int32, v309 = xs (v4_23 + 1).toNatClampNeg → vp_in (v4_23 + 2) L ∧ ∀ v311 : Int32, v311 = xs (v4_23 + 2).toNatClampNeg → vp_in (v4_23 + 3) L ∧ ∀ v313 : Int32, v313 = xs (v4_23 + 3).toNatClampNeg → (kc_23 + 4 ≤ 601024 ∧ ks_23 + 31 ≤ 7293034) ∧ w_M_addWinder (fun (r314 : Int32) (S315 : St) => w_M_thrown (fun (r318 : Int32) => (r318 = r304 → ∃ J1061 : Prop, (J1061 → J1583 S315 (kc_23 + 4) (ks_23 + 31)) ∧ (r304 = 0 → vp_in 0 (sN S315 q11) ∧ ((lg_cmp (sJ S315 q11 (0 : Int32).toNatClampNeg) (r314.toInt64)) = 0 → J1061) ∧ (¬ (lg_cmp (sJ S315 q11 (0 : Int32).toNatClampNeg) (r314.toInt64)) = 0 → False)) ∧ (¬ r304 = 0 → J1061)) ∧ (¬ r318 = r304 → False)) S315 q6) S305 q6 v309 v311 v313) S_23 (some q1) v299 v301 v303 (some q11)) ∧ ((v18 &&& 31) = 13 → vp_in (v4_23 + 1) L ∧ ∀ v326 : Int32, v326 = xs (v4_23 + 1).toNatClampNeg → vp_in (v4_23 + 2) L ∧ ∀ v328 : Int32, v328 = xs (v4_23 + 2).toNatClampNeg → (kc_23 + 3 ≤ 601024 ∧ ks_23 + 18 ≤ 7293034) ∧ w_L_call (fun (r329 : Int32) (S330 : St) => vp_in (v4_23 + 1) L ∧ ∀ v334 : Int32, v334 = xs (v4_23 + 1).toNatClampNeg → vp_in (v4_23 + 2) L ∧ ∀ v336 : Int32, v336 = xs (v4_23 + 2).toNatClampNeg → w_M_call (fun (r337 : Int32) (S338 : St) => w_M_thrown (fun (r340 : Int32) => (r340 = r329 → ∃ J1129 : Prop, (J1129 → J1583 S338 (kc_23 + 3) (ks_23 + 18)) ∧ (r329 = 0 → vp_in 0 (sN S338 q11) ∧ ((lg_cmp (sJ S338 q11 (0 : Int32).toNatClampNeg) (r337.toInt64)) = 0 → J1129) ∧ (¬ (lg_cmp (sJ S338 q11 (0 : Int32).toNatClampNeg) (r337.toInt64)) = 0 → False)) ∧ (¬ r329 = 0 → J1129)) ∧ (¬ r340 = r329 → False)) S338 q6) S330 q6 v334 v336) S_23 (some q1) v326 v328 (some q11)) ∧ ((v18 &&& 31) = 14 → vp_in (v4_23 + 1) L ∧ ∀ v348 : Int32, v348 = xs (v4_23 + 1).toNatClampNeg → vp_in (v4_23 + 2) L ∧ ∀ v350 : Int32, v350 = xs (v4_23 + 2).toNatClampNeg → (kc_23 + 2 ≤ 601024 ∧ ks_23 + 12 ≤ 7293034) ∧ w_L_winder (fun (r351 : Int32) (S352 : St) => vp_in (v4_23 + 1) L ∧ ∀ v356 : Int32, v356 = xs (v4_23 + 1).toNatClampNeg → vp_in (v4_23 + 2) L ∧ ∀ v358 : Int32, v358 = xs (v4_23 + 2).toNatClampNeg → w_M_winder (fun (r359 : Int32) (S360 : St) => w_M_thrown (fun (r362 : Int32) => (r362 = r351 → ∃ J1197 : Prop, (J1197 → J1583 S360 (kc_23 + 2) (ks_23 + 12)) ∧ (r351 = 0 → vp_in 0 (sN S360 q11) ∧ ((lg_cmp (sJ S360 q11 (0 : Int32).toNatClampNeg) (r359.toInt64)) = 0 → J1197) ∧ (¬ (lg_cmp (sJ S360 q11 (0 : Int32).toNatClampNeg) (r359.toInt64)) = 0 → False)) ∧ (¬ r351 = 0 → J1197)) ∧ (¬ r362 = r351 → False)) S360 q6) S352 q6 v356 v358) S_23 (some q1) v348 v350 (some q11)) ∧ ((v18 &&& 31) = 15 → vp_in (v4_23 + 1) L ∧ ∀ v370 : Int32, v370 = xs (v4_23 + 1).toNatClampNeg → (kc_23 + 1 ≤ 601024 ∧ ks_23 + 6 ≤ 7293034) ∧ w_L_pass (fun (r371 : Int32) (S372 : St) => vp_in (v4_23 + 1) L ∧ ∀ v376 : Int32, v376 = xs (v4_23 + 1).toNatClampNeg → w_M_pass (fun (r377 : Int32) (S378 : St) => w_M_thrown (fun (r380 : Int32) => (r380 = r371 → ∃ J1253 : Prop, (J1253 → J1583 S378 (kc_23 + 1) (ks_23 + 6)) ∧ (r371 = 0 → vp_in 0 (sN S378 q11) ∧ ((lg_cmp (sJ S378 q11 (0 : Int32).toNatClampNeg) (r377.toInt64)) = 0 → J1253) ∧ (¬ (lg_cmp (sJ S378 q11 (0 : Int32).toNatClampNeg) (r377.toInt64)) = 0 → False)) ∧ (¬ r371 = 0 → J1253)) ∧ (¬ r380 = r371 → False)) S378 q6) S372 q6 v376) S_23 (some q1) v370 (some q11)) ∧ ((v18 &&& 31) = 16 → vp_in (v4_23 + 1) L ∧ ∀ v388 : Int32, v388 = xs (v4_23 + 1).toNatClampNeg → (kc_23 + 1 ≤ 601024 ∧ ks_23 + 6 ≤ 7293034) ∧ w_L_count (fun (r389 : Int32) (S390 : St) => vp_in (v4_23 + 1) L ∧ ∀ v394 : Int32, v394 = xs (v4_23 + 1).toNatClampNeg → w_M_count (fun (r395 : Int32) (S396 : St) => w_M_thrown (fun (r398 : Int32) => (r398 = r389 → ∃ J1309 : Prop, (J1309 → J1583 S396 (kc_23 + 1) (ks_23 + 6)) ∧ (r389 = 0 → vp_in 0 (sN S396 q11) ∧ ((lg_cmp (sJ S396 q11 (0 : Int32).toNatClampNeg) (r395.toInt64)) = 0 → J1309) ∧ (¬ (lg_cmp (sJ S396 q11 (0 : Int32).toNatClampNeg) (r395.toInt64)) = 0 → False)) ∧ (¬ r389 = 0 → J1309)) ∧ (¬ r398 = r389 → False)) S396 q6) S390 q6 v394) S_23 (some q1) v388 (some q11)) ∧ ((v18 &&& 31) = 17 → vp_in (v4_23 + 1) L ∧ ∀ v406 : Int32, v406 = xs (v4_23 + 1).toNatClampNeg → vp_in (v4_23 + 2) L ∧ ∀ v408 : Int32, v408 = xs (v4_23 + 2).toNatClampNeg → vp_in (v4_23 + 3) L ∧ ∀ v410 : Int32, v410 = xs (v4_23 + 3).toNatClampNeg → (kc_23 + 67 ≤ 601024 ∧ ks_23 + 1042 ≤ 7293034) ∧ w_L_foresee (fun (r411 : Int32) (S412 : St) => vp_in (v4_23 + 1) L ∧ ∀ v416 : Int32, v416 = xs (v4_23 + 1).toNatClampNeg → vp_in (v4_23 + 2) L ∧ ∀ v418 : Int32, v418 = xs (v4_23 + 2).toNatClampNeg → vp_in (v4_23 + 3) L ∧ ∀ v420 : Int32, v420 = xs (v4_23 + 3).toNatClampNeg → (kc_23 + 68 ≤ 601024 ∧ ks_23 + 1047 ≤ 7293034) ∧ w_M_foresee (fun (r421 : Int32) (S422 : St) => w_M_thrown (fun (r425 : Int32) => (r425 = r411 → ∃ J1389 : Prop, (J1389 → J1583 S422 (kc_23 + 68) (ks_23 + 1047)) ∧ (r411 = 0 → vp_in 0 (sN S422 q11) ∧ ((lg_cmp (sJ S422 q11 (0 : Int32).toNatClampNeg) (r421.toInt64)) = 0 → J1389) ∧ (¬ (lg_cmp (sJ S422 q11 (0 : Int32).toNatClampNeg) (r421.toInt64)) = 0 → False)) ∧ (¬ r411 = 0 → J1389)) ∧ (¬ r425 = r411 → False)) S422 q6) S412 q6 v416 v418 v420) S_23 (some q1) v406 v408 v410 (some q11)) ∧ ((v18 &&& 31) = 18 → vp_in (v4_23 + 1) L ∧ ∀ v433 : Int32, v433 = xs (v4_23 + 1).toNatClampNeg → (kc_23 + 65 ≤ 601024 ∧ ks_23 + 1030 ≤ 7293034) ∧ w_L_firstToStop (fun (r434 : Int32) (S435 : St) => vp_in (v4_23 + 1) L ∧ ∀ v439 : Int32, v439 = xs (v4_23 + 1).toNatClampNeg → w_M_firstToStop (fun (r440 : Int32) (S441 : St) => w_M_thrown (fun (r443 : Int32) => (r443 = r434 → ∃ J1445 : Prop, (J1445 → J1583 S441 (kc_23 + 65) (ks_23 + 1030)) ∧ (r434 = 0 → vp_in 0 (sN S441 q11) ∧ ((lg_cmp (sJ S441 q11 (0 : Int32).toNatClampNeg) (r440.toInt64)) = 0 → J1445) ∧ (¬ (lg_cmp (sJ S441 q11 (0 : Int32).toNatClampNeg) (r440.toInt64)) = 0 → False)) ∧ (¬ r434 = 0 → J1445)) ∧ (¬ r443 = r434 → False)) S441 q6) S435 q6 v439) S_23 (some q1) v433 (some q11)) ∧ ((v18 &&& 31) = 19 → vp_in (v4_23 + 1) L ∧ ∀ v451 : Int32, v451 = xs (v4_23 + 1).toNatClampNeg → vp_in (v4_23 + 2) L ∧ ∀ v453 : Int32, v453 = xs (v4_23 + 2).toNatClampNeg → vp_in (v4_23 + 3) L ∧ ∀ v455 : Int32, v455 = xs (v4_23 + 3).toNatClampNeg → (kc_23 + 67 ≤ 601024 ∧ ks_23 + 1042 ≤ 7293034) ∧ w_L_meet (fun (r456 : Int32) (S457 : St) => vp_in (v4_23 + 1) L ∧ ∀ v461 : Int32, v461 = xs (v4_23 + 1).toNatClampNeg → vp_in (v4_23 + 2) L ∧ ∀ v463 : Int32, v463 = xs (v4_23 + 2).toNatClampNeg → vp_in (v4_23 + 3) L ∧ ∀ v465 : Int32, v465 = xs (v4_23 + 3).toNatClampNeg → w_M_meet (fun (r466 : Int32) (S467 : St) => w_M_thrown (fun (r469 : Int32) => (r469 = r456 → ∃ J1525 : Prop, (J1525 → J1583 S467 (kc_23 + 67) (ks_23 + 1042)) ∧ (r456 = 0 → vp_in 0 (sN S467 q11) ∧ ((lg_cmp (sJ S467 q11 (0 : Int32).toNatClampNeg) (r466.toInt64)) = 0 → J1525) ∧ (¬ (lg_cmp (sJ S467 q11 (0 : Int32).toNatClampNeg) (r466.toInt64)) = 0 → False)) ∧ (¬ r456 = 0 → J1525)) ∧ (¬ r469 = r456 → False)) S467 q6) S457 q6 v461 v463 v465) S_23 (some q1) v451 v453 v455 (some q11)) ∧ ((v18 &&& 31) = 20 → w_H_tension (fun (r476 : UInt64) => w_M_tension (fun (r478 : UInt64) (S479 : St) => ∃ J1566 : Prop, (J1566 → J1583 S479 kc_23 ks_23) ∧ ((Op.cmpValue (FP.dcmp r476 r478) CmpOp.l) = 0 → J1566) ∧ (¬ (Op.cmpValue (FP.dcmp r476 r478) CmpOp.l) = 0 → ((Op.cmpValue (FP.dcmp r476 r476) CmpOp.l) = 0 → False) ∧ (¬ (Op.cmpValue (FP.dcmp r476 r476) CmpOp.l) = 0 → ((Op.cmpValue (FP.dcmp r478 r478) CmpOp.l) = 0 → False) ∧ (¬ (Op.cmpValue (FP.dcmp r478 r478) CmpOp.l) = 0 → J1566)))) S_23 q6) S_23 q1) ∧ ((v18 &&& 31) = 21 → w_H_digest (fun (r486 : Int64) => (kc_23 + 256 ≤ 601024 ∧ ks_23 + 2048 ≤ 7293034) ∧ w_M_digest (fun (r487 : Int64) (S488 : St) => ((lg_cmp r486 r487) = 0 → J1583 S488 (kc_23 + 256) (ks_23 + 2048)) ∧ (¬ (lg_cmp r486 r487) = 0 → False)) S_23 q6) S_23 q1) ∧ (¬ (v18 &&& 31) = 0 → ¬ (v18 &&& 31) = 1 → ¬ (v18 &&& 31) = 2 → ¬ (v18 &&& 31) = 3 → ¬ (v18 &&& 31) = 4 → ¬ (v18 &&& 31) = 5 → ¬ (v18 &&& 31) = 6 → ¬ (v18 &&& 31) = 7 → ¬ (v18 &&& 31) = 8 → ¬ (v18 &&& 31) = 9 → ¬ (v18 &&& 31) = 10 → ¬ (v18 &&& 31) = 11 → ¬ (v18 &&& 31) = 12 → ¬ (v18 &&& 31) = 13 → ¬ (v18 &&& 31) = 14 → ¬ (v18 &&& 31) = 15 → ¬ (v18 &&& 31) = 16 → ¬ (v18 &&& 31) = 17 → ¬ (v18 &&& 31) = 18 → ¬ (v18 &&& 31) = 19 → ¬ (v18 &&& 31) = 20 → ¬ (v18 &&& 31) = 21 → J1583 S_23 kc_23 ks_23))) S7 q6) S2 q1
set_option maxHeartbeats 8000000 in
set_option maxRecDepth 100000 in
theorem m_L_law {p : Program} {e : Env} {s : State} {m : MethodId} {below : List Frame} {meth : Method} {c : Code} (l : Launch) (hlt : l.stackTraces = false) (x : Cx) (S : St) {b L : Nat} {xs : Nat → Int32} (hx : p.tables.exec = Jvm.exec) (hb : c.code = code) (hr : meth.sig.returnType = ret) (hml : c.maxLocals = 9) (hown : s.vm.findClass "WaltzHallLaw" = some m.cls) (hlocks : meth.locks = false) (hw : ∀ w ∈ gG, w.before #[Value.ref b] s = true) (hK : GK x s) (hN : gNc s) (hX : va_X b L xs s s.heap) (hbl : b < s.heap.size) (hbA : ¬ xA x b) (hnew : ∀ q, xA x q → s.heap.size ≤ q) (H : Heap) (locs : List Loc) (hG : GH x S s H locs) (ls : Array Slot) (hl0 : lv_has ls 9 [(0, .ref b)]) (h : w_L_law S L xs) : W p l e room_1 s m #[Value.ref b] below meth c H locs 0 0 (lw_Z below #[Value.ref b] s) (F0 m 0 ls []) := by
  have leS : gle S S := gle.rf
  unfold w_L_law at h
  refine gnew (k := 6) hx hb hw hown hK hG kd_H tw_55 tw_56 tw_28 rfl kf_H (Nat.le_of_ble_eq_true rfl) (Nat.le_of_ble_eq_true rfl) d_L_law_0 (fun q1 S2 H hqq1 eS2 hle1 hG => ?_)
  replace h := h q1 S2 hqq1 eS2
  have leS := leS.tr hle1
  have f3 : isA S2 6 q1 := by rw [eS2]; exact isA_new
  refine lv_dup hx hb d_L_law_3 rfl ?_
  -- call H_init
  refine gcv hK hG (va_runI (As := []) (rest := [.ref q1]) ⟨hx, hb, hml, hown, hw⟩ (m_H_init l x S2 _ q1 f3 h) ⟨gcb hw tw_59 tw_28 tw_57 hd_H_init rfl rfl ⟨(Nat.le_of_ble_eq_true rfl), (Nat.le_of_ble_eq_true rfl)⟩, rfl, hw _ tw_58⟩ (gpS hK hG) rfl rfl hl0.1 rfl (lv_room (Nat.le_of_ble_eq_true rfl)) d_L_law_4 ⟨(Nat.le_of_ble_eq_true rfl), (Nat.le_of_ble_eq_true rfl)⟩) (fun S4 H locs h9 hle1 hG => ?_)
  replace h := h9
  clear h9
  have f3 := gle_isA hle1 f3
  have leS := leS.tr hle1
  refine lv_astore_n (i := 1) (lv' := [(1, .ref q1), (0, .ref b)]) hx hb d_L_law_7 rfl hl0 (by decide) rfl (fun ls hl5 => ?_)
  refine gnew (k := 8) hx hb hw hown hK hG kd_M tw_928 tw_929 tw_43 rfl kf_M (Nat.le_of_ble_eq_true rfl) (Nat.le_of_ble_eq_true rfl) d_L_law_8 (fun q6 S7 H hqq6 eS7 hle1 hG => ?_)
  replace h := h q6 S7 hqq6 eS7
  have f3 := gle_isA hle1 f3
  have leS := leS.tr hle1
  have f8 : isA S7 8 q6 := by rw [eS7]; exact isA_new
  refine lv_dup hx hb d_L_law_11 rfl ?_
  -- call M_init
  refine gcv hK hG (va_runI (As := []) (rest := [.ref q6]) ⟨hx, hb, hml, hown, hw⟩ (m_M_init l x S7 _ q6 f8 h) ⟨gcb hw tw_932 tw_43 tw_930 hd_M_init rfl rfl ⟨(Nat.le_of_ble_eq_true rfl), (Nat.le_of_ble_eq_true rfl)⟩, rfl, hw _ tw_931⟩ (gpS hK hG) rfl rfl hl5.1 rfl (lv_room (Nat.le_of_ble_eq_true rfl)) d_L_law_12 ⟨(Nat.le_of_ble_eq_true rfl), (Nat.le_of_ble_eq_true rfl)⟩) (fun S9 H locs h9 hle1 hG => ?_)
  replace h := h9
  clear h9
  have f3 := gle_isA hle1 f3
  have f8 := gle_isA hle1 f8
  have leS := leS.tr hle1
  refine lv_astore_n (i := 2) (lv' := [(2, .ref q6), (1, .ref q1), (0, .ref b)]) hx hb d_L_law_15 rfl hl5 (by decide) rfl (fun ls hl10 => ?_)
  refine lv_iconst (v := 1) hx hb d_L_law_16 (by decide) ?_
  refine gnewa (atype := .long) (N' := 1) (k := 13) (by decide) 4 hx hb hw hK hG tw_1242 rfl (fun _ _ => rfl) rfl rfl (fun _ => rfl) (by decide) (Nat.le_of_ble_eq_true rfl) (Nat.le_of_ble_eq_true rfl) (Nat.le_of_ble_eq_true rfl) d_L_law_17 (fun q11 S12 H hqq11 eS12 hle1 hG => ?_)
  replace h := h q11 S12 hqq11 eS12
  have f3 := gle_isA hle1 f3
  have f8 := gle_isA hle1 f8
  have leS := leS.tr hle1
  have f13 : isA S12 13 q11 := by rw [eS12]; exact isA_new
  refine lv_astore_n (i := 3) (lv' := [(3, .ref q11), (2, .ref q6), (1, .ref q1), (0, .ref b)]) hx hb d_L_law_19 rfl hl10 (by decide) rfl (fun ls hl14 => ?_)
  refine lv_iconst (v := 0) hx hb d_L_law_20 (by decide) ?_
  refine lv_istore (lv' := [(4, .int 0), (3, .ref q11), (2, .ref q6), (1, .ref q1), (0, .ref b)]) hx hb d_L_law_21 hl14 (by decide) rfl (fun ls hl15 => ?_)
  have leS12 : gle S12 S12 := gle.rf
  obtain ⟨J23, ⟨n0_23, h0_23⟩, hJ23⟩ := h
  have k23 : ∀ (n23 : Nat) (S_23 : St) (v4_23 : Int32) (kc_23 ks_23 : Nat) (H : Heap) (locs : List Loc) (ls : Array Slot), gle S12 S_23 → GH x S_23 s H locs → lv_has ls 9 [(0, .ref b), (1, .ref q1), (2, .ref q6), (3, .ref q11), (4, .int v4_23)] → J23 n23 S_23 v4_23 kc_23 ks_23 → W p l e room_1 s m #[Value.ref b] below meth c H locs kc_23 ks_23 (lw_Z below #[Value.ref b] s) (F0 m 23 ls []) := by
    intro n23
    induction n23 using Nat.strongRecOn with
    | _ n23 ih23 =>
      intro S_23 v4_23 kc_23 ks_23 H locs ls hle1 hG hl16 hj
      replace h := hJ23 n23 S_23 v4_23 kc_23 ks_23 hj
      obtain ⟨⟨hk23, hkb23⟩, h⟩ := h
      have f3 := gle_isA hle1 f3
      have f8 := gle_isA hle1 f8
      have f13 := gle_isA hle1 f13
      have leS := leS.tr hle1
      have leS12 := leS12.tr hle1
      refine lv_iload hx hb d_L_law_23 (lv_at hl16 4 rfl) ?_
      refine lv_aload_n hx hb d_L_law_25 rfl (lv_at hl16 0 rfl) ?_
      refine va_slen hx hb hX hbl hbA hG.2.2.1 d_L_law_26 ?_
      refine lv_bipush (v := 6) hx hb d_L_law_27 (by decide) ?_
      refine lv_isub hx hb d_L_law_29 ?_
      refine lv_icmp_gt (tgt := 1589) hx hb d_L_law_30 (by decide) (fun hc491 => ?_) (fun hc491 => ?_)
      · replace h := h.1 hc491
        refine lv_iconst (v := 1) hx hb d_L_law_1589 (by decide) ?_
        refine va_forget (fun q hq => hnew _ (hG.2.2.1.2.2 q hq)) ?_
        refine W.widen (k := 601024) (n := 7293034) (by omega) (by omega) ?_
        exact W.base (lw_ret (Drawn.sameBut.refl _ _) hx hb hr hlocks d_L_law_1590)
      · replace h := h.2 hc491
        refine lv_aload_n hx hb d_L_law_33 rfl (lv_at hl16 0 rfl) ?_
        refine lv_iload hx hb d_L_law_34 (lv_at hl16 4 rfl) ?_
        obtain ⟨hi17, h⟩ := h
        refine va_sld hx hb hX hbl hbA hG.2.2.1 hi17 d_L_law_36 ?_
        refine lv_topi (fun v18 ev18 => ?_)
        replace h := h v18 ev18
        refine lv_bipush (v := 31) hx hb d_L_law_37 (by decide) ?_
        refine lv_iand hx hb d_L_law_39 ?_
        have leS_23 : gle S_23 S_23 := gle.rf
        obtain ⟨J1583, hJ1583, h⟩ := h
        have k1583 : ∀ (S_1583 : St) (kc_1583 ks_1583 : Nat) (H : Heap) (locs : List Loc) (ls : Array Slot), gle S_23 S_1583 → GH x S_1583 s H locs → lv_has ls 9 [(0, .ref b), (1, .ref q1), (2, .ref q6), (3, .ref q11), (4, .int v4_23)] → J1583 S_1583 kc_1583 ks_1583 → W p l e room_1 s m #[Value.ref b] below meth c H locs kc_1583 ks_1583 (lw_Z below #[Value.ref b] s) (F0 m 1583 ls []) := by
          intro S_1583 kc_1583 ks_1583  H locs ls hle1 hG hl19 hj
          replace h := hJ1583 S_1583 kc_1583 ks_1583 hj
          obtain ⟨⟨hk1583, hkb1583⟩, h⟩ := h
          have f3 := gle_isA hle1 f3
          have f8 := gle_isA hle1 f8
          have f13 := gle_isA hle1 f13
          have leS := leS.tr hle1
          have leS12 := leS12.tr hle1
          have leS_23 := leS_23.tr hle1
          obtain ⟨v20, ev20⟩ : ∃ z : Int32, z = v4_23 + 6 := ⟨_, rfl⟩
          replace h := h v20 ev20
          refine lv_iinc (v := v20) (lv' := [(4, .int v20), (0, .ref b), (1, .ref q1), (2, .ref q6), (3, .ref q11)]) hx hb d_L_law_1583 hl19 (k := 4) rfl (by rw [ev20]; rfl) (by decide) rfl (fun ls hl21 => ?_)
          refine lv_goto (tgt := 23) hx hb d_L_law_1586 (by decide) ?_
          obtain ⟨nx, hnx, h⟩ := h
          exact ih23 nx hnx S_1583 v20 kc_1583 ks_1583 H locs ls leS12 hG (lv_sub hl21 [1, 2, 3, 4, 0] rfl) h
        by_cases hc22 : (v18 &&& 31) = 0
        · replace h := h.1 hc22
          refine lv_tableIn (tgt := 144) hx hb d_L_law_40 (by rw [hc22]; decide) (by rw [hc22]; decide) (by rw [hc22]; rfl) (by decide) ?_
          refine lv_aload_n hx hb d_L_law_144 rfl (lv_at hl16 1 rfl) ?_
          refine lv_aload_n hx hb d_L_law_145 rfl (lv_at hl16 0 rfl) ?_
          refine lv_iload hx hb d_L_law_146 (lv_at hl16 4 rfl) ?_
          refine lv_iconst (v := 1) hx hb d_L_law_148 (by decide) ?_
          refine lv_iadd hx hb d_L_law_149 ?_
          obtain ⟨hi23, h⟩ := h
          refine va_sld hx hb hX hbl hbA hG.2.2.1 hi23 d_L_law_150 ?_
          refine lv_topi (fun v24 ev24 => ?_)
          replace h := h v24 ev24
          refine lv_aload_n hx hb d_L_law_151 rfl (lv_at hl16 0 rfl) ?_
          refine lv_iload hx hb d_L_law_152 (lv_at hl16 4 rfl) ?_
          refine lv_iconst (v := 2) hx hb d_L_law_154 (by decide) ?_
          refine lv_iadd hx hb d_L_law_155 ?_
          obtain ⟨hi25, h⟩ := h
          refine va_sld hx hb hX hbl hbA hG.2.2.1 hi25 d_L_law_156 ?_
          refine lv_topi (fun v26 ev26 => ?_)
          replace h := h v26 ev26
          refine lv_aload_n hx hb d_L_law_157 rfl (lv_at hl16 0 rfl) ?_
          refine lv_iload hx hb d_L_law_158 (lv_at hl16 4 rfl) ?_
          refine lv_iconst (v := 3) hx hb d_L_law_160 (by decide) ?_
          refine lv_iadd hx hb d_L_law_161 ?_
          obtain ⟨hi27, h⟩ := h
          refine va_sld hx hb hX hbl hbA hG.2.2.1 hi27 d_L_law_162 ?_
          refine lv_topi (fun v28 ev28 => ?_)
          replace h := h v28 ev28
          refine lv_aload_n hx hb d_L_law_163 rfl (lv_at hl16 0 rfl) ?_
          refine lv_iload hx hb d_L_law_164 (lv_at hl16 4 rfl) ?_
          refine lv_iconst (v := 4) hx hb d_L_law_166 (by decide) ?_
          refine lv_iadd hx hb d_L_law_167 ?_
          obtain ⟨hi29, h⟩ := h
          refine va_sld hx hb hX hbl hbA hG.2.2.1 hi29 d_L_law_168 ?_
          refine lv_topi (fun v30 ev30 => ?_)
          replace h := h v30 ev30
          refine lv_aload_n hx hb d_L_law_169 rfl (lv_at hl16 0 rfl) ?_
          refine lv_iload hx hb d_L_law_170 (lv_at hl16 4 rfl) ?_
          refine lv_iconst (v := 5) hx hb d_L_law_172 (by decide) ?_
          refine lv_iadd hx hb d_L_law_173 ?_
          obtain ⟨hi31, h⟩ := h
          refine va_sld hx hb hX hbl hbA hG.2.2.1 hi31 d_L_law_174 ?_
          refine lv_topi (fun v32 ev32 => ?_)
          replace h := h v32 ev32
          refine lv_aload_n hx hb d_L_law_175 rfl (lv_at hl16 3 rfl) ?_
          obtain ⟨⟨hk35, hk35b⟩, h⟩ := h
          -- call L_feed
          refine gci hK hG (vx_runSW (As := [.ref q1, .int v24, .int v26, .int v28, .int v30, .int v32, .ref q11]) (rest := []) ⟨hx, hb, hml, hown, hw⟩ (m_L_feed l hlt x S_23 _ (some q1) v24 v26 v28 v30 v32 (some q11) h) (gcsw hw tw_353 tw_27 tw_351 tw_352 hd_L_feed rfl rfl ⟨(Nat.le_of_ble_eq_true rfl), (Nat.le_of_ble_eq_true rfl)⟩) (gpSL hK hN hG) rfl rfl hl16.1 rfl (lv_room (Nat.le_of_ble_eq_true rfl)) d_L_law_176 ⟨(by show _ ≤ (601024 : Nat); omega), (by show _ ≤ (7293034 : Nat); omega)⟩) (fun r33 S34 H locs h9 hle1 hG => ?_)
          replace h := h9
          clear h9
          have f3 := gle_isA hle1 f3
          have f8 := gle_isA hle1 f8
          have f13 := gle_isA hle1 f13
          have leS := leS.tr hle1
          have leS12 := leS12.tr hle1
          have leS_23 := leS_23.tr hle1
          refine lv_istore (lv' := [(5, .int r33), (0, .ref b), (1, .ref q1), (2, .ref q6), (3, .ref q11), (4, .int v4_23)]) hx hb d_L_law_179 hl16 (by decide) rfl (fun ls hl36 => ?_)
          refine lv_aload_n hx hb d_L_law_181 rfl (lv_at hl36 3 rfl) ?_
          refine lv_aload_n hx hb d_L_law_182 rfl (lv_at hl36 1 rfl) ?_
          refine lv_iload hx hb d_L_law_183 (lv_at hl36 5 rfl) ?_
          refine lv_iconst (v := 1) hx hb d_L_law_185 (by decide) ?_
          refine lv_iadd hx hb d_L_law_186 ?_
          obtain ⟨hi37, h⟩ := h
          refine va_sld hx hb hX hbl hbA hG.2.2.1 hi37 d_L_law_187 ?_
          refine lv_topi (fun v38 ev38 => ?_)
          replace h := h v38 ev38
          refine lv_aload_n hx hb d_L_law_188 rfl (lv_at hl36 1 rfl) ?_
          refine lv_iload hx hb d_L_law_189 (lv_at hl36 5 rfl) ?_
          refine lv_iconst (v := 2) hx hb d_L_law_191 (by decide) ?_
          refine lv_iadd hx hb d_L_law_192 ?_
          obtain ⟨hi39, h⟩ := h
          refine va_sld hx hb hX hbl hbA hG.2.2.1 hi39 d_L_law_193 ?_
          refine lv_topi (fun v40 ev40 => ?_)
          replace h := h v40 ev40
          refine lv_aload_n hx hb d_L_law_194 rfl (lv_at hl36 1 rfl) ?_
          refine lv_iload hx hb d_L_law_195 (lv_at hl36 5 rfl) ?_
          refine lv_iconst (v := 3) hx hb d_L_law_197 (by decide) ?_
          refine lv_iadd hx hb d_L_law_198 ?_
          obtain ⟨hi41, h⟩ := h
          refine va_sld hx hb hX hbl hbA hG.2.2.1 hi41 d_L_law_199 ?_
          refine lv_topi (fun v42 ev42 => ?_)
          replace h := h v42 ev42
          refine lv_aload_n hx hb d_L_law_200 rfl (lv_at hl36 1 rfl) ?_
          refine lv_iload hx hb d_L_law_201 (lv_at hl36 5 rfl) ?_
          refine lv_iconst (v := 4) hx hb d_L_law_203 (by decide) ?_
          refine lv_iadd hx hb d_L_law_204 ?_
          obtain ⟨hi43, h⟩ := h
          refine va_sld hx hb hX hbl hbA hG.2.2.1 hi43 d_L_law_205 ?_
          refine lv_topi (fun v44 ev44 => ?_)
          replace h := h v44 ev44
          refine lv_aload_n hx hb d_L_law_206 rfl (lv_at hl36 1 rfl) ?_
          refine lv_iload hx hb d_L_law_207 (lv_at hl36 5 rfl) ?_
          refine lv_iconst (v := 5) hx hb d_L_law_209 (by decide) ?_
          refine lv_iadd hx hb d_L_law_210 ?_
          obtain ⟨hi45, h⟩ := h
          refine va_sld hx hb hX hbl hbA hG.2.2.1 hi45 d_L_law_211 ?_
          refine lv_topi (fun v46 ev46 => ?_)
          replace h := h v46 ev46
          obtain ⟨⟨hk49, hk49b⟩, h⟩ := h
          -- call M_feed
          refine gci hK hG (va_runV (As := [.int v38, .int v40, .int v42, .int v44, .int v46]) (rest := []) ⟨hx, hb, hml, hown, hw⟩ (m_M_feed l x S34 _ q6 v38 v40 v42 v44 v46 f8 h) ⟨gcb hw tw_1048 tw_43 tw_1045 hd_M_feed rfl rfl ⟨(Nat.le_of_ble_eq_true rfl), (Nat.le_of_ble_eq_true rfl)⟩, hw _ tw_1046, hw _ tw_1047⟩ (gpV hK hG kd_M f8 rfl) rfl rfl hl36.1 rfl (lv_room (Nat.le_of_ble_eq_true rfl)) d_L_law_212 ⟨(by show _ ≤ (601024 : Nat); omega), (by show _ ≤ (7293034 : Nat); omega)⟩) (fun r47 S48 H locs h9 hle1 hG => ?_)
          replace h := h9
          clear h9
          have f3 := gle_isA hle1 f3
          have f8 := gle_isA hle1 f8
          have f13 := gle_isA hle1 f13
          have leS := leS.tr hle1
          have leS12 := leS12.tr hle1
          have leS_23 := leS_23.tr hle1
          refine lv_istore (lv' := [(6, .int r47), (5, .int r33), (0, .ref b), (1, .ref q1), (2, .ref q6), (3, .ref q11), (4, .int v4_23)]) hx hb d_L_law_215 hl36 (by decide) rfl (fun ls hl50 => ?_)
          refine lv_aload_n hx hb d_L_law_217 rfl (lv_at hl50 4 rfl) ?_
          -- call M_thrown
          refine gpi hK hG (va_runV (As := []) (rest := []) ⟨hx, hb, hml, hown, hw⟩ (m_M_thrown l x S48 _ q6 f8 h) ⟨gcb hw tw_1044 tw_43 tw_1041 hd_M_thrown rfl rfl ⟨(Nat.le_of_ble_eq_true rfl), (Nat.le_of_ble_eq_true rfl)⟩, hw _ tw_1042, hw _ tw_1043⟩ (gpV hK hG kd_M f8 rfl) rfl rfl hl50.1 rfl (lv_room (Nat.le_of_ble_eq_true rfl)) d_L_law_218 ⟨(by show _ ≤ (601024 : Nat); omega), (by show _ ≤ (7293034 : Nat); omega)⟩) (fun r51 H locs h9 hG => ?_)
          replace h := h9
          clear h9
          refine lv_iload hx hb d_L_law_221 (lv_at hl50 1 rfl) ?_
          refine lv_icmp_eq (tgt := 228) hx hb d_L_law_223 (by decide) (fun hc56 => ?_) (fun hc56 => ?_)
          · replace h := h.1 hc56
            refine lv_iload hx hb d_L_law_228 (lv_at hl50 1 rfl) ?_
            have leS48 : gle S48 S48 := gle.rf
            obtain ⟨J245, hJ245, h⟩ := h
            have k245 : ∀ (H : Heap) (locs : List Loc) (ls : Array Slot), GH x S48 s H locs → lv_has ls 9 [(0, .ref b), (1, .ref q1), (2, .ref q6), (3, .ref q11), (4, .int v4_23)] → J245 → W p l e room_1 s m #[Value.ref b] below meth c H locs (kc_23 + 2) (ks_23 + 11) (lw_Z below #[Value.ref b] s) (F0 m 245 ls []) := by
              intro  H locs ls hG hl52 hj
              replace h := hJ245 hj
              refine lv_goto (tgt := 1583) hx hb d_L_law_245 (by decide) ?_
              exact k1583 S48 (kc_23 + 2) (ks_23 + 11) H locs ls leS_23 hG (lv_sub hl52 [0, 1, 2, 3, 4] rfl) h
            refine lv_if_ne (tgt := 245) hx hb d_L_law_230 (by decide) (fun hc55 => ?_) (fun hc55 => ?_)
            · replace h := h.2 hc55
              exact k245 H locs ls hG (lv_sub hl50 [2, 3, 4, 5, 6] rfl) h
            · replace h := h.1 hc55
              refine lv_aload_n hx hb d_L_law_233 rfl (lv_at hl50 5 rfl) ?_
              refine lv_iconst (v := 0) hx hb d_L_law_234 (by decide) ?_
              obtain ⟨hi53, h⟩ := h
              refine glald hx hb hK hG f13 hi53 d_L_law_235 ?_
              refine lv_iload hx hb d_L_law_236 (lv_at hl50 0 rfl) ?_
              refine lv_i2l hx hb d_L_law_238 rfl ?_
              refine W.lcmp hx hb d_L_law_239 ?_
              refine lv_if_eq (tgt := 245) hx hb d_L_law_240 (by decide) (fun hc54 => ?_) (fun hc54 => ?_)
              · replace h := h.1 hc54
                exact k245 H locs ls hG (lv_sub hl50 [2, 3, 4, 5, 6] rfl) h
              · replace h := h.2 hc54
                refine lv_iconst (v := 0) hx hb d_L_law_243 (by decide) ?_
                exact h.elim
          · replace h := h.2 hc56
            refine lv_iconst (v := 0) hx hb d_L_law_226 (by decide) ?_
            exact h.elim
        · skip
          by_cases hc57 : (v18 &&& 31) = 1
          · replace h := h.2.1 hc57
            refine lv_tableIn (tgt := 248) hx hb d_L_law_40 (by rw [hc57]; decide) (by rw [hc57]; decide) (by rw [hc57]; rfl) (by decide) ?_
            refine lv_aload_n hx hb d_L_law_248 rfl (lv_at hl16 1 rfl) ?_
            refine lv_aload_n hx hb d_L_law_249 rfl (lv_at hl16 0 rfl) ?_
            refine lv_iload hx hb d_L_law_250 (lv_at hl16 4 rfl) ?_
            refine lv_iconst (v := 1) hx hb d_L_law_252 (by decide) ?_
            refine lv_iadd hx hb d_L_law_253 ?_
            obtain ⟨hi58, h⟩ := h
            refine va_sld hx hb hX hbl hbA hG.2.2.1 hi58 d_L_law_254 ?_
            refine lv_topi (fun v59 ev59 => ?_)
            replace h := h v59 ev59
            refine lv_aload_n hx hb d_L_law_255 rfl (lv_at hl16 3 rfl) ?_
            obtain ⟨⟨hk62, hk62b⟩, h⟩ := h
            -- call L_trim
            refine gci hK hG (vx_runSW (As := [.ref q1, .int v59, .ref q11]) (rest := []) ⟨hx, hb, hml, hown, hw⟩ (m_L_trim l hlt x S_23 _ (some q1) v59 (some q11) h) (gcsw hw tw_436 tw_27 tw_434 tw_435 hd_L_trim rfl rfl ⟨(Nat.le_of_ble_eq_true rfl), (Nat.le_of_ble_eq_true rfl)⟩) (gpSL hK hN hG) rfl rfl hl16.1 rfl (lv_room (Nat.le_of_ble_eq_true rfl)) d_L_law_256 ⟨(by show _ ≤ (601024 : Nat); omega), (by show _ ≤ (7293034 : Nat); omega)⟩) (fun r60 S61 H locs h9 hle1 hG => ?_)
            replace h := h9
            clear h9
            have f3 := gle_isA hle1 f3
            have f8 := gle_isA hle1 f8
            have f13 := gle_isA hle1 f13
            have leS := leS.tr hle1
            have leS12 := leS12.tr hle1
            have leS_23 := leS_23.tr hle1
            refine lv_istore (lv' := [(5, .int r60), (0, .ref b), (1, .ref q1), (2, .ref q6), (3, .ref q11), (4, .int v4_23)]) hx hb d_L_law_259 hl16 (by decide) rfl (fun ls hl63 => ?_)
            refine lv_aload_n hx hb d_L_law_261 rfl (lv_at hl63 3 rfl) ?_
            refine lv_aload_n hx hb d_L_law_262 rfl (lv_at hl63 1 rfl) ?_
            refine lv_iload hx hb d_L_law_263 (lv_at hl63 5 rfl) ?_
            refine lv_iconst (v := 1) hx hb d_L_law_265 (by decide) ?_
            refine lv_iadd hx hb d_L_law_266 ?_
            obtain ⟨hi64, h⟩ := h
            refine va_sld hx hb hX hbl hbA hG.2.2.1 hi64 d_L_law_267 ?_
            refine lv_topi (fun v65 ev65 => ?_)
            replace h := h v65 ev65
            -- call M_trim
            refine gci hK hG (va_runV (As := [.int v65]) (rest := []) ⟨hx, hb, hml, hown, hw⟩ (m_M_trim l x S61 _ q6 v65 f8 h) ⟨gcb hw tw_1056 tw_43 tw_1053 hd_M_trim rfl rfl ⟨(Nat.le_of_ble_eq_true rfl), (Nat.le_of_ble_eq_true rfl)⟩, hw _ tw_1054, hw _ tw_1055⟩ (gpV hK hG kd_M f8 rfl) rfl rfl hl63.1 rfl (lv_room (Nat.le_of_ble_eq_true rfl)) d_L_law_268 ⟨(by show _ ≤ (601024 : Nat); omega), (by show _ ≤ (7293034 : Nat); omega)⟩) (fun r66 S67 H locs h9 hle1 hG => ?_)
            replace h := h9
            clear h9
            have f3 := gle_isA hle1 f3
            have f8 := gle_isA hle1 f8
            have f13 := gle_isA hle1 f13
            have leS := leS.tr hle1
            have leS12 := leS12.tr hle1
            have leS_23 := leS_23.tr hle1
            refine lv_istore (lv' := [(6, .int r66), (5, .int r60), (0, .ref b), (1, .ref q1), (2, .ref q6), (3, .ref q11), (4, .int v4_23)]) hx hb d_L_law_271 hl63 (by decide) rfl (fun ls hl68 => ?_)
            refine lv_aload_n hx hb d_L_law_273 rfl (lv_at hl68 4 rfl) ?_
            -- call M_thrown
            refine gpi hK hG (va_runV (As := []) (rest := []) ⟨hx, hb, hml, hown, hw⟩ (m_M_thrown l x S67 _ q6 f8 h) ⟨gcb hw tw_1044 tw_43 tw_1041 hd_M_thrown rfl rfl ⟨(Nat.le_of_ble_eq_true rfl), (Nat.le_of_ble_eq_true rfl)⟩, hw _ tw_1042, hw _ tw_1043⟩ (gpV hK hG kd_M f8 rfl) rfl rfl hl68.1 rfl (lv_room (Nat.le_of_ble_eq_true rfl)) d_L_law_274 ⟨(by show _ ≤ (601024 : Nat); omega), (by show _ ≤ (7293034 : Nat); omega)⟩) (fun r69 H locs h9 hG => ?_)
            replace h := h9
            clear h9
            refine lv_iload hx hb d_L_law_277 (lv_at hl68 1 rfl) ?_
            refine lv_icmp_eq (tgt := 284) hx hb d_L_law_279 (by decide) (fun hc74 => ?_) (fun hc74 => ?_)
            · replace h := h.1 hc74
              refine lv_iload hx hb d_L_law_284 (lv_at hl68 1 rfl) ?_
              have leS67 : gle S67 S67 := gle.rf
              obtain ⟨J301, hJ301, h⟩ := h
              have k301 : ∀ (H : Heap) (locs : List Loc) (ls : Array Slot), GH x S67 s H locs → lv_has ls 9 [(0, .ref b), (1, .ref q1), (2, .ref q6), (3, .ref q11), (4, .int v4_23)] → J301 → W p l e room_1 s m #[Value.ref b] below meth c H locs (kc_23 + 1) (ks_23 + 6) (lw_Z below #[Value.ref b] s) (F0 m 301 ls []) := by
                intro  H locs ls hG hl70 hj
                replace h := hJ301 hj
                refine lv_goto (tgt := 1583) hx hb d_L_law_301 (by decide) ?_
                exact k1583 S67 (kc_23 + 1) (ks_23 + 6) H locs ls leS_23 hG (lv_sub hl70 [0, 1, 2, 3, 4] rfl) h
              refine lv_if_ne (tgt := 301) hx hb d_L_law_286 (by decide) (fun hc73 => ?_) (fun hc73 => ?_)
              · replace h := h.2 hc73
                exact k301 H locs ls hG (lv_sub hl68 [2, 3, 4, 5, 6] rfl) h
              · replace h := h.1 hc73
                refine lv_aload_n hx hb d_L_law_289 rfl (lv_at hl68 5 rfl) ?_
                refine lv_iconst (v := 0) hx hb d_L_law_290 (by decide) ?_
                obtain ⟨hi71, h⟩ := h
                refine glald hx hb hK hG f13 hi71 d_L_law_291 ?_
                refine lv_iload hx hb d_L_law_292 (lv_at hl68 0 rfl) ?_
                refine lv_i2l hx hb d_L_law_294 rfl ?_
                refine W.lcmp hx hb d_L_law_295 ?_
                refine lv_if_eq (tgt := 301) hx hb d_L_law_296 (by decide) (fun hc72 => ?_) (fun hc72 => ?_)
                · replace h := h.1 hc72
                  exact k301 H locs ls hG (lv_sub hl68 [2, 3, 4, 5, 6] rfl) h
                · replace h := h.2 hc72
                  refine lv_iconst (v := 0) hx hb d_L_law_299 (by decide) ?_
                  exact h.elim
            · replace h := h.2 hc74
              refine lv_iconst (v := 0) hx hb d_L_law_282 (by decide) ?_
              exact h.elim
          · skip
            by_cases hc75 : (v18 &&& 31) = 2
            · replace h := h.2.2.1 hc75
              refine lv_tableIn (tgt := 304) hx hb d_L_law_40 (by rw [hc75]; decide) (by rw [hc75]; decide) (by rw [hc75]; rfl) (by decide) ?_
              refine lv_aload_n hx hb d_L_law_304 rfl (lv_at hl16 1 rfl) ?_
              refine lv_aload_n hx hb d_L_law_305 rfl (lv_at hl16 0 rfl) ?_
              refine lv_iload hx hb d_L_law_306 (lv_at hl16 4 rfl) ?_
              refine lv_iconst (v := 1) hx hb d_L_law_308 (by decide) ?_
              refine lv_iadd hx hb d_L_law_309 ?_
              obtain ⟨hi76, h⟩ := h
              refine va_sld hx hb hX hbl hbA hG.2.2.1 hi76 d_L_law_310 ?_
              refine lv_topi (fun v77 ev77 => ?_)
              replace h := h v77 ev77
              refine lv_aload_n hx hb d_L_law_311 rfl (lv_at hl16 3 rfl) ?_
              obtain ⟨⟨hk80, hk80b⟩, h⟩ := h
              -- call L_learn
              refine gci hK hG (vx_runSW (As := [.ref q1, .int v77, .ref q11]) (rest := []) ⟨hx, hb, hml, hown, hw⟩ (m_L_learn l hlt x S_23 _ (some q1) v77 (some q11) h) (gcsw hw tw_460 tw_27 tw_458 tw_459 hd_L_learn rfl rfl ⟨(Nat.le_of_ble_eq_true rfl), (Nat.le_of_ble_eq_true rfl)⟩) (gpSL hK hN hG) rfl rfl hl16.1 rfl (lv_room (Nat.le_of_ble_eq_true rfl)) d_L_law_312 ⟨(by show _ ≤ (601024 : Nat); omega), (by show _ ≤ (7293034 : Nat); omega)⟩) (fun r78 S79 H locs h9 hle1 hG => ?_)
              replace h := h9
              clear h9
              have f3 := gle_isA hle1 f3
              have f8 := gle_isA hle1 f8
              have f13 := gle_isA hle1 f13
              have leS := leS.tr hle1
              have leS12 := leS12.tr hle1
              have leS_23 := leS_23.tr hle1
              refine lv_istore (lv' := [(5, .int r78), (0, .ref b), (1, .ref q1), (2, .ref q6), (3, .ref q11), (4, .int v4_23)]) hx hb d_L_law_315 hl16 (by decide) rfl (fun ls hl81 => ?_)
              refine lv_aload_n hx hb d_L_law_317 rfl (lv_at hl81 3 rfl) ?_
              refine lv_aload_n hx hb d_L_law_318 rfl (lv_at hl81 1 rfl) ?_
              refine lv_iload hx hb d_L_law_319 (lv_at hl81 5 rfl) ?_
              refine lv_iconst (v := 1) hx hb d_L_law_321 (by decide) ?_
              refine lv_iadd hx hb d_L_law_322 ?_
              obtain ⟨hi82, h⟩ := h
              refine va_sld hx hb hX hbl hbA hG.2.2.1 hi82 d_L_law_323 ?_
              refine lv_topi (fun v83 ev83 => ?_)
              replace h := h v83 ev83
              -- call M_learn
              refine gci hK hG (va_runV (As := [.int v83]) (rest := []) ⟨hx, hb, hml, hown, hw⟩ (m_M_learn l x S79 _ q6 v83 f8 h) ⟨gcb hw tw_1063 tw_43 tw_1060 hd_M_learn rfl rfl ⟨(Nat.le_of_ble_eq_true rfl), (Nat.le_of_ble_eq_true rfl)⟩, hw _ tw_1061, hw _ tw_1062⟩ (gpV hK hG kd_M f8 rfl) rfl rfl hl81.1 rfl (lv_room (Nat.le_of_ble_eq_true rfl)) d_L_law_324 ⟨(by show _ ≤ (601024 : Nat); omega), (by show _ ≤ (7293034 : Nat); omega)⟩) (fun r84 S85 H locs h9 hle1 hG => ?_)
              replace h := h9
              clear h9
              have f3 := gle_isA hle1 f3
              have f8 := gle_isA hle1 f8
              have f13 := gle_isA hle1 f13
              have leS := leS.tr hle1
              have leS12 := leS12.tr hle1
              have leS_23 := leS_23.tr hle1
              refine lv_istore (lv' := [(6, .int r84), (5, .int r78), (0, .ref b), (1, .ref q1), (2, .ref q6), (3, .ref q11), (4, .int v4_23)]) hx hb d_L_law_327 hl81 (by decide) rfl (fun ls hl86 => ?_)
              refine lv_aload_n hx hb d_L_law_329 rfl (lv_at hl86 4 rfl) ?_
              -- call M_thrown
              refine gpi hK hG (va_runV (As := []) (rest := []) ⟨hx, hb, hml, hown, hw⟩ (m_M_thrown l x S85 _ q6 f8 h) ⟨gcb hw tw_1044 tw_43 tw_1041 hd_M_thrown rfl rfl ⟨(Nat.le_of_ble_eq_true rfl), (Nat.le_of_ble_eq_true rfl)⟩, hw _ tw_1042, hw _ tw_1043⟩ (gpV hK hG kd_M f8 rfl) rfl rfl hl86.1 rfl (lv_room (Nat.le_of_ble_eq_true rfl)) d_L_law_330 ⟨(by show _ ≤ (601024 : Nat); omega), (by show _ ≤ (7293034 : Nat); omega)⟩) (fun r87 H locs h9 hG => ?_)
              replace h := h9
              clear h9
              refine lv_iload hx hb d_L_law_333 (lv_at hl86 1 rfl) ?_
              refine lv_icmp_eq (tgt := 340) hx hb d_L_law_335 (by decide) (fun hc92 => ?_) (fun hc92 => ?_)
              · replace h := h.1 hc92
                refine lv_iload hx hb d_L_law_340 (lv_at hl86 1 rfl) ?_
                have leS85 : gle S85 S85 := gle.rf
                obtain ⟨J357, hJ357, h⟩ := h
                have k357 : ∀ (H : Heap) (locs : List Loc) (ls : Array Slot), GH x S85 s H locs → lv_has ls 9 [(0, .ref b), (1, .ref q1), (2, .ref q6), (3, .ref q11), (4, .int v4_23)] → J357 → W p l e room_1 s m #[Value.ref b] below meth c H locs (kc_23 + 1) (ks_23 + 6) (lw_Z below #[Value.ref b] s) (F0 m 357 ls []) := by
                  intro  H locs ls hG hl88 hj
                  replace h := hJ357 hj
                  refine lv_goto (tgt := 1583) hx hb d_L_law_357 (by decide) ?_
                  exact k1583 S85 (kc_23 + 1) (ks_23 + 6) H locs ls leS_23 hG (lv_sub hl88 [0, 1, 2, 3, 4] rfl) h
                refine lv_if_ne (tgt := 357) hx hb d_L_law_342 (by decide) (fun hc91 => ?_) (fun hc91 => ?_)
                · replace h := h.2 hc91
                  exact k357 H locs ls hG (lv_sub hl86 [2, 3, 4, 5, 6] rfl) h
                · replace h := h.1 hc91
                  refine lv_aload_n hx hb d_L_law_345 rfl (lv_at hl86 5 rfl) ?_
                  refine lv_iconst (v := 0) hx hb d_L_law_346 (by decide) ?_
                  obtain ⟨hi89, h⟩ := h
                  refine glald hx hb hK hG f13 hi89 d_L_law_347 ?_
                  refine lv_iload hx hb d_L_law_348 (lv_at hl86 0 rfl) ?_
                  refine lv_i2l hx hb d_L_law_350 rfl ?_
                  refine W.lcmp hx hb d_L_law_351 ?_
                  refine lv_if_eq (tgt := 357) hx hb d_L_law_352 (by decide) (fun hc90 => ?_) (fun hc90 => ?_)
                  · replace h := h.1 hc90
                    exact k357 H locs ls hG (lv_sub hl86 [2, 3, 4, 5, 6] rfl) h
                  · replace h := h.2 hc90
                    refine lv_iconst (v := 0) hx hb d_L_law_355 (by decide) ?_
                    exact h.elim
              · replace h := h.2 hc92
                refine lv_iconst (v := 0) hx hb d_L_law_338 (by decide) ?_
                exact h.elim
            · skip
              by_cases hc93 : (v18 &&& 31) = 3
              · replace h := h.2.2.2.1 hc93
                refine lv_tableIn (tgt := 360) hx hb d_L_law_40 (by rw [hc93]; decide) (by rw [hc93]; decide) (by rw [hc93]; rfl) (by decide) ?_
                refine lv_aload_n hx hb d_L_law_360 rfl (lv_at hl16 1 rfl) ?_
                refine lv_aload_n hx hb d_L_law_361 rfl (lv_at hl16 0 rfl) ?_
                refine lv_iload hx hb d_L_law_362 (lv_at hl16 4 rfl) ?_
                refine lv_iconst (v := 1) hx hb d_L_law_364 (by decide) ?_
                refine lv_iadd hx hb d_L_law_365 ?_
                obtain ⟨hi94, h⟩ := h
                refine va_sld hx hb hX hbl hbA hG.2.2.1 hi94 d_L_law_366 ?_
                refine lv_topi (fun v95 ev95 => ?_)
                replace h := h v95 ev95
                refine lv_aload_n hx hb d_L_law_367 rfl (lv_at hl16 0 rfl) ?_
                refine lv_iload hx hb d_L_law_368 (lv_at hl16 4 rfl) ?_
                refine lv_iconst (v := 2) hx hb d_L_law_370 (by decide) ?_
                refine lv_iadd hx hb d_L_law_371 ?_
                obtain ⟨hi96, h⟩ := h
                refine va_sld hx hb hX hbl hbA hG.2.2.1 hi96 d_L_law_372 ?_
                refine lv_topi (fun v97 ev97 => ?_)
                replace h := h v97 ev97
                refine lv_aload_n hx hb d_L_law_373 rfl (lv_at hl16 3 rfl) ?_
                obtain ⟨⟨hk100, hk100b⟩, h⟩ := h
                -- call L_figure
                refine gci hK hG (vx_runSW (As := [.ref q1, .int v95, .int v97, .ref q11]) (rest := []) ⟨hx, hb, hml, hown, hw⟩ (m_L_figure l hlt x S_23 _ (some q1) v95 v97 (some q11) h) (gcsw hw tw_510 tw_27 tw_508 tw_509 hd_L_figure rfl rfl ⟨(Nat.le_of_ble_eq_true rfl), (Nat.le_of_ble_eq_true rfl)⟩) (gpSL hK hN hG) rfl rfl hl16.1 rfl (lv_room (Nat.le_of_ble_eq_true rfl)) d_L_law_374 ⟨(by show _ ≤ (601024 : Nat); omega), (by show _ ≤ (7293034 : Nat); omega)⟩) (fun r98 S99 H locs h9 hle1 hG => ?_)
                replace h := h9
                clear h9
                have f3 := gle_isA hle1 f3
                have f8 := gle_isA hle1 f8
                have f13 := gle_isA hle1 f13
                have leS := leS.tr hle1
                have leS12 := leS12.tr hle1
                have leS_23 := leS_23.tr hle1
                refine lv_istore (lv' := [(5, .int r98), (0, .ref b), (1, .ref q1), (2, .ref q6), (3, .ref q11), (4, .int v4_23)]) hx hb d_L_law_377 hl16 (by decide) rfl (fun ls hl101 => ?_)
                refine lv_aload_n hx hb d_L_law_379 rfl (lv_at hl101 3 rfl) ?_
                refine lv_aload_n hx hb d_L_law_380 rfl (lv_at hl101 1 rfl) ?_
                refine lv_iload hx hb d_L_law_381 (lv_at hl101 5 rfl) ?_
                refine lv_iconst (v := 1) hx hb d_L_law_383 (by decide) ?_
                refine lv_iadd hx hb d_L_law_384 ?_
                obtain ⟨hi102, h⟩ := h
                refine va_sld hx hb hX hbl hbA hG.2.2.1 hi102 d_L_law_385 ?_
                refine lv_topi (fun v103 ev103 => ?_)
                replace h := h v103 ev103
                refine lv_aload_n hx hb d_L_law_386 rfl (lv_at hl101 1 rfl) ?_
                refine lv_iload hx hb d_L_law_387 (lv_at hl101 5 rfl) ?_
                refine lv_iconst (v := 2) hx hb d_L_law_389 (by decide) ?_
                refine lv_iadd hx hb d_L_law_390 ?_
                obtain ⟨hi104, h⟩ := h
                refine va_sld hx hb hX hbl hbA hG.2.2.1 hi104 d_L_law_391 ?_
                refine lv_topi (fun v105 ev105 => ?_)
                replace h := h v105 ev105
                -- call M_figure
                refine gci hK hG (va_runV (As := [.int v103, .int v105]) (rest := []) ⟨hx, hb, hml, hown, hw⟩ (m_M_figure l x S99 _ q6 v103 v105 f8 h) ⟨gcb hw tw_1072 tw_43 tw_1069 hd_M_figure rfl rfl ⟨(Nat.le_of_ble_eq_true rfl), (Nat.le_of_ble_eq_true rfl)⟩, hw _ tw_1070, hw _ tw_1071⟩ (gpV hK hG kd_M f8 rfl) rfl rfl hl101.1 rfl (lv_room (Nat.le_of_ble_eq_true rfl)) d_L_law_392 ⟨(by show _ ≤ (601024 : Nat); omega), (by show _ ≤ (7293034 : Nat); omega)⟩) (fun r106 S107 H locs h9 hle1 hG => ?_)
                replace h := h9
                clear h9
                have f3 := gle_isA hle1 f3
                have f8 := gle_isA hle1 f8
                have f13 := gle_isA hle1 f13
                have leS := leS.tr hle1
                have leS12 := leS12.tr hle1
                have leS_23 := leS_23.tr hle1
                refine lv_istore (lv' := [(6, .int r106), (5, .int r98), (0, .ref b), (1, .ref q1), (2, .ref q6), (3, .ref q11), (4, .int v4_23)]) hx hb d_L_law_395 hl101 (by decide) rfl (fun ls hl108 => ?_)
                refine lv_aload_n hx hb d_L_law_397 rfl (lv_at hl108 4 rfl) ?_
                -- call M_thrown
                refine gpi hK hG (va_runV (As := []) (rest := []) ⟨hx, hb, hml, hown, hw⟩ (m_M_thrown l x S107 _ q6 f8 h) ⟨gcb hw tw_1044 tw_43 tw_1041 hd_M_thrown rfl rfl ⟨(Nat.le_of_ble_eq_true rfl), (Nat.le_of_ble_eq_true rfl)⟩, hw _ tw_1042, hw _ tw_1043⟩ (gpV hK hG kd_M f8 rfl) rfl rfl hl108.1 rfl (lv_room (Nat.le_of_ble_eq_true rfl)) d_L_law_398 ⟨(by show _ ≤ (601024 : Nat); omega), (by show _ ≤ (7293034 : Nat); omega)⟩) (fun r109 H locs h9 hG => ?_)
                replace h := h9
                clear h9
                refine lv_iload hx hb d_L_law_401 (lv_at hl108 1 rfl) ?_
                refine lv_icmp_eq (tgt := 408) hx hb d_L_law_403 (by decide) (fun hc114 => ?_) (fun hc114 => ?_)
                · replace h := h.1 hc114
                  refine lv_iload hx hb d_L_law_408 (lv_at hl108 1 rfl) ?_
                  have leS107 : gle S107 S107 := gle.rf
                  obtain ⟨J425, hJ425, h⟩ := h
                  have k425 : ∀ (H : Heap) (locs : List Loc) (ls : Array Slot), GH x S107 s H locs → lv_has ls 9 [(0, .ref b), (1, .ref q1), (2, .ref q6), (3, .ref q11), (4, .int v4_23)] → J425 → W p l e room_1 s m #[Value.ref b] below meth c H locs (kc_23 + 2) (ks_23 + 12) (lw_Z below #[Value.ref b] s) (F0 m 425 ls []) := by
                    intro  H locs ls hG hl110 hj
                    replace h := hJ425 hj
                    refine lv_goto (tgt := 1583) hx hb d_L_law_425 (by decide) ?_
                    exact k1583 S107 (kc_23 + 2) (ks_23 + 12) H locs ls leS_23 hG (lv_sub hl110 [0, 1, 2, 3, 4] rfl) h
                  refine lv_if_ne (tgt := 425) hx hb d_L_law_410 (by decide) (fun hc113 => ?_) (fun hc113 => ?_)
                  · replace h := h.2 hc113
                    exact k425 H locs ls hG (lv_sub hl108 [2, 3, 4, 5, 6] rfl) h
                  · replace h := h.1 hc113
                    refine lv_aload_n hx hb d_L_law_413 rfl (lv_at hl108 5 rfl) ?_
                    refine lv_iconst (v := 0) hx hb d_L_law_414 (by decide) ?_
                    obtain ⟨hi111, h⟩ := h
                    refine glald hx hb hK hG f13 hi111 d_L_law_415 ?_
                    refine lv_iload hx hb d_L_law_416 (lv_at hl108 0 rfl) ?_
                    refine lv_i2l hx hb d_L_law_418 rfl ?_
                    refine W.lcmp hx hb d_L_law_419 ?_
                    refine lv_if_eq (tgt := 425) hx hb d_L_law_420 (by decide) (fun hc112 => ?_) (fun hc112 => ?_)
                    · replace h := h.1 hc112
                      exact k425 H locs ls hG (lv_sub hl108 [2, 3, 4, 5, 6] rfl) h
                    · replace h := h.2 hc112
                      refine lv_iconst (v := 0) hx hb d_L_law_423 (by decide) ?_
                      exact h.elim
                · replace h := h.2 hc114
                  refine lv_iconst (v := 0) hx hb d_L_law_406 (by decide) ?_
                  exact h.elim
              · skip
                by_cases hc115 : (v18 &&& 31) = 4
                · replace h := h.2.2.2.2.1 hc115
                  refine lv_tableIn (tgt := 428) hx hb d_L_law_40 (by rw [hc115]; decide) (by rw [hc115]; decide) (by rw [hc115]; rfl) (by decide) ?_
                  refine lv_aload_n hx hb d_L_law_428 rfl (lv_at hl16 1 rfl) ?_
                  refine lv_aload_n hx hb d_L_law_429 rfl (lv_at hl16 0 rfl) ?_
                  refine lv_iload hx hb d_L_law_430 (lv_at hl16 4 rfl) ?_
                  refine lv_iconst (v := 1) hx hb d_L_law_432 (by decide) ?_
                  refine lv_iadd hx hb d_L_law_433 ?_
                  obtain ⟨hi116, h⟩ := h
                  refine va_sld hx hb hX hbl hbA hG.2.2.1 hi116 d_L_law_434 ?_
                  refine lv_topi (fun v117 ev117 => ?_)
                  replace h := h v117 ev117
                  refine lv_aload_n hx hb d_L_law_435 rfl (lv_at hl16 0 rfl) ?_
                  refine lv_iload hx hb d_L_law_436 (lv_at hl16 4 rfl) ?_
                  refine lv_iconst (v := 2) hx hb d_L_law_438 (by decide) ?_
                  refine lv_iadd hx hb d_L_law_439 ?_
                  obtain ⟨hi118, h⟩ := h
                  refine va_sld hx hb hX hbl hbA hG.2.2.1 hi118 d_L_law_440 ?_
                  refine lv_topi (fun v119 ev119 => ?_)
                  replace h := h v119 ev119
                  refine lv_aload_n hx hb d_L_law_441 rfl (lv_at hl16 3 rfl) ?_
                  obtain ⟨⟨hk122, hk122b⟩, h⟩ := h
                  -- call L_drift
                  refine gci hK hG (vx_runSW (As := [.ref q1, .int v117, .int v119, .ref q11]) (rest := []) ⟨hx, hb, hml, hown, hw⟩ (m_L_drift l hlt x S_23 _ (some q1) v117 v119 (some q11) h) (gcsw hw tw_519 tw_27 tw_517 tw_518 hd_L_drift rfl rfl ⟨(Nat.le_of_ble_eq_true rfl), (Nat.le_of_ble_eq_true rfl)⟩) (gpSL hK hN hG) rfl rfl hl16.1 rfl (lv_room (Nat.le_of_ble_eq_true rfl)) d_L_law_442 ⟨(by show _ ≤ (601024 : Nat); omega), (by show _ ≤ (7293034 : Nat); omega)⟩) (fun r120 S121 H locs h9 hle1 hG => ?_)
                  replace h := h9
                  clear h9
                  have f3 := gle_isA hle1 f3
                  have f8 := gle_isA hle1 f8
                  have f13 := gle_isA hle1 f13
                  have leS := leS.tr hle1
                  have leS12 := leS12.tr hle1
                  have leS_23 := leS_23.tr hle1
                  refine lv_istore (lv' := [(5, .int r120), (0, .ref b), (1, .ref q1), (2, .ref q6), (3, .ref q11), (4, .int v4_23)]) hx hb d_L_law_445 hl16 (by decide) rfl (fun ls hl123 => ?_)
                  refine lv_aload_n hx hb d_L_law_447 rfl (lv_at hl123 3 rfl) ?_
                  refine lv_aload_n hx hb d_L_law_448 rfl (lv_at hl123 1 rfl) ?_
                  refine lv_iload hx hb d_L_law_449 (lv_at hl123 5 rfl) ?_
                  refine lv_iconst (v := 1) hx hb d_L_law_451 (by decide) ?_
                  refine lv_iadd hx hb d_L_law_452 ?_
                  obtain ⟨hi124, h⟩ := h
                  refine va_sld hx hb hX hbl hbA hG.2.2.1 hi124 d_L_law_453 ?_
                  refine lv_topi (fun v125 ev125 => ?_)
                  replace h := h v125 ev125
                  refine lv_aload_n hx hb d_L_law_454 rfl (lv_at hl123 1 rfl) ?_
                  refine lv_iload hx hb d_L_law_455 (lv_at hl123 5 rfl) ?_
                  refine lv_iconst (v := 2) hx hb d_L_law_457 (by decide) ?_
                  refine lv_iadd hx hb d_L_law_458 ?_
                  obtain ⟨hi126, h⟩ := h
                  refine va_sld hx hb hX hbl hbA hG.2.2.1 hi126 d_L_law_459 ?_
                  refine lv_topi (fun v127 ev127 => ?_)
                  replace h := h v127 ev127
                  -- call M_drift
                  refine gci hK hG (va_runV (As := [.int v125, .int v127]) (rest := []) ⟨hx, hb, hml, hown, hw⟩ (m_M_drift l x S121 _ q6 v125 v127 f8 h) ⟨gcb hw tw_1076 tw_43 tw_1073 hd_M_drift rfl rfl ⟨(Nat.le_of_ble_eq_true rfl), (Nat.le_of_ble_eq_true rfl)⟩, hw _ tw_1074, hw _ tw_1075⟩ (gpV hK hG kd_M f8 rfl) rfl rfl hl123.1 rfl (lv_room (Nat.le_of_ble_eq_true rfl)) d_L_law_460 ⟨(by show _ ≤ (601024 : Nat); omega), (by show _ ≤ (7293034 : Nat); omega)⟩) (fun r128 S129 H locs h9 hle1 hG => ?_)
                  replace h := h9
                  clear h9
                  have f3 := gle_isA hle1 f3
                  have f8 := gle_isA hle1 f8
                  have f13 := gle_isA hle1 f13
                  have leS := leS.tr hle1
                  have leS12 := leS12.tr hle1
                  have leS_23 := leS_23.tr hle1
                  refine lv_istore (lv' := [(6, .int r128), (5, .int r120), (0, .ref b), (1, .ref q1), (2, .ref q6), (3, .ref q11), (4, .int v4_23)]) hx hb d_L_law_463 hl123 (by decide) rfl (fun ls hl130 => ?_)
                  refine lv_aload_n hx hb d_L_law_465 rfl (lv_at hl130 4 rfl) ?_
                  -- call M_thrown
                  refine gpi hK hG (va_runV (As := []) (rest := []) ⟨hx, hb, hml, hown, hw⟩ (m_M_thrown l x S129 _ q6 f8 h) ⟨gcb hw tw_1044 tw_43 tw_1041 hd_M_thrown rfl rfl ⟨(Nat.le_of_ble_eq_true rfl), (Nat.le_of_ble_eq_true rfl)⟩, hw _ tw_1042, hw _ tw_1043⟩ (gpV hK hG kd_M f8 rfl) rfl rfl hl130.1 rfl (lv_room (Nat.le_of_ble_eq_true rfl)) d_L_law_466 ⟨(by show _ ≤ (601024 : Nat); omega), (by show _ ≤ (7293034 : Nat); omega)⟩) (fun r131 H locs h9 hG => ?_)
                  replace h := h9
                  clear h9
                  refine lv_iload hx hb d_L_law_469 (lv_at hl130 1 rfl) ?_
                  refine lv_icmp_eq (tgt := 476) hx hb d_L_law_471 (by decide) (fun hc136 => ?_) (fun hc136 => ?_)
                  · replace h := h.1 hc136
                    refine lv_iload hx hb d_L_law_476 (lv_at hl130 1 rfl) ?_
                    have leS129 : gle S129 S129 := gle.rf
                    obtain ⟨J493, hJ493, h⟩ := h
                    have k493 : ∀ (H : Heap) (locs : List Loc) (ls : Array Slot), GH x S129 s H locs → lv_has ls 9 [(0, .ref b), (1, .ref q1), (2, .ref q6), (3, .ref q11), (4, .int v4_23)] → J493 → W p l e room_1 s m #[Value.ref b] below meth c H locs (kc_23 + 2) (ks_23 + 12) (lw_Z below #[Value.ref b] s) (F0 m 493 ls []) := by
                      intro  H locs ls hG hl132 hj
                      replace h := hJ493 hj
                      refine lv_goto (tgt := 1583) hx hb d_L_law_493 (by decide) ?_
                      exact k1583 S129 (kc_23 + 2) (ks_23 + 12) H locs ls leS_23 hG (lv_sub hl132 [0, 1, 2, 3, 4] rfl) h
                    refine lv_if_ne (tgt := 493) hx hb d_L_law_478 (by decide) (fun hc135 => ?_) (fun hc135 => ?_)
                    · replace h := h.2 hc135
                      exact k493 H locs ls hG (lv_sub hl130 [2, 3, 4, 5, 6] rfl) h
                    · replace h := h.1 hc135
                      refine lv_aload_n hx hb d_L_law_481 rfl (lv_at hl130 5 rfl) ?_
                      refine lv_iconst (v := 0) hx hb d_L_law_482 (by decide) ?_
                      obtain ⟨hi133, h⟩ := h
                      refine glald hx hb hK hG f13 hi133 d_L_law_483 ?_
                      refine lv_iload hx hb d_L_law_484 (lv_at hl130 0 rfl) ?_
                      refine lv_i2l hx hb d_L_law_486 rfl ?_
                      refine W.lcmp hx hb d_L_law_487 ?_
                      refine lv_if_eq (tgt := 493) hx hb d_L_law_488 (by decide) (fun hc134 => ?_) (fun hc134 => ?_)
                      · replace h := h.1 hc134
                        exact k493 H locs ls hG (lv_sub hl130 [2, 3, 4, 5, 6] rfl) h
                      · replace h := h.2 hc134
                        refine lv_iconst (v := 0) hx hb d_L_law_491 (by decide) ?_
                        exact h.elim
                  · replace h := h.2 hc136
                    refine lv_iconst (v := 0) hx hb d_L_law_474 (by decide) ?_
                    exact h.elim
                · skip
                  by_cases hc137 : (v18 &&& 31) = 5
                  · replace h := h.2.2.2.2.2.1 hc137
                    refine lv_tableIn (tgt := 496) hx hb d_L_law_40 (by rw [hc137]; decide) (by rw [hc137]; decide) (by rw [hc137]; rfl) (by decide) ?_
                    refine lv_aload_n hx hb d_L_law_496 rfl (lv_at hl16 1 rfl) ?_
                    refine lv_aload_n hx hb d_L_law_497 rfl (lv_at hl16 0 rfl) ?_
                    refine lv_iload hx hb d_L_law_498 (lv_at hl16 4 rfl) ?_
                    refine lv_iconst (v := 1) hx hb d_L_law_500 (by decide) ?_
                    refine lv_iadd hx hb d_L_law_501 ?_
                    obtain ⟨hi138, h⟩ := h
                    refine va_sld hx hb hX hbl hbA hG.2.2.1 hi138 d_L_law_502 ?_
                    refine lv_topi (fun v139 ev139 => ?_)
                    replace h := h v139 ev139
                    refine lv_aload_n hx hb d_L_law_503 rfl (lv_at hl16 0 rfl) ?_
                    refine lv_iload hx hb d_L_law_504 (lv_at hl16 4 rfl) ?_
                    refine lv_iconst (v := 2) hx hb d_L_law_506 (by decide) ?_
                    refine lv_iadd hx hb d_L_law_507 ?_
                    obtain ⟨hi140, h⟩ := h
                    refine va_sld hx hb hX hbl hbA hG.2.2.1 hi140 d_L_law_508 ?_
                    refine lv_topi (fun v141 ev141 => ?_)
                    replace h := h v141 ev141
                    refine lv_aload_n hx hb d_L_law_509 rfl (lv_at hl16 0 rfl) ?_
                    refine lv_iload hx hb d_L_law_510 (lv_at hl16 4 rfl) ?_
                    refine lv_iconst (v := 3) hx hb d_L_law_512 (by decide) ?_
                    refine lv_iadd hx hb d_L_law_513 ?_
                    obtain ⟨hi142, h⟩ := h
                    refine va_sld hx hb hX hbl hbA hG.2.2.1 hi142 d_L_law_514 ?_
                    refine lv_topi (fun v143 ev143 => ?_)
                    replace h := h v143 ev143
                    refine lv_aload_n hx hb d_L_law_515 rfl (lv_at hl16 0 rfl) ?_
                    refine lv_iload hx hb d_L_law_516 (lv_at hl16 4 rfl) ?_
                    refine lv_iconst (v := 4) hx hb d_L_law_518 (by decide) ?_
                    refine lv_iadd hx hb d_L_law_519 ?_
                    obtain ⟨hi144, h⟩ := h
                    refine va_sld hx hb hX hbl hbA hG.2.2.1 hi144 d_L_law_520 ?_
                    refine lv_topi (fun v145 ev145 => ?_)
                    replace h := h v145 ev145
                    refine lv_aload_n hx hb d_L_law_521 rfl (lv_at hl16 3 rfl) ?_
                    obtain ⟨⟨hk148, hk148b⟩, h⟩ := h
                    -- call L_come
                    refine gci hK hG (vx_runSW (As := [.ref q1, .int v139, .int v141, .int v143, .int v145, .ref q11]) (rest := []) ⟨hx, hb, hml, hown, hw⟩ (m_L_come l hlt x S_23 _ (some q1) v139 v141 v143 v145 (some q11) h) (gcsw hw tw_554 tw_27 tw_552 tw_553 hd_L_come rfl rfl ⟨(Nat.le_of_ble_eq_true rfl), (Nat.le_of_ble_eq_true rfl)⟩) (gpSL hK hN hG) rfl rfl hl16.1 rfl (lv_room (Nat.le_of_ble_eq_true rfl)) d_L_law_522 ⟨(by show _ ≤ (601024 : Nat); omega), (by show _ ≤ (7293034 : Nat); omega)⟩) (fun r146 S147 H locs h9 hle1 hG => ?_)
                    replace h := h9
                    clear h9
                    have f3 := gle_isA hle1 f3
                    have f8 := gle_isA hle1 f8
                    have f13 := gle_isA hle1 f13
                    have leS := leS.tr hle1
                    have leS12 := leS12.tr hle1
                    have leS_23 := leS_23.tr hle1
                    refine lv_istore (lv' := [(5, .int r146), (0, .ref b), (1, .ref q1), (2, .ref q6), (3, .ref q11), (4, .int v4_23)]) hx hb d_L_law_525 hl16 (by decide) rfl (fun ls hl149 => ?_)
                    refine lv_aload_n hx hb d_L_law_527 rfl (lv_at hl149 3 rfl) ?_
                    refine lv_aload_n hx hb d_L_law_528 rfl (lv_at hl149 1 rfl) ?_
                    refine lv_iload hx hb d_L_law_529 (lv_at hl149 5 rfl) ?_
                    refine lv_iconst (v := 1) hx hb d_L_law_531 (by decide) ?_
                    refine lv_iadd hx hb d_L_law_532 ?_
                    obtain ⟨hi150, h⟩ := h
                    refine va_sld hx hb hX hbl hbA hG.2.2.1 hi150 d_L_law_533 ?_
                    refine lv_topi (fun v151 ev151 => ?_)
                    replace h := h v151 ev151
                    refine lv_aload_n hx hb d_L_law_534 rfl (lv_at hl149 1 rfl) ?_
                    refine lv_iload hx hb d_L_law_535 (lv_at hl149 5 rfl) ?_
                    refine lv_iconst (v := 2) hx hb d_L_law_537 (by decide) ?_
                    refine lv_iadd hx hb d_L_law_538 ?_
                    obtain ⟨hi152, h⟩ := h
                    refine va_sld hx hb hX hbl hbA hG.2.2.1 hi152 d_L_law_539 ?_
                    refine lv_topi (fun v153 ev153 => ?_)
                    replace h := h v153 ev153
                    refine lv_aload_n hx hb d_L_law_540 rfl (lv_at hl149 1 rfl) ?_
                    refine lv_iload hx hb d_L_law_541 (lv_at hl149 5 rfl) ?_
                    refine lv_iconst (v := 3) hx hb d_L_law_543 (by decide) ?_
                    refine lv_iadd hx hb d_L_law_544 ?_
                    obtain ⟨hi154, h⟩ := h
                    refine va_sld hx hb hX hbl hbA hG.2.2.1 hi154 d_L_law_545 ?_
                    refine lv_topi (fun v155 ev155 => ?_)
                    replace h := h v155 ev155
                    refine lv_aload_n hx hb d_L_law_546 rfl (lv_at hl149 1 rfl) ?_
                    refine lv_iload hx hb d_L_law_547 (lv_at hl149 5 rfl) ?_
                    refine lv_iconst (v := 4) hx hb d_L_law_549 (by decide) ?_
                    refine lv_iadd hx hb d_L_law_550 ?_
                    obtain ⟨hi156, h⟩ := h
                    refine va_sld hx hb hX hbl hbA hG.2.2.1 hi156 d_L_law_551 ?_
                    refine lv_topi (fun v157 ev157 => ?_)
                    replace h := h v157 ev157
                    -- call M_come
                    refine gci hK hG (va_runV (As := [.int v151, .int v153, .int v155, .int v157]) (rest := []) ⟨hx, hb, hml, hown, hw⟩ (m_M_come l x S147 _ q6 v151 v153 v155 v157 f8 h) ⟨gcb hw tw_1084 tw_43 tw_1081 hd_M_come rfl rfl ⟨(Nat.le_of_ble_eq_true rfl), (Nat.le_of_ble_eq_true rfl)⟩, hw _ tw_1082, hw _ tw_1083⟩ (gpV hK hG kd_M f8 rfl) rfl rfl hl149.1 rfl (lv_room (Nat.le_of_ble_eq_true rfl)) d_L_law_552 ⟨(by show _ ≤ (601024 : Nat); omega), (by show _ ≤ (7293034 : Nat); omega)⟩) (fun r158 S159 H locs h9 hle1 hG => ?_)
                    replace h := h9
                    clear h9
                    have f3 := gle_isA hle1 f3
                    have f8 := gle_isA hle1 f8
                    have f13 := gle_isA hle1 f13
                    have leS := leS.tr hle1
                    have leS12 := leS12.tr hle1
                    have leS_23 := leS_23.tr hle1
                    refine lv_istore (lv' := [(6, .int r158), (5, .int r146), (0, .ref b), (1, .ref q1), (2, .ref q6), (3, .ref q11), (4, .int v4_23)]) hx hb d_L_law_555 hl149 (by decide) rfl (fun ls hl160 => ?_)
                    refine lv_aload_n hx hb d_L_law_557 rfl (lv_at hl160 4 rfl) ?_
                    -- call M_thrown
                    refine gpi hK hG (va_runV (As := []) (rest := []) ⟨hx, hb, hml, hown, hw⟩ (m_M_thrown l x S159 _ q6 f8 h) ⟨gcb hw tw_1044 tw_43 tw_1041 hd_M_thrown rfl rfl ⟨(Nat.le_of_ble_eq_true rfl), (Nat.le_of_ble_eq_true rfl)⟩, hw _ tw_1042, hw _ tw_1043⟩ (gpV hK hG kd_M f8 rfl) rfl rfl hl160.1 rfl (lv_room (Nat.le_of_ble_eq_true rfl)) d_L_law_558 ⟨(by show _ ≤ (601024 : Nat); omega), (by show _ ≤ (7293034 : Nat); omega)⟩) (fun r161 H locs h9 hG => ?_)
                    replace h := h9
                    clear h9
                    refine lv_iload hx hb d_L_law_561 (lv_at hl160 1 rfl) ?_
                    refine lv_icmp_eq (tgt := 568) hx hb d_L_law_563 (by decide) (fun hc166 => ?_) (fun hc166 => ?_)
                    · replace h := h.1 hc166
                      refine lv_iload hx hb d_L_law_568 (lv_at hl160 1 rfl) ?_
                      have leS159 : gle S159 S159 := gle.rf
                      obtain ⟨J585, hJ585, h⟩ := h
                      have k585 : ∀ (H : Heap) (locs : List Loc) (ls : Array Slot), GH x S159 s H locs → lv_has ls 9 [(0, .ref b), (1, .ref q1), (2, .ref q6), (3, .ref q11), (4, .int v4_23)] → J585 → W p l e room_1 s m #[Value.ref b] below meth c H locs (kc_23 + 2) (ks_23 + 25) (lw_Z below #[Value.ref b] s) (F0 m 585 ls []) := by
                        intro  H locs ls hG hl162 hj
                        replace h := hJ585 hj
                        refine lv_goto (tgt := 1583) hx hb d_L_law_585 (by decide) ?_
                        exact k1583 S159 (kc_23 + 2) (ks_23 + 25) H locs ls leS_23 hG (lv_sub hl162 [0, 1, 2, 3, 4] rfl) h
                      refine lv_if_ne (tgt := 585) hx hb d_L_law_570 (by decide) (fun hc165 => ?_) (fun hc165 => ?_)
                      · replace h := h.2 hc165
                        exact k585 H locs ls hG (lv_sub hl160 [2, 3, 4, 5, 6] rfl) h
                      · replace h := h.1 hc165
                        refine lv_aload_n hx hb d_L_law_573 rfl (lv_at hl160 5 rfl) ?_
                        refine lv_iconst (v := 0) hx hb d_L_law_574 (by decide) ?_
                        obtain ⟨hi163, h⟩ := h
                        refine glald hx hb hK hG f13 hi163 d_L_law_575 ?_
                        refine lv_iload hx hb d_L_law_576 (lv_at hl160 0 rfl) ?_
                        refine lv_i2l hx hb d_L_law_578 rfl ?_
                        refine W.lcmp hx hb d_L_law_579 ?_
                        refine lv_if_eq (tgt := 585) hx hb d_L_law_580 (by decide) (fun hc164 => ?_) (fun hc164 => ?_)
                        · replace h := h.1 hc164
                          exact k585 H locs ls hG (lv_sub hl160 [2, 3, 4, 5, 6] rfl) h
                        · replace h := h.2 hc164
                          refine lv_iconst (v := 0) hx hb d_L_law_583 (by decide) ?_
                          exact h.elim
                    · replace h := h.2 hc166
                      refine lv_iconst (v := 0) hx hb d_L_law_566 (by decide) ?_
                      exact h.elim
                  · skip
                    by_cases hc167 : (v18 &&& 31) = 6
                    · replace h := h.2.2.2.2.2.2.1 hc167
                      refine lv_tableIn (tgt := 588) hx hb d_L_law_40 (by rw [hc167]; decide) (by rw [hc167]; decide) (by rw [hc167]; rfl) (by decide) ?_
                      refine lv_aload_n hx hb d_L_law_588 rfl (lv_at hl16 1 rfl) ?_
                      refine lv_aload_n hx hb d_L_law_589 rfl (lv_at hl16 0 rfl) ?_
                      refine lv_iload hx hb d_L_law_590 (lv_at hl16 4 rfl) ?_
                      refine lv_iconst (v := 1) hx hb d_L_law_592 (by decide) ?_
                      refine lv_iadd hx hb d_L_law_593 ?_
                      obtain ⟨hi168, h⟩ := h
                      refine va_sld hx hb hX hbl hbA hG.2.2.1 hi168 d_L_law_594 ?_
                      refine lv_topi (fun v169 ev169 => ?_)
                      replace h := h v169 ev169
                      refine lv_aload_n hx hb d_L_law_595 rfl (lv_at hl16 0 rfl) ?_
                      refine lv_iload hx hb d_L_law_596 (lv_at hl16 4 rfl) ?_
                      refine lv_iconst (v := 2) hx hb d_L_law_598 (by decide) ?_
                      refine lv_iadd hx hb d_L_law_599 ?_
                      obtain ⟨hi170, h⟩ := h
                      refine va_sld hx hb hX hbl hbA hG.2.2.1 hi170 d_L_law_600 ?_
                      refine lv_topi (fun v171 ev171 => ?_)
                      replace h := h v171 ev171
                      refine lv_aload_n hx hb d_L_law_601 rfl (lv_at hl16 3 rfl) ?_
                      obtain ⟨⟨hk174, hk174b⟩, h⟩ := h
                      -- call L_dance
                      refine gci hK hG (vx_runSW (As := [.ref q1, .int v169, .int v171, .ref q11]) (rest := []) ⟨hx, hb, hml, hown, hw⟩ (m_L_dance l hlt x S_23 _ (some q1) v169 v171 (some q11) h) (gcsw hw tw_646 tw_27 tw_644 tw_645 hd_L_dance rfl rfl ⟨(Nat.le_of_ble_eq_true rfl), (Nat.le_of_ble_eq_true rfl)⟩) (gpSL hK hN hG) rfl rfl hl16.1 rfl (lv_room (Nat.le_of_ble_eq_true rfl)) d_L_law_602 ⟨(by show _ ≤ (601024 : Nat); omega), (by show _ ≤ (7293034 : Nat); omega)⟩) (fun r172 S173 H locs h9 hle1 hG => ?_)
                      replace h := h9
                      clear h9
                      have f3 := gle_isA hle1 f3
                      have f8 := gle_isA hle1 f8
                      have f13 := gle_isA hle1 f13
                      have leS := leS.tr hle1
                      have leS12 := leS12.tr hle1
                      have leS_23 := leS_23.tr hle1
                      refine lv_istore (lv' := [(5, .int r172), (0, .ref b), (1, .ref q1), (2, .ref q6), (3, .ref q11), (4, .int v4_23)]) hx hb d_L_law_605 hl16 (by decide) rfl (fun ls hl175 => ?_)
                      refine lv_aload_n hx hb d_L_law_607 rfl (lv_at hl175 3 rfl) ?_
                      refine lv_aload_n hx hb d_L_law_608 rfl (lv_at hl175 1 rfl) ?_
                      refine lv_iload hx hb d_L_law_609 (lv_at hl175 5 rfl) ?_
                      refine lv_iconst (v := 1) hx hb d_L_law_611 (by decide) ?_
                      refine lv_iadd hx hb d_L_law_612 ?_
                      obtain ⟨hi176, h⟩ := h
                      refine va_sld hx hb hX hbl hbA hG.2.2.1 hi176 d_L_law_613 ?_
                      refine lv_topi (fun v177 ev177 => ?_)
                      replace h := h v177 ev177
                      refine lv_aload_n hx hb d_L_law_614 rfl (lv_at hl175 1 rfl) ?_
                      refine lv_iload hx hb d_L_law_615 (lv_at hl175 5 rfl) ?_
                      refine lv_iconst (v := 2) hx hb d_L_law_617 (by decide) ?_
                      refine lv_iadd hx hb d_L_law_618 ?_
                      obtain ⟨hi178, h⟩ := h
                      refine va_sld hx hb hX hbl hbA hG.2.2.1 hi178 d_L_law_619 ?_
                      refine lv_topi (fun v179 ev179 => ?_)
                      replace h := h v179 ev179
                      -- call M_dance
                      refine gci hK hG (va_runV (As := [.int v177, .int v179]) (rest := []) ⟨hx, hb, hml, hown, hw⟩ (m_M_dance l x S173 _ q6 v177 v179 f8 h) ⟨gcb hw tw_1092 tw_43 tw_1089 hd_M_dance rfl rfl ⟨(Nat.le_of_ble_eq_true rfl), (Nat.le_of_ble_eq_true rfl)⟩, hw _ tw_1090, hw _ tw_1091⟩ (gpV hK hG kd_M f8 rfl) rfl rfl hl175.1 rfl (lv_room (Nat.le_of_ble_eq_true rfl)) d_L_law_620 ⟨(by show _ ≤ (601024 : Nat); omega), (by show _ ≤ (7293034 : Nat); omega)⟩) (fun r180 S181 H locs h9 hle1 hG => ?_)
                      replace h := h9
                      clear h9
                      have f3 := gle_isA hle1 f3
                      have f8 := gle_isA hle1 f8
                      have f13 := gle_isA hle1 f13
                      have leS := leS.tr hle1
                      have leS12 := leS12.tr hle1
                      have leS_23 := leS_23.tr hle1
                      refine lv_istore (lv' := [(6, .int r180), (5, .int r172), (0, .ref b), (1, .ref q1), (2, .ref q6), (3, .ref q11), (4, .int v4_23)]) hx hb d_L_law_623 hl175 (by decide) rfl (fun ls hl182 => ?_)
                      refine lv_aload_n hx hb d_L_law_625 rfl (lv_at hl182 4 rfl) ?_
                      -- call M_thrown
                      refine gpi hK hG (va_runV (As := []) (rest := []) ⟨hx, hb, hml, hown, hw⟩ (m_M_thrown l x S181 _ q6 f8 h) ⟨gcb hw tw_1044 tw_43 tw_1041 hd_M_thrown rfl rfl ⟨(Nat.le_of_ble_eq_true rfl), (Nat.le_of_ble_eq_true rfl)⟩, hw _ tw_1042, hw _ tw_1043⟩ (gpV hK hG kd_M f8 rfl) rfl rfl hl182.1 rfl (lv_room (Nat.le_of_ble_eq_true rfl)) d_L_law_626 ⟨(by show _ ≤ (601024 : Nat); omega), (by show _ ≤ (7293034 : Nat); omega)⟩) (fun r183 H locs h9 hG => ?_)
                      replace h := h9
                      clear h9
                      refine lv_iload hx hb d_L_law_629 (lv_at hl182 1 rfl) ?_
                      refine lv_icmp_eq (tgt := 636) hx hb d_L_law_631 (by decide) (fun hc188 => ?_) (fun hc188 => ?_)
                      · replace h := h.1 hc188
                        refine lv_iload hx hb d_L_law_636 (lv_at hl182 1 rfl) ?_
                        have leS181 : gle S181 S181 := gle.rf
                        obtain ⟨J653, hJ653, h⟩ := h
                        have k653 : ∀ (H : Heap) (locs : List Loc) (ls : Array Slot), GH x S181 s H locs → lv_has ls 9 [(0, .ref b), (1, .ref q1), (2, .ref q6), (3, .ref q11), (4, .int v4_23)] → J653 → W p l e room_1 s m #[Value.ref b] below meth c H locs (kc_23 + 2) (ks_23 + 12) (lw_Z below #[Value.ref b] s) (F0 m 653 ls []) := by
                          intro  H locs ls hG hl184 hj
                          replace h := hJ653 hj
                          refine lv_goto (tgt := 1583) hx hb d_L_law_653 (by decide) ?_
                          exact k1583 S181 (kc_23 + 2) (ks_23 + 12) H locs ls leS_23 hG (lv_sub hl184 [0, 1, 2, 3, 4] rfl) h
                        refine lv_if_ne (tgt := 653) hx hb d_L_law_638 (by decide) (fun hc187 => ?_) (fun hc187 => ?_)
                        · replace h := h.2 hc187
                          exact k653 H locs ls hG (lv_sub hl182 [2, 3, 4, 5, 6] rfl) h
                        · replace h := h.1 hc187
                          refine lv_aload_n hx hb d_L_law_641 rfl (lv_at hl182 5 rfl) ?_
                          refine lv_iconst (v := 0) hx hb d_L_law_642 (by decide) ?_
                          obtain ⟨hi185, h⟩ := h
                          refine glald hx hb hK hG f13 hi185 d_L_law_643 ?_
                          refine lv_iload hx hb d_L_law_644 (lv_at hl182 0 rfl) ?_
                          refine lv_i2l hx hb d_L_law_646 rfl ?_
                          refine W.lcmp hx hb d_L_law_647 ?_
                          refine lv_if_eq (tgt := 653) hx hb d_L_law_648 (by decide) (fun hc186 => ?_) (fun hc186 => ?_)
                          · replace h := h.1 hc186
                            exact k653 H locs ls hG (lv_sub hl182 [2, 3, 4, 5, 6] rfl) h
                          · replace h := h.2 hc186
                            refine lv_iconst (v := 0) hx hb d_L_law_651 (by decide) ?_
                            exact h.elim
                      · replace h := h.2 hc188
                        refine lv_iconst (v := 0) hx hb d_L_law_634 (by decide) ?_
                        exact h.elim
                    · skip
                      by_cases hc189 : (v18 &&& 31) = 7
                      · replace h := h.2.2.2.2.2.2.2.1 hc189
                        refine lv_tableIn (tgt := 656) hx hb d_L_law_40 (by rw [hc189]; decide) (by rw [hc189]; decide) (by rw [hc189]; rfl) (by decide) ?_
                        refine lv_aload_n hx hb d_L_law_656 rfl (lv_at hl16 1 rfl) ?_
                        refine lv_aload_n hx hb d_L_law_657 rfl (lv_at hl16 0 rfl) ?_
                        refine lv_iload hx hb d_L_law_658 (lv_at hl16 4 rfl) ?_
                        refine lv_iconst (v := 1) hx hb d_L_law_660 (by decide) ?_
                        refine lv_iadd hx hb d_L_law_661 ?_
                        obtain ⟨hi190, h⟩ := h
                        refine va_sld hx hb hX hbl hbA hG.2.2.1 hi190 d_L_law_662 ?_
                        refine lv_topi (fun v191 ev191 => ?_)
                        replace h := h v191 ev191
                        refine lv_aload_n hx hb d_L_law_663 rfl (lv_at hl16 0 rfl) ?_
                        refine lv_iload hx hb d_L_law_664 (lv_at hl16 4 rfl) ?_
                        refine lv_iconst (v := 2) hx hb d_L_law_666 (by decide) ?_
                        refine lv_iadd hx hb d_L_law_667 ?_
                        obtain ⟨hi192, h⟩ := h
                        refine va_sld hx hb hX hbl hbA hG.2.2.1 hi192 d_L_law_668 ?_
                        refine lv_topi (fun v193 ev193 => ?_)
                        replace h := h v193 ev193
                        refine lv_aload_n hx hb d_L_law_669 rfl (lv_at hl16 3 rfl) ?_
                        obtain ⟨⟨hk196, hk196b⟩, h⟩ := h
                        -- call L_pair
                        refine gci hK hG (vx_runSW (As := [.ref q1, .int v191, .int v193, .ref q11]) (rest := []) ⟨hx, hb, hml, hown, hw⟩ (m_L_pair l hlt x S_23 _ (some q1) v191 v193 (some q11) h) (gcsw hw tw_662 tw_27 tw_660 tw_661 hd_L_pair rfl rfl ⟨(Nat.le_of_ble_eq_true rfl), (Nat.le_of_ble_eq_true rfl)⟩) (gpSL hK hN hG) rfl rfl hl16.1 rfl (lv_room (Nat.le_of_ble_eq_true rfl)) d_L_law_670 ⟨(by show _ ≤ (601024 : Nat); omega), (by show _ ≤ (7293034 : Nat); omega)⟩) (fun r194 S195 H locs h9 hle1 hG => ?_)
                        replace h := h9
                        clear h9
                        have f3 := gle_isA hle1 f3
                        have f8 := gle_isA hle1 f8
                        have f13 := gle_isA hle1 f13
                        have leS := leS.tr hle1
                        have leS12 := leS12.tr hle1
                        have leS_23 := leS_23.tr hle1
                        refine lv_istore (lv' := [(5, .int r194), (0, .ref b), (1, .ref q1), (2, .ref q6), (3, .ref q11), (4, .int v4_23)]) hx hb d_L_law_673 hl16 (by decide) rfl (fun ls hl197 => ?_)
                        refine lv_aload_n hx hb d_L_law_675 rfl (lv_at hl197 3 rfl) ?_
                        refine lv_aload_n hx hb d_L_law_676 rfl (lv_at hl197 1 rfl) ?_
                        refine lv_iload hx hb d_L_law_677 (lv_at hl197 5 rfl) ?_
                        refine lv_iconst (v := 1) hx hb d_L_law_679 (by decide) ?_
                        refine lv_iadd hx hb d_L_law_680 ?_
                        obtain ⟨hi198, h⟩ := h
                        refine va_sld hx hb hX hbl hbA hG.2.2.1 hi198 d_L_law_681 ?_
                        refine lv_topi (fun v199 ev199 => ?_)
                        replace h := h v199 ev199
                        refine lv_aload_n hx hb d_L_law_682 rfl (lv_at hl197 1 rfl) ?_
                        refine lv_iload hx hb d_L_law_683 (lv_at hl197 5 rfl) ?_
                        refine lv_iconst (v := 2) hx hb d_L_law_685 (by decide) ?_
                        refine lv_iadd hx hb d_L_law_686 ?_
                        obtain ⟨hi200, h⟩ := h
                        refine va_sld hx hb hX hbl hbA hG.2.2.1 hi200 d_L_law_687 ?_
                        refine lv_topi (fun v201 ev201 => ?_)
                        replace h := h v201 ev201
                        -- call M_pair
                        refine gci hK hG (va_runV (As := [.int v199, .int v201]) (rest := []) ⟨hx, hb, hml, hown, hw⟩ (m_M_pair l x S195 _ q6 v199 v201 f8 h) ⟨gcb hw tw_1100 tw_43 tw_1097 hd_M_pair rfl rfl ⟨(Nat.le_of_ble_eq_true rfl), (Nat.le_of_ble_eq_true rfl)⟩, hw _ tw_1098, hw _ tw_1099⟩ (gpV hK hG kd_M f8 rfl) rfl rfl hl197.1 rfl (lv_room (Nat.le_of_ble_eq_true rfl)) d_L_law_688 ⟨(by show _ ≤ (601024 : Nat); omega), (by show _ ≤ (7293034 : Nat); omega)⟩) (fun r202 S203 H locs h9 hle1 hG => ?_)
                        replace h := h9
                        clear h9
                        have f3 := gle_isA hle1 f3
                        have f8 := gle_isA hle1 f8
                        have f13 := gle_isA hle1 f13
                        have leS := leS.tr hle1
                        have leS12 := leS12.tr hle1
                        have leS_23 := leS_23.tr hle1
                        refine lv_istore (lv' := [(6, .int r202), (5, .int r194), (0, .ref b), (1, .ref q1), (2, .ref q6), (3, .ref q11), (4, .int v4_23)]) hx hb d_L_law_691 hl197 (by decide) rfl (fun ls hl204 => ?_)
                        refine lv_aload_n hx hb d_L_law_693 rfl (lv_at hl204 4 rfl) ?_
                        -- call M_thrown
                        refine gpi hK hG (va_runV (As := []) (rest := []) ⟨hx, hb, hml, hown, hw⟩ (m_M_thrown l x S203 _ q6 f8 h) ⟨gcb hw tw_1044 tw_43 tw_1041 hd_M_thrown rfl rfl ⟨(Nat.le_of_ble_eq_true rfl), (Nat.le_of_ble_eq_true rfl)⟩, hw _ tw_1042, hw _ tw_1043⟩ (gpV hK hG kd_M f8 rfl) rfl rfl hl204.1 rfl (lv_room (Nat.le_of_ble_eq_true rfl)) d_L_law_694 ⟨(by show _ ≤ (601024 : Nat); omega), (by show _ ≤ (7293034 : Nat); omega)⟩) (fun r205 H locs h9 hG => ?_)
                        replace h := h9
                        clear h9
                        refine lv_iload hx hb d_L_law_697 (lv_at hl204 1 rfl) ?_
                        refine lv_icmp_eq (tgt := 704) hx hb d_L_law_699 (by decide) (fun hc210 => ?_) (fun hc210 => ?_)
                        · replace h := h.1 hc210
                          refine lv_iload hx hb d_L_law_704 (lv_at hl204 1 rfl) ?_
                          have leS203 : gle S203 S203 := gle.rf
                          obtain ⟨J721, hJ721, h⟩ := h
                          have k721 : ∀ (H : Heap) (locs : List Loc) (ls : Array Slot), GH x S203 s H locs → lv_has ls 9 [(0, .ref b), (1, .ref q1), (2, .ref q6), (3, .ref q11), (4, .int v4_23)] → J721 → W p l e room_1 s m #[Value.ref b] below meth c H locs (kc_23 + 3) (ks_23 + 18) (lw_Z below #[Value.ref b] s) (F0 m 721 ls []) := by
                            intro  H locs ls hG hl206 hj
                            replace h := hJ721 hj
                            refine lv_goto (tgt := 1583) hx hb d_L_law_721 (by decide) ?_
                            exact k1583 S203 (kc_23 + 3) (ks_23 + 18) H locs ls leS_23 hG (lv_sub hl206 [0, 1, 2, 3, 4] rfl) h
                          refine lv_if_ne (tgt := 721) hx hb d_L_law_706 (by decide) (fun hc209 => ?_) (fun hc209 => ?_)
                          · replace h := h.2 hc209
                            exact k721 H locs ls hG (lv_sub hl204 [2, 3, 4, 5, 6] rfl) h
                          · replace h := h.1 hc209
                            refine lv_aload_n hx hb d_L_law_709 rfl (lv_at hl204 5 rfl) ?_
                            refine lv_iconst (v := 0) hx hb d_L_law_710 (by decide) ?_
                            obtain ⟨hi207, h⟩ := h
                            refine glald hx hb hK hG f13 hi207 d_L_law_711 ?_
                            refine lv_iload hx hb d_L_law_712 (lv_at hl204 0 rfl) ?_
                            refine lv_i2l hx hb d_L_law_714 rfl ?_
                            refine W.lcmp hx hb d_L_law_715 ?_
                            refine lv_if_eq (tgt := 721) hx hb d_L_law_716 (by decide) (fun hc208 => ?_) (fun hc208 => ?_)
                            · replace h := h.1 hc208
                              exact k721 H locs ls hG (lv_sub hl204 [2, 3, 4, 5, 6] rfl) h
                            · replace h := h.2 hc208
                              refine lv_iconst (v := 0) hx hb d_L_law_719 (by decide) ?_
                              exact h.elim
                        · replace h := h.2 hc210
                          refine lv_iconst (v := 0) hx hb d_L_law_702 (by decide) ?_
                          exact h.elim
                      · skip
                        by_cases hc211 : (v18 &&& 31) = 8
                        · replace h := h.2.2.2.2.2.2.2.2.1 hc211
                          refine lv_tableIn (tgt := 724) hx hb d_L_law_40 (by rw [hc211]; decide) (by rw [hc211]; decide) (by rw [hc211]; rfl) (by decide) ?_
                          refine lv_aload_n hx hb d_L_law_724 rfl (lv_at hl16 1 rfl) ?_
                          refine lv_aload_n hx hb d_L_law_725 rfl (lv_at hl16 0 rfl) ?_
                          refine lv_iload hx hb d_L_law_726 (lv_at hl16 4 rfl) ?_
                          refine lv_iconst (v := 1) hx hb d_L_law_728 (by decide) ?_
                          refine lv_iadd hx hb d_L_law_729 ?_
                          obtain ⟨hi212, h⟩ := h
                          refine va_sld hx hb hX hbl hbA hG.2.2.1 hi212 d_L_law_730 ?_
                          refine lv_topi (fun v213 ev213 => ?_)
                          replace h := h v213 ev213
                          refine lv_aload_n hx hb d_L_law_731 rfl (lv_at hl16 3 rfl) ?_
                          obtain ⟨⟨hk216, hk216b⟩, h⟩ := h
                          -- call L_part
                          refine gci hK hG (vx_runSW (As := [.ref q1, .int v213, .ref q11]) (rest := []) ⟨hx, hb, hml, hown, hw⟩ (m_L_part l hlt x S_23 _ (some q1) v213 (some q11) h) (gcsw hw tw_681 tw_27 tw_679 tw_680 hd_L_part rfl rfl ⟨(Nat.le_of_ble_eq_true rfl), (Nat.le_of_ble_eq_true rfl)⟩) (gpSL hK hN hG) rfl rfl hl16.1 rfl (lv_room (Nat.le_of_ble_eq_true rfl)) d_L_law_732 ⟨(by show _ ≤ (601024 : Nat); omega), (by show _ ≤ (7293034 : Nat); omega)⟩) (fun r214 S215 H locs h9 hle1 hG => ?_)
                          replace h := h9
                          clear h9
                          have f3 := gle_isA hle1 f3
                          have f8 := gle_isA hle1 f8
                          have f13 := gle_isA hle1 f13
                          have leS := leS.tr hle1
                          have leS12 := leS12.tr hle1
                          have leS_23 := leS_23.tr hle1
                          refine lv_istore (lv' := [(5, .int r214), (0, .ref b), (1, .ref q1), (2, .ref q6), (3, .ref q11), (4, .int v4_23)]) hx hb d_L_law_735 hl16 (by decide) rfl (fun ls hl217 => ?_)
                          refine lv_aload_n hx hb d_L_law_737 rfl (lv_at hl217 3 rfl) ?_
                          refine lv_aload_n hx hb d_L_law_738 rfl (lv_at hl217 1 rfl) ?_
                          refine lv_iload hx hb d_L_law_739 (lv_at hl217 5 rfl) ?_
                          refine lv_iconst (v := 1) hx hb d_L_law_741 (by decide) ?_
                          refine lv_iadd hx hb d_L_law_742 ?_
                          obtain ⟨hi218, h⟩ := h
                          refine va_sld hx hb hX hbl hbA hG.2.2.1 hi218 d_L_law_743 ?_
                          refine lv_topi (fun v219 ev219 => ?_)
                          replace h := h v219 ev219
                          obtain ⟨⟨hk222, hk222b⟩, h⟩ := h
                          -- call M_part
                          refine gci hK hG (va_runV (As := [.int v219]) (rest := []) ⟨hx, hb, hml, hown, hw⟩ (m_M_part l x S215 _ q6 v219 f8 h) ⟨gcb hw tw_1117 tw_43 tw_1114 hd_M_part rfl rfl ⟨(Nat.le_of_ble_eq_true rfl), (Nat.le_of_ble_eq_true rfl)⟩, hw _ tw_1115, hw _ tw_1116⟩ (gpV hK hG kd_M f8 rfl) rfl rfl hl217.1 rfl (lv_room (Nat.le_of_ble_eq_true rfl)) d_L_law_744 ⟨(by show _ ≤ (601024 : Nat); omega), (by show _ ≤ (7293034 : Nat); omega)⟩) (fun r220 S221 H locs h9 hle1 hG => ?_)
                          replace h := h9
                          clear h9
                          have f3 := gle_isA hle1 f3
                          have f8 := gle_isA hle1 f8
                          have f13 := gle_isA hle1 f13
                          have leS := leS.tr hle1
                          have leS12 := leS12.tr hle1
                          have leS_23 := leS_23.tr hle1
                          refine lv_istore (lv' := [(6, .int r220), (5, .int r214), (0, .ref b), (1, .ref q1), (2, .ref q6), (3, .ref q11), (4, .int v4_23)]) hx hb d_L_law_747 hl217 (by decide) rfl (fun ls hl223 => ?_)
                          refine lv_aload_n hx hb d_L_law_749 rfl (lv_at hl223 4 rfl) ?_
                          -- call M_thrown
                          refine gpi hK hG (va_runV (As := []) (rest := []) ⟨hx, hb, hml, hown, hw⟩ (m_M_thrown l x S221 _ q6 f8 h) ⟨gcb hw tw_1044 tw_43 tw_1041 hd_M_thrown rfl rfl ⟨(Nat.le_of_ble_eq_true rfl), (Nat.le_of_ble_eq_true rfl)⟩, hw _ tw_1042, hw _ tw_1043⟩ (gpV hK hG kd_M f8 rfl) rfl rfl hl223.1 rfl (lv_room (Nat.le_of_ble_eq_true rfl)) d_L_law_750 ⟨(by show _ ≤ (601024 : Nat); omega), (by show _ ≤ (7293034 : Nat); omega)⟩) (fun r224 H locs h9 hG => ?_)
                          replace h := h9
                          clear h9
                          refine lv_iload hx hb d_L_law_753 (lv_at hl223 1 rfl) ?_
                          refine lv_icmp_eq (tgt := 760) hx hb d_L_law_755 (by decide) (fun hc229 => ?_) (fun hc229 => ?_)
                          · replace h := h.1 hc229
                            refine lv_iload hx hb d_L_law_760 (lv_at hl223 1 rfl) ?_
                            have leS221 : gle S221 S221 := gle.rf
                            obtain ⟨J777, hJ777, h⟩ := h
                            have k777 : ∀ (H : Heap) (locs : List Loc) (ls : Array Slot), GH x S221 s H locs → lv_has ls 9 [(0, .ref b), (1, .ref q1), (2, .ref q6), (3, .ref q11), (4, .int v4_23)] → J777 → W p l e room_1 s m #[Value.ref b] below meth c H locs (kc_23 + 3) (ks_23 + 14) (lw_Z below #[Value.ref b] s) (F0 m 777 ls []) := by
                              intro  H locs ls hG hl225 hj
                              replace h := hJ777 hj
                              refine lv_goto (tgt := 1583) hx hb d_L_law_777 (by decide) ?_
                              exact k1583 S221 (kc_23 + 3) (ks_23 + 14) H locs ls leS_23 hG (lv_sub hl225 [0, 1, 2, 3, 4] rfl) h
                            refine lv_if_ne (tgt := 777) hx hb d_L_law_762 (by decide) (fun hc228 => ?_) (fun hc228 => ?_)
                            · replace h := h.2 hc228
                              exact k777 H locs ls hG (lv_sub hl223 [2, 3, 4, 5, 6] rfl) h
                            · replace h := h.1 hc228
                              refine lv_aload_n hx hb d_L_law_765 rfl (lv_at hl223 5 rfl) ?_
                              refine lv_iconst (v := 0) hx hb d_L_law_766 (by decide) ?_
                              obtain ⟨hi226, h⟩ := h
                              refine glald hx hb hK hG f13 hi226 d_L_law_767 ?_
                              refine lv_iload hx hb d_L_law_768 (lv_at hl223 0 rfl) ?_
                              refine lv_i2l hx hb d_L_law_770 rfl ?_
                              refine W.lcmp hx hb d_L_law_771 ?_
                              refine lv_if_eq (tgt := 777) hx hb d_L_law_772 (by decide) (fun hc227 => ?_) (fun hc227 => ?_)
                              · replace h := h.1 hc227
                                exact k777 H locs ls hG (lv_sub hl223 [2, 3, 4, 5, 6] rfl) h
                              · replace h := h.2 hc227
                                refine lv_iconst (v := 0) hx hb d_L_law_775 (by decide) ?_
                                exact h.elim
                          · replace h := h.2 hc229
                            refine lv_iconst (v := 0) hx hb d_L_law_758 (by decide) ?_
                            exact h.elim
                        · skip
                          by_cases hc230 : (v18 &&& 31) = 9
                          · replace h := h.2.2.2.2.2.2.2.2.2.1 hc230
                            refine lv_tableIn (tgt := 780) hx hb d_L_law_40 (by rw [hc230]; decide) (by rw [hc230]; decide) (by rw [hc230]; rfl) (by decide) ?_
                            refine lv_aload_n hx hb d_L_law_780 rfl (lv_at hl16 1 rfl) ?_
                            refine lv_aload_n hx hb d_L_law_781 rfl (lv_at hl16 0 rfl) ?_
                            refine lv_iload hx hb d_L_law_782 (lv_at hl16 4 rfl) ?_
                            refine lv_iconst (v := 1) hx hb d_L_law_784 (by decide) ?_
                            refine lv_iadd hx hb d_L_law_785 ?_
                            obtain ⟨hi231, h⟩ := h
                            refine va_sld hx hb hX hbl hbA hG.2.2.1 hi231 d_L_law_786 ?_
                            refine lv_topi (fun v232 ev232 => ?_)
                            replace h := h v232 ev232
                            refine lv_aload_n hx hb d_L_law_787 rfl (lv_at hl16 0 rfl) ?_
                            refine lv_iload hx hb d_L_law_788 (lv_at hl16 4 rfl) ?_
                            refine lv_iconst (v := 2) hx hb d_L_law_790 (by decide) ?_
                            refine lv_iadd hx hb d_L_law_791 ?_
                            obtain ⟨hi233, h⟩ := h
                            refine va_sld hx hb hX hbl hbA hG.2.2.1 hi233 d_L_law_792 ?_
                            refine lv_topi (fun v234 ev234 => ?_)
                            replace h := h v234 ev234
                            refine lv_aload_n hx hb d_L_law_793 rfl (lv_at hl16 3 rfl) ?_
                            obtain ⟨⟨hk237, hk237b⟩, h⟩ := h
                            -- call L_wind
                            refine gci hK hG (vx_runSW (As := [.ref q1, .int v232, .int v234, .ref q11]) (rest := []) ⟨hx, hb, hml, hown, hw⟩ (m_L_wind l hlt x S_23 _ (some q1) v232 v234 (some q11) h) (gcsw hw tw_693 tw_27 tw_691 tw_692 hd_L_wind rfl rfl ⟨(Nat.le_of_ble_eq_true rfl), (Nat.le_of_ble_eq_true rfl)⟩) (gpSL hK hN hG) rfl rfl hl16.1 rfl (lv_room (Nat.le_of_ble_eq_true rfl)) d_L_law_794 ⟨(by show _ ≤ (601024 : Nat); omega), (by show _ ≤ (7293034 : Nat); omega)⟩) (fun r235 S236 H locs h9 hle1 hG => ?_)
                            replace h := h9
                            clear h9
                            have f3 := gle_isA hle1 f3
                            have f8 := gle_isA hle1 f8
                            have f13 := gle_isA hle1 f13
                            have leS := leS.tr hle1
                            have leS12 := leS12.tr hle1
                            have leS_23 := leS_23.tr hle1
                            refine lv_istore (lv' := [(5, .int r235), (0, .ref b), (1, .ref q1), (2, .ref q6), (3, .ref q11), (4, .int v4_23)]) hx hb d_L_law_797 hl16 (by decide) rfl (fun ls hl238 => ?_)
                            refine lv_aload_n hx hb d_L_law_799 rfl (lv_at hl238 3 rfl) ?_
                            refine lv_aload_n hx hb d_L_law_800 rfl (lv_at hl238 1 rfl) ?_
                            refine lv_iload hx hb d_L_law_801 (lv_at hl238 5 rfl) ?_
                            refine lv_iconst (v := 1) hx hb d_L_law_803 (by decide) ?_
                            refine lv_iadd hx hb d_L_law_804 ?_
                            obtain ⟨hi239, h⟩ := h
                            refine va_sld hx hb hX hbl hbA hG.2.2.1 hi239 d_L_law_805 ?_
                            refine lv_topi (fun v240 ev240 => ?_)
                            replace h := h v240 ev240
                            refine lv_aload_n hx hb d_L_law_806 rfl (lv_at hl238 1 rfl) ?_
                            refine lv_iload hx hb d_L_law_807 (lv_at hl238 5 rfl) ?_
                            refine lv_iconst (v := 2) hx hb d_L_law_809 (by decide) ?_
                            refine lv_iadd hx hb d_L_law_810 ?_
                            obtain ⟨hi241, h⟩ := h
                            refine va_sld hx hb hX hbl hbA hG.2.2.1 hi241 d_L_law_811 ?_
                            refine lv_topi (fun v242 ev242 => ?_)
                            replace h := h v242 ev242
                            -- call M_wind
                            refine gci hK hG (va_runV (As := [.int v240, .int v242]) (rest := []) ⟨hx, hb, hml, hown, hw⟩ (m_M_wind l x S236 _ q6 v240 v242 f8 h) ⟨gcb hw tw_1121 tw_43 tw_1118 hd_M_wind rfl rfl ⟨(Nat.le_of_ble_eq_true rfl), (Nat.le_of_ble_eq_true rfl)⟩, hw _ tw_1119, hw _ tw_1120⟩ (gpV hK hG kd_M f8 rfl) rfl rfl hl238.1 rfl (lv_room (Nat.le_of_ble_eq_true rfl)) d_L_law_812 ⟨(by show _ ≤ (601024 : Nat); omega), (by show _ ≤ (7293034 : Nat); omega)⟩) (fun r243 S244 H locs h9 hle1 hG => ?_)
                            replace h := h9
                            clear h9
                            have f3 := gle_isA hle1 f3
                            have f8 := gle_isA hle1 f8
                            have f13 := gle_isA hle1 f13
                            have leS := leS.tr hle1
                            have leS12 := leS12.tr hle1
                            have leS_23 := leS_23.tr hle1
                            refine lv_istore (lv' := [(6, .int r243), (5, .int r235), (0, .ref b), (1, .ref q1), (2, .ref q6), (3, .ref q11), (4, .int v4_23)]) hx hb d_L_law_815 hl238 (by decide) rfl (fun ls hl245 => ?_)
                            refine lv_aload_n hx hb d_L_law_817 rfl (lv_at hl245 4 rfl) ?_
                            -- call M_thrown
                            refine gpi hK hG (va_runV (As := []) (rest := []) ⟨hx, hb, hml, hown, hw⟩ (m_M_thrown l x S244 _ q6 f8 h) ⟨gcb hw tw_1044 tw_43 tw_1041 hd_M_thrown rfl rfl ⟨(Nat.le_of_ble_eq_true rfl), (Nat.le_of_ble_eq_true rfl)⟩, hw _ tw_1042, hw _ tw_1043⟩ (gpV hK hG kd_M f8 rfl) rfl rfl hl245.1 rfl (lv_room (Nat.le_of_ble_eq_true rfl)) d_L_law_818 ⟨(by show _ ≤ (601024 : Nat); omega), (by show _ ≤ (7293034 : Nat); omega)⟩) (fun r246 H locs h9 hG => ?_)
                            replace h := h9
                            clear h9
                            refine lv_iload hx hb d_L_law_821 (lv_at hl245 1 rfl) ?_
                            refine lv_icmp_eq (tgt := 828) hx hb d_L_law_823 (by decide) (fun hc251 => ?_) (fun hc251 => ?_)
                            · replace h := h.1 hc251
                              refine lv_iload hx hb d_L_law_828 (lv_at hl245 1 rfl) ?_
                              have leS244 : gle S244 S244 := gle.rf
                              obtain ⟨J845, hJ845, h⟩ := h
                              have k845 : ∀ (H : Heap) (locs : List Loc) (ls : Array Slot), GH x S244 s H locs → lv_has ls 9 [(0, .ref b), (1, .ref q1), (2, .ref q6), (3, .ref q11), (4, .int v4_23)] → J845 → W p l e room_1 s m #[Value.ref b] below meth c H locs (kc_23 + 2) (ks_23 + 12) (lw_Z below #[Value.ref b] s) (F0 m 845 ls []) := by
                                intro  H locs ls hG hl247 hj
                                replace h := hJ845 hj
                                refine lv_goto (tgt := 1583) hx hb d_L_law_845 (by decide) ?_
                                exact k1583 S244 (kc_23 + 2) (ks_23 + 12) H locs ls leS_23 hG (lv_sub hl247 [0, 1, 2, 3, 4] rfl) h
                              refine lv_if_ne (tgt := 845) hx hb d_L_law_830 (by decide) (fun hc250 => ?_) (fun hc250 => ?_)
                              · replace h := h.2 hc250
                                exact k845 H locs ls hG (lv_sub hl245 [2, 3, 4, 5, 6] rfl) h
                              · replace h := h.1 hc250
                                refine lv_aload_n hx hb d_L_law_833 rfl (lv_at hl245 5 rfl) ?_
                                refine lv_iconst (v := 0) hx hb d_L_law_834 (by decide) ?_
                                obtain ⟨hi248, h⟩ := h
                                refine glald hx hb hK hG f13 hi248 d_L_law_835 ?_
                                refine lv_iload hx hb d_L_law_836 (lv_at hl245 0 rfl) ?_
                                refine lv_i2l hx hb d_L_law_838 rfl ?_
                                refine W.lcmp hx hb d_L_law_839 ?_
                                refine lv_if_eq (tgt := 845) hx hb d_L_law_840 (by decide) (fun hc249 => ?_) (fun hc249 => ?_)
                                · replace h := h.1 hc249
                                  exact k845 H locs ls hG (lv_sub hl245 [2, 3, 4, 5, 6] rfl) h
                                · replace h := h.2 hc249
                                  refine lv_iconst (v := 0) hx hb d_L_law_843 (by decide) ?_
                                  exact h.elim
                            · replace h := h.2 hc251
                              refine lv_iconst (v := 0) hx hb d_L_law_826 (by decide) ?_
                              exact h.elim
                          · skip
                            by_cases hc252 : (v18 &&& 31) = 10
                            · replace h := h.2.2.2.2.2.2.2.2.2.2.1 hc252
                              refine lv_tableIn (tgt := 848) hx hb d_L_law_40 (by rw [hc252]; decide) (by rw [hc252]; decide) (by rw [hc252]; rfl) (by decide) ?_
                              refine lv_aload_n hx hb d_L_law_848 rfl (lv_at hl16 1 rfl) ?_
                              refine lv_aload_n hx hb d_L_law_849 rfl (lv_at hl16 0 rfl) ?_
                              refine lv_iload hx hb d_L_law_850 (lv_at hl16 4 rfl) ?_
                              refine lv_iconst (v := 1) hx hb d_L_law_852 (by decide) ?_
                              refine lv_iadd hx hb d_L_law_853 ?_
                              obtain ⟨hi253, h⟩ := h
                              refine va_sld hx hb hX hbl hbA hG.2.2.1 hi253 d_L_law_854 ?_
                              refine lv_topi (fun v254 ev254 => ?_)
                              replace h := h v254 ev254
                              refine lv_aload_n hx hb d_L_law_855 rfl (lv_at hl16 0 rfl) ?_
                              refine lv_iload hx hb d_L_law_856 (lv_at hl16 4 rfl) ?_
                              refine lv_iconst (v := 2) hx hb d_L_law_858 (by decide) ?_
                              refine lv_iadd hx hb d_L_law_859 ?_
                              obtain ⟨hi255, h⟩ := h
                              refine va_sld hx hb hX hbl hbA hG.2.2.1 hi255 d_L_law_860 ?_
                              refine lv_topi (fun v256 ev256 => ?_)
                              replace h := h v256 ev256
                              refine lv_aload_n hx hb d_L_law_861 rfl (lv_at hl16 3 rfl) ?_
                              obtain ⟨⟨hk259, hk259b⟩, h⟩ := h
                              -- call L_dancer
                              refine gci hK hG (vx_runSW (As := [.ref q1, .int v254, .int v256, .ref q11]) (rest := []) ⟨hx, hb, hml, hown, hw⟩ (m_L_dancer l hlt x S_23 _ (some q1) v254 v256 (some q11) h) (gcsw hw tw_707 tw_27 tw_705 tw_706 hd_L_dancer rfl rfl ⟨(Nat.le_of_ble_eq_true rfl), (Nat.le_of_ble_eq_true rfl)⟩) (gpSL hK hN hG) rfl rfl hl16.1 rfl (lv_room (Nat.le_of_ble_eq_true rfl)) d_L_law_862 ⟨(by show _ ≤ (601024 : Nat); omega), (by show _ ≤ (7293034 : Nat); omega)⟩) (fun r257 S258 H locs h9 hle1 hG => ?_)
                              replace h := h9
                              clear h9
                              have f3 := gle_isA hle1 f3
                              have f8 := gle_isA hle1 f8
                              have f13 := gle_isA hle1 f13
                              have leS := leS.tr hle1
                              have leS12 := leS12.tr hle1
                              have leS_23 := leS_23.tr hle1
                              refine lv_istore (lv' := [(5, .int r257), (0, .ref b), (1, .ref q1), (2, .ref q6), (3, .ref q11), (4, .int v4_23)]) hx hb d_L_law_865 hl16 (by decide) rfl (fun ls hl260 => ?_)
                              refine lv_aload_n hx hb d_L_law_867 rfl (lv_at hl260 3 rfl) ?_
                              refine lv_aload_n hx hb d_L_law_868 rfl (lv_at hl260 1 rfl) ?_
                              refine lv_iload hx hb d_L_law_869 (lv_at hl260 5 rfl) ?_
                              refine lv_iconst (v := 1) hx hb d_L_law_871 (by decide) ?_
                              refine lv_iadd hx hb d_L_law_872 ?_
                              obtain ⟨hi261, h⟩ := h
                              refine va_sld hx hb hX hbl hbA hG.2.2.1 hi261 d_L_law_873 ?_
                              refine lv_topi (fun v262 ev262 => ?_)
                              replace h := h v262 ev262
                              refine lv_aload_n hx hb d_L_law_874 rfl (lv_at hl260 1 rfl) ?_
                              refine lv_iload hx hb d_L_law_875 (lv_at hl260 5 rfl) ?_
                              refine lv_iconst (v := 2) hx hb d_L_law_877 (by decide) ?_
                              refine lv_iadd hx hb d_L_law_878 ?_
                              obtain ⟨hi263, h⟩ := h
                              refine va_sld hx hb hX hbl hbA hG.2.2.1 hi263 d_L_law_879 ?_
                              refine lv_topi (fun v264 ev264 => ?_)
                              replace h := h v264 ev264
                              obtain ⟨⟨hk267, hk267b⟩, h⟩ := h
                              -- call M_dancer
                              refine gci hK hG (va_runV (As := [.int v262, .int v264]) (rest := []) ⟨hx, hb, hml, hown, hw⟩ (m_M_dancer l x S258 _ q6 v262 v264 f8 h) ⟨gcb hw tw_1127 tw_43 tw_1124 hd_M_dancer rfl rfl ⟨(Nat.le_of_ble_eq_true rfl), (Nat.le_of_ble_eq_true rfl)⟩, hw _ tw_1125, hw _ tw_1126⟩ (gpV hK hG kd_M f8 rfl) rfl rfl hl260.1 rfl (lv_room (Nat.le_of_ble_eq_true rfl)) d_L_law_880 ⟨(by show _ ≤ (601024 : Nat); omega), (by show _ ≤ (7293034 : Nat); omega)⟩) (fun r265 S266 H locs h9 hle1 hG => ?_)
                              replace h := h9
                              clear h9
                              have f3 := gle_isA hle1 f3
                              have f8 := gle_isA hle1 f8
                              have f13 := gle_isA hle1 f13
                              have leS := leS.tr hle1
                              have leS12 := leS12.tr hle1
                              have leS_23 := leS_23.tr hle1
                              refine lv_istore (lv' := [(6, .int r265), (5, .int r257), (0, .ref b), (1, .ref q1), (2, .ref q6), (3, .ref q11), (4, .int v4_23)]) hx hb d_L_law_883 hl260 (by decide) rfl (fun ls hl268 => ?_)
                              refine lv_aload_n hx hb d_L_law_885 rfl (lv_at hl268 4 rfl) ?_
                              -- call M_thrown
                              refine gpi hK hG (va_runV (As := []) (rest := []) ⟨hx, hb, hml, hown, hw⟩ (m_M_thrown l x S266 _ q6 f8 h) ⟨gcb hw tw_1044 tw_43 tw_1041 hd_M_thrown rfl rfl ⟨(Nat.le_of_ble_eq_true rfl), (Nat.le_of_ble_eq_true rfl)⟩, hw _ tw_1042, hw _ tw_1043⟩ (gpV hK hG kd_M f8 rfl) rfl rfl hl268.1 rfl (lv_room (Nat.le_of_ble_eq_true rfl)) d_L_law_886 ⟨(by show _ ≤ (601024 : Nat); omega), (by show _ ≤ (7293034 : Nat); omega)⟩) (fun r269 H locs h9 hG => ?_)
                              replace h := h9
                              clear h9
                              refine lv_iload hx hb d_L_law_889 (lv_at hl268 1 rfl) ?_
                              refine lv_icmp_eq (tgt := 896) hx hb d_L_law_891 (by decide) (fun hc274 => ?_) (fun hc274 => ?_)
                              · replace h := h.1 hc274
                                refine lv_iload hx hb d_L_law_896 (lv_at hl268 1 rfl) ?_
                                have leS266 : gle S266 S266 := gle.rf
                                obtain ⟨J913, hJ913, h⟩ := h
                                have k913 : ∀ (H : Heap) (locs : List Loc) (ls : Array Slot), GH x S266 s H locs → lv_has ls 9 [(0, .ref b), (1, .ref q1), (2, .ref q6), (3, .ref q11), (4, .int v4_23)] → J913 → W p l e room_1 s m #[Value.ref b] below meth c H locs (kc_23 + 3) (ks_23 + 24) (lw_Z below #[Value.ref b] s) (F0 m 913 ls []) := by
                                  intro  H locs ls hG hl270 hj
                                  replace h := hJ913 hj
                                  refine lv_goto (tgt := 1583) hx hb d_L_law_913 (by decide) ?_
                                  exact k1583 S266 (kc_23 + 3) (ks_23 + 24) H locs ls leS_23 hG (lv_sub hl270 [0, 1, 2, 3, 4] rfl) h
                                refine lv_if_ne (tgt := 913) hx hb d_L_law_898 (by decide) (fun hc273 => ?_) (fun hc273 => ?_)
                                · replace h := h.2 hc273
                                  exact k913 H locs ls hG (lv_sub hl268 [2, 3, 4, 5, 6] rfl) h
                                · replace h := h.1 hc273
                                  refine lv_aload_n hx hb d_L_law_901 rfl (lv_at hl268 5 rfl) ?_
                                  refine lv_iconst (v := 0) hx hb d_L_law_902 (by decide) ?_
                                  obtain ⟨hi271, h⟩ := h
                                  refine glald hx hb hK hG f13 hi271 d_L_law_903 ?_
                                  refine lv_iload hx hb d_L_law_904 (lv_at hl268 0 rfl) ?_
                                  refine lv_i2l hx hb d_L_law_906 rfl ?_
                                  refine W.lcmp hx hb d_L_law_907 ?_
                                  refine lv_if_eq (tgt := 913) hx hb d_L_law_908 (by decide) (fun hc272 => ?_) (fun hc272 => ?_)
                                  · replace h := h.1 hc272
                                    exact k913 H locs ls hG (lv_sub hl268 [2, 3, 4, 5, 6] rfl) h
                                  · replace h := h.2 hc272
                                    refine lv_iconst (v := 0) hx hb d_L_law_911 (by decide) ?_
                                    exact h.elim
                              · replace h := h.2 hc274
                                refine lv_iconst (v := 0) hx hb d_L_law_894 (by decide) ?_
                                exact h.elim
                            · skip
                              by_cases hc275 : (v18 &&& 31) = 11
                              · replace h := h.2.2.2.2.2.2.2.2.2.2.2.1 hc275
                                refine lv_tableIn (tgt := 916) hx hb d_L_law_40 (by rw [hc275]; decide) (by rw [hc275]; decide) (by rw [hc275]; rfl) (by decide) ?_
                                refine lv_aload_n hx hb d_L_law_916 rfl (lv_at hl16 1 rfl) ?_
                                refine lv_aload_n hx hb d_L_law_917 rfl (lv_at hl16 0 rfl) ?_
                                refine lv_iload hx hb d_L_law_918 (lv_at hl16 4 rfl) ?_
                                refine lv_iconst (v := 1) hx hb d_L_law_920 (by decide) ?_
                                refine lv_iadd hx hb d_L_law_921 ?_
                                obtain ⟨hi276, h⟩ := h
                                refine va_sld hx hb hX hbl hbA hG.2.2.1 hi276 d_L_law_922 ?_
                                refine lv_topi (fun v277 ev277 => ?_)
                                replace h := h v277 ev277
                                refine lv_aload_n hx hb d_L_law_923 rfl (lv_at hl16 0 rfl) ?_
                                refine lv_iload hx hb d_L_law_924 (lv_at hl16 4 rfl) ?_
                                refine lv_iconst (v := 2) hx hb d_L_law_926 (by decide) ?_
                                refine lv_iadd hx hb d_L_law_927 ?_
                                obtain ⟨hi278, h⟩ := h
                                refine va_sld hx hb hX hbl hbA hG.2.2.1 hi278 d_L_law_928 ?_
                                refine lv_topi (fun v279 ev279 => ?_)
                                replace h := h v279 ev279
                                refine lv_aload_n hx hb d_L_law_929 rfl (lv_at hl16 3 rfl) ?_
                                obtain ⟨⟨hk282, hk282b⟩, h⟩ := h
                                -- call L_at
                                refine gci hK hG (vx_runSW (As := [.ref q1, .int v277, .int v279, .ref q11]) (rest := []) ⟨hx, hb, hml, hown, hw⟩ (m_L_at l hlt x S_23 _ (some q1) v277 v279 (some q11) h) (gcsw hw tw_714 tw_27 tw_712 tw_713 hd_L_at rfl rfl ⟨(Nat.le_of_ble_eq_true rfl), (Nat.le_of_ble_eq_true rfl)⟩) (gpSL hK hN hG) rfl rfl hl16.1 rfl (lv_room (Nat.le_of_ble_eq_true rfl)) d_L_law_930 ⟨(by show _ ≤ (601024 : Nat); omega), (by show _ ≤ (7293034 : Nat); omega)⟩) (fun r280 S281 H locs h9 hle1 hG => ?_)
                                replace h := h9
                                clear h9
                                have f3 := gle_isA hle1 f3
                                have f8 := gle_isA hle1 f8
                                have f13 := gle_isA hle1 f13
                                have leS := leS.tr hle1
                                have leS12 := leS12.tr hle1
                                have leS_23 := leS_23.tr hle1
                                refine lv_istore (lv' := [(5, .int r280), (0, .ref b), (1, .ref q1), (2, .ref q6), (3, .ref q11), (4, .int v4_23)]) hx hb d_L_law_933 hl16 (by decide) rfl (fun ls hl283 => ?_)
                                refine lv_aload_n hx hb d_L_law_935 rfl (lv_at hl283 3 rfl) ?_
                                refine lv_aload_n hx hb d_L_law_936 rfl (lv_at hl283 1 rfl) ?_
                                refine lv_iload hx hb d_L_law_937 (lv_at hl283 5 rfl) ?_
                                refine lv_iconst (v := 1) hx hb d_L_law_939 (by decide) ?_
                                refine lv_iadd hx hb d_L_law_940 ?_
                                obtain ⟨hi284, h⟩ := h
                                refine va_sld hx hb hX hbl hbA hG.2.2.1 hi284 d_L_law_941 ?_
                                refine lv_topi (fun v285 ev285 => ?_)
                                replace h := h v285 ev285
                                refine lv_aload_n hx hb d_L_law_942 rfl (lv_at hl283 1 rfl) ?_
                                refine lv_iload hx hb d_L_law_943 (lv_at hl283 5 rfl) ?_
                                refine lv_iconst (v := 2) hx hb d_L_law_945 (by decide) ?_
                                refine lv_iadd hx hb d_L_law_946 ?_
                                obtain ⟨hi286, h⟩ := h
                                refine va_sld hx hb hX hbl hbA hG.2.2.1 hi286 d_L_law_947 ?_
                                refine lv_topi (fun v287 ev287 => ?_)
                                replace h := h v287 ev287
                                -- call M_at
                                refine gci hK hG (va_runV (As := [.int v285, .int v287]) (rest := []) ⟨hx, hb, hml, hown, hw⟩ (m_M_at l x S281 _ q6 v285 v287 f8 h) ⟨gcb hw tw_1135 tw_43 tw_1132 hd_M_at rfl rfl ⟨(Nat.le_of_ble_eq_true rfl), (Nat.le_of_ble_eq_true rfl)⟩, hw _ tw_1133, hw _ tw_1134⟩ (gpV hK hG kd_M f8 rfl) rfl rfl hl283.1 rfl (lv_room (Nat.le_of_ble_eq_true rfl)) d_L_law_948 ⟨(by show _ ≤ (601024 : Nat); omega), (by show _ ≤ (7293034 : Nat); omega)⟩) (fun r288 S289 H locs h9 hle1 hG => ?_)
                                replace h := h9
                                clear h9
                                have f3 := gle_isA hle1 f3
                                have f8 := gle_isA hle1 f8
                                have f13 := gle_isA hle1 f13
                                have leS := leS.tr hle1
                                have leS12 := leS12.tr hle1
                                have leS_23 := leS_23.tr hle1
                                refine lv_istore (lv' := [(6, .int r288), (5, .int r280), (0, .ref b), (1, .ref q1), (2, .ref q6), (3, .ref q11), (4, .int v4_23)]) hx hb d_L_law_951 hl283 (by decide) rfl (fun ls hl290 => ?_)
                                refine lv_aload_n hx hb d_L_law_953 rfl (lv_at hl290 4 rfl) ?_
                                -- call M_thrown
                                refine gpi hK hG (va_runV (As := []) (rest := []) ⟨hx, hb, hml, hown, hw⟩ (m_M_thrown l x S289 _ q6 f8 h) ⟨gcb hw tw_1044 tw_43 tw_1041 hd_M_thrown rfl rfl ⟨(Nat.le_of_ble_eq_true rfl), (Nat.le_of_ble_eq_true rfl)⟩, hw _ tw_1042, hw _ tw_1043⟩ (gpV hK hG kd_M f8 rfl) rfl rfl hl290.1 rfl (lv_room (Nat.le_of_ble_eq_true rfl)) d_L_law_954 ⟨(by show _ ≤ (601024 : Nat); omega), (by show _ ≤ (7293034 : Nat); omega)⟩) (fun r291 H locs h9 hG => ?_)
                                replace h := h9
                                clear h9
                                refine lv_iload hx hb d_L_law_957 (lv_at hl290 1 rfl) ?_
                                refine lv_icmp_eq (tgt := 964) hx hb d_L_law_959 (by decide) (fun hc296 => ?_) (fun hc296 => ?_)
                                · replace h := h.1 hc296
                                  refine lv_iload hx hb d_L_law_964 (lv_at hl290 1 rfl) ?_
                                  have leS289 : gle S289 S289 := gle.rf
                                  obtain ⟨J981, hJ981, h⟩ := h
                                  have k981 : ∀ (H : Heap) (locs : List Loc) (ls : Array Slot), GH x S289 s H locs → lv_has ls 9 [(0, .ref b), (1, .ref q1), (2, .ref q6), (3, .ref q11), (4, .int v4_23)] → J981 → W p l e room_1 s m #[Value.ref b] below meth c H locs (kc_23 + 1) (ks_23 + 6) (lw_Z below #[Value.ref b] s) (F0 m 981 ls []) := by
                                    intro  H locs ls hG hl292 hj
                                    replace h := hJ981 hj
                                    refine lv_goto (tgt := 1583) hx hb d_L_law_981 (by decide) ?_
                                    exact k1583 S289 (kc_23 + 1) (ks_23 + 6) H locs ls leS_23 hG (lv_sub hl292 [0, 1, 2, 3, 4] rfl) h
                                  refine lv_if_ne (tgt := 981) hx hb d_L_law_966 (by decide) (fun hc295 => ?_) (fun hc295 => ?_)
                                  · replace h := h.2 hc295
                                    exact k981 H locs ls hG (lv_sub hl290 [2, 3, 4, 5, 6] rfl) h
                                  · replace h := h.1 hc295
                                    refine lv_aload_n hx hb d_L_law_969 rfl (lv_at hl290 5 rfl) ?_
                                    refine lv_iconst (v := 0) hx hb d_L_law_970 (by decide) ?_
                                    obtain ⟨hi293, h⟩ := h
                                    refine glald hx hb hK hG f13 hi293 d_L_law_971 ?_
                                    refine lv_iload hx hb d_L_law_972 (lv_at hl290 0 rfl) ?_
                                    refine lv_i2l hx hb d_L_law_974 rfl ?_
                                    refine W.lcmp hx hb d_L_law_975 ?_
                                    refine lv_if_eq (tgt := 981) hx hb d_L_law_976 (by decide) (fun hc294 => ?_) (fun hc294 => ?_)
                                    · replace h := h.1 hc294
                                      exact k981 H locs ls hG (lv_sub hl290 [2, 3, 4, 5, 6] rfl) h
                                    · replace h := h.2 hc294
                                      refine lv_iconst (v := 0) hx hb d_L_law_979 (by decide) ?_
                                      exact h.elim
                                · replace h := h.2 hc296
                                  refine lv_iconst (v := 0) hx hb d_L_law_962 (by decide) ?_
                                  exact h.elim
                              · skip
                                by_cases hc297 : (v18 &&& 31) = 12
                                · replace h := h.2.2.2.2.2.2.2.2.2.2.2.2.1 hc297
                                  refine lv_tableIn (tgt := 984) hx hb d_L_law_40 (by rw [hc297]; decide) (by rw [hc297]; decide) (by rw [hc297]; rfl) (by decide) ?_
                                  refine lv_aload_n hx hb d_L_law_984 rfl (lv_at hl16 1 rfl) ?_
                                  refine lv_aload_n hx hb d_L_law_985 rfl (lv_at hl16 0 rfl) ?_
                                  refine lv_iload hx hb d_L_law_986 (lv_at hl16 4 rfl) ?_
                                  refine lv_iconst (v := 1) hx hb d_L_law_988 (by decide) ?_
                                  refine lv_iadd hx hb d_L_law_989 ?_
                                  obtain ⟨hi298, h⟩ := h
                                  refine va_sld hx hb hX hbl hbA hG.2.2.1 hi298 d_L_law_990 ?_
                                  refine lv_topi (fun v299 ev299 => ?_)
                                  replace h := h v299 ev299
                                  refine lv_aload_n hx hb d_L_law_991 rfl (lv_at hl16 0 rfl) ?_
                                  refine lv_iload hx hb d_L_law_992 (lv_at hl16 4 rfl) ?_
                                  refine lv_iconst (v := 2) hx hb d_L_law_994 (by decide) ?_
                                  refine lv_iadd hx hb d_L_law_995 ?_
                                  obtain ⟨hi300, h⟩ := h
                                  refine va_sld hx hb hX hbl hbA hG.2.2.1 hi300 d_L_law_996 ?_
                                  refine lv_topi (fun v301 ev301 => ?_)
                                  replace h := h v301 ev301
                                  refine lv_aload_n hx hb d_L_law_997 rfl (lv_at hl16 0 rfl) ?_
                                  refine lv_iload hx hb d_L_law_998 (lv_at hl16 4 rfl) ?_
                                  refine lv_iconst (v := 3) hx hb d_L_law_1000 (by decide) ?_
                                  refine lv_iadd hx hb d_L_law_1001 ?_
                                  obtain ⟨hi302, h⟩ := h
                                  refine va_sld hx hb hX hbl hbA hG.2.2.1 hi302 d_L_law_1002 ?_
                                  refine lv_topi (fun v303 ev303 => ?_)
                                  replace h := h v303 ev303
                                  refine lv_aload_n hx hb d_L_law_1003 rfl (lv_at hl16 3 rfl) ?_
                                  obtain ⟨⟨hk306, hk306b⟩, h⟩ := h
                                  -- call L_addWinder
                                  refine gci hK hG (vx_runSW (As := [.ref q1, .int v299, .int v301, .int v303, .ref q11]) (rest := []) ⟨hx, hb, hml, hown, hw⟩ (m_L_addWinder l hlt x S_23 _ (some q1) v299 v301 v303 (some q11) h) (gcsw hw tw_722 tw_27 tw_720 tw_721 hd_L_addWinder rfl rfl ⟨(Nat.le_of_ble_eq_true rfl), (Nat.le_of_ble_eq_true rfl)⟩) (gpSL hK hN hG) rfl rfl hl16.1 rfl (lv_room (Nat.le_of_ble_eq_true rfl)) d_L_law_1004 ⟨(by show _ ≤ (601024 : Nat); omega), (by show _ ≤ (7293034 : Nat); omega)⟩) (fun r304 S305 H locs h9 hle1 hG => ?_)
                                  replace h := h9
                                  clear h9
                                  have f3 := gle_isA hle1 f3
                                  have f8 := gle_isA hle1 f8
                                  have f13 := gle_isA hle1 f13
                                  have leS := leS.tr hle1
                                  have leS12 := leS12.tr hle1
                                  have leS_23 := leS_23.tr hle1
                                  refine lv_istore (lv' := [(5, .int r304), (0, .ref b), (1, .ref q1), (2, .ref q6), (3, .ref q11), (4, .int v4_23)]) hx hb d_L_law_1007 hl16 (by decide) rfl (fun ls hl307 => ?_)
                                  refine lv_aload_n hx hb d_L_law_1009 rfl (lv_at hl307 3 rfl) ?_
                                  refine lv_aload_n hx hb d_L_law_1010 rfl (lv_at hl307 1 rfl) ?_
                                  refine lv_iload hx hb d_L_law_1011 (lv_at hl307 5 rfl) ?_
                                  refine lv_iconst (v := 1) hx hb d_L_law_1013 (by decide) ?_
                                  refine lv_iadd hx hb d_L_law_1014 ?_
                                  obtain ⟨hi308, h⟩ := h
                                  refine va_sld hx hb hX hbl hbA hG.2.2.1 hi308 d_L_law_1015 ?_
                                  refine lv_topi (fun v309 ev309 => ?_)
                                  replace h := h v309 ev309
                                  refine lv_aload_n hx hb d_L_law_1016 rfl (lv_at hl307 1 rfl) ?_
                                  refine lv_iload hx hb d_L_law_1017 (lv_at hl307 5 rfl) ?_
                                  refine lv_iconst (v := 2) hx hb d_L_law_1019 (by decide) ?_
                                  refine lv_iadd hx hb d_L_law_1020 ?_
                                  obtain ⟨hi310, h⟩ := h
                                  refine va_sld hx hb hX hbl hbA hG.2.2.1 hi310 d_L_law_1021 ?_
                                  refine lv_topi (fun v311 ev311 => ?_)
                                  replace h := h v311 ev311
                                  refine lv_aload_n hx hb d_L_law_1022 rfl (lv_at hl307 1 rfl) ?_
                                  refine lv_iload hx hb d_L_law_1023 (lv_at hl307 5 rfl) ?_
                                  refine lv_iconst (v := 3) hx hb d_L_law_1025 (by decide) ?_
                                  refine lv_iadd hx hb d_L_law_1026 ?_
                                  obtain ⟨hi312, h⟩ := h
                                  refine va_sld hx hb hX hbl hbA hG.2.2.1 hi312 d_L_law_1027 ?_
                                  refine lv_topi (fun v313 ev313 => ?_)
                                  replace h := h v313 ev313
                                  obtain ⟨⟨hk316, hk316b⟩, h⟩ := h
                                  -- call M_addWinder
                                  refine gci hK hG (va_runV (As := [.int v309, .int v311, .int v313]) (rest := []) ⟨hx, hb, hml, hown, hw⟩ (m_M_addWinder l x S305 _ q6 v309 v311 v313 f8 h) ⟨gcb hw tw_1139 tw_43 tw_1136 hd_M_addWinder rfl rfl ⟨(Nat.le_of_ble_eq_true rfl), (Nat.le_of_ble_eq_true rfl)⟩, hw _ tw_1137, hw _ tw_1138⟩ (gpV hK hG kd_M f8 rfl) rfl rfl hl307.1 rfl (lv_room (Nat.le_of_ble_eq_true rfl)) d_L_law_1028 ⟨(by show _ ≤ (601024 : Nat); omega), (by show _ ≤ (7293034 : Nat); omega)⟩) (fun r314 S315 H locs h9 hle1 hG => ?_)
                                  replace h := h9
                                  clear h9
                                  have f3 := gle_isA hle1 f3
                                  have f8 := gle_isA hle1 f8
                                  have f13 := gle_isA hle1 f13
                                  have leS := leS.tr hle1
                                  have leS12 := leS12.tr hle1
                                  have leS_23 := leS_23.tr hle1
                                  refine lv_istore (lv' := [(6, .int r314), (5, .int r304), (0, .ref b), (1, .ref q1), (2, .ref q6), (3, .ref q11), (4, .int v4_23)]) hx hb d_L_law_1031 hl307 (by decide) rfl (fun ls hl317 => ?_)
                                  refine lv_aload_n hx hb d_L_law_1033 rfl (lv_at hl317 4 rfl) ?_
                                  -- call M_thrown
                                  refine gpi hK hG (va_runV (As := []) (rest := []) ⟨hx, hb, hml, hown, hw⟩ (m_M_thrown l x S315 _ q6 f8 h) ⟨gcb hw tw_1044 tw_43 tw_1041 hd_M_thrown rfl rfl ⟨(Nat.le_of_ble_eq_true rfl), (Nat.le_of_ble_eq_true rfl)⟩, hw _ tw_1042, hw _ tw_1043⟩ (gpV hK hG kd_M f8 rfl) rfl rfl hl317.1 rfl (lv_room (Nat.le_of_ble_eq_true rfl)) d_L_law_1034 ⟨(by show _ ≤ (601024 : Nat); omega), (by show _ ≤ (7293034 : Nat); omega)⟩) (fun r318 H locs h9 hG => ?_)
                                  replace h := h9
                                  clear h9
                                  refine lv_iload hx hb d_L_law_1037 (lv_at hl317 1 rfl) ?_
                                  refine lv_icmp_eq (tgt := 1044) hx hb d_L_law_1039 (by decide) (fun hc323 => ?_) (fun hc323 => ?_)
                                  · replace h := h.1 hc323
                                    refine lv_iload hx hb d_L_law_1044 (lv_at hl317 1 rfl) ?_
                                    have leS315 : gle S315 S315 := gle.rf
                                    obtain ⟨J1061, hJ1061, h⟩ := h
                                    have k1061 : ∀ (H : Heap) (locs : List Loc) (ls : Array Slot), GH x S315 s H locs → lv_has ls 9 [(0, .ref b), (1, .ref q1), (2, .ref q6), (3, .ref q11), (4, .int v4_23)] → J1061 → W p l e room_1 s m #[Value.ref b] below meth c H locs (kc_23 + 4) (ks_23 + 31) (lw_Z below #[Value.ref b] s) (F0 m 1061 ls []) := by
                                      intro  H locs ls hG hl319 hj
                                      replace h := hJ1061 hj
                                      refine lv_goto (tgt := 1583) hx hb d_L_law_1061 (by decide) ?_
                                      exact k1583 S315 (kc_23 + 4) (ks_23 + 31) H locs ls leS_23 hG (lv_sub hl319 [0, 1, 2, 3, 4] rfl) h
                                    refine lv_if_ne (tgt := 1061) hx hb d_L_law_1046 (by decide) (fun hc322 => ?_) (fun hc322 => ?_)
                                    · replace h := h.2 hc322
                                      exact k1061 H locs ls hG (lv_sub hl317 [2, 3, 4, 5, 6] rfl) h
                                    · replace h := h.1 hc322
                                      refine lv_aload_n hx hb d_L_law_1049 rfl (lv_at hl317 5 rfl) ?_
                                      refine lv_iconst (v := 0) hx hb d_L_law_1050 (by decide) ?_
                                      obtain ⟨hi320, h⟩ := h
                                      refine glald hx hb hK hG f13 hi320 d_L_law_1051 ?_
                                      refine lv_iload hx hb d_L_law_1052 (lv_at hl317 0 rfl) ?_
                                      refine lv_i2l hx hb d_L_law_1054 rfl ?_
                                      refine W.lcmp hx hb d_L_law_1055 ?_
                                      refine lv_if_eq (tgt := 1061) hx hb d_L_law_1056 (by decide) (fun hc321 => ?_) (fun hc321 => ?_)
                                      · replace h := h.1 hc321
                                        exact k1061 H locs ls hG (lv_sub hl317 [2, 3, 4, 5, 6] rfl) h
                                      · replace h := h.2 hc321
                                        refine lv_iconst (v := 0) hx hb d_L_law_1059 (by decide) ?_
                                        exact h.elim
                                  · replace h := h.2 hc323
                                    refine lv_iconst (v := 0) hx hb d_L_law_1042 (by decide) ?_
                                    exact h.elim
                                · skip
                                  by_cases hc324 : (v18 &&& 31) = 13
                                  · replace h := h.2.2.2.2.2.2.2.2.2.2.2.2.2.1 hc324
                                    refine lv_tableIn (tgt := 1064) hx hb d_L_law_40 (by rw [hc324]; decide) (by rw [hc324]; decide) (by rw [hc324]; rfl) (by decide) ?_
                                    refine lv_aload_n hx hb d_L_law_1064 rfl (lv_at hl16 1 rfl) ?_
                                    refine lv_aload_n hx hb d_L_law_1065 rfl (lv_at hl16 0 rfl) ?_
                                    refine lv_iload hx hb d_L_law_1066 (lv_at hl16 4 rfl) ?_
                                    refine lv_iconst (v := 1) hx hb d_L_law_1068 (by decide) ?_
                                    refine lv_iadd hx hb d_L_law_1069 ?_
                                    obtain ⟨hi325, h⟩ := h
                                    refine va_sld hx hb hX hbl hbA hG.2.2.1 hi325 d_L_law_1070 ?_
                                    refine lv_topi (fun v326 ev326 => ?_)
                                    replace h := h v326 ev326
                                    refine lv_aload_n hx hb d_L_law_1071 rfl (lv_at hl16 0 rfl) ?_
                                    refine lv_iload hx hb d_L_law_1072 (lv_at hl16 4 rfl) ?_
                                    refine lv_iconst (v := 2) hx hb d_L_law_1074 (by decide) ?_
                                    refine lv_iadd hx hb d_L_law_1075 ?_
                                    obtain ⟨hi327, h⟩ := h
                                    refine va_sld hx hb hX hbl hbA hG.2.2.1 hi327 d_L_law_1076 ?_
                                    refine lv_topi (fun v328 ev328 => ?_)
                                    replace h := h v328 ev328
                                    refine lv_aload_n hx hb d_L_law_1077 rfl (lv_at hl16 3 rfl) ?_
                                    obtain ⟨⟨hk331, hk331b⟩, h⟩ := h
                                    -- call L_call
                                    refine gci hK hG (vx_runSW (As := [.ref q1, .int v326, .int v328, .ref q11]) (rest := []) ⟨hx, hb, hml, hown, hw⟩ (m_L_call l hlt x S_23 _ (some q1) v326 v328 (some q11) h) (gcsw hw tw_763 tw_27 tw_761 tw_762 hd_L_call rfl rfl ⟨(Nat.le_of_ble_eq_true rfl), (Nat.le_of_ble_eq_true rfl)⟩) (gpSL hK hN hG) rfl rfl hl16.1 rfl (lv_room (Nat.le_of_ble_eq_true rfl)) d_L_law_1078 ⟨(by show _ ≤ (601024 : Nat); omega), (by show _ ≤ (7293034 : Nat); omega)⟩) (fun r329 S330 H locs h9 hle1 hG => ?_)
                                    replace h := h9
                                    clear h9
                                    have f3 := gle_isA hle1 f3
                                    have f8 := gle_isA hle1 f8
                                    have f13 := gle_isA hle1 f13
                                    have leS := leS.tr hle1
                                    have leS12 := leS12.tr hle1
                                    have leS_23 := leS_23.tr hle1
                                    refine lv_istore (lv' := [(5, .int r329), (0, .ref b), (1, .ref q1), (2, .ref q6), (3, .ref q11), (4, .int v4_23)]) hx hb d_L_law_1081 hl16 (by decide) rfl (fun ls hl332 => ?_)
                                    refine lv_aload_n hx hb d_L_law_1083 rfl (lv_at hl332 3 rfl) ?_
                                    refine lv_aload_n hx hb d_L_law_1084 rfl (lv_at hl332 1 rfl) ?_
                                    refine lv_iload hx hb d_L_law_1085 (lv_at hl332 5 rfl) ?_
                                    refine lv_iconst (v := 1) hx hb d_L_law_1087 (by decide) ?_
                                    refine lv_iadd hx hb d_L_law_1088 ?_
                                    obtain ⟨hi333, h⟩ := h
                                    refine va_sld hx hb hX hbl hbA hG.2.2.1 hi333 d_L_law_1089 ?_
                                    refine lv_topi (fun v334 ev334 => ?_)
                                    replace h := h v334 ev334
                                    refine lv_aload_n hx hb d_L_law_1090 rfl (lv_at hl332 1 rfl) ?_
                                    refine lv_iload hx hb d_L_law_1091 (lv_at hl332 5 rfl) ?_
                                    refine lv_iconst (v := 2) hx hb d_L_law_1093 (by decide) ?_
                                    refine lv_iadd hx hb d_L_law_1094 ?_
                                    obtain ⟨hi335, h⟩ := h
                                    refine va_sld hx hb hX hbl hbA hG.2.2.1 hi335 d_L_law_1095 ?_
                                    refine lv_topi (fun v336 ev336 => ?_)
                                    replace h := h v336 ev336
                                    -- call M_call
                                    refine gci hK hG (va_runV (As := [.int v334, .int v336]) (rest := []) ⟨hx, hb, hml, hown, hw⟩ (m_M_call l x S330 _ q6 v334 v336 f8 h) ⟨gcb hw tw_1143 tw_43 tw_1140 hd_M_call rfl rfl ⟨(Nat.le_of_ble_eq_true rfl), (Nat.le_of_ble_eq_true rfl)⟩, hw _ tw_1141, hw _ tw_1142⟩ (gpV hK hG kd_M f8 rfl) rfl rfl hl332.1 rfl (lv_room (Nat.le_of_ble_eq_true rfl)) d_L_law_1096 ⟨(by show _ ≤ (601024 : Nat); omega), (by show _ ≤ (7293034 : Nat); omega)⟩) (fun r337 S338 H locs h9 hle1 hG => ?_)
                                    replace h := h9
                                    clear h9
                                    have f3 := gle_isA hle1 f3
                                    have f8 := gle_isA hle1 f8
                                    have f13 := gle_isA hle1 f13
                                    have leS := leS.tr hle1
                                    have leS12 := leS12.tr hle1
                                    have leS_23 := leS_23.tr hle1
                                    refine lv_istore (lv' := [(6, .int r337), (5, .int r329), (0, .ref b), (1, .ref q1), (2, .ref q6), (3, .ref q11), (4, .int v4_23)]) hx hb d_L_law_1099 hl332 (by decide) rfl (fun ls hl339 => ?_)
                                    refine lv_aload_n hx hb d_L_law_1101 rfl (lv_at hl339 4 rfl) ?_
                                    -- call M_thrown
                                    refine gpi hK hG (va_runV (As := []) (rest := []) ⟨hx, hb, hml, hown, hw⟩ (m_M_thrown l x S338 _ q6 f8 h) ⟨gcb hw tw_1044 tw_43 tw_1041 hd_M_thrown rfl rfl ⟨(Nat.le_of_ble_eq_true rfl), (Nat.le_of_ble_eq_true rfl)⟩, hw _ tw_1042, hw _ tw_1043⟩ (gpV hK hG kd_M f8 rfl) rfl rfl hl339.1 rfl (lv_room (Nat.le_of_ble_eq_true rfl)) d_L_law_1102 ⟨(by show _ ≤ (601024 : Nat); omega), (by show _ ≤ (7293034 : Nat); omega)⟩) (fun r340 H locs h9 hG => ?_)
                                    replace h := h9
                                    clear h9
                                    refine lv_iload hx hb d_L_law_1105 (lv_at hl339 1 rfl) ?_
                                    refine lv_icmp_eq (tgt := 1112) hx hb d_L_law_1107 (by decide) (fun hc345 => ?_) (fun hc345 => ?_)
                                    · replace h := h.1 hc345
                                      refine lv_iload hx hb d_L_law_1112 (lv_at hl339 1 rfl) ?_
                                      have leS338 : gle S338 S338 := gle.rf
                                      obtain ⟨J1129, hJ1129, h⟩ := h
                                      have k1129 : ∀ (H : Heap) (locs : List Loc) (ls : Array Slot), GH x S338 s H locs → lv_has ls 9 [(0, .ref b), (1, .ref q1), (2, .ref q6), (3, .ref q11), (4, .int v4_23)] → J1129 → W p l e room_1 s m #[Value.ref b] below meth c H locs (kc_23 + 3) (ks_23 + 18) (lw_Z below #[Value.ref b] s) (F0 m 1129 ls []) := by
                                        intro  H locs ls hG hl341 hj
                                        replace h := hJ1129 hj
                                        refine lv_goto (tgt := 1583) hx hb d_L_law_1129 (by decide) ?_
                                        exact k1583 S338 (kc_23 + 3) (ks_23 + 18) H locs ls leS_23 hG (lv_sub hl341 [0, 1, 2, 3, 4] rfl) h
                                      refine lv_if_ne (tgt := 1129) hx hb d_L_law_1114 (by decide) (fun hc344 => ?_) (fun hc344 => ?_)
                                      · replace h := h.2 hc344
                                        exact k1129 H locs ls hG (lv_sub hl339 [2, 3, 4, 5, 6] rfl) h
                                      · replace h := h.1 hc344
                                        refine lv_aload_n hx hb d_L_law_1117 rfl (lv_at hl339 5 rfl) ?_
                                        refine lv_iconst (v := 0) hx hb d_L_law_1118 (by decide) ?_
                                        obtain ⟨hi342, h⟩ := h
                                        refine glald hx hb hK hG f13 hi342 d_L_law_1119 ?_
                                        refine lv_iload hx hb d_L_law_1120 (lv_at hl339 0 rfl) ?_
                                        refine lv_i2l hx hb d_L_law_1122 rfl ?_
                                        refine W.lcmp hx hb d_L_law_1123 ?_
                                        refine lv_if_eq (tgt := 1129) hx hb d_L_law_1124 (by decide) (fun hc343 => ?_) (fun hc343 => ?_)
                                        · replace h := h.1 hc343
                                          exact k1129 H locs ls hG (lv_sub hl339 [2, 3, 4, 5, 6] rfl) h
                                        · replace h := h.2 hc343
                                          refine lv_iconst (v := 0) hx hb d_L_law_1127 (by decide) ?_
                                          exact h.elim
                                    · replace h := h.2 hc345
                                      refine lv_iconst (v := 0) hx hb d_L_law_1110 (by decide) ?_
                                      exact h.elim
                                  · skip
                                    by_cases hc346 : (v18 &&& 31) = 14
                                    · replace h := h.2.2.2.2.2.2.2.2.2.2.2.2.2.2.1 hc346
                                      refine lv_tableIn (tgt := 1132) hx hb d_L_law_40 (by rw [hc346]; decide) (by rw [hc346]; decide) (by rw [hc346]; rfl) (by decide) ?_
                                      refine lv_aload_n hx hb d_L_law_1132 rfl (lv_at hl16 1 rfl) ?_
                                      refine lv_aload_n hx hb d_L_law_1133 rfl (lv_at hl16 0 rfl) ?_
                                      refine lv_iload hx hb d_L_law_1134 (lv_at hl16 4 rfl) ?_
                                      refine lv_iconst (v := 1) hx hb d_L_law_1136 (by decide) ?_
                                      refine lv_iadd hx hb d_L_law_1137 ?_
                                      obtain ⟨hi347, h⟩ := h
                                      refine va_sld hx hb hX hbl hbA hG.2.2.1 hi347 d_L_law_1138 ?_
                                      refine lv_topi (fun v348 ev348 => ?_)
                                      replace h := h v348 ev348
                                      refine lv_aload_n hx hb d_L_law_1139 rfl (lv_at hl16 0 rfl) ?_
                                      refine lv_iload hx hb d_L_law_1140 (lv_at hl16 4 rfl) ?_
                                      refine lv_iconst (v := 2) hx hb d_L_law_1142 (by decide) ?_
                                      refine lv_iadd hx hb d_L_law_1143 ?_
                                      obtain ⟨hi349, h⟩ := h
                                      refine va_sld hx hb hX hbl hbA hG.2.2.1 hi349 d_L_law_1144 ?_
                                      refine lv_topi (fun v350 ev350 => ?_)
                                      replace h := h v350 ev350
                                      refine lv_aload_n hx hb d_L_law_1145 rfl (lv_at hl16 3 rfl) ?_
                                      obtain ⟨⟨hk353, hk353b⟩, h⟩ := h
                                      -- call L_winder
                                      refine gci hK hG (vx_runSW (As := [.ref q1, .int v348, .int v350, .ref q11]) (rest := []) ⟨hx, hb, hml, hown, hw⟩ (m_L_winder l hlt x S_23 _ (some q1) v348 v350 (some q11) h) (gcsw hw tw_780 tw_27 tw_778 tw_779 hd_L_winder rfl rfl ⟨(Nat.le_of_ble_eq_true rfl), (Nat.le_of_ble_eq_true rfl)⟩) (gpSL hK hN hG) rfl rfl hl16.1 rfl (lv_room (Nat.le_of_ble_eq_true rfl)) d_L_law_1146 ⟨(by show _ ≤ (601024 : Nat); omega), (by show _ ≤ (7293034 : Nat); omega)⟩) (fun r351 S352 H locs h9 hle1 hG => ?_)
                                      replace h := h9
                                      clear h9
                                      have f3 := gle_isA hle1 f3
                                      have f8 := gle_isA hle1 f8
                                      have f13 := gle_isA hle1 f13
                                      have leS := leS.tr hle1
                                      have leS12 := leS12.tr hle1
                                      have leS_23 := leS_23.tr hle1
                                      refine lv_istore (lv' := [(5, .int r351), (0, .ref b), (1, .ref q1), (2, .ref q6), (3, .ref q11), (4, .int v4_23)]) hx hb d_L_law_1149 hl16 (by decide) rfl (fun ls hl354 => ?_)
                                      refine lv_aload_n hx hb d_L_law_1151 rfl (lv_at hl354 3 rfl) ?_
                                      refine lv_aload_n hx hb d_L_law_1152 rfl (lv_at hl354 1 rfl) ?_
                                      refine lv_iload hx hb d_L_law_1153 (lv_at hl354 5 rfl) ?_
                                      refine lv_iconst (v := 1) hx hb d_L_law_1155 (by decide) ?_
                                      refine lv_iadd hx hb d_L_law_1156 ?_
                                      obtain ⟨hi355, h⟩ := h
                                      refine va_sld hx hb hX hbl hbA hG.2.2.1 hi355 d_L_law_1157 ?_
                                      refine lv_topi (fun v356 ev356 => ?_)
                                      replace h := h v356 ev356
                                      refine lv_aload_n hx hb d_L_law_1158 rfl (lv_at hl354 1 rfl) ?_
                                      refine lv_iload hx hb d_L_law_1159 (lv_at hl354 5 rfl) ?_
                                      refine lv_iconst (v := 2) hx hb d_L_law_1161 (by decide) ?_
                                      refine lv_iadd hx hb d_L_law_1162 ?_
                                      obtain ⟨hi357, h⟩ := h
                                      refine va_sld hx hb hX hbl hbA hG.2.2.1 hi357 d_L_law_1163 ?_
                                      refine lv_topi (fun v358 ev358 => ?_)
                                      replace h := h v358 ev358
                                      -- call M_winder
                                      refine gci hK hG (va_runV (As := [.int v356, .int v358]) (rest := []) ⟨hx, hb, hml, hown, hw⟩ (m_M_winder l x S352 _ q6 v356 v358 f8 h) ⟨gcb hw tw_1151 tw_43 tw_1148 hd_M_winder rfl rfl ⟨(Nat.le_of_ble_eq_true rfl), (Nat.le_of_ble_eq_true rfl)⟩, hw _ tw_1149, hw _ tw_1150⟩ (gpV hK hG kd_M f8 rfl) rfl rfl hl354.1 rfl (lv_room (Nat.le_of_ble_eq_true rfl)) d_L_law_1164 ⟨(by show _ ≤ (601024 : Nat); omega), (by show _ ≤ (7293034 : Nat); omega)⟩) (fun r359 S360 H locs h9 hle1 hG => ?_)
                                      replace h := h9
                                      clear h9
                                      have f3 := gle_isA hle1 f3
                                      have f8 := gle_isA hle1 f8
                                      have f13 := gle_isA hle1 f13
                                      have leS := leS.tr hle1
                                      have leS12 := leS12.tr hle1
                                      have leS_23 := leS_23.tr hle1
                                      refine lv_istore (lv' := [(6, .int r359), (5, .int r351), (0, .ref b), (1, .ref q1), (2, .ref q6), (3, .ref q11), (4, .int v4_23)]) hx hb d_L_law_1167 hl354 (by decide) rfl (fun ls hl361 => ?_)
                                      refine lv_aload_n hx hb d_L_law_1169 rfl (lv_at hl361 4 rfl) ?_
                                      -- call M_thrown
                                      refine gpi hK hG (va_runV (As := []) (rest := []) ⟨hx, hb, hml, hown, hw⟩ (m_M_thrown l x S360 _ q6 f8 h) ⟨gcb hw tw_1044 tw_43 tw_1041 hd_M_thrown rfl rfl ⟨(Nat.le_of_ble_eq_true rfl), (Nat.le_of_ble_eq_true rfl)⟩, hw _ tw_1042, hw _ tw_1043⟩ (gpV hK hG kd_M f8 rfl) rfl rfl hl361.1 rfl (lv_room (Nat.le_of_ble_eq_true rfl)) d_L_law_1170 ⟨(by show _ ≤ (601024 : Nat); omega), (by show _ ≤ (7293034 : Nat); omega)⟩) (fun r362 H locs h9 hG => ?_)
                                      replace h := h9
                                      clear h9
                                      refine lv_iload hx hb d_L_law_1173 (lv_at hl361 1 rfl) ?_
                                      refine lv_icmp_eq (tgt := 1180) hx hb d_L_law_1175 (by decide) (fun hc367 => ?_) (fun hc367 => ?_)
                                      · replace h := h.1 hc367
                                        refine lv_iload hx hb d_L_law_1180 (lv_at hl361 1 rfl) ?_
                                        have leS360 : gle S360 S360 := gle.rf
                                        obtain ⟨J1197, hJ1197, h⟩ := h
                                        have k1197 : ∀ (H : Heap) (locs : List Loc) (ls : Array Slot), GH x S360 s H locs → lv_has ls 9 [(0, .ref b), (1, .ref q1), (2, .ref q6), (3, .ref q11), (4, .int v4_23)] → J1197 → W p l e room_1 s m #[Value.ref b] below meth c H locs (kc_23 + 2) (ks_23 + 12) (lw_Z below #[Value.ref b] s) (F0 m 1197 ls []) := by
                                          intro  H locs ls hG hl363 hj
                                          replace h := hJ1197 hj
                                          refine lv_goto (tgt := 1583) hx hb d_L_law_1197 (by decide) ?_
                                          exact k1583 S360 (kc_23 + 2) (ks_23 + 12) H locs ls leS_23 hG (lv_sub hl363 [0, 1, 2, 3, 4] rfl) h
                                        refine lv_if_ne (tgt := 1197) hx hb d_L_law_1182 (by decide) (fun hc366 => ?_) (fun hc366 => ?_)
                                        · replace h := h.2 hc366
                                          exact k1197 H locs ls hG (lv_sub hl361 [2, 3, 4, 5, 6] rfl) h
                                        · replace h := h.1 hc366
                                          refine lv_aload_n hx hb d_L_law_1185 rfl (lv_at hl361 5 rfl) ?_
                                          refine lv_iconst (v := 0) hx hb d_L_law_1186 (by decide) ?_
                                          obtain ⟨hi364, h⟩ := h
                                          refine glald hx hb hK hG f13 hi364 d_L_law_1187 ?_
                                          refine lv_iload hx hb d_L_law_1188 (lv_at hl361 0 rfl) ?_
                                          refine lv_i2l hx hb d_L_law_1190 rfl ?_
                                          refine W.lcmp hx hb d_L_law_1191 ?_
                                          refine lv_if_eq (tgt := 1197) hx hb d_L_law_1192 (by decide) (fun hc365 => ?_) (fun hc365 => ?_)
                                          · replace h := h.1 hc365
                                            exact k1197 H locs ls hG (lv_sub hl361 [2, 3, 4, 5, 6] rfl) h
                                          · replace h := h.2 hc365
                                            refine lv_iconst (v := 0) hx hb d_L_law_1195 (by decide) ?_
                                            exact h.elim
                                      · replace h := h.2 hc367
                                        refine lv_iconst (v := 0) hx hb d_L_law_1178 (by decide) ?_
                                        exact h.elim
                                    · skip
                                      by_cases hc368 : (v18 &&& 31) = 15
                                      · replace h := h.2.2.2.2.2.2.2.2.2.2.2.2.2.2.2.1 hc368
                                        refine lv_tableIn (tgt := 1200) hx hb d_L_law_40 (by rw [hc368]; decide) (by rw [hc368]; decide) (by rw [hc368]; rfl) (by decide) ?_
                                        refine lv_aload_n hx hb d_L_law_1200 rfl (lv_at hl16 1 rfl) ?_
                                        refine lv_aload_n hx hb d_L_law_1201 rfl (lv_at hl16 0 rfl) ?_
                                        refine lv_iload hx hb d_L_law_1202 (lv_at hl16 4 rfl) ?_
                                        refine lv_iconst (v := 1) hx hb d_L_law_1204 (by decide) ?_
                                        refine lv_iadd hx hb d_L_law_1205 ?_
                                        obtain ⟨hi369, h⟩ := h
                                        refine va_sld hx hb hX hbl hbA hG.2.2.1 hi369 d_L_law_1206 ?_
                                        refine lv_topi (fun v370 ev370 => ?_)
                                        replace h := h v370 ev370
                                        refine lv_aload_n hx hb d_L_law_1207 rfl (lv_at hl16 3 rfl) ?_
                                        obtain ⟨⟨hk373, hk373b⟩, h⟩ := h
                                        -- call L_pass
                                        refine gci hK hG (vx_runSW (As := [.ref q1, .int v370, .ref q11]) (rest := []) ⟨hx, hb, hml, hown, hw⟩ (m_L_pass l hlt x S_23 _ (some q1) v370 (some q11) h) (gcsw hw tw_787 tw_27 tw_785 tw_786 hd_L_pass rfl rfl ⟨(Nat.le_of_ble_eq_true rfl), (Nat.le_of_ble_eq_true rfl)⟩) (gpSL hK hN hG) rfl rfl hl16.1 rfl (lv_room (Nat.le_of_ble_eq_true rfl)) d_L_law_1208 ⟨(by show _ ≤ (601024 : Nat); omega), (by show _ ≤ (7293034 : Nat); omega)⟩) (fun r371 S372 H locs h9 hle1 hG => ?_)
                                        replace h := h9
                                        clear h9
                                        have f3 := gle_isA hle1 f3
                                        have f8 := gle_isA hle1 f8
                                        have f13 := gle_isA hle1 f13
                                        have leS := leS.tr hle1
                                        have leS12 := leS12.tr hle1
                                        have leS_23 := leS_23.tr hle1
                                        refine lv_istore (lv' := [(5, .int r371), (0, .ref b), (1, .ref q1), (2, .ref q6), (3, .ref q11), (4, .int v4_23)]) hx hb d_L_law_1211 hl16 (by decide) rfl (fun ls hl374 => ?_)
                                        refine lv_aload_n hx hb d_L_law_1213 rfl (lv_at hl374 3 rfl) ?_
                                        refine lv_aload_n hx hb d_L_law_1214 rfl (lv_at hl374 1 rfl) ?_
                                        refine lv_iload hx hb d_L_law_1215 (lv_at hl374 5 rfl) ?_
                                        refine lv_iconst (v := 1) hx hb d_L_law_1217 (by decide) ?_
                                        refine lv_iadd hx hb d_L_law_1218 ?_
                                        obtain ⟨hi375, h⟩ := h
                                        refine va_sld hx hb hX hbl hbA hG.2.2.1 hi375 d_L_law_1219 ?_
                                        refine lv_topi (fun v376 ev376 => ?_)
                                        replace h := h v376 ev376
                                        -- call M_pass
                                        refine gci hK hG (va_runV (As := [.int v376]) (rest := []) ⟨hx, hb, hml, hown, hw⟩ (m_M_pass l x S372 _ q6 v376 f8 h) ⟨gcb hw tw_1159 tw_43 tw_1156 hd_M_pass rfl rfl ⟨(Nat.le_of_ble_eq_true rfl), (Nat.le_of_ble_eq_true rfl)⟩, hw _ tw_1157, hw _ tw_1158⟩ (gpV hK hG kd_M f8 rfl) rfl rfl hl374.1 rfl (lv_room (Nat.le_of_ble_eq_true rfl)) d_L_law_1220 ⟨(by show _ ≤ (601024 : Nat); omega), (by show _ ≤ (7293034 : Nat); omega)⟩) (fun r377 S378 H locs h9 hle1 hG => ?_)
                                        replace h := h9
                                        clear h9
                                        have f3 := gle_isA hle1 f3
                                        have f8 := gle_isA hle1 f8
                                        have f13 := gle_isA hle1 f13
                                        have leS := leS.tr hle1
                                        have leS12 := leS12.tr hle1
                                        have leS_23 := leS_23.tr hle1
                                        refine lv_istore (lv' := [(6, .int r377), (5, .int r371), (0, .ref b), (1, .ref q1), (2, .ref q6), (3, .ref q11), (4, .int v4_23)]) hx hb d_L_law_1223 hl374 (by decide) rfl (fun ls hl379 => ?_)
                                        refine lv_aload_n hx hb d_L_law_1225 rfl (lv_at hl379 4 rfl) ?_
                                        -- call M_thrown
                                        refine gpi hK hG (va_runV (As := []) (rest := []) ⟨hx, hb, hml, hown, hw⟩ (m_M_thrown l x S378 _ q6 f8 h) ⟨gcb hw tw_1044 tw_43 tw_1041 hd_M_thrown rfl rfl ⟨(Nat.le_of_ble_eq_true rfl), (Nat.le_of_ble_eq_true rfl)⟩, hw _ tw_1042, hw _ tw_1043⟩ (gpV hK hG kd_M f8 rfl) rfl rfl hl379.1 rfl (lv_room (Nat.le_of_ble_eq_true rfl)) d_L_law_1226 ⟨(by show _ ≤ (601024 : Nat); omega), (by show _ ≤ (7293034 : Nat); omega)⟩) (fun r380 H locs h9 hG => ?_)
                                        replace h := h9
                                        clear h9
                                        refine lv_iload hx hb d_L_law_1229 (lv_at hl379 1 rfl) ?_
                                        refine lv_icmp_eq (tgt := 1236) hx hb d_L_law_1231 (by decide) (fun hc385 => ?_) (fun hc385 => ?_)
                                        · replace h := h.1 hc385
                                          refine lv_iload hx hb d_L_law_1236 (lv_at hl379 1 rfl) ?_
                                          have leS378 : gle S378 S378 := gle.rf
                                          obtain ⟨J1253, hJ1253, h⟩ := h
                                          have k1253 : ∀ (H : Heap) (locs : List Loc) (ls : Array Slot), GH x S378 s H locs → lv_has ls 9 [(0, .ref b), (1, .ref q1), (2, .ref q6), (3, .ref q11), (4, .int v4_23)] → J1253 → W p l e room_1 s m #[Value.ref b] below meth c H locs (kc_23 + 1) (ks_23 + 6) (lw_Z below #[Value.ref b] s) (F0 m 1253 ls []) := by
                                            intro  H locs ls hG hl381 hj
                                            replace h := hJ1253 hj
                                            refine lv_goto (tgt := 1583) hx hb d_L_law_1253 (by decide) ?_
                                            exact k1583 S378 (kc_23 + 1) (ks_23 + 6) H locs ls leS_23 hG (lv_sub hl381 [0, 1, 2, 3, 4] rfl) h
                                          refine lv_if_ne (tgt := 1253) hx hb d_L_law_1238 (by decide) (fun hc384 => ?_) (fun hc384 => ?_)
                                          · replace h := h.2 hc384
                                            exact k1253 H locs ls hG (lv_sub hl379 [2, 3, 4, 5, 6] rfl) h
                                          · replace h := h.1 hc384
                                            refine lv_aload_n hx hb d_L_law_1241 rfl (lv_at hl379 5 rfl) ?_
                                            refine lv_iconst (v := 0) hx hb d_L_law_1242 (by decide) ?_
                                            obtain ⟨hi382, h⟩ := h
                                            refine glald hx hb hK hG f13 hi382 d_L_law_1243 ?_
                                            refine lv_iload hx hb d_L_law_1244 (lv_at hl379 0 rfl) ?_
                                            refine lv_i2l hx hb d_L_law_1246 rfl ?_
                                            refine W.lcmp hx hb d_L_law_1247 ?_
                                            refine lv_if_eq (tgt := 1253) hx hb d_L_law_1248 (by decide) (fun hc383 => ?_) (fun hc383 => ?_)
                                            · replace h := h.1 hc383
                                              exact k1253 H locs ls hG (lv_sub hl379 [2, 3, 4, 5, 6] rfl) h
                                            · replace h := h.2 hc383
                                              refine lv_iconst (v := 0) hx hb d_L_law_1251 (by decide) ?_
                                              exact h.elim
                                        · replace h := h.2 hc385
                                          refine lv_iconst (v := 0) hx hb d_L_law_1234 (by decide) ?_
                                          exact h.elim
                                      · skip
                                        by_cases hc386 : (v18 &&& 31) = 16
                                        · replace h := h.2.2.2.2.2.2.2.2.2.2.2.2.2.2.2.2.1 hc386
                                          refine lv_tableIn (tgt := 1256) hx hb d_L_law_40 (by rw [hc386]; decide) (by rw [hc386]; decide) (by rw [hc386]; rfl) (by decide) ?_
                                          refine lv_aload_n hx hb d_L_law_1256 rfl (lv_at hl16 1 rfl) ?_
                                          refine lv_aload_n hx hb d_L_law_1257 rfl (lv_at hl16 0 rfl) ?_
                                          refine lv_iload hx hb d_L_law_1258 (lv_at hl16 4 rfl) ?_
                                          refine lv_iconst (v := 1) hx hb d_L_law_1260 (by decide) ?_
                                          refine lv_iadd hx hb d_L_law_1261 ?_
                                          obtain ⟨hi387, h⟩ := h
                                          refine va_sld hx hb hX hbl hbA hG.2.2.1 hi387 d_L_law_1262 ?_
                                          refine lv_topi (fun v388 ev388 => ?_)
                                          replace h := h v388 ev388
                                          refine lv_aload_n hx hb d_L_law_1263 rfl (lv_at hl16 3 rfl) ?_
                                          obtain ⟨⟨hk391, hk391b⟩, h⟩ := h
                                          -- call L_count
                                          refine gci hK hG (vx_runSW (As := [.ref q1, .int v388, .ref q11]) (rest := []) ⟨hx, hb, hml, hown, hw⟩ (m_L_count l hlt x S_23 _ (some q1) v388 (some q11) h) (gcsw hw tw_877 tw_27 tw_875 tw_876 hd_L_count rfl rfl ⟨(Nat.le_of_ble_eq_true rfl), (Nat.le_of_ble_eq_true rfl)⟩) (gpSL hK hN hG) rfl rfl hl16.1 rfl (lv_room (Nat.le_of_ble_eq_true rfl)) d_L_law_1264 ⟨(by show _ ≤ (601024 : Nat); omega), (by show _ ≤ (7293034 : Nat); omega)⟩) (fun r389 S390 H locs h9 hle1 hG => ?_)
                                          replace h := h9
                                          clear h9
                                          have f3 := gle_isA hle1 f3
                                          have f8 := gle_isA hle1 f8
                                          have f13 := gle_isA hle1 f13
                                          have leS := leS.tr hle1
                                          have leS12 := leS12.tr hle1
                                          have leS_23 := leS_23.tr hle1
                                          refine lv_istore (lv' := [(5, .int r389), (0, .ref b), (1, .ref q1), (2, .ref q6), (3, .ref q11), (4, .int v4_23)]) hx hb d_L_law_1267 hl16 (by decide) rfl (fun ls hl392 => ?_)
                                          refine lv_aload_n hx hb d_L_law_1269 rfl (lv_at hl392 3 rfl) ?_
                                          refine lv_aload_n hx hb d_L_law_1270 rfl (lv_at hl392 1 rfl) ?_
                                          refine lv_iload hx hb d_L_law_1271 (lv_at hl392 5 rfl) ?_
                                          refine lv_iconst (v := 1) hx hb d_L_law_1273 (by decide) ?_
                                          refine lv_iadd hx hb d_L_law_1274 ?_
                                          obtain ⟨hi393, h⟩ := h
                                          refine va_sld hx hb hX hbl hbA hG.2.2.1 hi393 d_L_law_1275 ?_
                                          refine lv_topi (fun v394 ev394 => ?_)
                                          replace h := h v394 ev394
                                          -- call M_count
                                          refine gci hK hG (va_runV (As := [.int v394]) (rest := []) ⟨hx, hb, hml, hown, hw⟩ (m_M_count l x S390 _ q6 v394 f8 h) ⟨gcb hw tw_1205 tw_43 tw_1202 hd_M_count rfl rfl ⟨(Nat.le_of_ble_eq_true rfl), (Nat.le_of_ble_eq_true rfl)⟩, hw _ tw_1203, hw _ tw_1204⟩ (gpV hK hG kd_M f8 rfl) rfl rfl hl392.1 rfl (lv_room (Nat.le_of_ble_eq_true rfl)) d_L_law_1276 ⟨(by show _ ≤ (601024 : Nat); omega), (by show _ ≤ (7293034 : Nat); omega)⟩) (fun r395 S396 H locs h9 hle1 hG => ?_)
                                          replace h := h9
                                          clear h9
                                          have f3 := gle_isA hle1 f3
                                          have f8 := gle_isA hle1 f8
                                          have f13 := gle_isA hle1 f13
                                          have leS := leS.tr hle1
                                          have leS12 := leS12.tr hle1
                                          have leS_23 := leS_23.tr hle1
                                          refine lv_istore (lv' := [(6, .int r395), (5, .int r389), (0, .ref b), (1, .ref q1), (2, .ref q6), (3, .ref q11), (4, .int v4_23)]) hx hb d_L_law_1279 hl392 (by decide) rfl (fun ls hl397 => ?_)
                                          refine lv_aload_n hx hb d_L_law_1281 rfl (lv_at hl397 4 rfl) ?_
                                          -- call M_thrown
                                          refine gpi hK hG (va_runV (As := []) (rest := []) ⟨hx, hb, hml, hown, hw⟩ (m_M_thrown l x S396 _ q6 f8 h) ⟨gcb hw tw_1044 tw_43 tw_1041 hd_M_thrown rfl rfl ⟨(Nat.le_of_ble_eq_true rfl), (Nat.le_of_ble_eq_true rfl)⟩, hw _ tw_1042, hw _ tw_1043⟩ (gpV hK hG kd_M f8 rfl) rfl rfl hl397.1 rfl (lv_room (Nat.le_of_ble_eq_true rfl)) d_L_law_1282 ⟨(by show _ ≤ (601024 : Nat); omega), (by show _ ≤ (7293034 : Nat); omega)⟩) (fun r398 H locs h9 hG => ?_)
                                          replace h := h9
                                          clear h9
                                          refine lv_iload hx hb d_L_law_1285 (lv_at hl397 1 rfl) ?_
                                          refine lv_icmp_eq (tgt := 1292) hx hb d_L_law_1287 (by decide) (fun hc403 => ?_) (fun hc403 => ?_)
                                          · replace h := h.1 hc403
                                            refine lv_iload hx hb d_L_law_1292 (lv_at hl397 1 rfl) ?_
                                            have leS396 : gle S396 S396 := gle.rf
                                            obtain ⟨J1309, hJ1309, h⟩ := h
                                            have k1309 : ∀ (H : Heap) (locs : List Loc) (ls : Array Slot), GH x S396 s H locs → lv_has ls 9 [(0, .ref b), (1, .ref q1), (2, .ref q6), (3, .ref q11), (4, .int v4_23)] → J1309 → W p l e room_1 s m #[Value.ref b] below meth c H locs (kc_23 + 1) (ks_23 + 6) (lw_Z below #[Value.ref b] s) (F0 m 1309 ls []) := by
                                              intro  H locs ls hG hl399 hj
                                              replace h := hJ1309 hj
                                              refine lv_goto (tgt := 1583) hx hb d_L_law_1309 (by decide) ?_
                                              exact k1583 S396 (kc_23 + 1) (ks_23 + 6) H locs ls leS_23 hG (lv_sub hl399 [0, 1, 2, 3, 4] rfl) h
                                            refine lv_if_ne (tgt := 1309) hx hb d_L_law_1294 (by decide) (fun hc402 => ?_) (fun hc402 => ?_)
                                            · replace h := h.2 hc402
                                              exact k1309 H locs ls hG (lv_sub hl397 [2, 3, 4, 5, 6] rfl) h
                                            · replace h := h.1 hc402
                                              refine lv_aload_n hx hb d_L_law_1297 rfl (lv_at hl397 5 rfl) ?_
                                              refine lv_iconst (v := 0) hx hb d_L_law_1298 (by decide) ?_
                                              obtain ⟨hi400, h⟩ := h
                                              refine glald hx hb hK hG f13 hi400 d_L_law_1299 ?_
                                              refine lv_iload hx hb d_L_law_1300 (lv_at hl397 0 rfl) ?_
                                              refine lv_i2l hx hb d_L_law_1302 rfl ?_
                                              refine W.lcmp hx hb d_L_law_1303 ?_
                                              refine lv_if_eq (tgt := 1309) hx hb d_L_law_1304 (by decide) (fun hc401 => ?_) (fun hc401 => ?_)
                                              · replace h := h.1 hc401
                                                exact k1309 H locs ls hG (lv_sub hl397 [2, 3, 4, 5, 6] rfl) h
                                              · replace h := h.2 hc401
                                                refine lv_iconst (v := 0) hx hb d_L_law_1307 (by decide) ?_
                                                exact h.elim
                                          · replace h := h.2 hc403
                                            refine lv_iconst (v := 0) hx hb d_L_law_1290 (by decide) ?_
                                            exact h.elim
                                        · skip
                                          by_cases hc404 : (v18 &&& 31) = 17
                                          · replace h := h.2.2.2.2.2.2.2.2.2.2.2.2.2.2.2.2.2.1 hc404
                                            refine lv_tableIn (tgt := 1312) hx hb d_L_law_40 (by rw [hc404]; decide) (by rw [hc404]; decide) (by rw [hc404]; rfl) (by decide) ?_
                                            refine lv_aload_n hx hb d_L_law_1312 rfl (lv_at hl16 1 rfl) ?_
                                            refine lv_aload_n hx hb d_L_law_1313 rfl (lv_at hl16 0 rfl) ?_
                                            refine lv_iload hx hb d_L_law_1314 (lv_at hl16 4 rfl) ?_
                                            refine lv_iconst (v := 1) hx hb d_L_law_1316 (by decide) ?_
                                            refine lv_iadd hx hb d_L_law_1317 ?_
                                            obtain ⟨hi405, h⟩ := h
                                            refine va_sld hx hb hX hbl hbA hG.2.2.1 hi405 d_L_law_1318 ?_
                                            refine lv_topi (fun v406 ev406 => ?_)
                                            replace h := h v406 ev406
                                            refine lv_aload_n hx hb d_L_law_1319 rfl (lv_at hl16 0 rfl) ?_
                                            refine lv_iload hx hb d_L_law_1320 (lv_at hl16 4 rfl) ?_
                                            refine lv_iconst (v := 2) hx hb d_L_law_1322 (by decide) ?_
                                            refine lv_iadd hx hb d_L_law_1323 ?_
                                            obtain ⟨hi407, h⟩ := h
                                            refine va_sld hx hb hX hbl hbA hG.2.2.1 hi407 d_L_law_1324 ?_
                                            refine lv_topi (fun v408 ev408 => ?_)
                                            replace h := h v408 ev408
                                            refine lv_aload_n hx hb d_L_law_1325 rfl (lv_at hl16 0 rfl) ?_
                                            refine lv_iload hx hb d_L_law_1326 (lv_at hl16 4 rfl) ?_
                                            refine lv_iconst (v := 3) hx hb d_L_law_1328 (by decide) ?_
                                            refine lv_iadd hx hb d_L_law_1329 ?_
                                            obtain ⟨hi409, h⟩ := h
                                            refine va_sld hx hb hX hbl hbA hG.2.2.1 hi409 d_L_law_1330 ?_
                                            refine lv_topi (fun v410 ev410 => ?_)
                                            replace h := h v410 ev410
                                            refine lv_aload_n hx hb d_L_law_1331 rfl (lv_at hl16 3 rfl) ?_
                                            obtain ⟨⟨hk413, hk413b⟩, h⟩ := h
                                            -- call L_foresee
                                            refine gci hK hG (vx_runSW (As := [.ref q1, .int v406, .int v408, .int v410, .ref q11]) (rest := []) ⟨hx, hb, hml, hown, hw⟩ (m_L_foresee l hlt x S_23 _ (some q1) v406 v408 v410 (some q11) h) (gcsw hw tw_884 tw_27 tw_882 tw_883 hd_L_foresee rfl rfl ⟨(Nat.le_of_ble_eq_true rfl), (Nat.le_of_ble_eq_true rfl)⟩) (gpSL hK hN hG) rfl rfl hl16.1 rfl (lv_room (Nat.le_of_ble_eq_true rfl)) d_L_law_1332 ⟨(by show _ ≤ (601024 : Nat); omega), (by show _ ≤ (7293034 : Nat); omega)⟩) (fun r411 S412 H locs h9 hle1 hG => ?_)
                                            replace h := h9
                                            clear h9
                                            have f3 := gle_isA hle1 f3
                                            have f8 := gle_isA hle1 f8
                                            have f13 := gle_isA hle1 f13
                                            have leS := leS.tr hle1
                                            have leS12 := leS12.tr hle1
                                            have leS_23 := leS_23.tr hle1
                                            refine lv_istore (lv' := [(5, .int r411), (0, .ref b), (1, .ref q1), (2, .ref q6), (3, .ref q11), (4, .int v4_23)]) hx hb d_L_law_1335 hl16 (by decide) rfl (fun ls hl414 => ?_)
                                            refine lv_aload_n hx hb d_L_law_1337 rfl (lv_at hl414 3 rfl) ?_
                                            refine lv_aload_n hx hb d_L_law_1338 rfl (lv_at hl414 1 rfl) ?_
                                            refine lv_iload hx hb d_L_law_1339 (lv_at hl414 5 rfl) ?_
                                            refine lv_iconst (v := 1) hx hb d_L_law_1341 (by decide) ?_
                                            refine lv_iadd hx hb d_L_law_1342 ?_
                                            obtain ⟨hi415, h⟩ := h
                                            refine va_sld hx hb hX hbl hbA hG.2.2.1 hi415 d_L_law_1343 ?_
                                            refine lv_topi (fun v416 ev416 => ?_)
                                            replace h := h v416 ev416
                                            refine lv_aload_n hx hb d_L_law_1344 rfl (lv_at hl414 1 rfl) ?_
                                            refine lv_iload hx hb d_L_law_1345 (lv_at hl414 5 rfl) ?_
                                            refine lv_iconst (v := 2) hx hb d_L_law_1347 (by decide) ?_
                                            refine lv_iadd hx hb d_L_law_1348 ?_
                                            obtain ⟨hi417, h⟩ := h
                                            refine va_sld hx hb hX hbl hbA hG.2.2.1 hi417 d_L_law_1349 ?_
                                            refine lv_topi (fun v418 ev418 => ?_)
                                            replace h := h v418 ev418
                                            refine lv_aload_n hx hb d_L_law_1350 rfl (lv_at hl414 1 rfl) ?_
                                            refine lv_iload hx hb d_L_law_1351 (lv_at hl414 5 rfl) ?_
                                            refine lv_iconst (v := 3) hx hb d_L_law_1353 (by decide) ?_
                                            refine lv_iadd hx hb d_L_law_1354 ?_
                                            obtain ⟨hi419, h⟩ := h
                                            refine va_sld hx hb hX hbl hbA hG.2.2.1 hi419 d_L_law_1355 ?_
                                            refine lv_topi (fun v420 ev420 => ?_)
                                            replace h := h v420 ev420
                                            obtain ⟨⟨hk423, hk423b⟩, h⟩ := h
                                            -- call M_foresee
                                            refine gci hK hG (va_runV (As := [.int v416, .int v418, .int v420]) (rest := []) ⟨hx, hb, hml, hown, hw⟩ (m_M_foresee l x S412 _ q6 v416 v418 v420 f8 h) ⟨gcb hw tw_1213 tw_43 tw_1210 hd_M_foresee rfl rfl ⟨(Nat.le_of_ble_eq_true rfl), (Nat.le_of_ble_eq_true rfl)⟩, hw _ tw_1211, hw _ tw_1212⟩ (gpV hK hG kd_M f8 rfl) rfl rfl hl414.1 rfl (lv_room (Nat.le_of_ble_eq_true rfl)) d_L_law_1356 ⟨(by show _ ≤ (601024 : Nat); omega), (by show _ ≤ (7293034 : Nat); omega)⟩) (fun r421 S422 H locs h9 hle1 hG => ?_)
                                            replace h := h9
                                            clear h9
                                            have f3 := gle_isA hle1 f3
                                            have f8 := gle_isA hle1 f8
                                            have f13 := gle_isA hle1 f13
                                            have leS := leS.tr hle1
                                            have leS12 := leS12.tr hle1
                                            have leS_23 := leS_23.tr hle1
                                            refine lv_istore (lv' := [(6, .int r421), (5, .int r411), (0, .ref b), (1, .ref q1), (2, .ref q6), (3, .ref q11), (4, .int v4_23)]) hx hb d_L_law_1359 hl414 (by decide) rfl (fun ls hl424 => ?_)
                                            refine lv_aload_n hx hb d_L_law_1361 rfl (lv_at hl424 4 rfl) ?_
                                            -- call M_thrown
                                            refine gpi hK hG (va_runV (As := []) (rest := []) ⟨hx, hb, hml, hown, hw⟩ (m_M_thrown l x S422 _ q6 f8 h) ⟨gcb hw tw_1044 tw_43 tw_1041 hd_M_thrown rfl rfl ⟨(Nat.le_of_ble_eq_true rfl), (Nat.le_of_ble_eq_true rfl)⟩, hw _ tw_1042, hw _ tw_1043⟩ (gpV hK hG kd_M f8 rfl) rfl rfl hl424.1 rfl (lv_room (Nat.le_of_ble_eq_true rfl)) d_L_law_1362 ⟨(by show _ ≤ (601024 : Nat); omega), (by show _ ≤ (7293034 : Nat); omega)⟩) (fun r425 H locs h9 hG => ?_)
                                            replace h := h9
                                            clear h9
                                            refine lv_iload hx hb d_L_law_1365 (lv_at hl424 1 rfl) ?_
                                            refine lv_icmp_eq (tgt := 1372) hx hb d_L_law_1367 (by decide) (fun hc430 => ?_) (fun hc430 => ?_)
                                            · replace h := h.1 hc430
                                              refine lv_iload hx hb d_L_law_1372 (lv_at hl424 1 rfl) ?_
                                              have leS422 : gle S422 S422 := gle.rf
                                              obtain ⟨J1389, hJ1389, h⟩ := h
                                              have k1389 : ∀ (H : Heap) (locs : List Loc) (ls : Array Slot), GH x S422 s H locs → lv_has ls 9 [(0, .ref b), (1, .ref q1), (2, .ref q6), (3, .ref q11), (4, .int v4_23)] → J1389 → W p l e room_1 s m #[Value.ref b] below meth c H locs (kc_23 + 68) (ks_23 + 1047) (lw_Z below #[Value.ref b] s) (F0 m 1389 ls []) := by
                                                intro  H locs ls hG hl426 hj
                                                replace h := hJ1389 hj
                                                refine lv_goto (tgt := 1583) hx hb d_L_law_1389 (by decide) ?_
                                                exact k1583 S422 (kc_23 + 68) (ks_23 + 1047) H locs ls leS_23 hG (lv_sub hl426 [0, 1, 2, 3, 4] rfl) h
                                              refine lv_if_ne (tgt := 1389) hx hb d_L_law_1374 (by decide) (fun hc429 => ?_) (fun hc429 => ?_)
                                              · replace h := h.2 hc429
                                                exact k1389 H locs ls hG (lv_sub hl424 [2, 3, 4, 5, 6] rfl) h
                                              · replace h := h.1 hc429
                                                refine lv_aload_n hx hb d_L_law_1377 rfl (lv_at hl424 5 rfl) ?_
                                                refine lv_iconst (v := 0) hx hb d_L_law_1378 (by decide) ?_
                                                obtain ⟨hi427, h⟩ := h
                                                refine glald hx hb hK hG f13 hi427 d_L_law_1379 ?_
                                                refine lv_iload hx hb d_L_law_1380 (lv_at hl424 0 rfl) ?_
                                                refine lv_i2l hx hb d_L_law_1382 rfl ?_
                                                refine W.lcmp hx hb d_L_law_1383 ?_
                                                refine lv_if_eq (tgt := 1389) hx hb d_L_law_1384 (by decide) (fun hc428 => ?_) (fun hc428 => ?_)
                                                · replace h := h.1 hc428
                                                  exact k1389 H locs ls hG (lv_sub hl424 [2, 3, 4, 5, 6] rfl) h
                                                · replace h := h.2 hc428
                                                  refine lv_iconst (v := 0) hx hb d_L_law_1387 (by decide) ?_
                                                  exact h.elim
                                            · replace h := h.2 hc430
                                              refine lv_iconst (v := 0) hx hb d_L_law_1370 (by decide) ?_
                                              exact h.elim
                                          · skip
                                            by_cases hc431 : (v18 &&& 31) = 18
                                            · replace h := h.2.2.2.2.2.2.2.2.2.2.2.2.2.2.2.2.2.2.1 hc431
                                              refine lv_tableIn (tgt := 1392) hx hb d_L_law_40 (by rw [hc431]; decide) (by rw [hc431]; decide) (by rw [hc431]; rfl) (by decide) ?_
                                              refine lv_aload_n hx hb d_L_law_1392 rfl (lv_at hl16 1 rfl) ?_
                                              refine lv_aload_n hx hb d_L_law_1393 rfl (lv_at hl16 0 rfl) ?_
                                              refine lv_iload hx hb d_L_law_1394 (lv_at hl16 4 rfl) ?_
                                              refine lv_iconst (v := 1) hx hb d_L_law_1396 (by decide) ?_
                                              refine lv_iadd hx hb d_L_law_1397 ?_
                                              obtain ⟨hi432, h⟩ := h
                                              refine va_sld hx hb hX hbl hbA hG.2.2.1 hi432 d_L_law_1398 ?_
                                              refine lv_topi (fun v433 ev433 => ?_)
                                              replace h := h v433 ev433
                                              refine lv_aload_n hx hb d_L_law_1399 rfl (lv_at hl16 3 rfl) ?_
                                              obtain ⟨⟨hk436, hk436b⟩, h⟩ := h
                                              -- call L_firstToStop
                                              refine gci hK hG (vx_runSW (As := [.ref q1, .int v433, .ref q11]) (rest := []) ⟨hx, hb, hml, hown, hw⟩ (m_L_firstToStop l hlt x S_23 _ (some q1) v433 (some q11) h) (gcsw hw tw_906 tw_27 tw_904 tw_905 hd_L_firstToStop rfl rfl ⟨(Nat.le_of_ble_eq_true rfl), (Nat.le_of_ble_eq_true rfl)⟩) (gpSL hK hN hG) rfl rfl hl16.1 rfl (lv_room (Nat.le_of_ble_eq_true rfl)) d_L_law_1400 ⟨(by show _ ≤ (601024 : Nat); omega), (by show _ ≤ (7293034 : Nat); omega)⟩) (fun r434 S435 H locs h9 hle1 hG => ?_)
                                              replace h := h9
                                              clear h9
                                              have f3 := gle_isA hle1 f3
                                              have f8 := gle_isA hle1 f8
                                              have f13 := gle_isA hle1 f13
                                              have leS := leS.tr hle1
                                              have leS12 := leS12.tr hle1
                                              have leS_23 := leS_23.tr hle1
                                              refine lv_istore (lv' := [(5, .int r434), (0, .ref b), (1, .ref q1), (2, .ref q6), (3, .ref q11), (4, .int v4_23)]) hx hb d_L_law_1403 hl16 (by decide) rfl (fun ls hl437 => ?_)
                                              refine lv_aload_n hx hb d_L_law_1405 rfl (lv_at hl437 3 rfl) ?_
                                              refine lv_aload_n hx hb d_L_law_1406 rfl (lv_at hl437 1 rfl) ?_
                                              refine lv_iload hx hb d_L_law_1407 (lv_at hl437 5 rfl) ?_
                                              refine lv_iconst (v := 1) hx hb d_L_law_1409 (by decide) ?_
                                              refine lv_iadd hx hb d_L_law_1410 ?_
                                              obtain ⟨hi438, h⟩ := h
                                              refine va_sld hx hb hX hbl hbA hG.2.2.1 hi438 d_L_law_1411 ?_
                                              refine lv_topi (fun v439 ev439 => ?_)
                                              replace h := h v439 ev439
                                              -- call M_firstToStop
                                              refine gci hK hG (va_runV (As := [.int v439]) (rest := []) ⟨hx, hb, hml, hown, hw⟩ (m_M_firstToStop l x S435 _ q6 v439 f8 h) ⟨gcb hw tw_1226 tw_43 tw_1223 hd_M_firstToStop rfl rfl ⟨(Nat.le_of_ble_eq_true rfl), (Nat.le_of_ble_eq_true rfl)⟩, hw _ tw_1224, hw _ tw_1225⟩ (gpV hK hG kd_M f8 rfl) rfl rfl hl437.1 rfl (lv_room (Nat.le_of_ble_eq_true rfl)) d_L_law_1412 ⟨(by show _ ≤ (601024 : Nat); omega), (by show _ ≤ (7293034 : Nat); omega)⟩) (fun r440 S441 H locs h9 hle1 hG => ?_)
                                              replace h := h9
                                              clear h9
                                              have f3 := gle_isA hle1 f3
                                              have f8 := gle_isA hle1 f8
                                              have f13 := gle_isA hle1 f13
                                              have leS := leS.tr hle1
                                              have leS12 := leS12.tr hle1
                                              have leS_23 := leS_23.tr hle1
                                              refine lv_istore (lv' := [(6, .int r440), (5, .int r434), (0, .ref b), (1, .ref q1), (2, .ref q6), (3, .ref q11), (4, .int v4_23)]) hx hb d_L_law_1415 hl437 (by decide) rfl (fun ls hl442 => ?_)
                                              refine lv_aload_n hx hb d_L_law_1417 rfl (lv_at hl442 4 rfl) ?_
                                              -- call M_thrown
                                              refine gpi hK hG (va_runV (As := []) (rest := []) ⟨hx, hb, hml, hown, hw⟩ (m_M_thrown l x S441 _ q6 f8 h) ⟨gcb hw tw_1044 tw_43 tw_1041 hd_M_thrown rfl rfl ⟨(Nat.le_of_ble_eq_true rfl), (Nat.le_of_ble_eq_true rfl)⟩, hw _ tw_1042, hw _ tw_1043⟩ (gpV hK hG kd_M f8 rfl) rfl rfl hl442.1 rfl (lv_room (Nat.le_of_ble_eq_true rfl)) d_L_law_1418 ⟨(by show _ ≤ (601024 : Nat); omega), (by show _ ≤ (7293034 : Nat); omega)⟩) (fun r443 H locs h9 hG => ?_)
                                              replace h := h9
                                              clear h9
                                              refine lv_iload hx hb d_L_law_1421 (lv_at hl442 1 rfl) ?_
                                              refine lv_icmp_eq (tgt := 1428) hx hb d_L_law_1423 (by decide) (fun hc448 => ?_) (fun hc448 => ?_)
                                              · replace h := h.1 hc448
                                                refine lv_iload hx hb d_L_law_1428 (lv_at hl442 1 rfl) ?_
                                                have leS441 : gle S441 S441 := gle.rf
                                                obtain ⟨J1445, hJ1445, h⟩ := h
                                                have k1445 : ∀ (H : Heap) (locs : List Loc) (ls : Array Slot), GH x S441 s H locs → lv_has ls 9 [(0, .ref b), (1, .ref q1), (2, .ref q6), (3, .ref q11), (4, .int v4_23)] → J1445 → W p l e room_1 s m #[Value.ref b] below meth c H locs (kc_23 + 65) (ks_23 + 1030) (lw_Z below #[Value.ref b] s) (F0 m 1445 ls []) := by
                                                  intro  H locs ls hG hl444 hj
                                                  replace h := hJ1445 hj
                                                  refine lv_goto (tgt := 1583) hx hb d_L_law_1445 (by decide) ?_
                                                  exact k1583 S441 (kc_23 + 65) (ks_23 + 1030) H locs ls leS_23 hG (lv_sub hl444 [0, 1, 2, 3, 4] rfl) h
                                                refine lv_if_ne (tgt := 1445) hx hb d_L_law_1430 (by decide) (fun hc447 => ?_) (fun hc447 => ?_)
                                                · replace h := h.2 hc447
                                                  exact k1445 H locs ls hG (lv_sub hl442 [2, 3, 4, 5, 6] rfl) h
                                                · replace h := h.1 hc447
                                                  refine lv_aload_n hx hb d_L_law_1433 rfl (lv_at hl442 5 rfl) ?_
                                                  refine lv_iconst (v := 0) hx hb d_L_law_1434 (by decide) ?_
                                                  obtain ⟨hi445, h⟩ := h
                                                  refine glald hx hb hK hG f13 hi445 d_L_law_1435 ?_
                                                  refine lv_iload hx hb d_L_law_1436 (lv_at hl442 0 rfl) ?_
                                                  refine lv_i2l hx hb d_L_law_1438 rfl ?_
                                                  refine W.lcmp hx hb d_L_law_1439 ?_
                                                  refine lv_if_eq (tgt := 1445) hx hb d_L_law_1440 (by decide) (fun hc446 => ?_) (fun hc446 => ?_)
                                                  · replace h := h.1 hc446
                                                    exact k1445 H locs ls hG (lv_sub hl442 [2, 3, 4, 5, 6] rfl) h
                                                  · replace h := h.2 hc446
                                                    refine lv_iconst (v := 0) hx hb d_L_law_1443 (by decide) ?_
                                                    exact h.elim
                                              · replace h := h.2 hc448
                                                refine lv_iconst (v := 0) hx hb d_L_law_1426 (by decide) ?_
                                                exact h.elim
                                            · skip
                                              by_cases hc449 : (v18 &&& 31) = 19
                                              · replace h := h.2.2.2.2.2.2.2.2.2.2.2.2.2.2.2.2.2.2.2.1 hc449
                                                refine lv_tableIn (tgt := 1448) hx hb d_L_law_40 (by rw [hc449]; decide) (by rw [hc449]; decide) (by rw [hc449]; rfl) (by decide) ?_
                                                refine lv_aload_n hx hb d_L_law_1448 rfl (lv_at hl16 1 rfl) ?_
                                                refine lv_aload_n hx hb d_L_law_1449 rfl (lv_at hl16 0 rfl) ?_
                                                refine lv_iload hx hb d_L_law_1450 (lv_at hl16 4 rfl) ?_
                                                refine lv_iconst (v := 1) hx hb d_L_law_1452 (by decide) ?_
                                                refine lv_iadd hx hb d_L_law_1453 ?_
                                                obtain ⟨hi450, h⟩ := h
                                                refine va_sld hx hb hX hbl hbA hG.2.2.1 hi450 d_L_law_1454 ?_
                                                refine lv_topi (fun v451 ev451 => ?_)
                                                replace h := h v451 ev451
                                                refine lv_aload_n hx hb d_L_law_1455 rfl (lv_at hl16 0 rfl) ?_
                                                refine lv_iload hx hb d_L_law_1456 (lv_at hl16 4 rfl) ?_
                                                refine lv_iconst (v := 2) hx hb d_L_law_1458 (by decide) ?_
                                                refine lv_iadd hx hb d_L_law_1459 ?_
                                                obtain ⟨hi452, h⟩ := h
                                                refine va_sld hx hb hX hbl hbA hG.2.2.1 hi452 d_L_law_1460 ?_
                                                refine lv_topi (fun v453 ev453 => ?_)
                                                replace h := h v453 ev453
                                                refine lv_aload_n hx hb d_L_law_1461 rfl (lv_at hl16 0 rfl) ?_
                                                refine lv_iload hx hb d_L_law_1462 (lv_at hl16 4 rfl) ?_
                                                refine lv_iconst (v := 3) hx hb d_L_law_1464 (by decide) ?_
                                                refine lv_iadd hx hb d_L_law_1465 ?_
                                                obtain ⟨hi454, h⟩ := h
                                                refine va_sld hx hb hX hbl hbA hG.2.2.1 hi454 d_L_law_1466 ?_
                                                refine lv_topi (fun v455 ev455 => ?_)
                                                replace h := h v455 ev455
                                                refine lv_aload_n hx hb d_L_law_1467 rfl (lv_at hl16 3 rfl) ?_
                                                obtain ⟨⟨hk458, hk458b⟩, h⟩ := h
                                                -- call L_meet
                                                refine gci hK hG (vx_runSW (As := [.ref q1, .int v451, .int v453, .int v455, .ref q11]) (rest := []) ⟨hx, hb, hml, hown, hw⟩ (m_L_meet l hlt x S_23 _ (some q1) v451 v453 v455 (some q11) h) (gcsw hw tw_917 tw_27 tw_915 tw_916 hd_L_meet rfl rfl ⟨(Nat.le_of_ble_eq_true rfl), (Nat.le_of_ble_eq_true rfl)⟩) (gpSL hK hN hG) rfl rfl hl16.1 rfl (lv_room (Nat.le_of_ble_eq_true rfl)) d_L_law_1468 ⟨(by show _ ≤ (601024 : Nat); omega), (by show _ ≤ (7293034 : Nat); omega)⟩) (fun r456 S457 H locs h9 hle1 hG => ?_)
                                                replace h := h9
                                                clear h9
                                                have f3 := gle_isA hle1 f3
                                                have f8 := gle_isA hle1 f8
                                                have f13 := gle_isA hle1 f13
                                                have leS := leS.tr hle1
                                                have leS12 := leS12.tr hle1
                                                have leS_23 := leS_23.tr hle1
                                                refine lv_istore (lv' := [(5, .int r456), (0, .ref b), (1, .ref q1), (2, .ref q6), (3, .ref q11), (4, .int v4_23)]) hx hb d_L_law_1471 hl16 (by decide) rfl (fun ls hl459 => ?_)
                                                refine lv_aload_n hx hb d_L_law_1473 rfl (lv_at hl459 3 rfl) ?_
                                                refine lv_aload_n hx hb d_L_law_1474 rfl (lv_at hl459 1 rfl) ?_
                                                refine lv_iload hx hb d_L_law_1475 (lv_at hl459 5 rfl) ?_
                                                refine lv_iconst (v := 1) hx hb d_L_law_1477 (by decide) ?_
                                                refine lv_iadd hx hb d_L_law_1478 ?_
                                                obtain ⟨hi460, h⟩ := h
                                                refine va_sld hx hb hX hbl hbA hG.2.2.1 hi460 d_L_law_1479 ?_
                                                refine lv_topi (fun v461 ev461 => ?_)
                                                replace h := h v461 ev461
                                                refine lv_aload_n hx hb d_L_law_1480 rfl (lv_at hl459 1 rfl) ?_
                                                refine lv_iload hx hb d_L_law_1481 (lv_at hl459 5 rfl) ?_
                                                refine lv_iconst (v := 2) hx hb d_L_law_1483 (by decide) ?_
                                                refine lv_iadd hx hb d_L_law_1484 ?_
                                                obtain ⟨hi462, h⟩ := h
                                                refine va_sld hx hb hX hbl hbA hG.2.2.1 hi462 d_L_law_1485 ?_
                                                refine lv_topi (fun v463 ev463 => ?_)
                                                replace h := h v463 ev463
                                                refine lv_aload_n hx hb d_L_law_1486 rfl (lv_at hl459 1 rfl) ?_
                                                refine lv_iload hx hb d_L_law_1487 (lv_at hl459 5 rfl) ?_
                                                refine lv_iconst (v := 3) hx hb d_L_law_1489 (by decide) ?_
                                                refine lv_iadd hx hb d_L_law_1490 ?_
                                                obtain ⟨hi464, h⟩ := h
                                                refine va_sld hx hb hX hbl hbA hG.2.2.1 hi464 d_L_law_1491 ?_
                                                refine lv_topi (fun v465 ev465 => ?_)
                                                replace h := h v465 ev465
                                                -- call M_meet
                                                refine gci hK hG (va_runV (As := [.int v461, .int v463, .int v465]) (rest := []) ⟨hx, hb, hml, hown, hw⟩ (m_M_meet l x S457 _ q6 v461 v463 v465 f8 h) ⟨gcb hw tw_1231 tw_43 tw_1228 hd_M_meet rfl rfl ⟨(Nat.le_of_ble_eq_true rfl), (Nat.le_of_ble_eq_true rfl)⟩, hw _ tw_1229, hw _ tw_1230⟩ (gpV hK hG kd_M f8 rfl) rfl rfl hl459.1 rfl (lv_room (Nat.le_of_ble_eq_true rfl)) d_L_law_1492 ⟨(by show _ ≤ (601024 : Nat); omega), (by show _ ≤ (7293034 : Nat); omega)⟩) (fun r466 S467 H locs h9 hle1 hG => ?_)
                                                replace h := h9
                                                clear h9
                                                have f3 := gle_isA hle1 f3
                                                have f8 := gle_isA hle1 f8
                                                have f13 := gle_isA hle1 f13
                                                have leS := leS.tr hle1
                                                have leS12 := leS12.tr hle1
                                                have leS_23 := leS_23.tr hle1
                                                refine lv_istore (lv' := [(6, .int r466), (5, .int r456), (0, .ref b), (1, .ref q1), (2, .ref q6), (3, .ref q11), (4, .int v4_23)]) hx hb d_L_law_1495 hl459 (by decide) rfl (fun ls hl468 => ?_)
                                                refine lv_aload_n hx hb d_L_law_1497 rfl (lv_at hl468 4 rfl) ?_
                                                -- call M_thrown
                                                refine gpi hK hG (va_runV (As := []) (rest := []) ⟨hx, hb, hml, hown, hw⟩ (m_M_thrown l x S467 _ q6 f8 h) ⟨gcb hw tw_1044 tw_43 tw_1041 hd_M_thrown rfl rfl ⟨(Nat.le_of_ble_eq_true rfl), (Nat.le_of_ble_eq_true rfl)⟩, hw _ tw_1042, hw _ tw_1043⟩ (gpV hK hG kd_M f8 rfl) rfl rfl hl468.1 rfl (lv_room (Nat.le_of_ble_eq_true rfl)) d_L_law_1498 ⟨(by show _ ≤ (601024 : Nat); omega), (by show _ ≤ (7293034 : Nat); omega)⟩) (fun r469 H locs h9 hG => ?_)
                                                replace h := h9
                                                clear h9
                                                refine lv_iload hx hb d_L_law_1501 (lv_at hl468 1 rfl) ?_
                                                refine lv_icmp_eq (tgt := 1508) hx hb d_L_law_1503 (by decide) (fun hc474 => ?_) (fun hc474 => ?_)
                                                · replace h := h.1 hc474
                                                  refine lv_iload hx hb d_L_law_1508 (lv_at hl468 1 rfl) ?_
                                                  have leS467 : gle S467 S467 := gle.rf
                                                  obtain ⟨J1525, hJ1525, h⟩ := h
                                                  have k1525 : ∀ (H : Heap) (locs : List Loc) (ls : Array Slot), GH x S467 s H locs → lv_has ls 9 [(0, .ref b), (1, .ref q1), (2, .ref q6), (3, .ref q11), (4, .int v4_23)] → J1525 → W p l e room_1 s m #[Value.ref b] below meth c H locs (kc_23 + 67) (ks_23 + 1042) (lw_Z below #[Value.ref b] s) (F0 m 1525 ls []) := by
                                                    intro  H locs ls hG hl470 hj
                                                    replace h := hJ1525 hj
                                                    refine lv_goto (tgt := 1583) hx hb d_L_law_1525 (by decide) ?_
                                                    exact k1583 S467 (kc_23 + 67) (ks_23 + 1042) H locs ls leS_23 hG (lv_sub hl470 [0, 1, 2, 3, 4] rfl) h
                                                  refine lv_if_ne (tgt := 1525) hx hb d_L_law_1510 (by decide) (fun hc473 => ?_) (fun hc473 => ?_)
                                                  · replace h := h.2 hc473
                                                    exact k1525 H locs ls hG (lv_sub hl468 [2, 3, 4, 5, 6] rfl) h
                                                  · replace h := h.1 hc473
                                                    refine lv_aload_n hx hb d_L_law_1513 rfl (lv_at hl468 5 rfl) ?_
                                                    refine lv_iconst (v := 0) hx hb d_L_law_1514 (by decide) ?_
                                                    obtain ⟨hi471, h⟩ := h
                                                    refine glald hx hb hK hG f13 hi471 d_L_law_1515 ?_
                                                    refine lv_iload hx hb d_L_law_1516 (lv_at hl468 0 rfl) ?_
                                                    refine lv_i2l hx hb d_L_law_1518 rfl ?_
                                                    refine W.lcmp hx hb d_L_law_1519 ?_
                                                    refine lv_if_eq (tgt := 1525) hx hb d_L_law_1520 (by decide) (fun hc472 => ?_) (fun hc472 => ?_)
                                                    · replace h := h.1 hc472
                                                      exact k1525 H locs ls hG (lv_sub hl468 [2, 3, 4, 5, 6] rfl) h
                                                    · replace h := h.2 hc472
                                                      refine lv_iconst (v := 0) hx hb d_L_law_1523 (by decide) ?_
                                                      exact h.elim
                                                · replace h := h.2 hc474
                                                  refine lv_iconst (v := 0) hx hb d_L_law_1506 (by decide) ?_
                                                  exact h.elim
                                              · skip
                                                by_cases hc475 : (v18 &&& 31) = 20
                                                · replace h := h.2.2.2.2.2.2.2.2.2.2.2.2.2.2.2.2.2.2.2.2.1 hc475
                                                  refine lv_tableIn (tgt := 1528) hx hb d_L_law_40 (by rw [hc475]; decide) (by rw [hc475]; decide) (by rw [hc475]; rfl) (by decide) ?_
                                                  refine lv_aload_n hx hb d_L_law_1528 rfl (lv_at hl16 1 rfl) ?_
                                                  -- call H_tension
                                                  refine gpd hK hG (va_runV (As := []) (rest := []) ⟨hx, hb, hml, hown, hw⟩ (m_H_tension l x S_23 _ q1 f3 h) ⟨gcb hw tw_280 tw_28 tw_277 hd_H_tension rfl rfl ⟨(Nat.le_of_ble_eq_true rfl), (Nat.le_of_ble_eq_true rfl)⟩, hw _ tw_278, hw _ tw_279⟩ (gpV hK hG kd_H f3 rfl) rfl rfl hl16.1 rfl (lv_room (Nat.le_of_ble_eq_true rfl)) d_L_law_1529 ⟨(by show _ ≤ (601024 : Nat); omega), (by show _ ≤ (7293034 : Nat); omega)⟩) (fun r476 H locs h9 hG => ?_)
                                                  replace h := h9
                                                  clear h9
                                                  refine lv_dstore (lv' := [(5, .double r476), (0, .ref b), (1, .ref q1), (2, .ref q6), (3, .ref q11), (4, .int v4_23)]) hx hb d_L_law_1532 hl16 (by decide) rfl (fun ls hl477 => ?_)
                                                  refine lv_aload_n hx hb d_L_law_1534 rfl (lv_at hl477 3 rfl) ?_
                                                  -- call M_tension
                                                  refine gcd hK hG (va_runV (As := []) (rest := []) ⟨hx, hb, hml, hown, hw⟩ (m_M_tension l x S_23 _ q6 f8 h) ⟨gcb hw tw_1235 tw_43 tw_1232 hd_M_tension rfl rfl ⟨(Nat.le_of_ble_eq_true rfl), (Nat.le_of_ble_eq_true rfl)⟩, hw _ tw_1233, hw _ tw_1234⟩ (gpV hK hG kd_M f8 rfl) rfl rfl hl477.1 rfl (lv_room (Nat.le_of_ble_eq_true rfl)) d_L_law_1535 ⟨(by show _ ≤ (601024 : Nat); omega), (by show _ ≤ (7293034 : Nat); omega)⟩) (fun r478 S479 H locs h9 hle1 hG => ?_)
                                                  replace h := h9
                                                  clear h9
                                                  have f3 := gle_isA hle1 f3
                                                  have f8 := gle_isA hle1 f8
                                                  have f13 := gle_isA hle1 f13
                                                  have leS := leS.tr hle1
                                                  have leS12 := leS12.tr hle1
                                                  have leS_23 := leS_23.tr hle1
                                                  refine lv_dstore (lv' := [(7, .double r478), (5, .double r476), (0, .ref b), (1, .ref q1), (2, .ref q6), (3, .ref q11), (4, .int v4_23)]) hx hb d_L_law_1538 hl477 (by decide) rfl (fun ls hl480 => ?_)
                                                  refine lv_dload hx hb d_L_law_1540 (lv_at hl480 1 rfl) ?_
                                                  refine lv_dload hx hb d_L_law_1542 (lv_at hl480 0 rfl) ?_
                                                  refine lv_dcmp hx hb d_L_law_1544 ?_
                                                  have leS479 : gle S479 S479 := gle.rf
                                                  obtain ⟨J1566, hJ1566, h⟩ := h
                                                  have k1566 : ∀ (H : Heap) (locs : List Loc) (ls : Array Slot), GH x S479 s H locs → lv_has ls 9 [(0, .ref b), (1, .ref q1), (2, .ref q6), (3, .ref q11), (4, .int v4_23)] → J1566 → W p l e room_1 s m #[Value.ref b] below meth c H locs kc_23 ks_23 (lw_Z below #[Value.ref b] s) (F0 m 1566 ls []) := by
                                                    intro  H locs ls hG hl481 hj
                                                    replace h := hJ1566 hj
                                                    refine lv_goto (tgt := 1583) hx hb d_L_law_1566 (by decide) ?_
                                                    exact k1583 S479 kc_23 ks_23 H locs ls leS_23 hG (lv_sub hl481 [0, 1, 2, 3, 4] rfl) h
                                                  refine lv_if_eq (tgt := 1566) hx hb d_L_law_1545 (by decide) (fun hc484 => ?_) (fun hc484 => ?_)
                                                  · replace h := h.1 hc484
                                                    exact k1566 H locs ls hG (lv_sub hl480 [2, 3, 4, 5, 6] rfl) h
                                                  · replace h := h.2 hc484
                                                    refine lv_dload hx hb d_L_law_1548 (lv_at hl480 1 rfl) ?_
                                                    refine lv_dload hx hb d_L_law_1550 (lv_at hl480 1 rfl) ?_
                                                    refine lv_dcmp hx hb d_L_law_1552 ?_
                                                    refine lv_if_eq (tgt := 1564) hx hb d_L_law_1553 (by decide) (fun hc483 => ?_) (fun hc483 => ?_)
                                                    · replace h := h.1 hc483
                                                      refine lv_iconst (v := 0) hx hb d_L_law_1564 (by decide) ?_
                                                      exact h.elim
                                                    · replace h := h.2 hc483
                                                      refine lv_dload hx hb d_L_law_1556 (lv_at hl480 0 rfl) ?_
                                                      refine lv_dload hx hb d_L_law_1558 (lv_at hl480 0 rfl) ?_
                                                      refine lv_dcmp hx hb d_L_law_1560 ?_
                                                      refine lv_if_ne (tgt := 1566) hx hb d_L_law_1561 (by decide) (fun hc482 => ?_) (fun hc482 => ?_)
                                                      · replace h := h.2 hc482
                                                        exact k1566 H locs ls hG (lv_sub hl480 [2, 3, 4, 5, 6] rfl) h
                                                      · replace h := h.1 hc482
                                                        refine lv_iconst (v := 0) hx hb d_L_law_1564 (by decide) ?_
                                                        exact h.elim
                                                · skip
                                                  by_cases hc485 : (v18 &&& 31) = 21
                                                  · replace h := h.2.2.2.2.2.2.2.2.2.2.2.2.2.2.2.2.2.2.2.2.2.1 hc485
                                                    refine lv_tableIn (tgt := 1569) hx hb d_L_law_40 (by rw [hc485]; decide) (by rw [hc485]; decide) (by rw [hc485]; rfl) (by decide) ?_
                                                    refine lv_aload_n hx hb d_L_law_1569 rfl (lv_at hl16 1 rfl) ?_
                                                    -- call H_digest
                                                    refine gpl hK hG (va_runV (As := []) (rest := []) ⟨hx, hb, hml, hown, hw⟩ (m_H_digest l x S_23 _ q1 f3 h) ⟨gcb hw tw_310 tw_28 tw_307 hd_H_digest rfl rfl ⟨(Nat.le_of_ble_eq_true rfl), (Nat.le_of_ble_eq_true rfl)⟩, hw _ tw_308, hw _ tw_309⟩ (gpV hK hG kd_H f3 rfl) rfl rfl hl16.1 rfl (lv_room (Nat.le_of_ble_eq_true rfl)) d_L_law_1570 ⟨(by show _ ≤ (601024 : Nat); omega), (by show _ ≤ (7293034 : Nat); omega)⟩) (fun r486 H locs h9 hG => ?_)
                                                    replace h := h9
                                                    clear h9
                                                    refine lv_aload_n hx hb d_L_law_1573 rfl (lv_at hl16 2 rfl) ?_
                                                    obtain ⟨⟨hk489, hk489b⟩, h⟩ := h
                                                    -- call M_digest
                                                    refine gcl hK hG (va_runV (As := []) (rest := [.long r486]) ⟨hx, hb, hml, hown, hw⟩ (m_M_digest l x S_23 _ q6 f8 h) ⟨gcb hw tw_1239 tw_43 tw_1236 hd_M_digest rfl rfl ⟨(Nat.le_of_ble_eq_true rfl), (Nat.le_of_ble_eq_true rfl)⟩, hw _ tw_1237, hw _ tw_1238⟩ (gpV hK hG kd_M f8 rfl) rfl rfl hl16.1 rfl (lv_room (Nat.le_of_ble_eq_true rfl)) d_L_law_1574 ⟨(by show _ ≤ (601024 : Nat); omega), (by show _ ≤ (7293034 : Nat); omega)⟩) (fun r487 S488 H locs h9 hle1 hG => ?_)
                                                    replace h := h9
                                                    clear h9
                                                    have f3 := gle_isA hle1 f3
                                                    have f8 := gle_isA hle1 f8
                                                    have f13 := gle_isA hle1 f13
                                                    have leS := leS.tr hle1
                                                    have leS12 := leS12.tr hle1
                                                    have leS_23 := leS_23.tr hle1
                                                    refine W.lcmp hx hb d_L_law_1577 ?_
                                                    refine lv_if_eq (tgt := 1583) hx hb d_L_law_1578 (by decide) (fun hc490 => ?_) (fun hc490 => ?_)
                                                    · replace h := h.1 hc490
                                                      exact k1583 S488 (kc_23 + 256) (ks_23 + 2048) H locs ls leS_23 hG (lv_sub hl16 [0, 1, 2, 3, 4] rfl) h
                                                    · replace h := h.2 hc490
                                                      refine lv_iconst (v := 0) hx hb d_L_law_1581 (by decide) ?_
                                                      exact h.elim
                                                  · skip
                                                    replace h := h.2.2.2.2.2.2.2.2.2.2.2.2.2.2.2.2.2.2.2.2.2.2 hc22 hc57 hc75 hc93 hc115 hc137 hc167 hc189 hc211 hc230 hc252 hc275 hc297 hc324 hc346 hc368 hc386 hc404 hc431 hc449 hc475 hc485
                                                    refine lv_tableOut (tgt := 1583) hx hb d_L_law_40 (gtabOut 22 (by decide) (fun j9 hj9 => by
                                                      match j9, hj9 with
                                                      | 0, _ => exact hc22
                                                      | 1, _ => exact hc57
                                                      | 2, _ => exact hc75
                                                      | 3, _ => exact hc93
                                                      | 4, _ => exact hc115
                                                      | 5, _ => exact hc137
                                                      | 6, _ => exact hc167
                                                      | 7, _ => exact hc189
                                                      | 8, _ => exact hc211
                                                      | 9, _ => exact hc230
                                                      | 10, _ => exact hc252
                                                      | 11, _ => exact hc275
                                                      | 12, _ => exact hc297
                                                      | 13, _ => exact hc324
                                                      | 14, _ => exact hc346
                                                      | 15, _ => exact hc368
                                                      | 16, _ => exact hc386
                                                      | 17, _ => exact hc404
                                                      | 18, _ => exact hc431
                                                      | 19, _ => exact hc449
                                                      | 20, _ => exact hc475
                                                      | 21, _ => exact hc485
                                                      | k9 + 22, hk9 => exact absurd hk9 (by omega))) (by decide) ?_
                                                    exact k1583 S_23 kc_23 ks_23 H locs ls leS_23 hG (lv_sub hl16 [0, 1, 2, 3, 4] rfl) h
  exact k23 n0_23 S12 0 69 924 H locs ls gle.rf hG (lv_sub hl15 [4, 3, 2, 1, 0] rfl) h0_23
