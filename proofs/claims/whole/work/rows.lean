section
-- ===== PART A: goes FIRST, ahead of the names: the tables' words, and 'selects' of the private methods out of them =====
/-- a private method of a class that the tables say can be made, by its rows of tables_1 -/
def lw_okq (q : MethodName × Nat) : Prop := (q.1.cls ≠ "java/lang/invoke/MethodHandle" ∧ q.1.cls ≠ "java/lang/invoke/VarHandle") ∧ Cond.instantiable q.1.cls q.2 ∈ tables_1 ∧ Cond.privateMethod q.1 ∈ tables_1 ∧ Cond.instanceMethod q.1 ∈ tables_1
theorem lw_p0 : lw_okq (⟨"java/util/ArrayList", "add", "(Ljava/lang/Object;[Ljava/lang/Object;I)V"⟩, 3) := ⟨⟨by decide +kernel, by decide +kernel⟩, List.mem_of_getElem? (i := 54) (by decide +kernel), List.mem_of_getElem? (i := 173) (by decide +kernel), List.mem_of_getElem? (i := 174) (by decide +kernel)⟩
theorem lw_p1 : lw_okq (⟨"java/util/ArrayList", "grow", "()[Ljava/lang/Object;"⟩, 3) := ⟨⟨by decide +kernel, by decide +kernel⟩, List.mem_of_getElem? (i := 54) (by decide +kernel), List.mem_of_getElem? (i := 177) (by decide +kernel), List.mem_of_getElem? (i := 178) (by decide +kernel)⟩
theorem lw_p2 : lw_okq (⟨"java/util/ArrayList", "grow", "(I)[Ljava/lang/Object;"⟩, 3) := ⟨⟨by decide +kernel, by decide +kernel⟩, List.mem_of_getElem? (i := 54) (by decide +kernel), List.mem_of_getElem? (i := 181) (by decide +kernel), List.mem_of_getElem? (i := 182) (by decide +kernel)⟩
theorem lw_p3 : lw_okq (⟨"WaltzHall$Floor", "dizzyOnes", "()I"⟩, 3) := ⟨⟨by decide +kernel, by decide +kernel⟩, List.mem_of_getElem? (i := 149) (by decide +kernel), List.mem_of_getElem? (i := 292) (by decide +kernel), List.mem_of_getElem? (i := 293) (by decide +kernel)⟩
theorem lw_p4 : lw_okq (⟨"WaltzHall$Floor", "spentOnes", "()I"⟩, 3) := ⟨⟨by decide +kernel, by decide +kernel⟩, List.mem_of_getElem? (i := 149) (by decide +kernel), List.mem_of_getElem? (i := 296) (by decide +kernel), List.mem_of_getElem? (i := 297) (by decide +kernel)⟩
theorem lw_p5 : lw_okq (⟨"java/lang/Throwable", "fillInStackTrace", "(I)Ljava/lang/Throwable;"⟩, 6) := ⟨⟨by decide +kernel, by decide +kernel⟩, List.mem_of_getElem? (i := 375) (by decide +kernel), List.mem_of_getElem? (i := 373) (by decide +kernel), List.mem_of_getElem? (i := 374) (by decide +kernel)⟩
theorem lw_p6 : lw_okq (⟨"WaltzHall", "neededDance", "(I)LWaltzHall$Dance;"⟩, 5) := ⟨⟨by decide +kernel, by decide +kernel⟩, List.mem_of_getElem? (i := 29) (by decide +kernel), List.mem_of_getElem? (i := 440) (by decide +kernel), List.mem_of_getElem? (i := 441) (by decide +kernel)⟩
theorem lw_p7 : lw_okq (⟨"WaltzHall", "neededDancer", "(I)LWaltzHall$Dancer;"⟩, 5) := ⟨⟨by decide +kernel, by decide +kernel⟩, List.mem_of_getElem? (i := 29) (by decide +kernel), List.mem_of_getElem? (i := 625) (by decide +kernel), List.mem_of_getElem? (i := 626) (by decide +kernel)⟩
theorem lw_p8 : lw_okq (⟨"WaltzHall", "neededWinder", "(I)LWaltzHall$Winder;"⟩, 5) := ⟨⟨by decide +kernel, by decide +kernel⟩, List.mem_of_getElem? (i := 29) (by decide +kernel), List.mem_of_getElem? (i := 742) (by decide +kernel), List.mem_of_getElem? (i := 743) (by decide +kernel)⟩
theorem lw_p9 : lw_okq (⟨"WaltzHall$Floor", "perform", "(LWaltzHall$Dancer;)I"⟩, 3) := ⟨⟨by decide +kernel, by decide +kernel⟩, List.mem_of_getElem? (i := 149) (by decide +kernel), List.mem_of_getElem? (i := 782) (by decide +kernel), List.mem_of_getElem? (i := 783) (by decide +kernel)⟩
theorem lw_p10 : lw_okq (⟨"WaltzHall$Floor", "whoIsInTheWayOf", "(LWaltzHall$Dancer;)LWaltzHall$Dancer;"⟩, 3) := ⟨⟨by decide +kernel, by decide +kernel⟩, List.mem_of_getElem? (i := 149) (by decide +kernel), List.mem_of_getElem? (i := 813) (by decide +kernel), List.mem_of_getElem? (i := 814) (by decide +kernel)⟩
theorem lw_p11 : lw_okq (⟨"WaltzHall$Winder", "passTurn", "()V"⟩, 7) := ⟨⟨by decide +kernel, by decide +kernel⟩, List.mem_of_getElem? (i := 702) (by decide +kernel), List.mem_of_getElem? (i := 843) (by decide +kernel), List.mem_of_getElem? (i := 844) (by decide +kernel)⟩
theorem lw_p12 : lw_okq (⟨"WaltzHallModel", "no", "(I)I"⟩, 7) := ⟨⟨by decide +kernel, by decide +kernel⟩, List.mem_of_getElem? (i := 902) (by decide +kernel), List.mem_of_getElem? (i := 1023) (by decide +kernel), List.mem_of_getElem? (i := 1024) (by decide +kernel)⟩
theorem lw_p13 : lw_okq (⟨"WaltzHallModel", "isDancer", "(I)Z"⟩, 7) := ⟨⟨by decide +kernel, by decide +kernel⟩, List.mem_of_getElem? (i := 902) (by decide +kernel), List.mem_of_getElem? (i := 1067) (by decide +kernel), List.mem_of_getElem? (i := 1068) (by decide +kernel)⟩
theorem lw_p14 : lw_okq (⟨"WaltzHallModel$State", "isTired", "(I)Z"⟩, 18) := ⟨⟨by decide +kernel, by decide +kernel⟩, List.mem_of_getElem? (i := 908) (by decide +kernel), List.mem_of_getElem? (i := 1084) (by decide +kernel), List.mem_of_getElem? (i := 1085) (by decide +kernel)⟩
theorem lw_p15 : lw_okq (⟨"WaltzHallModel", "dancerTold", "(II)I"⟩, 7) := ⟨⟨by decide +kernel, by decide +kernel⟩, List.mem_of_getElem? (i := 902) (by decide +kernel), List.mem_of_getElem? (i := 1102) (by decide +kernel), List.mem_of_getElem? (i := 1103) (by decide +kernel)⟩
def lw_privs_1 : List (MethodName × Nat) := [(⟨"java/util/ArrayList", "add", "(Ljava/lang/Object;[Ljava/lang/Object;I)V"⟩, 3), (⟨"java/util/ArrayList", "grow", "()[Ljava/lang/Object;"⟩, 3), (⟨"java/util/ArrayList", "grow", "(I)[Ljava/lang/Object;"⟩, 3), (⟨"WaltzHall$Floor", "dizzyOnes", "()I"⟩, 3), (⟨"WaltzHall$Floor", "spentOnes", "()I"⟩, 3), (⟨"java/lang/Throwable", "fillInStackTrace", "(I)Ljava/lang/Throwable;"⟩, 6), (⟨"WaltzHall", "neededDance", "(I)LWaltzHall$Dance;"⟩, 5), (⟨"WaltzHall", "neededDancer", "(I)LWaltzHall$Dancer;"⟩, 5), (⟨"WaltzHall", "neededWinder", "(I)LWaltzHall$Winder;"⟩, 5), (⟨"WaltzHall$Floor", "perform", "(LWaltzHall$Dancer;)I"⟩, 3), (⟨"WaltzHall$Floor", "whoIsInTheWayOf", "(LWaltzHall$Dancer;)LWaltzHall$Dancer;"⟩, 3), (⟨"WaltzHall$Winder", "passTurn", "()V"⟩, 7), (⟨"WaltzHallModel", "no", "(I)I"⟩, 7), (⟨"WaltzHallModel", "isDancer", "(I)Z"⟩, 7), (⟨"WaltzHallModel$State", "isTired", "(I)Z"⟩, 18), (⟨"WaltzHallModel", "dancerTold", "(II)I"⟩, 7)]
theorem lw_r1 : ∀ q ∈ lw_privs_1, lw_okq q := List.forall_mem_cons.mpr ⟨lw_p0, List.forall_mem_cons.mpr ⟨lw_p1, List.forall_mem_cons.mpr ⟨lw_p2, List.forall_mem_cons.mpr ⟨lw_p3, List.forall_mem_cons.mpr ⟨lw_p4, List.forall_mem_cons.mpr ⟨lw_p5, List.forall_mem_cons.mpr ⟨lw_p6, List.forall_mem_cons.mpr ⟨lw_p7, List.forall_mem_cons.mpr ⟨lw_p8, List.forall_mem_cons.mpr ⟨lw_p9, List.forall_mem_cons.mpr ⟨lw_p10, List.forall_mem_cons.mpr ⟨lw_p11, List.forall_mem_cons.mpr ⟨lw_p12, List.forall_mem_cons.mpr ⟨lw_p13, List.forall_mem_cons.mpr ⟨lw_p14, List.forall_mem_cons.mpr ⟨lw_p15, fun _ h => absurd h List.not_mem_nil⟩⟩⟩⟩⟩⟩⟩⟩⟩⟩⟩⟩⟩⟩⟩⟩
theorem lw_p16 : lw_okq (⟨"WaltzHallModel", "isWinder", "(I)Z"⟩, 7) := ⟨⟨by decide +kernel, by decide +kernel⟩, List.mem_of_getElem? (i := 902) (by decide +kernel), List.mem_of_getElem? (i := 1118) (by decide +kernel), List.mem_of_getElem? (i := 1119) (by decide +kernel)⟩
theorem lw_p17 : lw_okq (⟨"WaltzHallModel", "winderTold", "(II)I"⟩, 7) := ⟨⟨by decide +kernel, by decide +kernel⟩, List.mem_of_getElem? (i := 902) (by decide +kernel), List.mem_of_getElem? (i := 1126) (by decide +kernel), List.mem_of_getElem? (i := 1127) (by decide +kernel)⟩
theorem lw_p18 : lw_okq (⟨"WaltzHallModel$State", "isResting", "(I)Z"⟩, 18) := ⟨⟨by decide +kernel, by decide +kernel⟩, List.mem_of_getElem? (i := 908) (by decide +kernel), List.mem_of_getElem? (i := 1139) (by decide +kernel), List.mem_of_getElem? (i := 1140) (by decide +kernel)⟩
theorem lw_p19 : lw_okq (⟨"WaltzHallModel$State", "act", "(I)V"⟩, 18) := ⟨⟨by decide +kernel, by decide +kernel⟩, List.mem_of_getElem? (i := 908) (by decide +kernel), List.mem_of_getElem? (i := 1143) (by decide +kernel), List.mem_of_getElem? (i := 1144) (by decide +kernel)⟩
theorem lw_p20 : lw_okq (⟨"WaltzHallModel$State", "isFree", "(IIII)Z"⟩, 18) := ⟨⟨by decide +kernel, by decide +kernel⟩, List.mem_of_getElem? (i := 908) (by decide +kernel), List.mem_of_getElem? (i := 1149) (by decide +kernel), List.mem_of_getElem? (i := 1150) (by decide +kernel)⟩
theorem lw_p21 : lw_okq (⟨"WaltzHallModel$State", "bump", "(IIII)V"⟩, 18) := ⟨⟨by decide +kernel, by decide +kernel⟩, List.mem_of_getElem? (i := 908) (by decide +kernel), List.mem_of_getElem? (i := 1155) (by decide +kernel), List.mem_of_getElem? (i := 1156) (by decide +kernel)⟩
theorem lw_p22 : lw_okq (⟨"WaltzHallModel$State", "hit", "(I)V"⟩, 18) := ⟨⟨by decide +kernel, by decide +kernel⟩, List.mem_of_getElem? (i := 908) (by decide +kernel), List.mem_of_getElem? (i := 1159) (by decide +kernel), List.mem_of_getElem? (i := 1160) (by decide +kernel)⟩
theorem lw_p23 : lw_okq (⟨"WaltzHallModel$State", "finish", "(IIII)V"⟩, 18) := ⟨⟨by decide +kernel, by decide +kernel⟩, List.mem_of_getElem? (i := 908) (by decide +kernel), List.mem_of_getElem? (i := 1163) (by decide +kernel), List.mem_of_getElem? (i := 1164) (by decide +kernel)⟩
theorem lw_p24 : lw_okq (⟨"WaltzHallModel$State", "go", "(I)V"⟩, 18) := ⟨⟨by decide +kernel, by decide +kernel⟩, List.mem_of_getElem? (i := 908) (by decide +kernel), List.mem_of_getElem? (i := 1167) (by decide +kernel), List.mem_of_getElem? (i := 1168) (by decide +kernel)⟩
theorem lw_p25 : lw_okq (⟨"WaltzHallModel", "counted", "(I)I"⟩, 7) := ⟨⟨by decide +kernel, by decide +kernel⟩, List.mem_of_getElem? (i := 902) (by decide +kernel), List.mem_of_getElem? (i := 1180) (by decide +kernel), List.mem_of_getElem? (i := 1181) (by decide +kernel)⟩
theorem lw_p26 : lw_okq (⟨"WaltzHallModel$State", "copy", "([I[I)V"⟩, 18) := ⟨⟨by decide +kernel, by decide +kernel⟩, List.mem_of_getElem? (i := 908) (by decide +kernel), List.mem_of_getElem? (i := 1192) (by decide +kernel), List.mem_of_getElem? (i := 1193) (by decide +kernel)⟩
def lw_privs_2 : List (MethodName × Nat) := [(⟨"WaltzHallModel", "isWinder", "(I)Z"⟩, 7), (⟨"WaltzHallModel", "winderTold", "(II)I"⟩, 7), (⟨"WaltzHallModel$State", "isResting", "(I)Z"⟩, 18), (⟨"WaltzHallModel$State", "act", "(I)V"⟩, 18), (⟨"WaltzHallModel$State", "isFree", "(IIII)Z"⟩, 18), (⟨"WaltzHallModel$State", "bump", "(IIII)V"⟩, 18), (⟨"WaltzHallModel$State", "hit", "(I)V"⟩, 18), (⟨"WaltzHallModel$State", "finish", "(IIII)V"⟩, 18), (⟨"WaltzHallModel$State", "go", "(I)V"⟩, 18), (⟨"WaltzHallModel", "counted", "(I)I"⟩, 7), (⟨"WaltzHallModel$State", "copy", "([I[I)V"⟩, 18)]
theorem lw_r2 : ∀ q ∈ lw_privs_2, lw_okq q := List.forall_mem_cons.mpr ⟨lw_p16, List.forall_mem_cons.mpr ⟨lw_p17, List.forall_mem_cons.mpr ⟨lw_p18, List.forall_mem_cons.mpr ⟨lw_p19, List.forall_mem_cons.mpr ⟨lw_p20, List.forall_mem_cons.mpr ⟨lw_p21, List.forall_mem_cons.mpr ⟨lw_p22, List.forall_mem_cons.mpr ⟨lw_p23, List.forall_mem_cons.mpr ⟨lw_p24, List.forall_mem_cons.mpr ⟨lw_p25, List.forall_mem_cons.mpr ⟨lw_p26, fun _ h => absurd h List.not_mem_nil⟩⟩⟩⟩⟩⟩⟩⟩⟩⟩⟩
def lw_privs : List (MethodName × Nat) := lw_privs_1 ++ (lw_privs_2)
def lw_tbl : List Cond := k2_sels lw_privs ++ tables_1
theorem lw_privs_ok : ∀ q ∈ lw_privs, lw_okq q := by
  show ∀ q ∈ lw_privs_1 ++ (lw_privs_2), lw_okq q
  exact List.forall_mem_append.mpr ⟨lw_r1, lw_r2⟩
/-- the streams that the claim lets the run draw from -/
abbrev lw_cs : List Choice := [Jvm.Choice.named "NaN.bits"]
theorem lw_bits : nanBits ∈ lw_cs := by first | decide | exact List.mem_cons_self | simp [lw_cs, nanBits]
/-! ===== BEGIN words of one list among another's, by their places ===== -/
theorem goodIn_r {big : List Cond} (ws : List Cond) (ps : List Nat) (hp : ws = ps.filterMap (fun i => big[i]?)) (h : ws.all goodWord = true) : GoodIn big ws := by
  intro w hw
  have h1 := List.all_eq_true.mp h w hw
  rw [hp] at hw
  obtain ⟨i, -, hi⟩ := List.mem_filterMap.mp hw
  have hm : w ∈ big := by first | exact List.mem_of_getElem? hi | exact List.getElem?_mem hi
  exact ⟨hm, good_of_word h1⟩
theorem goodIn_app {big a b : List Cond} (ha : GoodIn big a) (hb : GoodIn big b) : GoodIn big (a ++ b) := fun w h => (List.mem_append.mp h).elim (ha w) (hb w)
theorem goodIn_ca {big a b : List Cond} {c : Cond} (ha : GoodIn big (c :: a)) (hb : GoodIn big b) : GoodIn big (c :: (a ++ b)) := fun w h => (List.mem_cons.mp h).elim (fun e => ha w (List.mem_cons.mpr (Or.inl e))) (fun h => (List.mem_append.mp h).elim (fun h => ha w (List.mem_cons.mpr (Or.inr h))) (hb w))
theorem goodIn_sub {big ws : List Cond} (hm : ∀ w ∈ ws, w ∈ big) (h : ws.all goodWord = true) : GoodIn big ws := fun w hw => ⟨hm w hw, good_of_word (List.all_eq_true.mp h w hw)⟩
/-! ===== END ===== -/

/-! ===== BEGIN exceptions that leave a method, and their catching by the caller (launches without stack traces) ===== -/
section VXA
/-! The laws vx_back, vx_callV, vx_callS, vx_callSW, vx_throw0, vx_throwS follow proofs of the library, with one case more: JvmDerived/Free/Laws.lean (Back.of_free), Shelf42/LK1.lean (callV, callS), Shelf/KitTraced.lean (throwNew0V, throwNewS). -/
/-- where a method has thrown q: the class by its name, the cell, what was written, the world -/
def vx_T (XC : String → State → State → Prop) (st : State) (q : Addr) (t : State) (mc ms : Nat) (free : Addr → Prop) : Prop :=
  ∃ (E : String) (ce : Cell) (L : List Loc), XC E st t ∧ t.heap[q]? = some ce ∧ ce.vm = .none ∧ st.vm.findClass E = some ce.cls ∧ st.WarmedH t.vm ∧ st.sameButNew ({ t with vm := st.vm } : State) L mc ms ∧ ∀ z ∈ L, free z.base
def vx_Q (Qc : Array Value → State → Outcome → State → Prop) (XC : String → State → State → Prop) (mc ms : Nat) (free : Addr → Prop) : Array Value → State → Outcome → State → Prop := fun a st o t =>
  (Qc a st o t ∧ ∃ L, FrameEnd st o t L mc ms ∧ ∀ q ∈ L, free q.base) ∨ ∃ q, o = .threw q ∧ vx_T XC st q t mc ms free
/-- a callee that returns or throws -/
def vx_Met (l : Launch) (y : MethodName) (ws : List Cond) (rm : Room) (Pc : Array Value → State → Prop) (Qc : Array Value → State → Outcome → State → Prop) (XC : String → State → State → Prop) (mc ms : Nat) (free : Addr → Prop) : Prop :=
  MetFree l y (headSpec ws rm) Pc (fun _ _ _ _ _ => True) (vx_Q Qc XC mc ms free)
def vx_Post (XC : String → State → State → Prop) (mc ms : Nat) (free : Addr → Prop) : Pt → Array Value → Addr → Pt → Prop := fun A a q B =>
  ∃ (g : JFrame) (mk : MethodId) (t : State) (L : List Loc) (E : String) (ce : Cell), B.U.heap = t.heap ∧ B.U.vm = t.vm ∧ XC E (A.U.calling g mk a) t ∧ t.heap[q]? = some ce ∧ ce.vm = .none ∧ A.U.vm.findClass E = some ce.cls ∧ B.locs = A.locs ++ L ∧ (∀ z ∈ L, free z.base) ∧ B.cells = A.cells + mc ∧ B.slots = A.slots + ms
def vx_Back (l : Launch) (R : Room) (p : Program) (e : Env) (below : List Frame) (s : State) (sargs : Array Value) (y : MethodName) (len W9 : Nat)
    (Pre : Pt → Array Value → Prop) (Post : Pt → Array Value → Option Value → Pt → Prop) (PostX : Pt → Array Value → Addr → Pt → Prop) : Prop :=
  ∀ (m : MethodId) (meth : Method) (c : Code) (A : Pt) (g : JFrame) (ig : Instr) (mk : MethodId) (a : Array Value),
    Stand p l e R s m sargs below meth c A.U A.locs A.cells A.slots → g.method = m → g.locals.size = c.maxLocals → decode c.code g.pc = .ok (ig, len) →
    2 * g.monitorRoom + (g.stack.map fun v => v.category).sum ≤ W9 → A.U.methodNamed? y = some mk → Pre A a →
    (∃ (v : Option Value) (B : Pt), Stand p l e R s m sargs below meth c B.U B.locs B.cells B.slots ∧ Post A a v B ∧
      Steps p.tables e below (doInvoke e (A.U.setTop g) [] mk a).1 (B.U.setTop { g with pc := g.pc + len, stack := v.toList ++ g.stack })) ∨
    (∃ (q : Addr) (B : Pt), Stand p l e R s m sargs below meth c B.U B.locs B.cells B.slots ∧ PostX A a q B ∧
      Steps p.tables e below (doInvoke e (A.U.setTop g) [] mk a).1 ((B.U.setTop g).pushFrame (.throwing q)))
section Payer
variable {l : Launch} {R : Room} {p : Program} {e : Env} {below : List Frame} {s : State} {sargs : Array Value} {y : MethodName} {len W9 : Nat}
theorem vx_back {ws : List Cond} {rm : Room} {Pc : Array Value → State → Prop} {Qc : Array Value → State → Outcome → State → Prop} {XC : String → State → State → Prop} {mc ms : Nat} {free : Addr → Prop} {bytes : ByteArray} {maxL : Nat} {ret : Option FieldType}
    (hM : vx_Met l y ws rm Pc Qc XC mc ms free) (hblind : FrameBlind Pc) (hrc : rm.cells = mc) (hrs : rm.slots = ms)
    (hframes : rm.frames + 1 ≤ R.frames) (hlocals : W9 + (maxL + 11) + rm.locals ≤ R.locals)
    (hws : ∀ w ∈ ws, ∀ a' U, s.WarmedH U.vm → w.before a' U = true) (hcode : Cond.code y bytes maxL ret ∈ ws) (hinit : ∀ a' U, s.WarmedH U.vm → (Cond.initialized y.cls).before a' U = true) :
    vx_Back l R p e below s sargs y len W9 (PreOf R mc ms Pc) (PostOf Qc mc ms free) (vx_Post XC mc ms free) := by
  intro m meth c A g ig mk a X hg hsize hdg hW hn hp
  have h1 : (headSpec ws rm).pre.before a A.U = true := atoms_intro fun w hw => hws w hw _ _ X.warmed
  have h2 : (Cond.code y bytes maxL ret).before a A.U = true := hws _ hcode _ _ X.warmed
  have h3 : (Cond.initialized y.cls).before a A.U = true := hinit _ _ X.warmed
  have h4 : A.cells + (headSpec ws rm).room.cells ≤ R.cells := by rw [show (headSpec ws rm).room.cells = mc from hrc]; exact hp.1
  have h5 : A.slots + (headSpec ws rm).room.slots ≤ R.slots := by rw [show (headSpec ws rm).room.slots = ms from hrs]; exact hp.2.1
  have hPc : Pc a (A.U.calling g mk a) := hblind _ _ _ _ hp.2.2
  obtain ⟨U, Ls, c0, s0⟩ := A
  dsimp only [Pt.U, Pt.locs, Pt.cells, Pt.slots] at h1 h2 h3 h4 h5 X hn hPc ⊢
  obtain ⟨methY, cY, hmY, hcY, -, hlY, -, -, -, -⟩ := Cond.code_spec hn h2
  obtain ⟨kY, hkY, -⟩ := className_of_methodNamed hn
  have hinitY : kY.init = .initialized := Cond.initialized_spec (findClass_of_methodNamed hn) hkY h3
  have h : At U g.method c below := by rw [hg]; exact X.here
  have hlocals9 : W9 + (maxL + 11) + (headSpec ws rm).room.locals ≤ R.locals := hlocals
  have happ : (headSpec ws rm).appliesLoose y e.platform (U.calling g mk a) = true :=
    Spec.appliesLoose_calling (g := g) h hdg hn hkY hinitY
      (X.room_calling (g := g) (R' := (headSpec ws rm).room) hsize hmY hcY hframes (by rw [hlY]; omega) h4 h5) h1
  obtain ⟨mid, hmid⟩ := h.above
  have hfr : (U.setTop g).frames = (.java g :: mid) ++ below := by rw [State.frames_setTop' g h.top, hmid]; rfl
  obtain ⟨o, s₂, hsteps, -, hend, hq⟩ := Steps.callFree hM p X.admits X.cas X.clock (acts := []) hfr happ hPc trivial
  have hq' : vx_Q Qc XC mc ms free a (U.calling g mk a) o s₂ := hq
  rw [State.frames_setTop' g h.top] at hend
  obtain ⟨g₀, hg0⟩ := Option.isSome_iff_exists.mp h.top
  obtain ⟨r, hr⟩ := State.topJava?_eq_some.mp hg0
  have hr' : (({ U with heap := s₂.heap, slotsUsed := s₂.slotsUsed } : State).setVm s₂.vm).frames = .java g₀ :: r := hr
  rcases hq' with ⟨hqc, L, hfe, hL⟩ | ⟨q, rfl, E, ce, L, hx, hce, hcv, hcl, hW₂, hsm, hL⟩
  · obtain ⟨⟨v, rfl⟩, hW₂, e2, q2, q3, q4, q5, q6⟩ := id hfe
    have e3 : s₂ = ({ (U.calling g mk a).setFrames s₂.frames with heap := s₂.heap, slotsUsed := s₂.slotsUsed } : State).setVm s₂.vm := by
      have : s₂ = ({ s₂ with vm := (U.calling g mk a).vm } : State).setVm s₂.vm := rfl
      rw [e2] at this
      exact this
    obtain ⟨c₂, i₂, len₂, hc₂, hd₂, hf₂⟩ := hend
    have hW' : U.WarmedH s₂.vm := hW₂
    have hcc : c₂ = c := by
      have h1 : s₂.code? g.method = U.code? g.method := by
        rw [State.code?_eq, State.code?_eq, hW'.alike.method?]
      exact Option.some.inj (hc₂.symm.trans (h1.trans h.code))
    subst hcc
    have hlen : len₂ = len := by rw [hdg] at hd₂; cases hd₂; rfl
    subst hlen
    have hs₂ : s₂ = (({ U with heap := s₂.heap, slotsUsed := s₂.slotsUsed } : State).setVm s₂.vm).setTop { g with pc := g.pc + len₂, stack := v.toList ++ g.stack } := by
      refine e3.trans ?_
      rw [hf₂, State.calling_eq h.top, State.setFrames_setFrames, State.setTop_of_frames _ hr', hr]
      rfl
    have hsame : U.sameButNew ({ U with heap := s₂.heap, slotsUsed := s₂.slotsUsed } : State) L mc ms := by
      refine ⟨?_, q2, q3, q4, q5, q6⟩
      obtain ⟨t, ht, -⟩ := State.frames_cons hr
      show ({ U with heap := s₂.heap, slotsUsed := s₂.slotsUsed } : State) = { U.setFrames U.frames with heap := s₂.heap, slotsUsed := s₂.slotsUsed }
      rw [State.setFrames_self ht]
    subst hg
    refine Or.inl ⟨v, ⟨(({ U with heap := s₂.heap, slotsUsed := s₂.slotsUsed } : State).setVm s₂.vm), Ls ++ L, c0 + mc, s0 + ms⟩,
      ⟨X.admits, X.cas, X.clock, X.frames, X.room, X.hears, X.method, X.code, (X.here.setHeapUsed s₂.heap s₂.slotsUsed).setVm hW'.alike, X.tail, State.WarmedH.trans X.warmed hW', X.limits, X.bytes, X.same.trans (hsame.setVm s.vm)⟩,
      ⟨g, mk, s₂, L, rfl, rfl, hqc, rfl, hL, rfl, rfl⟩, ?_⟩
    show Steps p.tables e below _ ((({ U with heap := s₂.heap, slotsUsed := s₂.slotsUsed } : State).setVm s₂.vm).setTop { g with pc := g.pc + len₂, stack := v.toList ++ g.stack })
    rw [← hs₂]
    exact hsteps
  · obtain ⟨e2, q2, q3, q4, q5, q6⟩ := id hsm
    have e3 : s₂ = ({ (U.calling g mk a).setFrames s₂.frames with heap := s₂.heap, slotsUsed := s₂.slotsUsed } : State).setVm s₂.vm := by
      have : s₂ = ({ s₂ with vm := (U.calling g mk a).vm } : State).setVm s₂.vm := rfl
      rw [e2] at this
      exact this
    have hf₂ : s₂.frames = .throwing q :: .java g :: U.frames.tail := hend
    have hW' : U.WarmedH s₂.vm := hW₂
    have hs₂ : s₂ = ((({ U with heap := s₂.heap, slotsUsed := s₂.slotsUsed } : State).setVm s₂.vm).setTop g).pushFrame (.throwing q) := by
      refine e3.trans ?_
      rw [hf₂, State.calling_eq h.top, State.setFrames_setFrames, State.pushFrame, State.frames_setTop _ hr', State.setTop_of_frames _ hr', State.setFrames_setFrames, hr]
      rfl
    have hsame : U.sameButNew ({ U with heap := s₂.heap, slotsUsed := s₂.slotsUsed } : State) L mc ms := by
      refine ⟨?_, q2, q3, q4, q5, q6⟩
      obtain ⟨t, ht, -⟩ := State.frames_cons hr
      show ({ U with heap := s₂.heap, slotsUsed := s₂.slotsUsed } : State) = { U.setFrames U.frames with heap := s₂.heap, slotsUsed := s₂.slotsUsed }
      rw [State.setFrames_self ht]
    subst hg
    refine Or.inr ⟨q, ⟨(({ U with heap := s₂.heap, slotsUsed := s₂.slotsUsed } : State).setVm s₂.vm), Ls ++ L, c0 + mc, s0 + ms⟩,
      ⟨X.admits, X.cas, X.clock, X.frames, X.room, X.hears, X.method, X.code, (X.here.setHeapUsed s₂.heap s₂.slotsUsed).setVm hW'.alike, X.tail, State.WarmedH.trans X.warmed hW', X.limits, X.bytes, X.same.trans (hsame.setVm s.vm)⟩,
      ⟨g, mk, s₂, L, E, ce, rfl, rfl, hx, hce, hcv, hcl, rfl, hL, rfl, rfl⟩, ?_⟩
    show Steps p.tables e below _ (((({ U with heap := s₂.heap, slotsUsed := s₂.slotsUsed } : State).setVm s₂.vm).setTop g).pushFrame (.throwing q))
    rw [← hs₂]
    exact hsteps
end Payer
section Calls
variable {p : Program} {l : Launch} {e : Env} {R : Room} {s : State} {m : MethodId} {args : Array Value} {below : List Frame} {meth : Method} {c : Code} {T : State} {locs : List Loc} {cells slots : Nat}
theorem vx_callV (X : Stand p l e R s m args below meth c T locs cells slots) (hexec : p.tables.exec = Jvm.exec) {own C : String} {index : Nat} {y : MethodName} {bytes : ByteArray} {maxL : Nat} {ret : Option FieldType}
    (hown : s.vm.findClass own = some m.cls) (hlink : (Cond.methodLink own index y).before args s = true) (hinst : (Cond.instanceMethod y).before args s = true) (hsel : (Cond.selects C y y).before args s = true)
    (hcode : (Cond.code y bytes maxL ret).before args s = true) (hy : y.cls ≠ "java/lang/invoke/MethodHandle" ∧ y.cls ≠ "java/lang/invoke/VarHandle")
    {W9 : Nat} {Pre : Pt → Array Value → Prop} {Post : Pt → Array Value → Option Value → Pt → Prop} {PostX : Pt → Array Value → Addr → Pt → Prop} (hK : vx_Back l R p e below s args y 3 W9 Pre Post PostX)
    {b : Addr} {cellB : Cell} (hcell : T.heap[b]? = some cellB) (hobj : cellB.vm.isStatics = false) (hcls : s.vm.findClass C = some cellB.cls)
    {g : JFrame} (hg : g.method = m) (hsize : g.locals.size = c.maxLocals) {argsL rest : List Value} (hlen : ∀ sig, parseMethodDescriptor y.desc = some sig → argsL.length = sig.parameters.length)
    (hstack : g.stack = argsL.reverse ++ .ref b :: rest) (hW : 2 * g.monitorRoom + (rest.map fun v => v.category).sum ≤ W9) (hdg : decode c.code g.pc = .ok (.invokevirtual index, 3))
    (hpre : ∀ vm₁, s.WarmedH vm₁ → Pre ⟨T.setVm vm₁, locs, cells, slots⟩ (Value.ref b :: argsL).toArray) :
    (∃ (v : Option Value) (vm₁ : Vm) (B : Pt), s.WarmedH vm₁ ∧ Stand p l e R s m args below meth c B.U B.locs B.cells B.slots ∧ Post ⟨T.setVm vm₁, locs, cells, slots⟩ (Value.ref b :: argsL).toArray v B ∧
      ∀ target, Steps p.tables e below (B.U.setTop { g with pc := g.pc + 3, stack := v.toList ++ rest }) target → Steps p.tables e below (T.setTop g) target) ∨
    (∃ (q : Addr) (vm₁ : Vm) (B : Pt), s.WarmedH vm₁ ∧ Stand p l e R s m args below meth c B.U B.locs B.cells B.slots ∧ PostX ⟨T.setVm vm₁, locs, cells, slots⟩ (Value.ref b :: argsL).toArray q B ∧
      Steps p.tables e below (T.setTop g) ((B.U.setTop { g with stack := rest }).pushFrame (.throwing q))) := by
  obtain ⟨mk, methM, hnamed, hmethM, hstM, habM⟩ := Cond.instanceMethod_spec hinst
  obtain ⟨methM', cM, hmethM', -, -, -, -, -, -, hsigM⟩ := Cond.code_spec hnamed hcode
  cases hmethM.symm.trans hmethM'
  obtain ⟨c2, r2, m2, q1, q2, q3, q4, kP, hkP, hkPi⟩ := Cond.selects_spec hsel
  cases hcls.symm.trans q1
  cases (State.methodFound?_of_named hnamed hy).symm.trans q2
  cases hnamed.symm.trans q3
  have hselP : selectMethod e.platform s.vm cellB.cls mk = .method mk := by rw [Launch.admits_selectMethod X.admits]; exact q4
  obtain ⟨vm₁, X₁, hstep₁⟩ := X.invokevirtual hexec hown hlink hnamed hmethM hstM hkP hkPi hy (a := b) (cell := cellB) hcell
    (fun z h => by rw [h] at hobj; cases hobj) hselP hmethM habM hkP hkPi (g := g) hg (argsL := argsL) (rest := rest) (hlen _ hsigM) hstack hdg
  rcases hK m meth c ⟨T.setVm vm₁, locs, cells, slots⟩ { g with stack := rest } (.invokevirtual index) mk (Value.ref b :: argsL).toArray X₁ hg hsize hdg hW (X₁.named hnamed) (hpre vm₁ X₁.warmed) with ⟨v, B, X', hpost, hsteps⟩ | ⟨q, B, X', hpost, hsteps⟩
  · exact Or.inl ⟨v, vm₁, B, X₁.warmed, X', hpost, fun target h => hstep₁ _ fun acts => by rw [doInvoke_state]; exact hsteps.trans h⟩
  · exact Or.inr ⟨q, vm₁, B, X₁.warmed, X', hpost, hstep₁ _ fun acts => by rw [doInvoke_state]; exact hsteps⟩
theorem vx_callS (X : Stand p l e R s m args below meth c T locs cells slots) (hexec : p.tables.exec = Jvm.exec) {own : String} {index : Nat} {y : MethodName} {bytes : ByteArray} {maxL : Nat} {ret : Option FieldType}
    (hown : s.vm.findClass own = some m.cls) (hlink : (Cond.methodLink own index y).before args s = true) (hstat : (Cond.static y).before args s = true) (hinit : (Cond.initialized y.cls).before args s = true)
    (hcode : (Cond.code y bytes maxL ret).before args s = true) (hy : y.cls ≠ "java/lang/invoke/MethodHandle" ∧ y.cls ≠ "java/lang/invoke/VarHandle")
    {W9 : Nat} {Pre : Pt → Array Value → Prop} {Post : Pt → Array Value → Option Value → Pt → Prop} {PostX : Pt → Array Value → Addr → Pt → Prop} (hK : vx_Back l R p e below s args y 3 W9 Pre Post PostX)
    {g : JFrame} (hg : g.method = m) (hsize : g.locals.size = c.maxLocals) {argsL rest : List Value} (hlen : ∀ sig, parseMethodDescriptor y.desc = some sig → argsL.length = sig.parameters.length)
    (hstack : g.stack = argsL.reverse ++ rest) (hW : 2 * g.monitorRoom + (rest.map fun v => v.category).sum ≤ W9) (hdg : decode c.code g.pc = .ok (.invokestatic index, 3))
    (hpre : ∀ vm₁, s.WarmedH vm₁ → Pre ⟨T.setVm vm₁, locs, cells, slots⟩ argsL.toArray) :
    (∃ (v : Option Value) (vm₁ : Vm) (B : Pt), s.WarmedH vm₁ ∧ Stand p l e R s m args below meth c B.U B.locs B.cells B.slots ∧ Post ⟨T.setVm vm₁, locs, cells, slots⟩ argsL.toArray v B ∧
      ∀ target, Steps p.tables e below (B.U.setTop { g with pc := g.pc + 3, stack := v.toList ++ rest }) target → Steps p.tables e below (T.setTop g) target) ∨
    (∃ (q : Addr) (vm₁ : Vm) (B : Pt), s.WarmedH vm₁ ∧ Stand p l e R s m args below meth c B.U B.locs B.cells B.slots ∧ PostX ⟨T.setVm vm₁, locs, cells, slots⟩ argsL.toArray q B ∧
      Steps p.tables e below (T.setTop g) ((B.U.setTop { g with stack := rest }).pushFrame (.throwing q))) := by
  obtain ⟨mk, hnamed⟩ := Cond.code_named hcode
  obtain ⟨methM, cM, hmethM, -, -, -, -, -, -, hsigM⟩ := Cond.code_spec hnamed hcode
  have hstatic : methM.isStatic = true := Cond.static_spec hnamed hmethM hstat
  obtain ⟨kP, hkP, -⟩ := className_of_methodNamed hnamed
  have hinitP : kP.init = .initialized := Cond.initialized_spec (findClass_of_methodNamed hnamed) hkP hinit
  obtain ⟨vm₁, X₁, hstep₁⟩ := X.invokestatic hexec hown hlink hnamed hmethM hstatic hkP hinitP hy (g := g) hg (argsL := argsL) (rest := rest) (hlen _ hsigM) hstack hdg
  rcases hK m meth c ⟨T.setVm vm₁, locs, cells, slots⟩ { g with stack := rest } (.invokestatic index) mk argsL.toArray X₁ hg hsize hdg hW (X₁.named hnamed) (hpre vm₁ X₁.warmed) with ⟨v, B, X', hpost, hsteps⟩ | ⟨q, B, X', hpost, hsteps⟩
  · exact Or.inl ⟨v, vm₁, B, X₁.warmed, X', hpost, fun target h => hstep₁ _ fun acts => by rw [doInvoke_state]; exact hsteps.trans h⟩
  · exact Or.inr ⟨q, vm₁, B, X₁.warmed, X', hpost, hstep₁ _ fun acts => by rw [doInvoke_state]; exact hsteps⟩
end Calls
theorem vx_cls {s : State} {T : State} {vm₁ : Vm} {E : String} {k : ClassId} (hW : s.WarmedH vm₁) (h : (T.setVm vm₁).vm.findClass E = some k) : s.vm.findClass E = some k := by
  have h1 : vm₁.findClass E = some k := h
  rw [hW.alike.findClass] at h1
  exact h1
/-- the method's frame g, with q thrown over it -/
def vx_W (p : Program) (l : Launch) (e : Env) (R : Room) (s : State) (m : MethodId) (args : Array Value) (below : List Frame) (meth : Method) (c : Code) (H : Heap) (locs : List Loc) (cells slots : Nat) (Q : State → Prop) (g : JFrame) (q : Addr) : Prop :=
  ∀ T : State, T.heap = H → Stand p l e R s m args below meth c T locs cells slots → ∃ t, Steps p.tables e below ((T.setTop g).pushFrame (.throwing q)) t ∧ Q t
def vx_Run (p : Program) (l : Launch) (e : Env) (R : Room) (s : State) (m : MethodId) (args : Array Value) (below : List Frame) (meth : Method) (c : Code) (H : Heap) (locs : List Loc) (cells slots mc ms : Nat) (g : JFrame) (rest : List Value) (Qa : State → Outcome → State → Prop) (XC : String → State → State → Prop) (free : Addr → Prop) : Prop :=
  ∀ T : State, T.heap = H → Stand p l e R s m args below meth c T locs cells slots →
    (∃ (v : Option Value) (st₀ t T' : State) (L : List Loc), st₀.heap = H ∧ Stand p l e R s m args below meth c T' (locs ++ L) (cells + mc) (slots + ms) ∧ (∀ q ∈ L, free q.base) ∧ T'.heap = t.heap ∧ T'.vm = t.vm ∧ Qa st₀ (.returned v) t ∧
      Goes p e below T g T' { g with pc := g.pc + 3, stack := v.toList ++ rest }) ∨
    (∃ (q : Addr) (st₀ t T' : State) (L : List Loc) (E : String) (ce : Cell), st₀.heap = H ∧ Stand p l e R s m args below meth c T' (locs ++ L) (cells + mc) (slots + ms) ∧ (∀ z ∈ L, free z.base) ∧ T'.heap = t.heap ∧ T'.vm = t.vm ∧ XC E st₀ t ∧ t.heap[q]? = some ce ∧ ce.vm = .none ∧ s.vm.findClass E = some ce.cls ∧
      Steps p.tables e below (T.setTop g) ((T'.setTop { g with stack := rest }).pushFrame (.throwing q)))
def vx_X {S : Type} (px : S → Prop) (B : String → S → State → Prop) (A : Nat → Prop) : String → State → State → Prop := fun E st t => ∃ u : S, px u ∧ B E u t ∧ va_F A st t
section Runs
variable {p : Program} {l : Launch} {e : Env} {R : Room} {s : State} {m : MethodId} {args : Array Value} {below : List Frame} {meth : Method} {c : Code} {H : Heap} {locs : List Loc} {cells slots : Nat}
variable {y : MethodName} {bytes cc : ByteArray} {maxL nL mc ms n index : Nat} {ret : Option FieldType} {ws : List Cond} {rm : Room} {Pc : Array Value → State → Prop} {Qc : Array Value → State → Outcome → State → Prop} {XC : String → State → State → Prop} {free : Addr → Prop} {Ts : List Cond} {own C : String} {b : Addr} {As rest : List Value} {g : JFrame}
theorem vx_callBack (cb : CallB R s args own index y bytes maxL ret ws rm mc ms n) (hM : vx_Met l y ws rm Pc Qc XC mc ms free) (hbl : FrameBlind Pc) : vx_Back l R p e below s args y 3 8 (PreOf R mc ms Pc) (PostOf Qc mc ms free) (vx_Post XC mc ms free) := by
  obtain ⟨hrc, hrs, hfr, hlo, hws, hcw, -, hini, -⟩ := cb
  exact vx_back (bytes := bytes) (maxL := maxL) (ret := ret) hM hbl hrc hrs hfr hlo hws hcw (fun a' U hW => word_at hW (Or.inl (by first | rfl | simp [Cond.onTables, Cond.keeps, Cond.steady])) hini)
theorem vx_runV (S : CallFix p m c cc nL s args Ts own) (hM : vx_Met l y ws rm Pc Qc XC mc ms free) (cw : CallW R s args own C index y bytes maxL ret ws rm mc ms n) (hp : PreV s H C b Pc As)
    (hg : g.method = m) (hn : As.length = n) (hsize : g.locals.size = nL) (hstack : g.stack = As.reverse ++ .ref b :: rest) (hW : 2 * g.monitorRoom + (rest.map fun v => v.category).sum ≤ 8) (hdg : decode cc g.pc = .ok (.invokevirtual index, 3)) (hf : cells + mc ≤ R.cells ∧ slots + ms ≤ R.slots) :
    vx_Run p l e R s m args below meth c H locs cells slots mc ms g rest (Qc (Value.ref b :: As).toArray) XC free := by
  have hK : vx_Back l R p e below s args y 3 8 (PreOf R mc ms Pc) (PostOf Qc mc ms free) (vx_Post XC mc ms free) := vx_callBack cw.1 hM hp.1
  obtain ⟨⟨-, -, -, -, -, -, hcode, -, hy, hlen, hl⟩, hin, hse⟩ := cw
  obtain ⟨hx, hb, hml, ho, -⟩ := S
  obtain ⟨-, ⟨cellB, hcB, hoB, hclB⟩, hPc⟩ := hp
  intro T hT X
  rcases vx_callV X hx (C := C) (bytes := bytes) (maxL := maxL) (ret := ret) ho hl hin hse hcode hy hK (by rw [hT]; exact hcB) hoB hclB hg (hsize.trans hml.symm) (argsL := As) (rest := rest) (fun sig h => hn.trans (hlen sig h)) hstack hW (by rw [hb]; exact hdg)
    (fun vm₁ hW₁ => ⟨hf.1, hf.2, hPc (T.setVm vm₁) hT hW₁⟩) with ⟨v, vm₁, ⟨U', l2, c2, s2⟩, hW₁, X', ⟨g', mk, t, L, e1, e2, hq, h1, hL, h2, h3⟩, st⟩ | ⟨q, vm₁, ⟨U', l2, c2, s2⟩, hW₁, X', ⟨g', mk, t, L, E, ce, e1, e2, hq, hce, hcv, hcl, h1, hL, h2, h3⟩, st⟩
  · dsimp only [Pt.U, Pt.locs, Pt.cells, Pt.slots] at X' e1 e2 h1 h2 h3 st
    subst h1; subst h2; subst h3
    exact Or.inl ⟨v, (T.setVm vm₁).calling g' mk (Value.ref b :: As).toArray, t, U', L, hT, X', hL, e1, e2, hq, st⟩
  · dsimp only [Pt.U, Pt.locs, Pt.cells, Pt.slots] at X' e1 e2 h1 h2 h3 st hcl
    subst h1; subst h2; subst h3
    exact Or.inr ⟨q, (T.setVm vm₁).calling g' mk (Value.ref b :: As).toArray, t, U', L, E, ce, hT, X', hL, e1, e2, hq, hce, hcv, vx_cls hW₁ hcl, st⟩
theorem vx_runS (S : CallFix p m c cc nL s args Ts own) (hM : vx_Met l y ws rm Pc Qc XC mc ms free) (cw : CallB R s args own index y bytes maxL ret ws rm mc ms n ∧ (Cond.static y).before args s = true) (hp : PreS s H Pc As)
    (hg : g.method = m) (hn : As.length = n) (hsize : g.locals.size = nL) (hstack : g.stack = As.reverse ++ rest) (hW : 2 * g.monitorRoom + (rest.map fun v => v.category).sum ≤ 8) (hdg : decode cc g.pc = .ok (.invokestatic index, 3)) (hf : cells + mc ≤ R.cells ∧ slots + ms ≤ R.slots) :
    vx_Run p l e R s m args below meth c H locs cells slots mc ms g rest (Qc As.toArray) XC free := by
  have hK : vx_Back l R p e below s args y 3 8 (PreOf R mc ms Pc) (PostOf Qc mc ms free) (vx_Post XC mc ms free) := vx_callBack cw.1 hM hp.1
  obtain ⟨⟨-, -, -, -, -, -, hcode, hini, hy, hlen, hl⟩, hstt⟩ := cw
  obtain ⟨hx, hb, hml, ho, -⟩ := S
  intro T hT X
  rcases vx_callS X hx (bytes := bytes) (maxL := maxL) (ret := ret) ho hl hstt hini hcode hy hK hg (hsize.trans hml.symm) (argsL := As) (rest := rest) (fun sig h => hn.trans (hlen sig h)) hstack hW (by rw [hb]; exact hdg)
    (fun vm₁ hW₁ => ⟨hf.1, hf.2, hp.2 (T.setVm vm₁) hT hW₁⟩) with ⟨v, vm₁, ⟨U', l2, c2, s2⟩, hW₁, X', ⟨g', mk, t, L, e1, e2, hq, h1, hL, h2, h3⟩, st⟩ | ⟨q, vm₁, ⟨U', l2, c2, s2⟩, hW₁, X', ⟨g', mk, t, L, E, ce, e1, e2, hq, hce, hcv, hcl, h1, hL, h2, h3⟩, st⟩
  · dsimp only [Pt.U, Pt.locs, Pt.cells, Pt.slots] at X' e1 e2 h1 h2 h3 st
    subst h1; subst h2; subst h3
    exact Or.inl ⟨v, (T.setVm vm₁).calling g' mk As.toArray, t, U', L, hT, X', hL, e1, e2, hq, st⟩
  · dsimp only [Pt.U, Pt.locs, Pt.cells, Pt.slots] at X' e1 e2 h1 h2 h3 st hcl
    subst h1; subst h2; subst h3
    exact Or.inr ⟨q, (T.setVm vm₁).calling g' mk As.toArray, t, U', L, E, ce, hT, X', hL, e1, e2, hq, hce, hcv, vx_cls hW₁ hcl, st⟩
end Runs
section Rows
variable {p : Program} {l : Launch} {e : Env} {R : Room} {s : State} {m : MethodId} {args : Array Value} {below : List Frame} {meth : Method} {c : Code} {H : Heap} {locs : List Loc} {cells slots : Nat} {Q : State → Prop}
variable {mc ms : Nat} {free : Addr → Prop} {A0 A1 : Nat → Prop} {H0 : Heap} {a : Array Value} {pc : Nat} {ls : Array Slot} {st0 rest : List Value}
theorem vx_keep {st₀ t T' : State} {L : List Loc} (h0 : st₀.heap = H) (e1 : T'.heap = t.heap) (hS : va_S A0 H0 H locs) (hA : ∀ q, q < H.size → A1 q → A0 q) (hf : ∀ q, free q → A0 q) (hL : ∀ q ∈ L, free q.base) (hF : va_F A1 st₀ t) :
    H.size ≤ T'.heap.size ∧ (∀ q : Nat, q < H.size → ¬ A1 q → T'.heap[q]? = H[q]?) ∧ va_S A0 H0 T'.heap (locs ++ L) := by
  obtain ⟨hz, hk⟩ := hF
  rw [h0] at hz hk
  exact ⟨by rw [e1]; exact hz, fun q h1 h2 => by rw [e1]; exact hk q h1 h2,
    ⟨Nat.le_trans hS.1 (by rw [e1]; exact hz), fun q h1 h2 => by rw [e1, hk q (Nat.lt_of_lt_of_le h1 hS.1) (fun z => h2 (hA q (Nat.lt_of_lt_of_le h1 hS.1) z))]; exact hS.2.1 q h1 h2, fun q hq => by
      rcases List.mem_append.mp hq with h | h
      · exact hS.2.2 q h
      · exact hf _ (hL q h)⟩⟩
theorem vx_calli {S SX : Type} {post : Int32 → S → Prop} {px : SX → Prop} {B : S → State → Prop} {BX : String → SX → State → Prop} {AX : Nat → Prop} (hr : vx_Run p l e R s m args below meth c H locs cells slots mc ms (F0 m pc ls st0) rest (va_Qi post B A1 a) (vx_X px BX AX) free) (hS : va_S A0 H0 H locs) (hA : ∀ q, q < H.size → A1 q → A0 q) (hf : ∀ q, free q → A0 q) (hAX : ∀ q, q < H.size → AX q → A0 q)
    (kx : ∀ (E : String) (ce : Cell) (q9 : Addr) (u : SX) (t : State) (H1 : Heap) (locs1 : List Loc), t.heap = H1 → s.vm.Alike t.vm → px u → BX E u t → H.size ≤ H1.size → (∀ q : Nat, q < H.size → ¬ AX q → H1[q]? = H[q]?) → va_S A0 H0 H1 locs1 → H1[q9]? = some ce → ce.vm = .none → s.vm.findClass E = some ce.cls → vx_W p l e R s m args below meth c H1 locs1 (cells + mc) (slots + ms) Q (F0 m pc ls rest) q9)
    (kk : ∀ (r : Int32) (u : S) (t : State) (H1 : Heap) (locs1 : List Loc), t.heap = H1 → s.vm.Alike t.vm → post r u → B u t → H.size ≤ H1.size → (∀ q : Nat, q < H.size → ¬ A1 q → H1[q]? = H[q]?) → va_S A0 H0 H1 locs1 → W p l e R s m args below meth c H1 locs1 (cells + mc) (slots + ms) Q (F0 m (pc + 3) ls (.int r :: rest))) : W p l e R s m args below meth c H locs cells slots Q (F0 m pc ls st0) := by
  intro T hT X
  rcases hr T hT X with ⟨v, st₀, t, T', L, h0, X', hL, e1, e2, ⟨⟨r, u, hv, hp, hb⟩, hF⟩, st⟩ | ⟨q, st₀, t, T', L, E, ce, h0, X', hL, e1, e2, ⟨u, hp, hb, hF⟩, hce, hcv, hcl, st⟩
  · cases hv
    obtain ⟨k1, k2, k3⟩ := vx_keep h0 e1 hS hA hf hL hF
    obtain ⟨t2, a1, b1⟩ := kk r u t T'.heap (locs ++ L) e1.symm (by rw [← e2]; exact X'.warmed.alike) hp hb k1 k2 k3 T' rfl X'
    exact ⟨t2, st t2 a1, b1⟩
  · obtain ⟨k1, k2, k3⟩ := vx_keep h0 e1 hS hAX hf hL hF
    obtain ⟨t2, a1, b1⟩ := kx E ce q u t T'.heap (locs ++ L) e1.symm (by rw [← e2]; exact X'.warmed.alike) hp hb k1 k2 k3 (by rw [e1]; exact hce) hcv hcl T' rfl X'
    exact ⟨t2, st.trans a1, b1⟩
theorem vx_calll {S SX : Type} {post : Int64 → S → Prop} {px : SX → Prop} {B : S → State → Prop} {BX : String → SX → State → Prop} {AX : Nat → Prop} (hr : vx_Run p l e R s m args below meth c H locs cells slots mc ms (F0 m pc ls st0) rest (va_Ql post B A1 a) (vx_X px BX AX) free) (hS : va_S A0 H0 H locs) (hA : ∀ q, q < H.size → A1 q → A0 q) (hf : ∀ q, free q → A0 q) (hAX : ∀ q, q < H.size → AX q → A0 q)
    (kx : ∀ (E : String) (ce : Cell) (q9 : Addr) (u : SX) (t : State) (H1 : Heap) (locs1 : List Loc), t.heap = H1 → s.vm.Alike t.vm → px u → BX E u t → H.size ≤ H1.size → (∀ q : Nat, q < H.size → ¬ AX q → H1[q]? = H[q]?) → va_S A0 H0 H1 locs1 → H1[q9]? = some ce → ce.vm = .none → s.vm.findClass E = some ce.cls → vx_W p l e R s m args below meth c H1 locs1 (cells + mc) (slots + ms) Q (F0 m pc ls rest) q9)
    (kk : ∀ (r : Int64) (u : S) (t : State) (H1 : Heap) (locs1 : List Loc), t.heap = H1 → s.vm.Alike t.vm → post r u → B u t → H.size ≤ H1.size → (∀ q : Nat, q < H.size → ¬ A1 q → H1[q]? = H[q]?) → va_S A0 H0 H1 locs1 → W p l e R s m args below meth c H1 locs1 (cells + mc) (slots + ms) Q (F0 m (pc + 3) ls (.long r :: rest))) : W p l e R s m args below meth c H locs cells slots Q (F0 m pc ls st0) := by
  intro T hT X
  rcases hr T hT X with ⟨v, st₀, t, T', L, h0, X', hL, e1, e2, ⟨⟨r, u, hv, hp, hb⟩, hF⟩, st⟩ | ⟨q, st₀, t, T', L, E, ce, h0, X', hL, e1, e2, ⟨u, hp, hb, hF⟩, hce, hcv, hcl, st⟩
  · cases hv
    obtain ⟨k1, k2, k3⟩ := vx_keep h0 e1 hS hA hf hL hF
    obtain ⟨t2, a1, b1⟩ := kk r u t T'.heap (locs ++ L) e1.symm (by rw [← e2]; exact X'.warmed.alike) hp hb k1 k2 k3 T' rfl X'
    exact ⟨t2, st t2 a1, b1⟩
  · obtain ⟨k1, k2, k3⟩ := vx_keep h0 e1 hS hAX hf hL hF
    obtain ⟨t2, a1, b1⟩ := kx E ce q u t T'.heap (locs ++ L) e1.symm (by rw [← e2]; exact X'.warmed.alike) hp hb k1 k2 k3 (by rw [e1]; exact hce) hcv hcl T' rfl X'
    exact ⟨t2, st.trans a1, b1⟩
theorem vx_callf {S SX : Type} {post : UInt32 → S → Prop} {px : SX → Prop} {B : S → State → Prop} {BX : String → SX → State → Prop} {AX : Nat → Prop} (hr : vx_Run p l e R s m args below meth c H locs cells slots mc ms (F0 m pc ls st0) rest (va_Qf post B A1 a) (vx_X px BX AX) free) (hS : va_S A0 H0 H locs) (hA : ∀ q, q < H.size → A1 q → A0 q) (hf : ∀ q, free q → A0 q) (hAX : ∀ q, q < H.size → AX q → A0 q)
    (kx : ∀ (E : String) (ce : Cell) (q9 : Addr) (u : SX) (t : State) (H1 : Heap) (locs1 : List Loc), t.heap = H1 → s.vm.Alike t.vm → px u → BX E u t → H.size ≤ H1.size → (∀ q : Nat, q < H.size → ¬ AX q → H1[q]? = H[q]?) → va_S A0 H0 H1 locs1 → H1[q9]? = some ce → ce.vm = .none → s.vm.findClass E = some ce.cls → vx_W p l e R s m args below meth c H1 locs1 (cells + mc) (slots + ms) Q (F0 m pc ls rest) q9)
    (kk : ∀ (r : UInt32) (u : S) (t : State) (H1 : Heap) (locs1 : List Loc), t.heap = H1 → s.vm.Alike t.vm → post r u → B u t → H.size ≤ H1.size → (∀ q : Nat, q < H.size → ¬ A1 q → H1[q]? = H[q]?) → va_S A0 H0 H1 locs1 → W p l e R s m args below meth c H1 locs1 (cells + mc) (slots + ms) Q (F0 m (pc + 3) ls (.float r :: rest))) : W p l e R s m args below meth c H locs cells slots Q (F0 m pc ls st0) := by
  intro T hT X
  rcases hr T hT X with ⟨v, st₀, t, T', L, h0, X', hL, e1, e2, ⟨⟨r, u, hv, hp, hb⟩, hF⟩, st⟩ | ⟨q, st₀, t, T', L, E, ce, h0, X', hL, e1, e2, ⟨u, hp, hb, hF⟩, hce, hcv, hcl, st⟩
  · cases hv
    obtain ⟨k1, k2, k3⟩ := vx_keep h0 e1 hS hA hf hL hF
    obtain ⟨t2, a1, b1⟩ := kk r u t T'.heap (locs ++ L) e1.symm (by rw [← e2]; exact X'.warmed.alike) hp hb k1 k2 k3 T' rfl X'
    exact ⟨t2, st t2 a1, b1⟩
  · obtain ⟨k1, k2, k3⟩ := vx_keep h0 e1 hS hAX hf hL hF
    obtain ⟨t2, a1, b1⟩ := kx E ce q u t T'.heap (locs ++ L) e1.symm (by rw [← e2]; exact X'.warmed.alike) hp hb k1 k2 k3 (by rw [e1]; exact hce) hcv hcl T' rfl X'
    exact ⟨t2, st.trans a1, b1⟩
theorem vx_calld {S SX : Type} {post : UInt64 → S → Prop} {px : SX → Prop} {B : S → State → Prop} {BX : String → SX → State → Prop} {AX : Nat → Prop} (hr : vx_Run p l e R s m args below meth c H locs cells slots mc ms (F0 m pc ls st0) rest (va_Qd post B A1 a) (vx_X px BX AX) free) (hS : va_S A0 H0 H locs) (hA : ∀ q, q < H.size → A1 q → A0 q) (hf : ∀ q, free q → A0 q) (hAX : ∀ q, q < H.size → AX q → A0 q)
    (kx : ∀ (E : String) (ce : Cell) (q9 : Addr) (u : SX) (t : State) (H1 : Heap) (locs1 : List Loc), t.heap = H1 → s.vm.Alike t.vm → px u → BX E u t → H.size ≤ H1.size → (∀ q : Nat, q < H.size → ¬ AX q → H1[q]? = H[q]?) → va_S A0 H0 H1 locs1 → H1[q9]? = some ce → ce.vm = .none → s.vm.findClass E = some ce.cls → vx_W p l e R s m args below meth c H1 locs1 (cells + mc) (slots + ms) Q (F0 m pc ls rest) q9)
    (kk : ∀ (r : UInt64) (u : S) (t : State) (H1 : Heap) (locs1 : List Loc), t.heap = H1 → s.vm.Alike t.vm → post r u → B u t → H.size ≤ H1.size → (∀ q : Nat, q < H.size → ¬ A1 q → H1[q]? = H[q]?) → va_S A0 H0 H1 locs1 → W p l e R s m args below meth c H1 locs1 (cells + mc) (slots + ms) Q (F0 m (pc + 3) ls (.double r :: rest))) : W p l e R s m args below meth c H locs cells slots Q (F0 m pc ls st0) := by
  intro T hT X
  rcases hr T hT X with ⟨v, st₀, t, T', L, h0, X', hL, e1, e2, ⟨⟨r, u, hv, hp, hb⟩, hF⟩, st⟩ | ⟨q, st₀, t, T', L, E, ce, h0, X', hL, e1, e2, ⟨u, hp, hb, hF⟩, hce, hcv, hcl, st⟩
  · cases hv
    obtain ⟨k1, k2, k3⟩ := vx_keep h0 e1 hS hA hf hL hF
    obtain ⟨t2, a1, b1⟩ := kk r u t T'.heap (locs ++ L) e1.symm (by rw [← e2]; exact X'.warmed.alike) hp hb k1 k2 k3 T' rfl X'
    exact ⟨t2, st t2 a1, b1⟩
  · obtain ⟨k1, k2, k3⟩ := vx_keep h0 e1 hS hAX hf hL hF
    obtain ⟨t2, a1, b1⟩ := kx E ce q u t T'.heap (locs ++ L) e1.symm (by rw [← e2]; exact X'.warmed.alike) hp hb k1 k2 k3 (by rw [e1]; exact hce) hcv hcl T' rfl X'
    exact ⟨t2, st.trans a1, b1⟩
theorem vx_callv {S SX : Type} {post : S → Prop} {px : SX → Prop} {B : S → State → Prop} {BX : String → SX → State → Prop} {AX : Nat → Prop} (hr : vx_Run p l e R s m args below meth c H locs cells slots mc ms (F0 m pc ls st0) rest (va_Qv post B A1 a) (vx_X px BX AX) free) (hS : va_S A0 H0 H locs) (hA : ∀ q, q < H.size → A1 q → A0 q) (hf : ∀ q, free q → A0 q) (hAX : ∀ q, q < H.size → AX q → A0 q)
    (kx : ∀ (E : String) (ce : Cell) (q9 : Addr) (u : SX) (t : State) (H1 : Heap) (locs1 : List Loc), t.heap = H1 → s.vm.Alike t.vm → px u → BX E u t → H.size ≤ H1.size → (∀ q : Nat, q < H.size → ¬ AX q → H1[q]? = H[q]?) → va_S A0 H0 H1 locs1 → H1[q9]? = some ce → ce.vm = .none → s.vm.findClass E = some ce.cls → vx_W p l e R s m args below meth c H1 locs1 (cells + mc) (slots + ms) Q (F0 m pc ls rest) q9)
    (kk : ∀ (u : S) (t : State) (H1 : Heap) (locs1 : List Loc), t.heap = H1 → s.vm.Alike t.vm → post u → B u t → H.size ≤ H1.size → (∀ q : Nat, q < H.size → ¬ A1 q → H1[q]? = H[q]?) → va_S A0 H0 H1 locs1 → W p l e R s m args below meth c H1 locs1 (cells + mc) (slots + ms) Q (F0 m (pc + 3) ls (rest))) : W p l e R s m args below meth c H locs cells slots Q (F0 m pc ls st0) := by
  intro T hT X
  rcases hr T hT X with ⟨v, st₀, t, T', L, h0, X', hL, e1, e2, ⟨⟨u, hv, hp, hb⟩, hF⟩, st⟩ | ⟨q, st₀, t, T', L, E, ce, h0, X', hL, e1, e2, ⟨u, hp, hb, hF⟩, hce, hcv, hcl, st⟩
  · cases hv
    obtain ⟨k1, k2, k3⟩ := vx_keep h0 e1 hS hA hf hL hF
    obtain ⟨t2, a1, b1⟩ := kk u t T'.heap (locs ++ L) e1.symm (by rw [← e2]; exact X'.warmed.alike) hp hb k1 k2 k3 T' rfl X'
    exact ⟨t2, st t2 a1, b1⟩
  · obtain ⟨k1, k2, k3⟩ := vx_keep h0 e1 hS hAX hf hL hF
    obtain ⟨t2, a1, b1⟩ := kx E ce q u t T'.heap (locs ++ L) e1.symm (by rw [← e2]; exact X'.warmed.alike) hp hb k1 k2 k3 (by rw [e1]; exact hce) hcv hcl T' rfl X'
    exact ⟨t2, st.trans a1, b1⟩
/-- caught by the row x of this method's table; the rows ahead don't take it -/
theorem vx_catch {own name : String} {E : String} {ce : Cell} {q : Addr} (hown : s.vm.findClass own = some m.cls) (pre : List ExceptionTableEntry) (x : ExceptionTableEntry) (suf : List ExceptionTableEntry) (hsplit : c.exceptionTable.toList = pre ++ x :: suf)
    (hpass : ∀ z ∈ pre, covers z pc = false ∨ (z.catchType ≠ 0 ∧ ∃ nm : String, (Cond.classLink own z.catchType nm).before args s = true ∧ va_Nc E nm s)) (hx : covers x pc = true) (h0 : x.catchType ≠ 0)
    (hlink : (Cond.classLink own x.catchType name).before args s = true) (hcast : (Cond.castable E name).before args s = true) (hcell : H[q]? = some ce) (hv : ce.vm = .none) (hcl : s.vm.findClass E = some ce.cls)
    (kk : W p l e R s m args below meth c H locs cells slots Q (F0 m x.handlerPc ls [.ref q])) : vx_W p l e R s m args below meth c H locs cells slots Q (F0 m pc ls rest) q := by
  intro T hT X
  have hpl : e.platform.magicAccessors = ({} : Platform).magicAccessors := by rw [X.admits.platform]
  obtain ⟨c3, c4, hc3, hc4, hasg⟩ := Cond.castable_spec hcast
  cases Option.some.inj (hc3.symm.trans hcl)
  obtain ⟨c5, hc5, hcl5⟩ := Cond.classLink_spec hown hlink e.platform hpl
  cases Option.some.inj (hc4.symm.trans hc5)
  obtain ⟨vm', X', st⟩ := X.thenCaughtThrough q (g := F0 m pc ls rest) rfl (Steps.refl _) (by rw [hT]; exact hcell) (by rw [hv]; rfl) (by obtain ⟨k9, h9, -⟩ := Vm.findClass_spec hcl; exact ⟨k9, h9⟩) pre x suf hsplit
    (fun z hz => by
      rcases hpass z hz with h | ⟨hz0, nm, hl1, hn1⟩
      · exact Or.inl h
      · obtain ⟨c6, hc6, hcl6⟩ := Cond.classLink_spec hown hl1 e.platform hpl
        obtain ⟨a8, b8, h1, h2, h3⟩ := hn1
        cases Option.some.inj (h1.symm.trans hcl)
        cases Option.some.inj (h2.symm.trans hc6)
        exact Or.inr ⟨hz0, _, hcl6, h3⟩) hx (Or.inr ⟨h0, c4, hcl5, hasg⟩)
  obtain ⟨t, a1, b1⟩ := kk (T.setVm vm') hT X'
  exact ⟨t, st.trans a1, b1⟩
end Rows
section Ends
variable {p : Program} {l : Launch} {e : Env} {R : Room} {s : State} {m : MethodId} {args : Array Value} {below : List Frame} {meth : Method} {c : Code} {H : Heap} {locs : List Loc} {cells slots : Nat} {Q : State → Prop}
variable {mc ms : Nat} {free : Addr → Prop} {A0 A1 : Nat → Prop} {H0 : Heap} {a : Array Value} {ls : Array Slot} {st0 rest : List Value}
variable {Qc : Array Value → State → Outcome → State → Prop} {XC : String → State → State → Prop}
/-- what a body that may throw owes at its end -/
def vx_MQ (below : List Frame) (Qc : Array Value → State → Outcome → State → Prop) (XC : String → State → State → Prop) (a : Array Value) (s : State) (mc ms : Nat) (free : Addr → Prop) : State → Prop := fun t =>
  ∃ o, t.status = .running ∧ Ended t below o ∧ vx_Q Qc XC mc ms free a s o t
theorem vx_ret {g : JFrame} {mc ms : Nat} (k : W p l e R s m args below meth c H locs cells slots (MQ below Qc args s mc ms free) g) : W p l e R s m args below meth c H locs cells slots (vx_MQ below Qc XC args s mc ms free) g := by
  intro T hT X
  obtain ⟨t, a1, o, b1, b2, b3, b4⟩ := k T hT X
  exact ⟨t, a1, o, b1, b2, Or.inl ⟨b3, b4⟩⟩
/-- not caught here: it goes on to the caller -/
theorem vx_widen {g : JFrame} {q : Addr} {k n : Nat} (h1 : cells ≤ k) (h2 : slots ≤ n) (kk : vx_W p l e R s m args below meth c H locs k n Q g q) : vx_W p l e R s m args below meth c H locs cells slots Q g q := fun T hT X => kk T hT (stand_widen X h1 h2)
theorem vx_out {pc : Nat} {E : String} {ce : Cell} {q : Addr} {mc ms : Nat} (hout : ∀ x ∈ c.exceptionTable.toList, covers x pc = false) (hlocks : meth.locks = false) (hcell : H[q]? = some ce) (hv : ce.vm = .none) (hcl : s.vm.findClass E = some ce.cls)
    (hx : ∀ t : State, t.heap = H → s.vm.Alike t.vm → XC E s t) (hf : ∀ z ∈ locs, free z.base) (hc : cells ≤ mc) (hs : slots ≤ ms) :
    vx_W p l e R s m args below meth c H locs cells slots (vx_MQ below Qc XC args s mc ms free) (F0 m pc ls rest) q := by
  intro T hT X
  obtain ⟨st1, hrun, hend, hW, hsm⟩ := X.leaveThrown q (g := F0 m pc ls rest) rfl rfl rfl hout hlocks
  have hcell9 : (T.setFrames (.throwing q :: below)).heap[q]? = some ce := by
    show T.heap[q]? = some ce
    rw [hT]; exact hcell
  exact ⟨_, st1, .threw q, hrun, hend, Or.inr ⟨q, rfl, E, ce, locs, hx _ hT hW.alike, hcell9, hv, hcl, hW, hsm.mono hc hs, hf⟩⟩
theorem vx_frame {U : State} {k n : Nat} (h : s.sameButNew ({ U with vm := s.vm } : State) locs k n) : s.heap.size ≤ U.heap.size ∧ ∀ q : Nat, q < s.heap.size → (∀ z ∈ locs, z.base ≠ q) → U.heap[q]? = s.heap[q]? := by
  obtain ⟨-, h2, -, -, -, h6⟩ := h
  refine ⟨h2, fun q hq hz => ?_⟩
  obtain ⟨c9, e1, e2, e3, e4⟩ := h6 q _ (Array.getElem?_eq_getElem hq)
  have hs : c9.slots = (s.heap[q]).slots := Array.ext_getElem? fun i => e4 i fun hm => hz _ hm rfl
  have h9 : c9 = s.heap[q] := by
    rw [hs] at e2
    exact e2
  have e5 : U.heap[q]? = some c9 := e1
  rw [e5, h9, Array.getElem?_eq_getElem hq]
/-- the words of a throw but the four that speak of the heap -/
def vx_no (w : Cond) : Bool := decide (w ≠ .isRef (.static Bundle.tN "UNASSIGNED_STACK" Bundle.steD)) && decide (w ≠ .isRef (.static Bundle.tN "SUPPRESSED_SENTINEL" Bundle.listD)) && decide (w ≠ .laysStatic Bundle.tN "UNASSIGNED_STACK" Bundle.steD) && decide (w ≠ .laysStatic Bundle.tN "SUPPRESSED_SENTINEL" Bundle.listD)
def vx_at0 (own : String) (ic : Nat) (X : String) (names : List String) : List Cond := (Bundle.ownAtoms0 own ic X names).filter vx_no
def vx_atS (own : String) (ic : Nat) (X : String) (names : List String) : List Cond := (Bundle.ownAtoms own ic X names).filter vx_no
/-- a word that the tables alone decide, or a good one -/
def vx_ot (w : Cond) : Bool := w.onTables || goodWord w
theorem vx_ot_at {args a' : Array Value} {s U : State} {w : Cond} (hW : s.WarmedH U.vm) (hvm : s.vm = U.vm) (hg : vx_ot w = true) (h : w.before args s = true) : w.before a' U = true := by
  simp only [vx_ot, Bool.or_eq_true] at hg
  rcases hg with hg | hg
  · exact va_tabs hg hvm h
  · exact word_at hW (good_of_word hg) h
/-- a list's words: the good ones out of the method's own list, the others by premises of their own -/
theorem vx_hat {args : Array Value} {s : State} {L B : List Cond} (h1 : ∀ w ∈ L.filter goodWord, w.before args s = true) (h2 : ∀ w ∈ L.filter (fun w => !goodWord w), w ∈ B) (h3 : ∀ w ∈ B, w.before args s = true) : ∀ w ∈ L, w.before args s = true := by
  intro w hw
  by_cases g : goodWord w = true
  · exact h1 w (List.mem_filter.mpr ⟨hw, g⟩)
  · refine h3 w (h2 w (List.mem_filter.mpr ⟨hw, ?_⟩))
    show (!goodWord w) = true
    cases hgw : goodWord w
    · rfl
    · exact absurd hgw g
theorem vx_c {args : Array Value} {s : State} {w : Cond} {B : List Cond} (h : w.before args s = true) (t : ∀ w ∈ B, w.before args s = true) : ∀ w' ∈ w :: B, w'.before args s = true := fun w' h' => (List.mem_cons.mp h').elim (fun e => by rw [e]; exact h) (t w')
theorem vx_n {args : Array Value} {s : State} : ∀ w ∈ ([] : List Cond), w.before args s = true := fun _ h => nomatch h
theorem vx_own {args : Array Value} {s : State} {L : List Cond} (h1 : ∀ w ∈ L.filter vx_no, w.before args s = true)
    (hU : (Cond.isRef (.static Bundle.tN "UNASSIGNED_STACK" Bundle.steD)).before args s = true) (hN : (Cond.isRef (.static Bundle.tN "SUPPRESSED_SENTINEL" Bundle.listD)).before args s = true)
    (lU : (Cond.laysStatic Bundle.tN "UNASSIGNED_STACK" Bundle.steD).before args s = true) (lN : (Cond.laysStatic Bundle.tN "SUPPRESSED_SENTINEL" Bundle.listD).before args s = true) : ∀ w ∈ L, w.before args s = true := by
  intro w hw
  by_cases e1 : w = .isRef (.static Bundle.tN "UNASSIGNED_STACK" Bundle.steD)
  · rw [e1]; exact hU
  · by_cases e2 : w = .isRef (.static Bundle.tN "SUPPRESSED_SENTINEL" Bundle.listD)
    · rw [e2]; exact hN
    · by_cases e3 : w = .laysStatic Bundle.tN "UNASSIGNED_STACK" Bundle.steD
      · rw [e3]; exact lU
      · by_cases e4 : w = .laysStatic Bundle.tN "SUPPRESSED_SENTINEL" Bundle.listD
        · rw [e4]; exact lN
        · exact h1 w (List.mem_filter.mpr ⟨hw, by unfold vx_no; rw [decide_eq_true e1, decide_eq_true e2, decide_eq_true e3, decide_eq_true e4]; rfl⟩)
/-- where a static field lies, its class's statics cell in H -/
def vx_L (C n d : String) (A : Nat → Prop) (U : State) (H : Heap) : Prop := ∃ (c : ClassId) (k : Class) (i : Nat) (f : Field) (a : Nat) (cell : Cell), U.vm.findClass C = some c ∧ U.fieldFound? C n d = some (c, k, i, f) ∧ f.isStatic = true ∧ k.statics = some a ∧ H[a]? = some cell ∧ cell.vm.isStatics = true ∧ cell.cls = c ∧ f.slot < cell.slots.size ∧ k.staticTypes[f.slot]? = some f.type ∧ ¬ A a
theorem vx_L.moved {C n d : String} {A : Nat → Prop} {u U : State} {H : Heap} (hvm : u.vm.Alike U.vm) (h : vx_L C n d A u H) : vx_L C n d A U H := by
  obtain ⟨c, k, i, f, a, cell, h1, h2, h3, h4, h5, h6, h7, h8, h9, h10⟩ := h
  obtain ⟨k', hi', he⟩ := State.fieldFound?_setVm hvm h2
  exact ⟨c, k', i, f, a, cell, by rw [hvm.findClass]; exact h1, hi', h3, by rw [he]; exact h4, h5, h6, h7, h8, by rw [he]; exact h9, h10⟩
theorem vx_L.kept {C n d : String} {A : Nat → Prop} {U : State} {H H1 : Heap} (h : vx_L C n d A U H) (hq : ∀ a : Nat, a < H.size → ¬ A a → H1[a]? = H[a]?) : vx_L C n d A U H1 := by
  obtain ⟨c, k, i, f, a, cell, h1, h2, h3, h4, h5, h6, h7, h8, h9, h10⟩ := h
  exact ⟨c, k, i, f, a, cell, h1, h2, h3, h4, by rw [hq a (Array.getElem?_eq_some_iff.mp h5).1 h10]; exact h5, h6, h7, h8, h9, h10⟩
theorem vx_L.narrow {C n d : String} {A B : Nat → Prop} {U : State} {H : Heap} (h : vx_L C n d A U H) (hAB : ∀ q, B q → A q) : vx_L C n d B U H := by
  obtain ⟨c, k, i, f, a, cell, h1, h2, h3, h4, h5, h6, h7, h8, h9, h10⟩ := h
  exact ⟨c, k, i, f, a, cell, h1, h2, h3, h4, h5, h6, h7, h8, h9, fun z => h10 (hAB _ z)⟩
theorem vx_L.word {C n d : String} {A : Nat → Prop} {s : State} {args : Array Value} (h : vx_L C n d A s s.heap) : (Cond.laysStatic C n d).before args s = true := by
  obtain ⟨c, k, i, f, a, cell, h1, h2, h3, h4, h5, h6, h7, h8, h9, -⟩ := h
  show (Cond.laysStatic C n d).holds args s none s [] = true
  exact Cond.laysStatic_of h1 h2 h3 h4 h5 h6 h7 h8 h9
/-- .. and what it holds: null or some reference -/
def vx_Zq (C n d : String) (A : Nat → Prop) (U : State) (H : Heap) : Prop := va_Zq C n d A U H ∧ vx_L C n d A U H
theorem vx_Zq.moved {C n d : String} {A : Nat → Prop} {u U : State} {H : Heap} (hvm : u.vm.Alike U.vm) (h : vx_Zq C n d A u H) : vx_Zq C n d A U H := ⟨va_Zq.moved hvm h.1, vx_L.moved hvm h.2⟩
theorem vx_Zq.kept {C n d : String} {A : Nat → Prop} {U : State} {H H1 : Heap} (h : vx_Zq C n d A U H) (hq : ∀ a : Nat, a < H.size → ¬ A a → H1[a]? = H[a]?) : vx_Zq C n d A U H1 := ⟨va_Zq.kept h.1 hq, vx_L.kept h.2 hq⟩
theorem vx_Zq.narrow {C n d : String} {A B : Nat → Prop} {U : State} {H : Heap} (h : vx_Zq C n d A U H) (hAB : ∀ q, B q → A q) : vx_Zq C n d B U H := ⟨va_Zq.narrow h.1 hAB, vx_L.narrow h.2 hAB⟩
theorem vx_Zqof {args : Array Value} {s : State} {C n d : String} {A : Nat → Prop} (hl : (Cond.laysStatic C n d).before args s = true) (hini : (Cond.initialized C).before args s = true) (h : (Cond.isRef (.static C n d)).before args s = true) (hA : ∀ a : Nat, a < s.heap.size → ¬ A a) : vx_Zq C n d A s s.heap := by
  refine ⟨va_Zqof hl hini h hA, ?_⟩
  obtain ⟨c, k, i, f, a, cell, h1, h2, h3, h4, h5, h6, h7, h8, h9⟩ := Cond.laysStatic_spec hl
  exact ⟨c, k, i, f, a, cell, h1, h2, h3, h4, h5, h6, h7, h8, h9, hA a (Array.getElem?_eq_some_iff.mp h5).1⟩
theorem vx_isRef {C n d : String} {v : Value} {A : Nat → Prop} {s : State} {args : Array Value} (h : va_Z C n d v A s s.heap) (hv : v.isRef = true) : (Cond.isRef (.static C n d)).before args s = true := by
  obtain ⟨cf, kf, fi, f, a, cell, h1, h2, h3, h4, h5, h6, h7, -⟩ := h
  have he : (Term.static C n d).eval args s none [] s = some v := by
    simp [Term.eval, State.fieldNamed?, h1, h2, h4, h5, h6, h7]
  simp only [Cond.before, Cond.holds, Cond.value, he]
  cases v <;> simp_all [Value.isRef]
theorem vx_isRefq {C n d : String} {A : Nat → Prop} {s : State} {args : Array Value} (h : va_Zq C n d A s s.heap) : (Cond.isRef (.static C n d)).before args s = true := by
  rcases h with h | ⟨t, h⟩
  · exact vx_isRef h rfl
  · exact vx_isRef h rfl
/-- the same frame, seen from here: as if the method were called anew in this heap -/
theorem vx_rebase {T : State} (X : Stand p l e R s m args below meth c T locs cells slots) {R' : Room} (hf : R'.frames ≤ R.frames) (hl : R'.locals ≤ R.locals) (hc : cells + R'.cells ≤ R.cells) (hs : slots + R'.slots ≤ R.slots) :
    Stand p l e R' ((T.setVm s.vm).setFrames (.invoking m args :: below)) m args below meth c T [] 0 0 := by
  have htop : (T.setVm s.vm).topJava?.isSome := X.here.top
  have hF : ((T.setVm s.vm).setFrames (.invoking m args :: below)).frames = .invoking m args :: below := State.frames_setFrames _ (State.cur_lt_of_top htop)
  obtain ⟨g₀, hg0⟩ := Option.isSome_iff_exists.mp htop
  obtain ⟨r, hr⟩ := State.topJava?_eq_some.mp hg0
  have hl9 : e.platform.stackLimits (T.setVm s.vm).me = e.platform.stackLimits s.me := X.limits
  have hb9 : (T.setVm s.vm).me.stackBytes = s.me.stackBytes := X.bytes
  refine ⟨X.admits, X.cas, X.clock, hF, ?_, X.hears, X.method, X.code, X.here, X.tail, X.warmed, ?_, ?_, ?_⟩
  · have h := X.room
    have hU : ((T.setVm s.vm).setFrames (.invoking m args :: below)).localsInUse = s.localsInUse := by
      rw [State.localsInUse_invoking hF (meth := meth) (c := c) X.method X.code, State.localsInUse_invoking X.frames X.method X.code]
    simp only [State.hasRoom, Bool.and_eq_true, decide_eq_true_eq] at h ⊢
    obtain ⟨⟨⟨⟨h1, h2, h3, h4, h5, h6⟩, h7⟩, h8⟩, h9⟩ := h
    rw [X.frames, List.length_cons] at h2 h3
    have q1 := X.heapSize
    have q2 := X.used
    simp only [hF, hU, List.length_cons, State.stackLimits_setFrames, State.stackBytes_setFrames, hl9, hb9]
    refine ⟨⟨⟨⟨by omega, by omega, by omega, by omega, by omega, h6⟩, ?_⟩, ?_⟩, X.book⟩
    · show T.heap.size + R'.cells ≤ e.platform.maxCells
      omega
    · show T.slotsUsed + R'.slots ≤ e.platform.maxSlots
      omega
  · rw [State.stackLimits_setFrames]; rfl
  · rw [State.stackBytes_setFrames]; rfl
  · refine ⟨?_, Nat.le_refl _, Nat.le_refl _, ?_, ?_, fun a c9 h9 => ⟨c9, h9, rfl, rfl, fun _ _ => rfl⟩⟩
    · obtain ⟨t, ht, -⟩ := State.frames_cons hr
      show T.setVm s.vm = { ((T.setVm s.vm).setFrames (.invoking m args :: below)).setFrames (T.setVm s.vm).frames with heap := T.heap, slotsUsed := T.slotsUsed }
      rw [State.setFrames_setFrames, State.setFrames_self ht]
      rfl
    · show T.slotsUsed = T.slotsUsed + ((T.heap.toList.drop T.heap.size).map (·.slots.size)).sum
      rw [List.drop_eq_nil_of_le (Nat.le_of_eq Array.length_toList)]
      rfl
    · show ((T.heap.toList.drop T.heap.size).map (·.slots.size)).sum ≤ 0
      rw [List.drop_eq_nil_of_le (Nat.le_of_eq Array.length_toList)]
      exact Nat.le_refl _
/-- 'throw new E()': new; dup; invokespecial; athrow -/
theorem vx_throw0 {cc : ByteArray} {pc : Nat} (hexec : p.tables.exec = Jvm.exec) (hb : c.code = cc) (hl : l.stackTraces = false) {own cls : String} {names : List String} {ik ic mc ms : Nat} {A : Nat → Prop}
    (hown : s.vm.findClass own = some m.cls) (hcls : Bundle.fit cls = true) (hnames : ∀ n ∈ names, Bundle.fit n = true)
    (hk : (Cond.classLink own ik cls).before args s = true) (hini : (Cond.initialized cls).before args s = true) (hat : ∀ w ∈ vx_at0 own ic cls names, w.before args s = true)
    (hgood : ∀ w ∈ Cond.classLink own ik cls :: Cond.initialized cls :: vx_at0 own ic cls names, vx_ot w = true)
    (hU : vx_Zq Bundle.tN "UNASSIGNED_STACK" Bundle.steD A s s.heap) (hN : vx_Zq Bundle.tN "SUPPRESSED_SENTINEL" Bundle.listD A s s.heap) (hS : va_S A s.heap H locs) (hsize : ls.size = c.maxLocals)
    (d0 : decode cc pc = .ok (.new ik, 3)) (d3 : decode cc (pc + 3) = .ok (.dup, 1)) (d4 : decode cc (pc + 4) = .ok (.invokespecial ic, 3)) (d7 : decode cc (pc + 7) = .ok (.athrow, 1))
    (hout : ∀ x ∈ c.exceptionTable.toList, covers x (pc + 7) = false)
    (hRframes : names.length + 3 < R.frames) (hRlocals : (rest.map fun v => v.category).sum + (13 * (names.length + 1) + 42) ≤ R.locals) (hRcells : cells + 1 ≤ R.cells) (hRslots : slots + 6 ≤ R.slots) (hlocks : meth.locks = false)
    (hx : ∀ t : State, s.vm.Alike t.vm → H.size ≤ t.heap.size → (∀ q : Nat, q < H.size → t.heap[q]? = H[q]?) → XC cls s t)
    (hf : ∀ z ∈ locs, free z.base) (hc : cells + 1 ≤ mc) (hs : slots + 6 ≤ ms) :
    W p l e R s m args below meth c H locs cells slots (vx_MQ below Qc XC args s mc ms free) (F0 m pc ls rest) := by
  intro T hT X
  have htr : e.platform.stackTraces = false := (show e.platform.stackTraces = l.stackTraces by rw [X.admits.platform]).trans hl
  have Y := vx_rebase X (R' := { frames := R.frames, locals := R.locals, cells := 1, slots := 6 }) (Nat.le_refl _) (Nat.le_refl _) hRcells hRslots
  obtain ⟨s', hA⟩ : ∃ z, z = (T.setVm s.vm).setFrames (.invoking m args :: below) := ⟨_, rfl⟩
  rw [← hA] at Y
  have hvm : s'.vm = s.vm := by rw [hA]; rfl
  have hhp : s'.heap = H := by rw [hA]; exact hT
  have hW0 : s.WarmedH s'.vm := by rw [hvm]; exact State.WarmedH.refl s
  have hat' : ∀ w ∈ vx_at0 own ic cls names, w.before args s' = true := fun w hw => vx_ot_at hW0 hvm.symm (hgood w (List.mem_cons_of_mem _ (List.mem_cons_of_mem _ hw))) (hat w hw)
  have hk' : (Cond.classLink own ik cls).before args s' = true := vx_ot_at hW0 hvm.symm (hgood _ List.mem_cons_self) hk
  have hini' : (Cond.initialized cls).before args s' = true := vx_ot_at hW0 hvm.symm (hgood _ (List.mem_cons_of_mem _ List.mem_cons_self)) hini
  have hU' : vx_Zq Bundle.tN "UNASSIGNED_STACK" Bundle.steD A s' s'.heap := by rw [hhp]; exact vx_Zq.moved hW0.alike (hU.kept hS.2.1)
  have hN' : vx_Zq Bundle.tN "SUPPRESSED_SENTINEL" Bundle.listD A s' s'.heap := by rw [hhp]; exact vx_Zq.moved hW0.alike (hN.kept hS.2.1)
  have h : ∀ w ∈ Bundle.ownAtoms0 own ic cls names, w.before args s' = true := vx_own hat' (vx_isRefq hU'.1) (vx_isRefq hN'.1) hU'.2.word hN'.2.word
  have hown' : s'.vm.findClass own = some m.cls := by rw [hvm]; exact hown
  have hins : (Cond.instantiable cls 6).before args s' = true := h _ (by simp [Bundle.ownAtoms0])
  obtain ⟨vm₁, cX, kX, hfX, hkX, -, -, X₁, st1⟩ := Y.newCold hexec (own := own) (C := cls) (index := ik) (n := 6) hown' hk' hins hini'
    (g := F0 m pc ls rest) rfl (by rw [hb]; exact d0) (Nat.le_refl _) (Nat.le_refl _)
  generalize hT1 : (T.setVm vm₁).pushCell { cls := cX, slots := kX.instanceTypes.map defaultValue, vm := .none } = T1 at X₁ st1
  have hcat : (Value.ref T.heap.size).category = 1 := rfl
  have hcellA : T1.heap[T.heap.size]? = some (freshCell cX kX) := by rw [← hT1]; exact State.heap_pushCell_size _ _
  have d3' : decode c.code (pc + 3) = .ok (.dup, 1) := by rw [hb]; exact d3
  obtain ⟨U, hsteps, hrun, hend, hW, hsame, ce, hce, hO⟩ := X₁.ctorThrow0 hexec htr (own := own) (cls := cls) (names := names) (ic := ic) hown' hcls hnames h (fun x hx => nomatch hx) hfX hkX hcellA (by rw [hhp, hT]; exact Nat.le_refl _)
    (g := { method := m, pc := pc + 4, locals := ls, stack := .ref T.heap.size :: .ref T.heap.size :: rest, locked := none }) rfl hsize rfl rfl (rest := rest) rfl
    (by rw [hb]; exact d4) (by rw [hb]; exact d7) hout hRframes (by simp only [List.map_cons, List.sum_cons, hcat]; omega) hlocks
  obtain ⟨f1, f2⟩ := vx_frame hsame
  rw [hhp] at f1 f2
  have hWs : s.WarmedH U.vm := State.WarmedH.trans hW0 hW
  have hcl : s.vm.findClass cls = some ce.cls := by
    have h9 := hO.cls
    rw [hvm] at h9
    exact h9
  have hall : s.sameButNew ({ U with vm := s.vm } : State) locs mc ms := by
    subst hA
    obtain ⟨e1, e2⟩ := hsame
    rw [State.setFrames_setFrames] at e1
    have h2 : (T.setVm s.vm).sameButNew ({ U with vm := s.vm } : State) [] (0 + 1) (0 + 6) := ⟨e1, e2⟩
    have h3 := X.same.trans h2
    rw [List.append_nil] at h3
    exact h3.mono hc hs
  refine ⟨U, ?_, .threw T.heap.size, hrun, hend, Or.inr ⟨T.heap.size, rfl, cls, ce, locs, hx U hWs.alike f1 (fun q hq => f2 q hq (fun z hz => nomatch hz)), hce, hO.vm, hcl, hWs, hall, hf⟩⟩
  refine st1 _ ?_
  show Steps p.tables e below (T1.setTop { method := m, pc := pc + 3, locals := ls, stack := .ref T.heap.size :: rest, locked := none }) _
  jvm_step X₁.here [X₁.here.top, hexec, d3', Value.category]
  exact hsteps
/-- 'throw new E("text")': new; dup; ldc; invokespecial; athrow -/
theorem vx_throwS {cc : ByteArray} {pc : Nat} (hexec : p.tables.exec = Jvm.exec) (hb : c.code = cc) (hl : l.stackTraces = false) {own cls text : String} {names : List String} {ik is ic mc ms sa : Nat} {A : Nat → Prop}
    (hown : s.vm.findClass own = some m.cls) (hcls : Bundle.fit cls = true) (hnames : ∀ n ∈ names, Bundle.fit n = true)
    (hk : (Cond.classLink own ik cls).before args s = true) (hini : (Cond.initialized cls).before args s = true) (hstr : vk_R own is text sa s) (hat : ∀ w ∈ vx_atS own ic cls names, w.before args s = true)
    (hgood : ∀ w ∈ Cond.classLink own ik cls :: Cond.initialized cls :: vx_atS own ic cls names, vx_ot w = true)
    (hU : vx_Zq Bundle.tN "UNASSIGNED_STACK" Bundle.steD A s s.heap) (hN : vx_Zq Bundle.tN "SUPPRESSED_SENTINEL" Bundle.listD A s s.heap) (hS : va_S A s.heap H locs) (hsize : ls.size = c.maxLocals)
    (d0 : decode cc pc = .ok (.new ik, 3)) (d3 : decode cc (pc + 3) = .ok (.dup, 1)) (d4 : decode cc (pc + 4) = .ok (.ldc is, 2)) (d6 : decode cc (pc + 6) = .ok (.invokespecial ic, 3)) (d9 : decode cc (pc + 9) = .ok (.athrow, 1))
    (hout : ∀ x ∈ c.exceptionTable.toList, covers x (pc + 9) = false)
    (hRframes : names.length + 3 < R.frames) (hRlocals : (rest.map fun v => v.category).sum + (13 * (names.length + 1) + 43) ≤ R.locals) (hRcells : cells + 1 ≤ R.cells) (hRslots : slots + 6 ≤ R.slots) (hlocks : meth.locks = false)
    (hx : ∀ t : State, s.vm.Alike t.vm → H.size ≤ t.heap.size → (∀ q : Nat, q < H.size → t.heap[q]? = H[q]?) → XC cls s t)
    (hf : ∀ z ∈ locs, free z.base) (hc : cells + 1 ≤ mc) (hs : slots + 6 ≤ ms) :
    W p l e R s m args below meth c H locs cells slots (vx_MQ below Qc XC args s mc ms free) (F0 m pc ls rest) := by
  intro T hT X
  have htr : e.platform.stackTraces = false := (show e.platform.stackTraces = l.stackTraces by rw [X.admits.platform]).trans hl
  have Y := vx_rebase X (R' := { frames := R.frames, locals := R.locals, cells := 1, slots := 6 }) (Nat.le_refl _) (Nat.le_refl _) hRcells hRslots
  obtain ⟨s', hA⟩ : ∃ z, z = (T.setVm s.vm).setFrames (.invoking m args :: below) := ⟨_, rfl⟩
  rw [← hA] at Y
  have hvm : s'.vm = s.vm := by rw [hA]; rfl
  have hhp : s'.heap = H := by rw [hA]; exact hT
  have hW0 : s.WarmedH s'.vm := by rw [hvm]; exact State.WarmedH.refl s
  have hat' : ∀ w ∈ vx_atS own ic cls names, w.before args s' = true := fun w hw => vx_ot_at hW0 hvm.symm (hgood w (List.mem_cons_of_mem _ (List.mem_cons_of_mem _ hw))) (hat w hw)
  have hk' : (Cond.classLink own ik cls).before args s' = true := vx_ot_at hW0 hvm.symm (hgood _ List.mem_cons_self) hk
  have hini' : (Cond.initialized cls).before args s' = true := vx_ot_at hW0 hvm.symm (hgood _ (List.mem_cons_of_mem _ List.mem_cons_self)) hini
  have hU' : vx_Zq Bundle.tN "UNASSIGNED_STACK" Bundle.steD A s' s'.heap := by rw [hhp]; exact vx_Zq.moved hW0.alike (hU.kept hS.2.1)
  have hN' : vx_Zq Bundle.tN "SUPPRESSED_SENTINEL" Bundle.listD A s' s'.heap := by rw [hhp]; exact vx_Zq.moved hW0.alike (hN.kept hS.2.1)
  have h : ∀ w ∈ Bundle.ownAtoms own ic cls names, w.before args s' = true := vx_own hat' (vx_isRefq hU'.1) (vx_isRefq hN'.1) hU'.2.word hN'.2.word
  have hown' : s'.vm.findClass own = some m.cls := by rw [hvm]; exact hown
  have hins : (Cond.instantiable cls 6).before args s' = true := h _ (by simp [Bundle.ownAtoms])
  obtain ⟨vm₁, cX, kX, hfX, hkX, -, -, X₁, st1⟩ := Y.newCold hexec (own := own) (C := cls) (index := ik) (n := 6) hown' hk' hins hini'
    (g := F0 m pc ls rest) rfl (by rw [hb]; exact d0) (Nat.le_refl _) (Nat.le_refl _)
  generalize hT1 : (T.setVm vm₁).pushCell { cls := cX, slots := kX.instanceTypes.map defaultValue, vm := .none } = T1 at X₁ st1
  have hcat : (Value.ref T.heap.size).category = 1 := rfl
  have hcellA : T1.heap[T.heap.size]? = some (freshCell cX kX) := by rw [← hT1]; exact State.heap_pushCell_size _ _
  have d3' : decode c.code (pc + 3) = .ok (.dup, 1) := by rw [hb]; exact d3
  have d4' : decode c.code (pc + 4) = .ok (.ldc is, 2) := by rw [hb]; exact d4
  have hstr' : vk_R own is text sa s' := vk_R.warm hW0 hstr
  obtain ⟨U, hsteps, hrun, hend, hW, hsame, ce, hce, hO⟩ := X₁.ctorThrowS hexec htr (own := own) (cls := cls) (names := names) (ic := ic) hown' hcls hnames h (fun x hx => nomatch hx) hfX hkX hcellA (by rw [hhp, hT]; exact Nat.le_refl _) (msg := .ref sa) rfl
    (g := { method := m, pc := pc + 6, locals := ls, stack := .ref sa :: .ref T.heap.size :: .ref T.heap.size :: rest, locked := none }) rfl hsize rfl rfl (rest := rest) rfl
    (by rw [hb]; exact d6) (by rw [hb]; exact d9) hout hRframes (by simp only [List.map_cons, List.sum_cons, hcat]; omega) hlocks
  obtain ⟨f1, f2⟩ := vx_frame hsame
  rw [hhp] at f1 f2
  have hWs : s.WarmedH U.vm := State.WarmedH.trans hW0 hW
  have hcl : s.vm.findClass cls = some ce.cls := by
    have h9 := hO.cls
    rw [hvm] at h9
    exact h9
  have hall : s.sameButNew ({ U with vm := s.vm } : State) locs mc ms := by
    subst hA
    obtain ⟨e1, e2⟩ := hsame
    rw [State.setFrames_setFrames] at e1
    have h2 : (T.setVm s.vm).sameButNew ({ U with vm := s.vm } : State) [] (0 + 1) (0 + 6) := ⟨e1, e2⟩
    have h3 := X.same.trans h2
    rw [List.append_nil] at h3
    exact h3.mono hc hs
  refine ⟨U, ?_, .threw T.heap.size, hrun, hend, Or.inr ⟨T.heap.size, rfl, cls, ce, locs, hx U hWs.alike f1 (fun q hq => f2 q hq (fun z hz => nomatch hz)), hce, hO.vm, hcl, hWs, hall, hf⟩⟩
  refine st1 _ ?_
  show Steps p.tables e below (T1.setTop { method := m, pc := pc + 3, locals := ls, stack := .ref T.heap.size :: rest, locked := none }) _
  jvm_step X₁.here [X₁.here.top, hexec, d3', Value.category]
  exact X₁.ldcString hexec (own := own) (text := text) (index := is) (a := sa) hown' hstr'.1 hstr'.2
    (g := { method := m, pc := pc + 4, locals := ls, stack := .ref T.heap.size :: .ref T.heap.size :: rest, locked := none }) rfl d4' _ hsteps
/-- 'throw new E("text")', the text by a wide index -/
theorem vx_throwSW {cc : ByteArray} {pc : Nat} (hexec : p.tables.exec = Jvm.exec) (hb : c.code = cc) (hl : l.stackTraces = false) {own cls text : String} {names : List String} {ik is ic mc ms sa : Nat} {A : Nat → Prop}
    (hown : s.vm.findClass own = some m.cls) (hcls : Bundle.fit cls = true) (hnames : ∀ n ∈ names, Bundle.fit n = true)
    (hk : (Cond.classLink own ik cls).before args s = true) (hini : (Cond.initialized cls).before args s = true) (hstr : vk_R own is text sa s) (hat : ∀ w ∈ vx_atS own ic cls names, w.before args s = true)
    (hgood : ∀ w ∈ Cond.classLink own ik cls :: Cond.initialized cls :: vx_atS own ic cls names, vx_ot w = true)
    (hU : vx_Zq Bundle.tN "UNASSIGNED_STACK" Bundle.steD A s s.heap) (hN : vx_Zq Bundle.tN "SUPPRESSED_SENTINEL" Bundle.listD A s s.heap) (hS : va_S A s.heap H locs) (hsize : ls.size = c.maxLocals)
    (d0 : decode cc pc = .ok (.new ik, 3)) (d3 : decode cc (pc + 3) = .ok (.dup, 1)) (d4 : decode cc (pc + 4) = .ok (.ldc_w is, 3)) (d7 : decode cc (pc + 7) = .ok (.invokespecial ic, 3)) (d10 : decode cc (pc + 10) = .ok (.athrow, 1))
    (hout : ∀ x ∈ c.exceptionTable.toList, covers x (pc + 10) = false)
    (hRframes : names.length + 3 < R.frames) (hRlocals : (rest.map fun v => v.category).sum + (13 * (names.length + 1) + 43) ≤ R.locals) (hRcells : cells + 1 ≤ R.cells) (hRslots : slots + 6 ≤ R.slots) (hlocks : meth.locks = false)
    (hx : ∀ t : State, s.vm.Alike t.vm → H.size ≤ t.heap.size → (∀ q : Nat, q < H.size → t.heap[q]? = H[q]?) → XC cls s t)
    (hf : ∀ z ∈ locs, free z.base) (hc : cells + 1 ≤ mc) (hs : slots + 6 ≤ ms) :
    W p l e R s m args below meth c H locs cells slots (vx_MQ below Qc XC args s mc ms free) (F0 m pc ls rest) := by
  intro T hT X
  have htr : e.platform.stackTraces = false := (show e.platform.stackTraces = l.stackTraces by rw [X.admits.platform]).trans hl
  have Y := vx_rebase X (R' := { frames := R.frames, locals := R.locals, cells := 1, slots := 6 }) (Nat.le_refl _) (Nat.le_refl _) hRcells hRslots
  obtain ⟨s', hA⟩ : ∃ z, z = (T.setVm s.vm).setFrames (.invoking m args :: below) := ⟨_, rfl⟩
  rw [← hA] at Y
  have hvm : s'.vm = s.vm := by rw [hA]; rfl
  have hhp : s'.heap = H := by rw [hA]; exact hT
  have hW0 : s.WarmedH s'.vm := by rw [hvm]; exact State.WarmedH.refl s
  have hat' : ∀ w ∈ vx_atS own ic cls names, w.before args s' = true := fun w hw => vx_ot_at hW0 hvm.symm (hgood w (List.mem_cons_of_mem _ (List.mem_cons_of_mem _ hw))) (hat w hw)
  have hk' : (Cond.classLink own ik cls).before args s' = true := vx_ot_at hW0 hvm.symm (hgood _ List.mem_cons_self) hk
  have hini' : (Cond.initialized cls).before args s' = true := vx_ot_at hW0 hvm.symm (hgood _ (List.mem_cons_of_mem _ List.mem_cons_self)) hini
  have hU' : vx_Zq Bundle.tN "UNASSIGNED_STACK" Bundle.steD A s' s'.heap := by rw [hhp]; exact vx_Zq.moved hW0.alike (hU.kept hS.2.1)
  have hN' : vx_Zq Bundle.tN "SUPPRESSED_SENTINEL" Bundle.listD A s' s'.heap := by rw [hhp]; exact vx_Zq.moved hW0.alike (hN.kept hS.2.1)
  have h : ∀ w ∈ Bundle.ownAtoms own ic cls names, w.before args s' = true := vx_own hat' (vx_isRefq hU'.1) (vx_isRefq hN'.1) hU'.2.word hN'.2.word
  have hown' : s'.vm.findClass own = some m.cls := by rw [hvm]; exact hown
  have hins : (Cond.instantiable cls 6).before args s' = true := h _ (by simp [Bundle.ownAtoms])
  obtain ⟨vm₁, cX, kX, hfX, hkX, -, -, X₁, st1⟩ := Y.newCold hexec (own := own) (C := cls) (index := ik) (n := 6) hown' hk' hins hini'
    (g := F0 m pc ls rest) rfl (by rw [hb]; exact d0) (Nat.le_refl _) (Nat.le_refl _)
  generalize hT1 : (T.setVm vm₁).pushCell { cls := cX, slots := kX.instanceTypes.map defaultValue, vm := .none } = T1 at X₁ st1
  have hcat : (Value.ref T.heap.size).category = 1 := rfl
  have hcellA : T1.heap[T.heap.size]? = some (freshCell cX kX) := by rw [← hT1]; exact State.heap_pushCell_size _ _
  have d3' : decode c.code (pc + 3) = .ok (.dup, 1) := by rw [hb]; exact d3
  have d4' : decode c.code (pc + 4) = .ok (.ldc_w is, 3) := by rw [hb]; exact d4
  have hstr' : vk_R own is text sa s' := vk_R.warm hW0 hstr
  obtain ⟨U, hsteps, hrun, hend, hW, hsame, ce, hce, hO⟩ := X₁.ctorThrowS hexec htr (own := own) (cls := cls) (names := names) (ic := ic) hown' hcls hnames h (fun x hx => nomatch hx) hfX hkX hcellA (by rw [hhp, hT]; exact Nat.le_refl _) (msg := .ref sa) rfl
    (g := { method := m, pc := pc + 7, locals := ls, stack := .ref sa :: .ref T.heap.size :: .ref T.heap.size :: rest, locked := none }) rfl hsize rfl rfl (rest := rest) rfl
    (by rw [hb]; exact d7) (by rw [hb]; exact d10) hout hRframes (by simp only [List.map_cons, List.sum_cons, hcat]; omega) hlocks
  obtain ⟨f1, f2⟩ := vx_frame hsame
  rw [hhp] at f1 f2
  have hWs : s.WarmedH U.vm := State.WarmedH.trans hW0 hW
  have hcl : s.vm.findClass cls = some ce.cls := by
    have h9 := hO.cls
    rw [hvm] at h9
    exact h9
  have hall : s.sameButNew ({ U with vm := s.vm } : State) locs mc ms := by
    subst hA
    obtain ⟨e1, e2⟩ := hsame
    rw [State.setFrames_setFrames] at e1
    have h2 : (T.setVm s.vm).sameButNew ({ U with vm := s.vm } : State) [] (0 + 1) (0 + 6) := ⟨e1, e2⟩
    have h3 := X.same.trans h2
    rw [List.append_nil] at h3
    exact h3.mono hc hs
  refine ⟨U, ?_, .threw T.heap.size, hrun, hend, Or.inr ⟨T.heap.size, rfl, cls, ce, locs, hx U hWs.alike f1 (fun q hq => f2 q hq (fun z hz => nomatch hz)), hce, hO.vm, hcl, hWs, hall, hf⟩⟩
  refine st1 _ ?_
  show Steps p.tables e below (T1.setTop { method := m, pc := pc + 3, locals := ls, stack := .ref T.heap.size :: rest, locked := none }) _
  jvm_step X₁.here [X₁.here.top, hexec, d3', Value.category]
  exact X₁.ldcStringW hexec (own := own) (text := text) (index := is) (a := sa) hown' hstr'.1 hstr'.2
    (g := { method := m, pc := pc + 4, locals := ls, stack := .ref T.heap.size :: .ref T.heap.size :: rest, locked := none }) rfl d4' _ hsteps
end Ends
section Bodies
variable {l : Launch}
theorem vx_ofW {y : MethodName} {ws ws' : List Cond} {rm : Room} {Pc : Array Value → State → Prop} {Qc : Array Value → State → Outcome → State → Prop} {XC : String → State → State → Prop} {mc ms : Nat} {free : Addr → Prop} {cc : ByteArray} {maxL : Nat} {ret : Option FieldType}
    (hy : plainName y.cls = true) (hw : ws = Cond.code y cc maxL ret :: ws')
    (body : ∀ p e s m args below meth c s₁, BodyLoose p l y (headSpec ws rm) cc maxL ret e s m args below meth c s₁ → c.maxLocals = maxL → (∀ x ∈ c.exceptionTable.toList, False) → Pc args s →
      W p l e (headSpec ws rm).room s m args below meth c s.heap [] 0 0 (vx_MQ below Qc XC args s mc ms free) (entryFrame m args maxL)) : vx_Met l y ws rm Pc Qc XC mc ms free := by
  refine MetFree.of_bodyS (code := cc) (maxLocals := maxL) (ret := ret) hy ?_ ?_
  · intro args s m h hn
    obtain ⟨meth, c, h1, h2, h3, h4, h5, h6, -, -⟩ := Cond.code_spec hn (atoms_spec (ws := ws) h _ (by rw [hw]; exact List.mem_cons_self))
    exact ⟨meth, c, h1, h2, h3, h4, h5, h6⟩
  · intro p e s m args below meth c s₁ B hml hP _
    have hh0 : s₁.heap = s.heap := by rw [B.state]; rfl
    have ht : ∀ x ∈ c.exceptionTable.toList, False := by
      obtain ⟨meth9, c9, h1, h2, -, -, -, -, h7, -⟩ := Cond.code_spec B.named (atoms_spec (ws := ws) B.pre _ (by rw [hw]; exact List.mem_cons_self))
      cases Option.some.inj (h1.symm.trans B.method)
      cases Option.some.inj (h2.symm.trans (Stand.of_body B).code)
      intro x hx
      rw [Array.isEmpty_iff.mp h7] at hx
      cases hx
    obtain ⟨t, a1, o, b1, b2, b3⟩ := body p e s m args below meth c s₁ B hml ht hP s₁ hh0 (Stand.of_body B)
    exact ⟨t, o, a1, b1, b2, b3⟩
/-- the table of a body with handlers -/
theorem vx_table {p : Program} {x y : MethodName} {S : Spec} {cc bytes : ByteArray} {maxL maxL' : Nat} {ret ret' : Option FieldType} {e : Env} {s s₁ : State} {m : MethodId} {args : Array Value} {below : List Frame} {meth : Method} {c : Code} {hh : List (Nat × Nat × Nat × Nat)}
    (B : BodyLoose p l y S cc maxL ret e s m args below meth c s₁) (h : (Cond.codeWith y bytes maxL' ret' hh).before args s = true) : c.exceptionTable.toList = tableOf hh := by
  obtain ⟨m9, meth9, c9, hn9, h1, h2, -, -, h6, -⟩ := Cond.codeWith_spec h
  cases Option.some.inj (hn9.symm.trans B.named)
  cases Option.some.inj (h1.symm.trans B.method)
  cases Option.some.inj (h2.symm.trans (Stand.of_body B).code)
  rw [← h6, table_eq]
end Bodies
end VXA
/-! ===== END ===== -/
/-! ===== BEGIN a static call of a method with an exception table ===== -/
section VXS
variable {p : Program} {l : Launch} {e : Env} {R : Room} {s : State} {m : MethodId} {args : Array Value} {below : List Frame} {meth : Method} {c : Code} {T : State} {H : Heap} {locs : List Loc} {cells slots : Nat}
abbrev vx_CSW (R : Room) (s : State) (args : Array Value) (own : String) (index : Nat) (y : MethodName) (bytes : ByteArray) (maxL : Nat) (ret : Option FieldType) (hh : List (Nat × Nat × Nat × Nat)) (ws : List Cond) (rm : Room) (mc ms n : Nat) : Prop :=
  (rm.cells = mc ∧ rm.slots = ms ∧ rm.frames + 1 ≤ R.frames ∧ 8 + (maxL + 11) + rm.locals ≤ R.locals ∧ (∀ w ∈ ws, ∀ (a' : Array Value) (U : State), s.WarmedH U.vm → w.before a' U = true) ∧ Cond.codeWith y bytes maxL ret hh ∈ ws) ∧
  (Cond.codeWith y bytes maxL ret hh).before args s = true ∧ (Cond.initialized y.cls).before args s = true ∧ (y.cls ≠ "java/lang/invoke/MethodHandle" ∧ y.cls ≠ "java/lang/invoke/VarHandle") ∧
  (∀ sig, parseMethodDescriptor y.desc = some sig → n = sig.parameters.length) ∧ (Cond.methodLink own index y).before args s = true ∧ (Cond.static y).before args s = true
theorem vx_cwSW {own : String} {index maxL mc ms : Nat} {y : MethodName} {bytes : ByteArray} {ret : Option FieldType} {hh : List (Nat × Nat × Nat × Nat)} {Ts ws ws' : List Cond} {rm : Room} (n : Nat) (ht : ∀ w ∈ Ts, w.before args s = true) (hT : GoodIn Ts (va_wsS own index y ws)) (hw : ws = Cond.codeWith y bytes maxL ret hh :: ws') (hrc : rm.cells = mc) (hrs : rm.slots = ms)
    (hd : y.cls ≠ "java/lang/invoke/MethodHandle" ∧ y.cls ≠ "java/lang/invoke/VarHandle" ∧ (parseMethodDescriptor y.desc).map (fun d => d.parameters.length) = some n) (hR : rm.frames + 1 ≤ R.frames ∧ 8 + (maxL + 11) + rm.locals ≤ R.locals) :
    vx_CSW R s args own index y bytes maxL ret hh ws rm mc ms n := by
  have ok : ∀ w ∈ va_wsS own index y ws, w.before args s = true := fun w h => ht w (hT w h).1
  have hG : GoodIn Ts ws := fun w h => hT w (by unfold va_wsS; exact List.mem_append_right _ h)
  have hc : Cond.codeWith y bytes maxL ret hh ∈ ws := by rw [hw]; exact List.mem_cons_self
  refine ⟨⟨hrc, hrs, hR.1, hR.2, pay_in ht hG, hc⟩, ht _ (hG _ hc).1, ok _ (by simp [va_wsS]), ⟨hd.1, hd.2.1⟩, fun sig h => ?_, ok _ (by simp [va_wsS]), ok _ (by simp [va_wsS])⟩
  have h2 := hd.2.2
  rw [h] at h2
  exact (Option.some.inj h2).symm
theorem vx_callSW (X : Stand p l e R s m args below meth c T locs cells slots) (hexec : p.tables.exec = Jvm.exec) {own : String} {index : Nat} {y : MethodName} {bytes : ByteArray} {maxL : Nat} {ret : Option FieldType} {hh : List (Nat × Nat × Nat × Nat)}
    (hown : s.vm.findClass own = some m.cls) (hlink : (Cond.methodLink own index y).before args s = true) (hstat : (Cond.static y).before args s = true) (hinit : (Cond.initialized y.cls).before args s = true)
    (hcode : (Cond.codeWith y bytes maxL ret hh).before args s = true) (hy : y.cls ≠ "java/lang/invoke/MethodHandle" ∧ y.cls ≠ "java/lang/invoke/VarHandle")
    {W9 : Nat} {Pre : Pt → Array Value → Prop} {Post : Pt → Array Value → Option Value → Pt → Prop} (hK : Back l R p e below s args y 3 W9 Pre Post)
    {g : JFrame} (hg : g.method = m) (hsize : g.locals.size = c.maxLocals) {argsL rest : List Value} (hlen : ∀ sig, parseMethodDescriptor y.desc = some sig → argsL.length = sig.parameters.length)
    (hstack : g.stack = argsL.reverse ++ rest) (hW : 2 * g.monitorRoom + (rest.map fun v => v.category).sum ≤ W9) (hdg : decode c.code g.pc = .ok (.invokestatic index, 3))
    (hpre : ∀ vm₁, s.WarmedH vm₁ → Pre ⟨T.setVm vm₁, locs, cells, slots⟩ argsL.toArray) :
    ∃ (v : Option Value) (vm₁ : Vm) (B : Pt), s.WarmedH vm₁ ∧ Stand p l e R s m args below meth c B.U B.locs B.cells B.slots ∧ Post ⟨T.setVm vm₁, locs, cells, slots⟩ argsL.toArray v B ∧
      ∀ target, Steps p.tables e below (B.U.setTop { g with pc := g.pc + 3, stack := v.toList ++ rest }) target → Steps p.tables e below (T.setTop g) target := by
  obtain ⟨mk, methM, cM, hnamed, hmethM, -, -, -, -, -, -, hsigM⟩ := Cond.codeWith_spec hcode
  have hstatic : methM.isStatic = true := Cond.static_spec hnamed hmethM hstat
  obtain ⟨kP, hkP, -⟩ := className_of_methodNamed hnamed
  have hinitP : kP.init = .initialized := Cond.initialized_spec (findClass_of_methodNamed hnamed) hkP hinit
  obtain ⟨vm₁, X₁, hstep₁⟩ := X.invokestatic hexec hown hlink hnamed hmethM hstatic hkP hinitP hy (g := g) hg (argsL := argsL) (rest := rest) (hlen _ hsigM) hstack hdg
  obtain ⟨v, B, X', hpost, hsteps⟩ := hK m meth c ⟨T.setVm vm₁, locs, cells, slots⟩ { g with stack := rest } (.invokestatic index) mk argsL.toArray X₁ hg hsize hdg hW (X₁.named hnamed) (hpre vm₁ X₁.warmed)
  exact ⟨v, vm₁, B, X₁.warmed, X', hpost, fun target h => hstep₁ _ fun acts => by rw [doInvoke_state]; exact hsteps.trans h⟩
theorem vx_runSW {y : MethodName} {bytes cc : ByteArray} {maxL nL mc ms n index : Nat} {ret : Option FieldType} {hh : List (Nat × Nat × Nat × Nat)} {ws : List Cond} {rm : Room} {Pc : Array Value → State → Prop} {Qc : Array Value → State → Outcome → State → Prop} {free : Addr → Prop} {Ts : List Cond} {own : String} {As rest : List Value} {g : JFrame}
    (S : CallFix p m c cc nL s args Ts own) (hM : Met l y ws rm Pc Qc mc ms free) (cw : vx_CSW R s args own index y bytes maxL ret hh ws rm mc ms n) (hp : PreS s H Pc As)
    (hg : g.method = m) (hn : As.length = n) (hsize : g.locals.size = nL) (hstack : g.stack = As.reverse ++ rest) (hW : 2 * g.monitorRoom + (rest.map fun v => v.category).sum ≤ 8) (hdg : decode cc g.pc = .ok (.invokestatic index, 3)) (hf : cells + mc ≤ R.cells ∧ slots + ms ≤ R.slots) :
    va_Run p l e R s m args below meth c H locs cells slots mc ms g rest (Qc As.toArray) (free) := by
  obtain ⟨⟨hrc, hrs, hfr, hlo, hws, hcw⟩, hcode, hini, hy, hlen, hl, hstt⟩ := cw
  have hK : Back l R p e below s args y 3 8 (PreOf R mc ms Pc) (PostOf Qc mc ms free) := va_backW (hh := hh) (bytes := bytes) (maxL := maxL) (ret := ret) hM hp.1 hrc hrs hfr hlo hws hcw (fun a' U hW => word_at hW (Or.inl (by first | rfl | simp [Cond.onTables, Cond.keeps, Cond.steady])) hini)
  obtain ⟨hx, hb, hml, ho, -⟩ := S
  intro T hT X
  obtain ⟨v, vm₁, ⟨U', l2, c2, s2⟩, hW₁, X', ⟨g', mk, t, L, e1, e2, hq, h1, hL, h2, h3⟩, st⟩ := vx_callSW X hx (hh := hh) (bytes := bytes) (maxL := maxL) (ret := ret) ho hl hstt hini hcode hy hK hg (hsize.trans hml.symm) (argsL := As) (rest := rest) (fun sig h => hn.trans (hlen sig h)) hstack hW (by rw [hb]; exact hdg)
    (fun vm₁ hW₁ => ⟨hf.1, hf.2, hp.2 (T.setVm vm₁) hT hW₁⟩)
  dsimp only [Pt.U, Pt.locs, Pt.cells, Pt.slots] at X' e1 e2 h1 h2 h3 st
  subst h1; subst h2; subst h3
  exact ⟨v, (T.setVm vm₁).calling g' mk As.toArray, t, U', L, hT, X', hL, e1, e2, hq, st⟩
/-- not caught here, past rows that name other classes: it goes on to the caller -/
theorem vx_outP {p : Program} {l : Launch} {e : Env} {R : Room} {s : State} {m : MethodId} {args : Array Value} {below : List Frame} {meth : Method} {c : Code} {H : Heap} {locs : List Loc} {cells slots : Nat} {free : Addr → Prop} {ls : Array Slot} {rest : List Value} {Qc : Array Value → State → Outcome → State → Prop} {XC : String → State → State → Prop}
    {pc : Nat} {own E : String} {ce : Cell} {q : Addr} {mc ms : Nat} (hown : s.vm.findClass own = some m.cls) (hlocks : meth.locks = false)
    (hpass : ∀ z ∈ c.exceptionTable.toList, covers z pc = false ∨ (z.catchType ≠ 0 ∧ ∃ nm : String, (Cond.classLink own z.catchType nm).before args s = true ∧ va_Nc E nm s)) (hcell : H[q]? = some ce) (hv : ce.vm = .none) (hcl : s.vm.findClass E = some ce.cls)
    (hx : ∀ t : State, t.heap = H → s.vm.Alike t.vm → XC E s t) (hf : ∀ z ∈ locs, free z.base) (hc : cells ≤ mc) (hs : slots ≤ ms) :
    vx_W p l e R s m args below meth c H locs cells slots (vx_MQ below Qc XC args s mc ms free) (F0 m pc ls rest) q := by
  intro T hT X
  have hpl : e.platform.magicAccessors = ({} : Platform).magicAccessors := by rw [X.admits.platform]
  obtain ⟨vm', hW', X', st⟩ := X.outThrough hlocks q (g := F0 m pc ls rest) rfl rfl rfl (cell := ce) (by rw [hT]; exact hcell) (by rw [hv]; rfl)
    (by obtain ⟨k9, h9, -⟩ := Vm.findClass_spec hcl; exact ⟨k9, h9⟩) (fun z hz => by
      rcases hpass z hz with h | ⟨hz0, nm, hl1, hn1⟩
      · exact Or.inl h
      · obtain ⟨c6, hc6, hcl6⟩ := Cond.classLink_spec hown hl1 e.platform hpl
        obtain ⟨a8, b8, h1, h2, h3⟩ := hn1
        cases Option.some.inj (h1.symm.trans hcl)
        cases Option.some.inj (h2.symm.trans hc6)
        exact Or.inr ⟨hz0, _, hcl6, h3⟩)
  obtain ⟨g₀, hfr⟩ := X'.frames_eq
  have hcell9 : ((T.setVm vm').setFrames (.throwing q :: below)).heap[q]? = some ce := by
    show T.heap[q]? = some ce
    rw [hT]; exact hcell
  have hend : Ended ((T.setVm vm').setFrames (.throwing q :: below)) below (.threw q) := State.frames_setFrames _ (State.cur_lt_of_frames hfr)
  refine ⟨(T.setVm vm').setFrames (.throwing q :: below), ?_, .threw q, X'.here.running, hend, Or.inr ⟨q, rfl, E, ce, locs, hx _ hT (X'.ends _).1.alike, hcell9, hv, hcl, (X'.ends _).1, (X'.ends _).2.mono hc hs, hf⟩⟩
  rw [X.pushThrowing_eq]
  exact st
/-- a thing of a world lies in the heap -/
theorem vx_lt {D : va_G} {cl : List vw_C} {ws : va_W} {H1 : Heap} (h : va_P D cl ws H1) {k : Nat} {q : Nat × va_E} (hk : ws[k]? = some q) : q.1 < H1.size := (h k q hk).lt
end VXS
/-! ===== END ===== -/
/-! ===== BEGIN methods with a table of their own: called by a name, returning or throwing ===== -/
section VXH
/-! vx_backW, vx_callVX, vx_callSX, vx_callVW, vx_runVW, vx_runVX, vx_runSX, vx_ofWH follow the same proofs as their sisters above (Free/Laws.lean, Shelf42/LK1.lean); vx_outP calls Shelf42/NT130.lean (outThrough). -/
section
variable {l : Launch} {R : Room} {p : Program} {e : Env} {below : List Frame} {s : State} {sargs : Array Value} {y : MethodName} {len W9 : Nat}
theorem vx_backW {ws : List Cond} {rm : Room} {Pc : Array Value → State → Prop} {Qc : Array Value → State → Outcome → State → Prop} {XC : String → State → State → Prop} {mc ms : Nat} {free : Addr → Prop} {bytes : ByteArray} {maxL : Nat} {ret : Option FieldType} {hh : List (Nat × Nat × Nat × Nat)}
    (hM : vx_Met l y ws rm Pc Qc XC mc ms free) (hblind : FrameBlind Pc) (hrc : rm.cells = mc) (hrs : rm.slots = ms)
    (hframes : rm.frames + 1 ≤ R.frames) (hlocals : W9 + (maxL + 11) + rm.locals ≤ R.locals)
    (hws : ∀ w ∈ ws, ∀ a' U, s.WarmedH U.vm → w.before a' U = true) (hcode : Cond.codeWith y bytes maxL ret hh ∈ ws) (hinit : ∀ a' U, s.WarmedH U.vm → (Cond.initialized y.cls).before a' U = true) :
    vx_Back l R p e below s sargs y len W9 (PreOf R mc ms Pc) (PostOf Qc mc ms free) (vx_Post XC mc ms free) := by
  intro m meth c A g ig mk a X hg hsize hdg hW hn hp
  have h1 : (headSpec ws rm).pre.before a A.U = true := atoms_intro fun w hw => hws w hw _ _ X.warmed
  have h2 : (Cond.codeWith y bytes maxL ret hh).before a A.U = true := hws _ hcode _ _ X.warmed
  have h3 : (Cond.initialized y.cls).before a A.U = true := hinit _ _ X.warmed
  have h4 : A.cells + (headSpec ws rm).room.cells ≤ R.cells := by rw [show (headSpec ws rm).room.cells = mc from hrc]; exact hp.1
  have h5 : A.slots + (headSpec ws rm).room.slots ≤ R.slots := by rw [show (headSpec ws rm).room.slots = ms from hrs]; exact hp.2.1
  have hPc : Pc a (A.U.calling g mk a) := hblind _ _ _ _ hp.2.2
  obtain ⟨U, Ls, c0, s0⟩ := A
  dsimp only [Pt.U, Pt.locs, Pt.cells, Pt.slots] at h1 h2 h3 h4 h5 X hn hPc ⊢
  obtain ⟨m9, methY, cY, hn9, hmY, hcY, -, hlY, -⟩ := Cond.codeWith_spec h2
  cases Option.some.inj (hn9.symm.trans hn)
  obtain ⟨kY, hkY, -⟩ := className_of_methodNamed hn
  have hinitY : kY.init = .initialized := Cond.initialized_spec (findClass_of_methodNamed hn) hkY h3
  have h : At U g.method c below := by rw [hg]; exact X.here
  have hlocals9 : W9 + (maxL + 11) + (headSpec ws rm).room.locals ≤ R.locals := hlocals
  have happ : (headSpec ws rm).appliesLoose y e.platform (U.calling g mk a) = true :=
    Spec.appliesLoose_calling (g := g) h hdg hn hkY hinitY
      (X.room_calling (g := g) (R' := (headSpec ws rm).room) hsize hmY hcY hframes (by rw [hlY]; omega) h4 h5) h1
  obtain ⟨mid, hmid⟩ := h.above
  have hfr : (U.setTop g).frames = (.java g :: mid) ++ below := by rw [State.frames_setTop' g h.top, hmid]; rfl
  obtain ⟨o, s₂, hsteps, -, hend, hq⟩ := Steps.callFree hM p X.admits X.cas X.clock (acts := []) hfr happ hPc trivial
  have hq' : vx_Q Qc XC mc ms free a (U.calling g mk a) o s₂ := hq
  rw [State.frames_setTop' g h.top] at hend
  obtain ⟨g₀, hg0⟩ := Option.isSome_iff_exists.mp h.top
  obtain ⟨r, hr⟩ := State.topJava?_eq_some.mp hg0
  have hr' : (({ U with heap := s₂.heap, slotsUsed := s₂.slotsUsed } : State).setVm s₂.vm).frames = .java g₀ :: r := hr
  rcases hq' with ⟨hqc, L, hfe, hL⟩ | ⟨q, rfl, E, ce, L, hx, hce, hcv, hcl, hW₂, hsm, hL⟩
  · obtain ⟨⟨v, rfl⟩, hW₂, e2, q2, q3, q4, q5, q6⟩ := id hfe
    have e3 : s₂ = ({ (U.calling g mk a).setFrames s₂.frames with heap := s₂.heap, slotsUsed := s₂.slotsUsed } : State).setVm s₂.vm := by
      have : s₂ = ({ s₂ with vm := (U.calling g mk a).vm } : State).setVm s₂.vm := rfl
      rw [e2] at this
      exact this
    obtain ⟨c₂, i₂, len₂, hc₂, hd₂, hf₂⟩ := hend
    have hW' : U.WarmedH s₂.vm := hW₂
    have hcc : c₂ = c := by
      have h1 : s₂.code? g.method = U.code? g.method := by
        rw [State.code?_eq, State.code?_eq, hW'.alike.method?]
      exact Option.some.inj (hc₂.symm.trans (h1.trans h.code))
    subst hcc
    have hlen : len₂ = len := by rw [hdg] at hd₂; cases hd₂; rfl
    subst hlen
    have hs₂ : s₂ = (({ U with heap := s₂.heap, slotsUsed := s₂.slotsUsed } : State).setVm s₂.vm).setTop { g with pc := g.pc + len₂, stack := v.toList ++ g.stack } := by
      refine e3.trans ?_
      rw [hf₂, State.calling_eq h.top, State.setFrames_setFrames, State.setTop_of_frames _ hr', hr]
      rfl
    have hsame : U.sameButNew ({ U with heap := s₂.heap, slotsUsed := s₂.slotsUsed } : State) L mc ms := by
      refine ⟨?_, q2, q3, q4, q5, q6⟩
      obtain ⟨t, ht, -⟩ := State.frames_cons hr
      show ({ U with heap := s₂.heap, slotsUsed := s₂.slotsUsed } : State) = { U.setFrames U.frames with heap := s₂.heap, slotsUsed := s₂.slotsUsed }
      rw [State.setFrames_self ht]
    subst hg
    refine Or.inl ⟨v, ⟨(({ U with heap := s₂.heap, slotsUsed := s₂.slotsUsed } : State).setVm s₂.vm), Ls ++ L, c0 + mc, s0 + ms⟩,
      ⟨X.admits, X.cas, X.clock, X.frames, X.room, X.hears, X.method, X.code, (X.here.setHeapUsed s₂.heap s₂.slotsUsed).setVm hW'.alike, X.tail, State.WarmedH.trans X.warmed hW', X.limits, X.bytes, X.same.trans (hsame.setVm s.vm)⟩,
      ⟨g, mk, s₂, L, rfl, rfl, hqc, rfl, hL, rfl, rfl⟩, ?_⟩
    show Steps p.tables e below _ ((({ U with heap := s₂.heap, slotsUsed := s₂.slotsUsed } : State).setVm s₂.vm).setTop { g with pc := g.pc + len₂, stack := v.toList ++ g.stack })
    rw [← hs₂]
    exact hsteps
  · obtain ⟨e2, q2, q3, q4, q5, q6⟩ := id hsm
    have e3 : s₂ = ({ (U.calling g mk a).setFrames s₂.frames with heap := s₂.heap, slotsUsed := s₂.slotsUsed } : State).setVm s₂.vm := by
      have : s₂ = ({ s₂ with vm := (U.calling g mk a).vm } : State).setVm s₂.vm := rfl
      rw [e2] at this
      exact this
    have hf₂ : s₂.frames = .throwing q :: .java g :: U.frames.tail := hend
    have hW' : U.WarmedH s₂.vm := hW₂
    have hs₂ : s₂ = ((({ U with heap := s₂.heap, slotsUsed := s₂.slotsUsed } : State).setVm s₂.vm).setTop g).pushFrame (.throwing q) := by
      refine e3.trans ?_
      rw [hf₂, State.calling_eq h.top, State.setFrames_setFrames, State.pushFrame, State.frames_setTop _ hr', State.setTop_of_frames _ hr', State.setFrames_setFrames, hr]
      rfl
    have hsame : U.sameButNew ({ U with heap := s₂.heap, slotsUsed := s₂.slotsUsed } : State) L mc ms := by
      refine ⟨?_, q2, q3, q4, q5, q6⟩
      obtain ⟨t, ht, -⟩ := State.frames_cons hr
      show ({ U with heap := s₂.heap, slotsUsed := s₂.slotsUsed } : State) = { U.setFrames U.frames with heap := s₂.heap, slotsUsed := s₂.slotsUsed }
      rw [State.setFrames_self ht]
    subst hg
    refine Or.inr ⟨q, ⟨(({ U with heap := s₂.heap, slotsUsed := s₂.slotsUsed } : State).setVm s₂.vm), Ls ++ L, c0 + mc, s0 + ms⟩,
      ⟨X.admits, X.cas, X.clock, X.frames, X.room, X.hears, X.method, X.code, (X.here.setHeapUsed s₂.heap s₂.slotsUsed).setVm hW'.alike, X.tail, State.WarmedH.trans X.warmed hW', X.limits, X.bytes, X.same.trans (hsame.setVm s.vm)⟩,
      ⟨g, mk, s₂, L, E, ce, rfl, rfl, hx, hce, hcv, hcl, rfl, hL, rfl, rfl⟩, ?_⟩
    show Steps p.tables e below _ (((({ U with heap := s₂.heap, slotsUsed := s₂.slotsUsed } : State).setVm s₂.vm).setTop g).pushFrame (.throwing q))
    rw [← hs₂]
    exact hsteps
end
variable {p : Program} {l : Launch} {e : Env} {R : Room} {s : State} {m : MethodId} {args : Array Value} {below : List Frame} {meth : Method} {c : Code} {T : State} {H : Heap} {locs : List Loc} {cells slots : Nat}
theorem vx_callVX (X : Stand p l e R s m args below meth c T locs cells slots) (hexec : p.tables.exec = Jvm.exec) {own C : String} {index : Nat} {y : MethodName} {bytes : ByteArray} {maxL : Nat} {ret : Option FieldType} {hh : List (Nat × Nat × Nat × Nat)}
    (hown : s.vm.findClass own = some m.cls) (hlink : (Cond.methodLink own index y).before args s = true) (hinst : (Cond.instanceMethod y).before args s = true) (hsel : (Cond.selects C y y).before args s = true)
    (hcode : (Cond.codeWith y bytes maxL ret hh).before args s = true) (hy : y.cls ≠ "java/lang/invoke/MethodHandle" ∧ y.cls ≠ "java/lang/invoke/VarHandle")
    {W9 : Nat} {Pre : Pt → Array Value → Prop} {Post : Pt → Array Value → Option Value → Pt → Prop} {PostX : Pt → Array Value → Addr → Pt → Prop} (hK : vx_Back l R p e below s args y 3 W9 Pre Post PostX)
    {b : Addr} {cellB : Cell} (hcell : T.heap[b]? = some cellB) (hobj : cellB.vm.isStatics = false) (hcls : s.vm.findClass C = some cellB.cls)
    {g : JFrame} (hg : g.method = m) (hsize : g.locals.size = c.maxLocals) {argsL rest : List Value} (hlen : ∀ sig, parseMethodDescriptor y.desc = some sig → argsL.length = sig.parameters.length)
    (hstack : g.stack = argsL.reverse ++ .ref b :: rest) (hW : 2 * g.monitorRoom + (rest.map fun v => v.category).sum ≤ W9) (hdg : decode c.code g.pc = .ok (.invokevirtual index, 3))
    (hpre : ∀ vm₁, s.WarmedH vm₁ → Pre ⟨T.setVm vm₁, locs, cells, slots⟩ (Value.ref b :: argsL).toArray) :
    (∃ (v : Option Value) (vm₁ : Vm) (B : Pt), s.WarmedH vm₁ ∧ Stand p l e R s m args below meth c B.U B.locs B.cells B.slots ∧ Post ⟨T.setVm vm₁, locs, cells, slots⟩ (Value.ref b :: argsL).toArray v B ∧
      ∀ target, Steps p.tables e below (B.U.setTop { g with pc := g.pc + 3, stack := v.toList ++ rest }) target → Steps p.tables e below (T.setTop g) target) ∨
    (∃ (q : Addr) (vm₁ : Vm) (B : Pt), s.WarmedH vm₁ ∧ Stand p l e R s m args below meth c B.U B.locs B.cells B.slots ∧ PostX ⟨T.setVm vm₁, locs, cells, slots⟩ (Value.ref b :: argsL).toArray q B ∧
      Steps p.tables e below (T.setTop g) ((B.U.setTop { g with stack := rest }).pushFrame (.throwing q))) := by
  obtain ⟨mk, methM, hnamed, hmethM, hstM, habM⟩ := Cond.instanceMethod_spec hinst
  obtain ⟨m8, methM', cM, hn8, hmethM', -, -, -, -, -, -, hsigM⟩ := Cond.codeWith_spec hcode
  cases Option.some.inj (hn8.symm.trans hnamed)
  cases hmethM.symm.trans hmethM'
  obtain ⟨c2, r2, m2, q1, q2, q3, q4, kP, hkP, hkPi⟩ := Cond.selects_spec hsel
  cases hcls.symm.trans q1
  cases (State.methodFound?_of_named hnamed hy).symm.trans q2
  cases hnamed.symm.trans q3
  have hselP : selectMethod e.platform s.vm cellB.cls mk = .method mk := by rw [Launch.admits_selectMethod X.admits]; exact q4
  obtain ⟨vm₁, X₁, hstep₁⟩ := X.invokevirtual hexec hown hlink hnamed hmethM hstM hkP hkPi hy (a := b) (cell := cellB) hcell
    (fun z h => by rw [h] at hobj; cases hobj) hselP hmethM habM hkP hkPi (g := g) hg (argsL := argsL) (rest := rest) (hlen _ hsigM) hstack hdg
  rcases hK m meth c ⟨T.setVm vm₁, locs, cells, slots⟩ { g with stack := rest } (.invokevirtual index) mk (Value.ref b :: argsL).toArray X₁ hg hsize hdg hW (X₁.named hnamed) (hpre vm₁ X₁.warmed) with ⟨v, B, X', hpost, hsteps⟩ | ⟨q, B, X', hpost, hsteps⟩
  · exact Or.inl ⟨v, vm₁, B, X₁.warmed, X', hpost, fun target h => hstep₁ _ fun acts => by rw [doInvoke_state]; exact hsteps.trans h⟩
  · exact Or.inr ⟨q, vm₁, B, X₁.warmed, X', hpost, hstep₁ _ fun acts => by rw [doInvoke_state]; exact hsteps⟩
theorem vx_callSX (X : Stand p l e R s m args below meth c T locs cells slots) (hexec : p.tables.exec = Jvm.exec) {own : String} {index : Nat} {y : MethodName} {bytes : ByteArray} {maxL : Nat} {ret : Option FieldType} {hh : List (Nat × Nat × Nat × Nat)}
    (hown : s.vm.findClass own = some m.cls) (hlink : (Cond.methodLink own index y).before args s = true) (hstat : (Cond.static y).before args s = true) (hinit : (Cond.initialized y.cls).before args s = true)
    (hcode : (Cond.codeWith y bytes maxL ret hh).before args s = true) (hy : y.cls ≠ "java/lang/invoke/MethodHandle" ∧ y.cls ≠ "java/lang/invoke/VarHandle")
    {W9 : Nat} {Pre : Pt → Array Value → Prop} {Post : Pt → Array Value → Option Value → Pt → Prop} {PostX : Pt → Array Value → Addr → Pt → Prop} (hK : vx_Back l R p e below s args y 3 W9 Pre Post PostX)
    {g : JFrame} (hg : g.method = m) (hsize : g.locals.size = c.maxLocals) {argsL rest : List Value} (hlen : ∀ sig, parseMethodDescriptor y.desc = some sig → argsL.length = sig.parameters.length)
    (hstack : g.stack = argsL.reverse ++ rest) (hW : 2 * g.monitorRoom + (rest.map fun v => v.category).sum ≤ W9) (hdg : decode c.code g.pc = .ok (.invokestatic index, 3))
    (hpre : ∀ vm₁, s.WarmedH vm₁ → Pre ⟨T.setVm vm₁, locs, cells, slots⟩ argsL.toArray) :
    (∃ (v : Option Value) (vm₁ : Vm) (B : Pt), s.WarmedH vm₁ ∧ Stand p l e R s m args below meth c B.U B.locs B.cells B.slots ∧ Post ⟨T.setVm vm₁, locs, cells, slots⟩ argsL.toArray v B ∧
      ∀ target, Steps p.tables e below (B.U.setTop { g with pc := g.pc + 3, stack := v.toList ++ rest }) target → Steps p.tables e below (T.setTop g) target) ∨
    (∃ (q : Addr) (vm₁ : Vm) (B : Pt), s.WarmedH vm₁ ∧ Stand p l e R s m args below meth c B.U B.locs B.cells B.slots ∧ PostX ⟨T.setVm vm₁, locs, cells, slots⟩ argsL.toArray q B ∧
      Steps p.tables e below (T.setTop g) ((B.U.setTop { g with stack := rest }).pushFrame (.throwing q))) := by
  obtain ⟨mk, methM, cM, hnamed, hmethM, -, -, -, -, -, -, hsigM⟩ := Cond.codeWith_spec hcode
  have hstatic : methM.isStatic = true := Cond.static_spec hnamed hmethM hstat
  obtain ⟨kP, hkP, -⟩ := className_of_methodNamed hnamed
  have hinitP : kP.init = .initialized := Cond.initialized_spec (findClass_of_methodNamed hnamed) hkP hinit
  obtain ⟨vm₁, X₁, hstep₁⟩ := X.invokestatic hexec hown hlink hnamed hmethM hstatic hkP hinitP hy (g := g) hg (argsL := argsL) (rest := rest) (hlen _ hsigM) hstack hdg
  rcases hK m meth c ⟨T.setVm vm₁, locs, cells, slots⟩ { g with stack := rest } (.invokestatic index) mk argsL.toArray X₁ hg hsize hdg hW (X₁.named hnamed) (hpre vm₁ X₁.warmed) with ⟨v, B, X', hpost, hsteps⟩ | ⟨q, B, X', hpost, hsteps⟩
  · exact Or.inl ⟨v, vm₁, B, X₁.warmed, X', hpost, fun target h => hstep₁ _ fun acts => by rw [doInvoke_state]; exact hsteps.trans h⟩
  · exact Or.inr ⟨q, vm₁, B, X₁.warmed, X', hpost, hstep₁ _ fun acts => by rw [doInvoke_state]; exact hsteps⟩
theorem vx_callVW (X : Stand p l e R s m args below meth c T locs cells slots) (hexec : p.tables.exec = Jvm.exec) {own C : String} {index : Nat} {y : MethodName} {bytes : ByteArray} {maxL : Nat} {ret : Option FieldType} {hh : List (Nat × Nat × Nat × Nat)}
    (hown : s.vm.findClass own = some m.cls) (hlink : (Cond.methodLink own index y).before args s = true) (hinst : (Cond.instanceMethod y).before args s = true) (hsel : (Cond.selects C y y).before args s = true)
    (hcode : (Cond.codeWith y bytes maxL ret hh).before args s = true) (hy : y.cls ≠ "java/lang/invoke/MethodHandle" ∧ y.cls ≠ "java/lang/invoke/VarHandle")
    {W9 : Nat} {Pre : Pt → Array Value → Prop} {Post : Pt → Array Value → Option Value → Pt → Prop} (hK : Back l R p e below s args y 3 W9 Pre Post)
    {b : Addr} {cellB : Cell} (hcell : T.heap[b]? = some cellB) (hobj : cellB.vm.isStatics = false) (hcls : s.vm.findClass C = some cellB.cls)
    {g : JFrame} (hg : g.method = m) (hsize : g.locals.size = c.maxLocals) {argsL rest : List Value} (hlen : ∀ sig, parseMethodDescriptor y.desc = some sig → argsL.length = sig.parameters.length)
    (hstack : g.stack = argsL.reverse ++ .ref b :: rest) (hW : 2 * g.monitorRoom + (rest.map fun v => v.category).sum ≤ W9) (hdg : decode c.code g.pc = .ok (.invokevirtual index, 3))
    (hpre : ∀ vm₁, s.WarmedH vm₁ → Pre ⟨T.setVm vm₁, locs, cells, slots⟩ (Value.ref b :: argsL).toArray) :
    ∃ (v : Option Value) (vm₁ : Vm) (B : Pt), s.WarmedH vm₁ ∧ Stand p l e R s m args below meth c B.U B.locs B.cells B.slots ∧ Post ⟨T.setVm vm₁, locs, cells, slots⟩ (Value.ref b :: argsL).toArray v B ∧
      ∀ target, Steps p.tables e below (B.U.setTop { g with pc := g.pc + 3, stack := v.toList ++ rest }) target → Steps p.tables e below (T.setTop g) target := by
  obtain ⟨mk, methM, hnamed, hmethM, hstM, habM⟩ := Cond.instanceMethod_spec hinst
  obtain ⟨m8, methM', cM, hn8, hmethM', -, -, -, -, -, -, hsigM⟩ := Cond.codeWith_spec hcode
  cases Option.some.inj (hn8.symm.trans hnamed)
  cases hmethM.symm.trans hmethM'
  obtain ⟨c2, r2, m2, q1, q2, q3, q4, kP, hkP, hkPi⟩ := Cond.selects_spec hsel
  cases hcls.symm.trans q1
  cases (State.methodFound?_of_named hnamed hy).symm.trans q2
  cases hnamed.symm.trans q3
  have hselP : selectMethod e.platform s.vm cellB.cls mk = .method mk := by rw [Launch.admits_selectMethod X.admits]; exact q4
  obtain ⟨vm₁, X₁, hstep₁⟩ := X.invokevirtual hexec hown hlink hnamed hmethM hstM hkP hkPi hy (a := b) (cell := cellB) hcell
    (fun z h => by rw [h] at hobj; cases hobj) hselP hmethM habM hkP hkPi (g := g) hg (argsL := argsL) (rest := rest) (hlen _ hsigM) hstack hdg
  obtain ⟨v, B, X', hpost, hsteps⟩ := hK m meth c ⟨T.setVm vm₁, locs, cells, slots⟩ { g with stack := rest } (.invokevirtual index) mk (Value.ref b :: argsL).toArray X₁ hg hsize hdg hW (X₁.named hnamed) (hpre vm₁ X₁.warmed)
  exact ⟨v, vm₁, B, X₁.warmed, X', hpost, fun target h => hstep₁ _ fun acts => by rw [doInvoke_state]; exact hsteps.trans h⟩
abbrev vx_CVW (R : Room) (s : State) (args : Array Value) (own C : String) (index : Nat) (y : MethodName) (bytes : ByteArray) (maxL : Nat) (ret : Option FieldType) (hh : List (Nat × Nat × Nat × Nat)) (ws : List Cond) (rm : Room) (mc ms n : Nat) : Prop :=
  (rm.cells = mc ∧ rm.slots = ms ∧ rm.frames + 1 ≤ R.frames ∧ 8 + (maxL + 11) + rm.locals ≤ R.locals ∧ (∀ w ∈ ws, ∀ (a' : Array Value) (U : State), s.WarmedH U.vm → w.before a' U = true) ∧ Cond.codeWith y bytes maxL ret hh ∈ ws) ∧
  (Cond.codeWith y bytes maxL ret hh).before args s = true ∧ (Cond.initialized y.cls).before args s = true ∧ (y.cls ≠ "java/lang/invoke/MethodHandle" ∧ y.cls ≠ "java/lang/invoke/VarHandle") ∧
  (∀ sig, parseMethodDescriptor y.desc = some sig → n = sig.parameters.length) ∧ (Cond.methodLink own index y).before args s = true ∧ (Cond.instanceMethod y).before args s = true ∧ (Cond.selects C y y).before args s = true
theorem vx_cwVW {own C : String} {index maxL mc ms : Nat} {y : MethodName} {bytes : ByteArray} {ret : Option FieldType} {hh : List (Nat × Nat × Nat × Nat)} {Ts ws ws' : List Cond} {rm : Room} (n : Nat) (ht : ∀ w ∈ Ts, w.before args s = true) (hT : GoodIn Ts (wsV own index C y ws)) (hw : ws = Cond.codeWith y bytes maxL ret hh :: ws') (hrc : rm.cells = mc) (hrs : rm.slots = ms)
    (hd : y.cls = C ∧ y.cls ≠ "java/lang/invoke/MethodHandle" ∧ y.cls ≠ "java/lang/invoke/VarHandle" ∧ (parseMethodDescriptor y.desc).map (fun d => d.parameters.length) = some n) (hR : rm.frames + 1 ≤ R.frames ∧ 8 + (maxL + 11) + rm.locals ≤ R.locals) :
    vx_CVW R s args own C index y bytes maxL ret hh ws rm mc ms n := by
  obtain ⟨hC, hd⟩ := hd
  subst hC
  have ok : ∀ w ∈ wsV own index y.cls y ws, w.before args s = true := fun w h => ht w (hT w h).1
  have hG : GoodIn Ts ws := fun w h => hT w (by unfold wsV; exact List.mem_append_right _ h)
  have hc : Cond.codeWith y bytes maxL ret hh ∈ ws := by rw [hw]; exact List.mem_cons_self
  refine ⟨⟨hrc, hrs, hR.1, hR.2, pay_in ht hG, hc⟩, ht _ (hG _ hc).1, ok _ (by simp [wsV]), ⟨hd.1, hd.2.1⟩, fun sig h => ?_, ok _ (by simp [wsV]), ok _ (by simp [wsV]), ok _ (by simp [wsV])⟩
  have h2 := hd.2.2
  rw [h] at h2
  exact (Option.some.inj h2).symm
theorem vx_runVW {y : MethodName} {bytes cc : ByteArray} {maxL nL mc ms n index : Nat} {ret : Option FieldType} {hh : List (Nat × Nat × Nat × Nat)} {ws : List Cond} {rm : Room} {Pc : Array Value → State → Prop} {Qc : Array Value → State → Outcome → State → Prop} {free : Addr → Prop} {Ts : List Cond} {own C : String} {b : Addr} {As rest : List Value} {g : JFrame}
    (S : CallFix p m c cc nL s args Ts own) (hM : Met l y ws rm Pc Qc mc ms free) (cw : vx_CVW R s args own C index y bytes maxL ret hh ws rm mc ms n) (hp : PreV s H C b Pc As)
    (hg : g.method = m) (hn : As.length = n) (hsize : g.locals.size = nL) (hstack : g.stack = As.reverse ++ .ref b :: rest) (hW : 2 * g.monitorRoom + (rest.map fun v => v.category).sum ≤ 8) (hdg : decode cc g.pc = .ok (.invokevirtual index, 3)) (hf : cells + mc ≤ R.cells ∧ slots + ms ≤ R.slots) :
    va_Run p l e R s m args below meth c H locs cells slots mc ms g rest (Qc (Value.ref b :: As).toArray) free := by
  obtain ⟨⟨hrc, hrs, hfr, hlo, hws, hcw⟩, hcode, hini, hy, hlen, hl, hin, hse⟩ := cw
  have hK : Back l R p e below s args y 3 8 (PreOf R mc ms Pc) (PostOf Qc mc ms free) := va_backW (hh := hh) (bytes := bytes) (maxL := maxL) (ret := ret) hM hp.1 hrc hrs hfr hlo hws hcw (fun a' U hW => word_at hW (Or.inl (by first | rfl | simp [Cond.onTables, Cond.keeps, Cond.steady])) hini)
  obtain ⟨hx, hb, hml, ho, -⟩ := S
  obtain ⟨-, ⟨cellB, hcB, hoB, hclB⟩, hPc⟩ := hp
  intro T hT X
  obtain ⟨v, vm₁, ⟨U', l2, c2, s2⟩, hW₁, X', ⟨g', mk, t, L, e1, e2, hq, h1, hL, h2, h3⟩, st⟩ := vx_callVW X hx (C := C) (hh := hh) (bytes := bytes) (maxL := maxL) (ret := ret) ho hl hin hse hcode hy hK (by rw [hT]; exact hcB) hoB hclB hg (hsize.trans hml.symm) (argsL := As) (rest := rest) (fun sig h => hn.trans (hlen sig h)) hstack hW (by rw [hb]; exact hdg)
    (fun vm₁ hW₁ => ⟨hf.1, hf.2, hPc (T.setVm vm₁) hT hW₁⟩)
  dsimp only [Pt.U, Pt.locs, Pt.cells, Pt.slots] at X' e1 e2 h1 h2 h3 st
  subst h1; subst h2; subst h3
  exact ⟨v, (T.setVm vm₁).calling g' mk (Value.ref b :: As).toArray, t, U', L, hT, X', hL, e1, e2, hq, st⟩
section
variable {y : MethodName} {bytes cc : ByteArray} {maxL nL mc ms n index : Nat} {ret : Option FieldType} {ws : List Cond} {rm : Room} {Pc : Array Value → State → Prop} {Qc : Array Value → State → Outcome → State → Prop} {XC : String → State → State → Prop} {free : Addr → Prop} {Ts : List Cond} {own C : String} {b : Addr} {As rest : List Value} {g : JFrame}
theorem vx_runVX {hh : List (Nat × Nat × Nat × Nat)} (S : CallFix p m c cc nL s args Ts own) (hM : vx_Met l y ws rm Pc Qc XC mc ms free) (cw : vx_CVW R s args own C index y bytes maxL ret hh ws rm mc ms n) (hp : PreV s H C b Pc As)
    (hg : g.method = m) (hn : As.length = n) (hsize : g.locals.size = nL) (hstack : g.stack = As.reverse ++ .ref b :: rest) (hW : 2 * g.monitorRoom + (rest.map fun v => v.category).sum ≤ 8) (hdg : decode cc g.pc = .ok (.invokevirtual index, 3)) (hf : cells + mc ≤ R.cells ∧ slots + ms ≤ R.slots) :
    vx_Run p l e R s m args below meth c H locs cells slots mc ms g rest (Qc (Value.ref b :: As).toArray) XC free := by
  obtain ⟨⟨hrc, hrs, hfr, hlo, hws, hcw⟩, hcode, hini, hy, hlen, hl, hin, hse⟩ := cw
  have hK : vx_Back l R p e below s args y 3 8 (PreOf R mc ms Pc) (PostOf Qc mc ms free) (vx_Post XC mc ms free) := vx_backW (hh := hh) (bytes := bytes) (maxL := maxL) (ret := ret) hM hp.1 hrc hrs hfr hlo hws hcw (fun a' U hW => word_at hW (Or.inl (by first | rfl | simp [Cond.onTables, Cond.keeps, Cond.steady])) hini)
  obtain ⟨hx, hb, hml, ho, -⟩ := S
  obtain ⟨-, ⟨cellB, hcB, hoB, hclB⟩, hPc⟩ := hp
  intro T hT X
  rcases vx_callVX X hx (C := C) (hh := hh) (bytes := bytes) (maxL := maxL) (ret := ret) ho hl hin hse hcode hy hK (by rw [hT]; exact hcB) hoB hclB hg (hsize.trans hml.symm) (argsL := As) (rest := rest) (fun sig h => hn.trans (hlen sig h)) hstack hW (by rw [hb]; exact hdg)
    (fun vm₁ hW₁ => ⟨hf.1, hf.2, hPc (T.setVm vm₁) hT hW₁⟩) with ⟨v, vm₁, ⟨U', l2, c2, s2⟩, hW₁, X', ⟨g', mk, t, L, e1, e2, hq, h1, hL, h2, h3⟩, st⟩ | ⟨q, vm₁, ⟨U', l2, c2, s2⟩, hW₁, X', ⟨g', mk, t, L, E, ce, e1, e2, hq, hce, hcv, hcl, h1, hL, h2, h3⟩, st⟩
  · dsimp only [Pt.U, Pt.locs, Pt.cells, Pt.slots] at X' e1 e2 h1 h2 h3 st
    subst h1; subst h2; subst h3
    exact Or.inl ⟨v, (T.setVm vm₁).calling g' mk (Value.ref b :: As).toArray, t, U', L, hT, X', hL, e1, e2, hq, st⟩
  · dsimp only [Pt.U, Pt.locs, Pt.cells, Pt.slots] at X' e1 e2 h1 h2 h3 st hcl
    subst h1; subst h2; subst h3
    exact Or.inr ⟨q, (T.setVm vm₁).calling g' mk (Value.ref b :: As).toArray, t, U', L, E, ce, hT, X', hL, e1, e2, hq, hce, hcv, vx_cls hW₁ hcl, st⟩
theorem vx_runSX {hh : List (Nat × Nat × Nat × Nat)} (S : CallFix p m c cc nL s args Ts own) (hM : vx_Met l y ws rm Pc Qc XC mc ms free) (cw : vx_CSW R s args own index y bytes maxL ret hh ws rm mc ms n) (hp : PreS s H Pc As)
    (hg : g.method = m) (hn : As.length = n) (hsize : g.locals.size = nL) (hstack : g.stack = As.reverse ++ rest) (hW : 2 * g.monitorRoom + (rest.map fun v => v.category).sum ≤ 8) (hdg : decode cc g.pc = .ok (.invokestatic index, 3)) (hf : cells + mc ≤ R.cells ∧ slots + ms ≤ R.slots) :
    vx_Run p l e R s m args below meth c H locs cells slots mc ms g rest (Qc As.toArray) XC free := by
  obtain ⟨⟨hrc, hrs, hfr, hlo, hws, hcw⟩, hcode, hini, hy, hlen, hl, hstt⟩ := cw
  have hK : vx_Back l R p e below s args y 3 8 (PreOf R mc ms Pc) (PostOf Qc mc ms free) (vx_Post XC mc ms free) := vx_backW (hh := hh) (bytes := bytes) (maxL := maxL) (ret := ret) hM hp.1 hrc hrs hfr hlo hws hcw (fun a' U hW => word_at hW (Or.inl (by first | rfl | simp [Cond.onTables, Cond.keeps, Cond.steady])) hini)
  obtain ⟨hx, hb, hml, ho, -⟩ := S
  intro T hT X
  rcases vx_callSX X hx (hh := hh) (bytes := bytes) (maxL := maxL) (ret := ret) ho hl hstt hini hcode hy hK hg (hsize.trans hml.symm) (argsL := As) (rest := rest) (fun sig h => hn.trans (hlen sig h)) hstack hW (by rw [hb]; exact hdg)
    (fun vm₁ hW₁ => ⟨hf.1, hf.2, hp.2 (T.setVm vm₁) hT hW₁⟩) with ⟨v, vm₁, ⟨U', l2, c2, s2⟩, hW₁, X', ⟨g', mk, t, L, e1, e2, hq, h1, hL, h2, h3⟩, st⟩ | ⟨q, vm₁, ⟨U', l2, c2, s2⟩, hW₁, X', ⟨g', mk, t, L, E, ce, e1, e2, hq, hce, hcv, hcl, h1, hL, h2, h3⟩, st⟩
  · dsimp only [Pt.U, Pt.locs, Pt.cells, Pt.slots] at X' e1 e2 h1 h2 h3 st
    subst h1; subst h2; subst h3
    exact Or.inl ⟨v, (T.setVm vm₁).calling g' mk As.toArray, t, U', L, hT, X', hL, e1, e2, hq, st⟩
  · dsimp only [Pt.U, Pt.locs, Pt.cells, Pt.slots] at X' e1 e2 h1 h2 h3 st hcl
    subst h1; subst h2; subst h3
    exact Or.inr ⟨q, (T.setVm vm₁).calling g' mk As.toArray, t, U', L, E, ce, hT, X', hL, e1, e2, hq, hce, hcv, vx_cls hW₁ hcl, st⟩
end
end VXH
theorem vx_ofWH {l : Launch} {y : MethodName} {ws ws' : List Cond} {rm : Room} {Pc : Array Value → State → Prop} {Qc : Array Value → State → Outcome → State → Prop} {XC : String → State → State → Prop} {mc ms : Nat} {free : Addr → Prop} {cc : ByteArray} {maxL : Nat} {ret : Option FieldType} {hh : List (Nat × Nat × Nat × Nat)}
    (hy : plainName y.cls = true) (hw : ws = Cond.codeWith y cc maxL ret hh :: ws')
    (body : ∀ p e s m args below meth c s₁, BodyLoose p l y (headSpec ws rm) cc maxL ret e s m args below meth c s₁ → c.maxLocals = maxL → Pc args s →
      W p l e (headSpec ws rm).room s m args below meth c s.heap [] 0 0 (vx_MQ below Qc XC args s mc ms free) (entryFrame m args maxL)) : vx_Met l y ws rm Pc Qc XC mc ms free := by
  refine MetFree.of_bodyS (code := cc) (maxLocals := maxL) (ret := ret) hy ?_ ?_
  · intro args s m h hn
    obtain ⟨m9, meth, c, hn9, h1, h2, h3, h4, -, h5, h6, -⟩ := Cond.codeWith_spec (atoms_spec (ws := ws) h _ (by rw [hw]; exact List.mem_cons_self))
    cases hn.symm.trans hn9
    exact ⟨meth, c, h1, h2, h3, h4, h5, h6⟩
  · intro p e s m args below meth c s₁ B hml hP _
    have hh0 : s₁.heap = s.heap := by rw [B.state]; rfl
    obtain ⟨t, a1, o, b1, b2, b3⟩ := body p e s m args below meth c s₁ B hml hP s₁ hh0 (Stand.of_body B)
    exact ⟨t, o, a1, b1, b2, b3⟩
/-! ===== END ===== -/
end
section
/-! names: classes, their fields in the order of the slots, methods (printed by wip/whole/gennames.py) -/
def T_AL : u_T := fun k => match k with
  | 0 => ("java/util/AbstractList", "modCount", "I", false)
  | 1 => ("java/util/ArrayList", "elementData", "[Ljava/lang/Object;", false)
  | _ => ("java/util/ArrayList", "size", "I", false)
def ty_AL : Nat → FieldType := fun k => match k with
  | 0 => .int
  | 1 => .array (.object "java/lang/Object")
  | _ => .int
theorem nm_AL : ∀ a, a < 3 → ∀ b, b < 3 → a ≠ b → (T_AL a).2.1 ≠ (T_AL b).2.1 := by decide +kernel
theorem tk_AL : ∀ k, k < 3 → parseFieldDescriptor (T_AL k).2.2.1 = some (ty_AL k) := by decide +kernel
def T_D : u_T := fun k => match k with
  | 0 => ("WaltzHall$Dance", "number", "I", true)
  | 1 => ("WaltzHall$Dance", "figures", "[B", true)
  | _ => ("WaltzHall$Dance", "length", "I", false)
def ty_D : Nat → FieldType := fun k => match k with
  | 0 => .int
  | 1 => .array .byte
  | _ => .int
theorem nm_D : ∀ a, a < 3 → ∀ b, b < 3 → a ≠ b → (T_D a).2.1 ≠ (T_D b).2.1 := by decide +kernel
theorem tk_D : ∀ k, k < 3 → parseFieldDescriptor (T_D k).2.2.1 = some (ty_D k) := by decide +kernel
def T_R : u_T := fun k => match k with
  | 0 => ("WaltzHall$Dancer", "number", "I", true)
  | 1 => ("WaltzHall$Dancer", "x", "I", false)
  | 2 => ("WaltzHall$Dancer", "y", "I", false)
  | 3 => ("WaltzHall$Dancer", "face", "I", false)
  | 4 => ("WaltzHall$Dancer", "spring", "I", false)
  | 5 => ("WaltzHall$Dancer", "cost", "I", false)
  | 6 => ("WaltzHall$Dancer", "dance", "LWaltzHall$Dance;", false)
  | 7 => ("WaltzHall$Dancer", "place", "I", false)
  | 8 => ("WaltzHall$Dancer", "partner", "LWaltzHall$Dancer;", false)
  | 9 => ("WaltzHall$Dancer", "follows", "Z", false)
  | 10 => ("WaltzHall$Dancer", "dizzy", "I", false)
  | 11 => ("WaltzHall$Dancer", "figuresDone", "I", false)
  | 12 => ("WaltzHall$Dancer", "bumps", "I", false)
  | 13 => ("WaltzHall$Dancer", "goalX", "I", false)
  | _ => ("WaltzHall$Dancer", "goalY", "I", false)
def ty_R : Nat → FieldType := fun k => match k with
  | 0 => .int
  | 1 => .int
  | 2 => .int
  | 3 => .int
  | 4 => .int
  | 5 => .int
  | 6 => .object "WaltzHall$Dance"
  | 7 => .int
  | 8 => .object "WaltzHall$Dancer"
  | 9 => .boolean
  | 10 => .int
  | 11 => .int
  | 12 => .int
  | 13 => .int
  | _ => .int
theorem nm_R : ∀ a, a < 15 → ∀ b, b < 15 → a ≠ b → (T_R a).2.1 ≠ (T_R b).2.1 := by decide +kernel
theorem tk_R : ∀ k, k < 15 → parseFieldDescriptor (T_R k).2.2.1 = some (ty_R k) := by decide +kernel
def T_F : u_T := fun k => match k with
  | 0 => ("WaltzHall$Floor", "dancers", "Ljava/util/ArrayList;", true)
  | 1 => ("WaltzHall$Floor", "winders", "Ljava/util/ArrayList;", true)
  | _ => ("WaltzHall$Floor", "beat", "I", false)
def ty_F : Nat → FieldType := fun k => match k with
  | 0 => .object "java/util/ArrayList"
  | 1 => .object "java/util/ArrayList"
  | _ => .int
theorem nm_F : ∀ a, a < 3 → ∀ b, b < 3 → a ≠ b → (T_F a).2.1 ≠ (T_F b).2.1 := by decide +kernel
theorem tk_F : ∀ k, k < 3 → parseFieldDescriptor (T_F k).2.2.1 = some (ty_F k) := by decide +kernel
def T_T : u_T := fun k => match k with
  | 0 => ("WaltzHall$Tape", "bytes", "[B", true)
  | _ => ("WaltzHall$Tape", "length", "I", false)
def ty_T : Nat → FieldType := fun k => match k with
  | 0 => .array .byte
  | _ => .int
theorem nm_T : ∀ a, a < 2 → ∀ b, b < 2 → a ≠ b → (T_T a).2.1 ≠ (T_T b).2.1 := by decide +kernel
theorem tk_T : ∀ k, k < 2 → parseFieldDescriptor (T_T k).2.2.1 = some (ty_T k) := by decide +kernel
def T_N : u_T := fun k => match k with
  | 0 => ("WaltzHall$Winder", "x", "I", false)
  | 1 => ("WaltzHall$Winder", "y", "I", false)
  | 2 => ("WaltzHall$Winder", "strength", "I", false)
  | 3 => ("WaltzHall$Winder", "round", "[I", true)
  | 4 => ("WaltzHall$Winder", "roundLength", "I", false)
  | 5 => ("WaltzHall$Winder", "turn", "I", false)
  | _ => ("WaltzHall$Winder", "windings", "I", false)
def ty_N : Nat → FieldType := fun k => match k with
  | 0 => .int
  | 1 => .int
  | 2 => .int
  | 3 => .array .int
  | 4 => .int
  | 5 => .int
  | _ => .int
theorem nm_N : ∀ a, a < 7 → ∀ b, b < 7 → a ≠ b → (T_N a).2.1 ≠ (T_N b).2.1 := by decide +kernel
theorem tk_N : ∀ k, k < 7 → parseFieldDescriptor (T_N k).2.2.1 = some (ty_N k) := by decide +kernel
def T_H : u_T := fun k => match k with
  | 0 => ("WaltzHall", "tape", "LWaltzHall$Tape;", true)
  | 1 => ("WaltzHall", "dances", "Ljava/util/ArrayList;", true)
  | 2 => ("WaltzHall", "firstDance", "LWaltzHall$Dance;", true)
  | 3 => ("WaltzHall", "now", "LWaltzHall$Floor;", true)
  | _ => ("WaltzHall", "ahead", "LWaltzHall$Floor;", true)
def ty_H : Nat → FieldType := fun k => match k with
  | 0 => .object "WaltzHall$Tape"
  | 1 => .object "java/util/ArrayList"
  | 2 => .object "WaltzHall$Dance"
  | 3 => .object "WaltzHall$Floor"
  | _ => .object "WaltzHall$Floor"
theorem nm_H : ∀ a, a < 5 → ∀ b, b < 5 → a ≠ b → (T_H a).2.1 ≠ (T_H b).2.1 := by decide +kernel
theorem tk_H : ∀ k, k < 5 → parseFieldDescriptor (T_H k).2.2.1 = some (ty_H k) := by decide +kernel
def T_S : u_T := fun k => match k with
  | 0 => ("WaltzHallModel$State", "beat", "I", false)
  | 1 => ("WaltzHallModel$State", "dancers", "I", false)
  | 2 => ("WaltzHallModel$State", "x", "[I", true)
  | 3 => ("WaltzHallModel$State", "y", "[I", true)
  | 4 => ("WaltzHallModel$State", "face", "[I", true)
  | 5 => ("WaltzHallModel$State", "spring", "[I", true)
  | 6 => ("WaltzHallModel$State", "cost", "[I", true)
  | 7 => ("WaltzHallModel$State", "dance", "[I", true)
  | 8 => ("WaltzHallModel$State", "place", "[I", true)
  | 9 => ("WaltzHallModel$State", "partner", "[I", true)
  | 10 => ("WaltzHallModel$State", "follows", "[Z", true)
  | 11 => ("WaltzHallModel$State", "dizzy", "[I", true)
  | 12 => ("WaltzHallModel$State", "done", "[I", true)
  | 13 => ("WaltzHallModel$State", "bumps", "[I", true)
  | 14 => ("WaltzHallModel$State", "winders", "I", false)
  | 15 => ("WaltzHallModel$State", "winder", "[I", true)
  | 16 => ("WaltzHallModel$State", "round", "[I", true)
  | _ => ("WaltzHallModel$State", "this$0", "LWaltzHallModel;", true)
def ty_S : Nat → FieldType := fun k => match k with
  | 0 => .int
  | 1 => .int
  | 2 => .array .int
  | 3 => .array .int
  | 4 => .array .int
  | 5 => .array .int
  | 6 => .array .int
  | 7 => .array .int
  | 8 => .array .int
  | 9 => .array .int
  | 10 => .array .boolean
  | 11 => .array .int
  | 12 => .array .int
  | 13 => .array .int
  | 14 => .int
  | 15 => .array .int
  | 16 => .array .int
  | _ => .object "WaltzHallModel"
theorem nm_S : ∀ a, a < 18 → ∀ b, b < 18 → a ≠ b → (T_S a).2.1 ≠ (T_S b).2.1 := by decide +kernel
theorem tk_S : ∀ k, k < 18 → parseFieldDescriptor (T_S k).2.2.1 = some (ty_S k) := by decide +kernel
def T_M : u_T := fun k => match k with
  | 0 => ("WaltzHallModel", "thrown", "I", false)
  | 1 => ("WaltzHallModel", "tape", "[I", true)
  | 2 => ("WaltzHallModel", "taped", "I", false)
  | 3 => ("WaltzHallModel", "figures", "[I", true)
  | 4 => ("WaltzHallModel", "lengths", "[I", true)
  | 5 => ("WaltzHallModel", "s", "LWaltzHallModel$State;", true)
  | _ => ("WaltzHallModel", "ahead", "LWaltzHallModel$State;", true)
def ty_M : Nat → FieldType := fun k => match k with
  | 0 => .int
  | 1 => .array .int
  | 2 => .int
  | 3 => .array .int
  | 4 => .array .int
  | 5 => .object "WaltzHallModel$State"
  | _ => .object "WaltzHallModel$State"
theorem nm_M : ∀ a, a < 7 → ∀ b, b < 7 → a ≠ b → (T_M a).2.1 ≠ (T_M b).2.1 := by decide +kernel
theorem tk_M : ∀ k, k < 7 → parseFieldDescriptor (T_M k).2.2.1 = some (ty_M k) := by decide +kernel
abbrev gCl : List vw_C := [("java/util/ArrayList", T_AL, 3), ("WaltzHall$Dance", T_D, 3), ("WaltzHall$Dancer", T_R, 15), ("WaltzHall$Floor", T_F, 3), ("WaltzHall$Tape", T_T, 2), ("WaltzHall$Winder", T_N, 7), ("WaltzHall", T_H, 5), ("WaltzHallModel$State", T_S, 18), ("WaltzHallModel", T_M, 7)]
def y_D_init : MethodName := ⟨"WaltzHall$Dance", "<init>", "(ILjava/lang/String;)V"⟩
abbrev c_D_init : ByteArray := prog_2_method_1_code
def y_D_takeFrom : MethodName := ⟨"WaltzHall$Dance", "takeFrom", "(LWaltzHall$Tape;)Z"⟩
abbrev c_D_takeFrom : ByteArray := prog_2_method_2_code
def y_D_figureAt : MethodName := ⟨"WaltzHall$Dance", "figureAt", "(I)I"⟩
abbrev c_D_figureAt : ByteArray := prog_2_method_3_code
def y_D_placeBehind : MethodName := ⟨"WaltzHall$Dance", "placeBehind", "(I)I"⟩
abbrev c_D_placeBehind : ByteArray := prog_2_method_4_code
def y_D_driftOf : MethodName := ⟨"WaltzHall$Dance", "driftOf", "(I)I"⟩
abbrev c_D_driftOf : ByteArray := prog_2_method_5_code
def y_D_roundsToStart : MethodName := ⟨"WaltzHall$Dance", "roundsToStart", "(III)I"⟩
abbrev c_D_roundsToStart : ByteArray := prog_2_method_6_code
def y_D_digestFrom : MethodName := ⟨"WaltzHall$Dance", "digestFrom", "(J)J"⟩
abbrev c_D_digestFrom : ByteArray := prog_2_method_7_code
def y_R_init : MethodName := ⟨"WaltzHall$Dancer", "<init>", "(ILWaltzHall$Dance;)V"⟩
abbrev c_R_init : ByteArray := prog_3_method_1_code
def y_R_becomeLike : MethodName := ⟨"WaltzHall$Dancer", "becomeLike", "(LWaltzHall$Dancer;)V"⟩
abbrev c_R_becomeLike : ByteArray := prog_3_method_2_code
def y_R_standAlone : MethodName := ⟨"WaltzHall$Dancer", "standAlone", "()V"⟩
abbrev c_R_standAlone : ByteArray := prog_3_method_3_code
def y_R_isBeside : MethodName := ⟨"WaltzHall$Dancer", "isBeside", "(LWaltzHall$Dancer;)Z"⟩
abbrev c_R_isBeside : ByteArray := prog_3_method_4_code
def y_R_isSpent : MethodName := ⟨"WaltzHall$Dancer", "isSpent", "()Z"⟩
abbrev c_R_isSpent : ByteArray := prog_3_method_5_code
def y_R_canDance : MethodName := ⟨"WaltzHall$Dancer", "canDance", "()Z"⟩
abbrev c_R_canDance : ByteArray := prog_3_method_6_code
def y_R_windBy : MethodName := ⟨"WaltzHall$Dancer", "windBy", "(I)V"⟩
abbrev c_R_windBy : ByteArray := prog_3_method_7_code
def y_R_aimAt : MethodName := ⟨"WaltzHall$Dancer", "aimAt", "(II)V"⟩
abbrev c_R_aimAt : ByteArray := prog_3_method_8_code
def y_R_aimFrom : MethodName := ⟨"WaltzHall$Dancer", "aimFrom", "(III)V"⟩
abbrev c_R_aimFrom : ByteArray := prog_3_method_9_code
def y_R_aimsOffFloor : MethodName := ⟨"WaltzHall$Dancer", "aimsOffFloor", "()Z"⟩
abbrev c_R_aimsOffFloor : ByteArray := prog_3_method_10_code
def y_R_goAndTurn : MethodName := ⟨"WaltzHall$Dancer", "goAndTurn", "(I)V"⟩
abbrev c_R_goAndTurn : ByteArray := prog_3_method_11_code
def y_R_stagger : MethodName := ⟨"WaltzHall$Dancer", "stagger", "()V"⟩
abbrev c_R_stagger : ByteArray := prog_3_method_12_code
def y_R_directionTo : MethodName := ⟨"WaltzHall$Dancer", "directionTo", "(LWaltzHall$Dancer;)I"⟩
abbrev c_R_directionTo : ByteArray := prog_3_method_13_code
def y_R_tell : MethodName := ⟨"WaltzHall$Dancer", "tell", "(I)I"⟩
abbrev c_R_tell : ByteArray := prog_3_method_14_code
def y_F_init : MethodName := ⟨"WaltzHall$Floor", "<init>", "()V"⟩
abbrev c_F_init : ByteArray := prog_4_method_1_code
def y_F_dancerOrNull : MethodName := ⟨"WaltzHall$Floor", "dancerOrNull", "(I)LWaltzHall$Dancer;"⟩
abbrev c_F_dancerOrNull : ByteArray := prog_4_method_2_code
def y_F_whoIsAt : MethodName := ⟨"WaltzHall$Floor", "whoIsAt", "(II)LWaltzHall$Dancer;"⟩
abbrev c_F_whoIsAt : ByteArray := prog_4_method_3_code
def y_F_areBeside : MethodName := ⟨"WaltzHall$Floor", "areBeside", "(II)Z"⟩
abbrev c_F_areBeside : ByteArray := prog_4_method_4_code
def y_F_restartBehindTheEndOf : MethodName := ⟨"WaltzHall$Floor", "restartBehindTheEndOf", "(LWaltzHall$Dance;)V"⟩
abbrev c_F_restartBehindTheEndOf : ByteArray := prog_4_method_5_code
def y_F_becomeLike : MethodName := ⟨"WaltzHall$Floor", "becomeLike", "(LWaltzHall$Floor;)V"⟩
abbrev c_F_becomeLike : ByteArray := prog_4_method_6_code
def y_F_playBeat : MethodName := ⟨"WaltzHall$Floor", "playBeat", "()I"⟩
abbrev c_F_playBeat : ByteArray := prog_4_method_7_code
def y_F_mayPerform : MethodName := ⟨"WaltzHall$Floor", "mayPerform", "(LWaltzHall$Dancer;)Z"⟩
abbrev c_F_mayPerform : ByteArray := prog_4_method_8_code
def y_F_perform : MethodName := ⟨"WaltzHall$Floor", "perform", "(LWaltzHall$Dancer;)I"⟩
abbrev c_F_perform : ByteArray := prog_4_method_9_code
def y_F_aim : MethodName := ⟨"WaltzHall$Floor", "aim", "(LWaltzHall$Dancer;I)V"⟩
abbrev c_F_aim : ByteArray := prog_4_method_10_code
def y_F_whoIsInTheWayOf : MethodName := ⟨"WaltzHall$Floor", "whoIsInTheWayOf", "(LWaltzHall$Dancer;)LWaltzHall$Dancer;"⟩
abbrev c_F_whoIsInTheWayOf : ByteArray := prog_4_method_11_code
def y_F_bump : MethodName := ⟨"WaltzHall$Floor", "bump", "(LWaltzHall$Dancer;)I"⟩
abbrev c_F_bump : ByteArray := prog_4_method_12_code
def y_F_firstSpentUnlike : MethodName := ⟨"WaltzHall$Floor", "firstSpentUnlike", "(LWaltzHall$Floor;)I"⟩
abbrev c_F_firstSpentUnlike : ByteArray := prog_4_method_13_code
def y_F_sumOf : MethodName := ⟨"WaltzHall$Floor", "sumOf", "(I)I"⟩
abbrev c_F_sumOf : ByteArray := prog_4_method_14_code
def y_F_dizzyOnes : MethodName := ⟨"WaltzHall$Floor", "dizzyOnes", "()I"⟩
abbrev c_F_dizzyOnes : ByteArray := prog_4_method_15_code
def y_F_spentOnes : MethodName := ⟨"WaltzHall$Floor", "spentOnes", "()I"⟩
abbrev c_F_spentOnes : ByteArray := prog_4_method_16_code
def y_F_tell : MethodName := ⟨"WaltzHall$Floor", "tell", "(I)I"⟩
abbrev c_F_tell : ByteArray := prog_4_method_17_code
def y_T_init : MethodName := ⟨"WaltzHall$Tape", "<init>", "()V"⟩
abbrev c_T_init : ByteArray := prog_5_method_1_code
def y_T_bytesLeft : MethodName := ⟨"WaltzHall$Tape", "bytesLeft", "()I"⟩
abbrev c_T_bytesLeft : ByteArray := prog_5_method_2_code
def y_T_append : MethodName := ⟨"WaltzHall$Tape", "append", "(I)V"⟩
abbrev c_T_append : ByteArray := prog_5_method_3_code
def y_T_isDance : MethodName := ⟨"WaltzHall$Tape", "isDance", "()Z"⟩
abbrev c_T_isDance : ByteArray := prog_5_method_4_code
def y_N_init : MethodName := ⟨"WaltzHall$Winder", "<init>", "()V"⟩
abbrev c_N_init : ByteArray := prog_6_method_1_code
def y_N_becomeLike : MethodName := ⟨"WaltzHall$Winder", "becomeLike", "(LWaltzHall$Winder;)V"⟩
abbrev c_N_becomeLike : ByteArray := prog_6_method_2_code
def y_N_addToRound : MethodName := ⟨"WaltzHall$Winder", "addToRound", "(I)V"⟩
abbrev c_N_addToRound : ByteArray := prog_6_method_3_code
def y_N_whoseTurn : MethodName := ⟨"WaltzHall$Winder", "whoseTurn", "()I"⟩
abbrev c_N_whoseTurn : ByteArray := prog_6_method_4_code
def y_N_attend : MethodName := ⟨"WaltzHall$Winder", "attend", "(LWaltzHall$Dancer;)V"⟩
abbrev c_N_attend : ByteArray := prog_6_method_5_code
def y_N_passTurn : MethodName := ⟨"WaltzHall$Winder", "passTurn", "()V"⟩
abbrev c_N_passTurn : ByteArray := prog_6_method_6_code
def y_N_tell : MethodName := ⟨"WaltzHall$Winder", "tell", "(I)I"⟩
abbrev c_N_tell : ByteArray := prog_6_method_7_code
def y_H_init : MethodName := ⟨"WaltzHall", "<init>", "()V"⟩
abbrev c_H_init : ByteArray := prog_1_method_1_code
def y_H_feed : MethodName := ⟨"WaltzHall", "feed", "(IIIII)I"⟩
abbrev c_H_feed : ByteArray := prog_1_method_2_code
def y_H_trim : MethodName := ⟨"WaltzHall", "trim", "(I)I"⟩
abbrev c_H_trim : ByteArray := prog_1_method_3_code
def y_H_learn : MethodName := ⟨"WaltzHall", "learn", "(I)I"⟩
abbrev c_H_learn : ByteArray := prog_1_method_4_code
def y_H_figure : MethodName := ⟨"WaltzHall", "figure", "(II)I"⟩
abbrev c_H_figure : ByteArray := prog_1_method_5_code
def y_H_drift : MethodName := ⟨"WaltzHall", "drift", "(II)I"⟩
abbrev c_H_drift : ByteArray := prog_1_method_6_code
def y_H_come : MethodName := ⟨"WaltzHall", "come", "(IIII)I"⟩
abbrev c_H_come : ByteArray := prog_1_method_7_code
def y_H_dance : MethodName := ⟨"WaltzHall", "dance", "(II)I"⟩
abbrev c_H_dance : ByteArray := prog_1_method_8_code
def y_H_pair : MethodName := ⟨"WaltzHall", "pair", "(II)I"⟩
abbrev c_H_pair : ByteArray := prog_1_method_9_code
def y_H_part : MethodName := ⟨"WaltzHall", "part", "(I)I"⟩
abbrev c_H_part : ByteArray := prog_1_method_10_code
def y_H_wind : MethodName := ⟨"WaltzHall", "wind", "(II)I"⟩
abbrev c_H_wind : ByteArray := prog_1_method_11_code
def y_H_dancer : MethodName := ⟨"WaltzHall", "dancer", "(II)I"⟩
abbrev c_H_dancer : ByteArray := prog_1_method_12_code
def y_H_at : MethodName := ⟨"WaltzHall", "at", "(II)I"⟩
abbrev c_H_at : ByteArray := prog_1_method_13_code
def y_H_addWinder : MethodName := ⟨"WaltzHall", "addWinder", "(III)I"⟩
abbrev c_H_addWinder : ByteArray := prog_1_method_14_code
def y_H_call : MethodName := ⟨"WaltzHall", "call", "(II)I"⟩
abbrev c_H_call : ByteArray := prog_1_method_15_code
def y_H_winder : MethodName := ⟨"WaltzHall", "winder", "(II)I"⟩
abbrev c_H_winder : ByteArray := prog_1_method_16_code
def y_H_pass : MethodName := ⟨"WaltzHall", "pass", "(I)I"⟩
abbrev c_H_pass : ByteArray := prog_1_method_17_code
def y_H_count : MethodName := ⟨"WaltzHall", "count", "(I)I"⟩
abbrev c_H_count : ByteArray := prog_1_method_18_code
def y_H_foresee : MethodName := ⟨"WaltzHall", "foresee", "(III)I"⟩
abbrev c_H_foresee : ByteArray := prog_1_method_19_code
def y_H_firstToStop : MethodName := ⟨"WaltzHall", "firstToStop", "(I)I"⟩
abbrev c_H_firstToStop : ByteArray := prog_1_method_20_code
def y_H_meet : MethodName := ⟨"WaltzHall", "meet", "(III)I"⟩
abbrev c_H_meet : ByteArray := prog_1_method_21_code
def y_H_tension : MethodName := ⟨"WaltzHall", "tension", "()D"⟩
abbrev c_H_tension : ByteArray := prog_1_method_22_code
def y_H_digest : MethodName := ⟨"WaltzHall", "digest", "()J"⟩
abbrev c_H_digest : ByteArray := prog_1_method_23_code
def y_H_neededDance : MethodName := ⟨"WaltzHall", "neededDance", "(I)LWaltzHall$Dance;"⟩
abbrev c_H_neededDance : ByteArray := prog_1_method_24_code
def y_H_neededDancer : MethodName := ⟨"WaltzHall", "neededDancer", "(I)LWaltzHall$Dancer;"⟩
abbrev c_H_neededDancer : ByteArray := prog_1_method_25_code
def y_H_neededWinder : MethodName := ⟨"WaltzHall", "neededWinder", "(I)LWaltzHall$Winder;"⟩
abbrev c_H_neededWinder : ByteArray := prog_1_method_26_code
def y_H_needKind : MethodName := ⟨"WaltzHall", "needKind", "(II)V"⟩
abbrev c_H_needKind : ByteArray := prog_1_method_27_code
def y_H_needBeats : MethodName := ⟨"WaltzHall", "needBeats", "(I)V"⟩
abbrev c_H_needBeats : ByteArray := prog_1_method_28_code
def y_H_isOnFloor : MethodName := ⟨"WaltzHall", "isOnFloor", "(II)Z"⟩
abbrev c_H_isOnFloor : ByteArray := prog_1_method_29_code
def y_H_distance : MethodName := ⟨"WaltzHall", "distance", "(IIII)I"⟩
abbrev c_H_distance : ByteArray := prog_1_method_30_code
def y_H_turned : MethodName := ⟨"WaltzHall", "turned", "(II)I"⟩
abbrev c_H_turned : ByteArray := prog_1_method_31_code
def y_H_columnStep : MethodName := ⟨"WaltzHall", "columnStep", "(I)I"⟩
abbrev c_H_columnStep : ByteArray := prog_1_method_32_code
def y_H_rowStep : MethodName := ⟨"WaltzHall", "rowStep", "(I)I"⟩
abbrev c_H_rowStep : ByteArray := prog_1_method_33_code
def y_H_isWalk : MethodName := ⟨"WaltzHall", "isWalk", "(I)Z"⟩
abbrev c_H_isWalk : ByteArray := prog_1_method_34_code
def y_H_isFigure : MethodName := ⟨"WaltzHall", "isFigure", "(I)Z"⟩
abbrev c_H_isFigure : ByteArray := prog_1_method_35_code
def y_H_wayOf : MethodName := ⟨"WaltzHall", "wayOf", "(I)I"⟩
abbrev c_H_wayOf : ByteArray := prog_1_method_36_code
def y_H_turnOf : MethodName := ⟨"WaltzHall", "turnOf", "(I)I"⟩
abbrev c_H_turnOf : ByteArray := prog_1_method_37_code
def y_S_init : MethodName := ⟨"WaltzHallModel$State", "<init>", "(LWaltzHallModel;)V"⟩
abbrev c_S_init : ByteArray := prog_9_method_1_code
def y_S_copy : MethodName := ⟨"WaltzHallModel$State", "copy", "([I[I)V"⟩
abbrev c_S_copy : ByteArray := prog_9_method_2_code
def y_S_become : MethodName := ⟨"WaltzHallModel$State", "become", "(LWaltzHallModel$State;)V"⟩
abbrev c_S_become : ByteArray := prog_9_method_3_code
def y_S_at : MethodName := ⟨"WaltzHallModel$State", "at", "(II)I"⟩
abbrev c_S_at : ByteArray := prog_9_method_4_code
def y_S_isBeside : MethodName := ⟨"WaltzHallModel$State", "isBeside", "(II)Z"⟩
abbrev c_S_isBeside : ByteArray := prog_9_method_5_code
def y_S_isTired : MethodName := ⟨"WaltzHallModel$State", "isTired", "(I)Z"⟩
abbrev c_S_isTired : ByteArray := prog_9_method_6_code
def y_S_isResting : MethodName := ⟨"WaltzHallModel$State", "isResting", "(I)Z"⟩
abbrev c_S_isResting : ByteArray := prog_9_method_7_code
def y_S_pass : MethodName := ⟨"WaltzHallModel$State", "pass", "()I"⟩
abbrev c_S_pass : ByteArray := prog_9_method_8_code
def y_S_act : MethodName := ⟨"WaltzHallModel$State", "act", "(I)V"⟩
abbrev c_S_act : ByteArray := prog_9_method_9_code
def y_S_isFree : MethodName := ⟨"WaltzHallModel$State", "isFree", "(IIII)Z"⟩
abbrev c_S_isFree : ByteArray := prog_9_method_10_code
def y_S_bump : MethodName := ⟨"WaltzHallModel$State", "bump", "(IIII)V"⟩
abbrev c_S_bump : ByteArray := prog_9_method_11_code
def y_S_hit : MethodName := ⟨"WaltzHallModel$State", "hit", "(I)V"⟩
abbrev c_S_hit : ByteArray := prog_9_method_12_code
def y_S_finish : MethodName := ⟨"WaltzHallModel$State", "finish", "(IIII)V"⟩
abbrev c_S_finish : ByteArray := prog_9_method_13_code
def y_S_go : MethodName := ⟨"WaltzHallModel$State", "go", "(I)V"⟩
abbrev c_S_go : ByteArray := prog_9_method_14_code
def y_S_sum : MethodName := ⟨"WaltzHallModel$State", "sum", "(I)I"⟩
abbrev c_S_sum : ByteArray := prog_9_method_15_code
def y_M_init : MethodName := ⟨"WaltzHallModel", "<init>", "()V"⟩
abbrev c_M_init : ByteArray := prog_8_method_1_code
def y_M_thrown : MethodName := ⟨"WaltzHallModel", "thrown", "()I"⟩
abbrev c_M_thrown : ByteArray := prog_8_method_2_code
def y_M_no : MethodName := ⟨"WaltzHallModel", "no", "(I)I"⟩
abbrev c_M_no : ByteArray := prog_8_method_3_code
def y_M_isIn : MethodName := ⟨"WaltzHallModel", "isIn", "(III)Z"⟩
abbrev c_M_isIn : ByteArray := prog_8_method_4_code
def y_M_feed : MethodName := ⟨"WaltzHallModel", "feed", "(IIIII)I"⟩
abbrev c_M_feed : ByteArray := prog_8_method_5_code
def y_M_trim : MethodName := ⟨"WaltzHallModel", "trim", "(I)I"⟩
abbrev c_M_trim : ByteArray := prog_8_method_6_code
def y_M_isFigure : MethodName := ⟨"WaltzHallModel", "isFigure", "(I)Z"⟩
abbrev c_M_isFigure : ByteArray := prog_8_method_7_code
def y_M_learn : MethodName := ⟨"WaltzHallModel", "learn", "(I)I"⟩
abbrev c_M_learn : ByteArray := prog_8_method_8_code
def y_M_figure : MethodName := ⟨"WaltzHallModel", "figure", "(II)I"⟩
abbrev c_M_figure : ByteArray := prog_8_method_9_code
def y_M_drift : MethodName := ⟨"WaltzHallModel", "drift", "(II)I"⟩
abbrev c_M_drift : ByteArray := prog_8_method_10_code
def y_M_come : MethodName := ⟨"WaltzHallModel", "come", "(IIII)I"⟩
abbrev c_M_come : ByteArray := prog_8_method_11_code
def y_M_isDancer : MethodName := ⟨"WaltzHallModel", "isDancer", "(I)Z"⟩
abbrev c_M_isDancer : ByteArray := prog_8_method_12_code
def y_M_dance : MethodName := ⟨"WaltzHallModel", "dance", "(II)I"⟩
abbrev c_M_dance : ByteArray := prog_8_method_13_code
def y_M_pair : MethodName := ⟨"WaltzHallModel", "pair", "(II)I"⟩
abbrev c_M_pair : ByteArray := prog_8_method_14_code
def y_M_part : MethodName := ⟨"WaltzHallModel", "part", "(I)I"⟩
abbrev c_M_part : ByteArray := prog_8_method_15_code
def y_M_wind : MethodName := ⟨"WaltzHallModel", "wind", "(II)I"⟩
abbrev c_M_wind : ByteArray := prog_8_method_16_code
def y_M_dancerTold : MethodName := ⟨"WaltzHallModel", "dancerTold", "(II)I"⟩
abbrev c_M_dancerTold : ByteArray := prog_8_method_17_code
def y_M_dancer : MethodName := ⟨"WaltzHallModel", "dancer", "(II)I"⟩
abbrev c_M_dancer : ByteArray := prog_8_method_18_code
def y_M_at : MethodName := ⟨"WaltzHallModel", "at", "(II)I"⟩
abbrev c_M_at : ByteArray := prog_8_method_19_code
def y_M_addWinder : MethodName := ⟨"WaltzHallModel", "addWinder", "(III)I"⟩
abbrev c_M_addWinder : ByteArray := prog_8_method_20_code
def y_M_isWinder : MethodName := ⟨"WaltzHallModel", "isWinder", "(I)Z"⟩
abbrev c_M_isWinder : ByteArray := prog_8_method_21_code
def y_M_call : MethodName := ⟨"WaltzHallModel", "call", "(II)I"⟩
abbrev c_M_call : ByteArray := prog_8_method_22_code
def y_M_winderTold : MethodName := ⟨"WaltzHallModel", "winderTold", "(II)I"⟩
abbrev c_M_winderTold : ByteArray := prog_8_method_23_code
def y_M_winder : MethodName := ⟨"WaltzHallModel", "winder", "(II)I"⟩
abbrev c_M_winder : ByteArray := prog_8_method_24_code
def y_M_pass : MethodName := ⟨"WaltzHallModel", "pass", "(I)I"⟩
abbrev c_M_pass : ByteArray := prog_8_method_25_code
def y_M_counted : MethodName := ⟨"WaltzHallModel", "counted", "(I)I"⟩
abbrev c_M_counted : ByteArray := prog_8_method_26_code
def y_M_count : MethodName := ⟨"WaltzHallModel", "count", "(I)I"⟩
abbrev c_M_count : ByteArray := prog_8_method_27_code
def y_M_foresee : MethodName := ⟨"WaltzHallModel", "foresee", "(III)I"⟩
abbrev c_M_foresee : ByteArray := prog_8_method_28_code
def y_M_firstToStop : MethodName := ⟨"WaltzHallModel", "firstToStop", "(I)I"⟩
abbrev c_M_firstToStop : ByteArray := prog_8_method_29_code
def y_M_meet : MethodName := ⟨"WaltzHallModel", "meet", "(III)I"⟩
abbrev c_M_meet : ByteArray := prog_8_method_30_code
def y_M_tension : MethodName := ⟨"WaltzHallModel", "tension", "()D"⟩
abbrev c_M_tension : ByteArray := prog_8_method_31_code
def y_M_digest : MethodName := ⟨"WaltzHallModel", "digest", "()J"⟩
abbrev c_M_digest : ByteArray := prog_8_method_32_code
def y_IN_signum : MethodName := ⟨"java/lang/Integer", "signum", "(I)I"⟩
abbrev c_IN_signum : ByteArray := prog_18_method_56_code
def y_MA_floorMod : MethodName := ⟨"java/lang/Math", "floorMod", "(II)I"⟩
abbrev c_MA_floorMod : ByteArray := prog_20_method_50_code
def y_MA_abs : MethodName := ⟨"java/lang/Math", "abs", "(I)I"⟩
abbrev c_MA_abs : ByteArray := prog_20_method_59_code
def y_MA_max : MethodName := ⟨"java/lang/Math", "max", "(II)I"⟩
abbrev c_MA_max : ByteArray := prog_20_method_65_code
def y_MA_min : MethodName := ⟨"java/lang/Math", "min", "(II)I"⟩
abbrev c_MA_min : ByteArray := prog_20_method_69_code
def y_ST_length : MethodName := ⟨"java/lang/String", "length", "()I"⟩
abbrev c_ST_length : ByteArray := prog_22_method_54_code
def y_ST_charAt : MethodName := ⟨"java/lang/String", "charAt", "(I)C"⟩
abbrev c_ST_charAt : ByteArray := prog_22_method_56_code
def y_ST_coder : MethodName := ⟨"java/lang/String", "coder", "()B"⟩
abbrev c_ST_coder : ByteArray := prog_22_method_152_code
def y_ST_isLatin1 : MethodName := ⟨"java/lang/String", "isLatin1", "()Z"⟩
abbrev c_ST_isLatin1 : ByteArray := prog_22_method_154_code
def y_ST_checkIndex : MethodName := ⟨"java/lang/String", "checkIndex", "(II)V"⟩
abbrev c_ST_checkIndex : ByteArray := prog_22_method_155_code
def y_SL_charAt : MethodName := ⟨"java/lang/StringLatin1", "charAt", "([BI)C"⟩
abbrev c_SL_charAt : ByteArray := prog_23_method_2_code
def y_AC_init : MethodName := ⟨"java/util/AbstractCollection", "<init>", "()V"⟩
abbrev c_AC_init : ByteArray := prog_29_method_1_code
def y_AB_init : MethodName := ⟨"java/util/AbstractList", "<init>", "()V"⟩
abbrev c_AB_init : ByteArray := prog_30_method_1_code
def y_AL_init : MethodName := ⟨"java/util/ArrayList", "<init>", "()V"⟩
abbrev c_AL_init : ByteArray := prog_31_method_2_code
def y_AL_grow1 : MethodName := ⟨"java/util/ArrayList", "grow", "(I)[Ljava/lang/Object;"⟩
abbrev c_AL_grow1 : ByteArray := prog_31_method_6_code
def y_AL_grow0 : MethodName := ⟨"java/util/ArrayList", "grow", "()[Ljava/lang/Object;"⟩
abbrev c_AL_grow0 : ByteArray := prog_31_method_7_code
def y_AL_size : MethodName := ⟨"java/util/ArrayList", "size", "()I"⟩
abbrev c_AL_size : ByteArray := prog_31_method_8_code
def y_AL_elementData : MethodName := ⟨"java/util/ArrayList", "elementData", "(I)Ljava/lang/Object;"⟩
abbrev c_AL_elementData : ByteArray := prog_31_method_18_code
def y_AL_get : MethodName := ⟨"java/util/ArrayList", "get", "(I)Ljava/lang/Object;"⟩
abbrev c_AL_get : ByteArray := prog_31_method_20_code
def y_AL_add3 : MethodName := ⟨"java/util/ArrayList", "add", "(Ljava/lang/Object;[Ljava/lang/Object;I)V"⟩
abbrev c_AL_add3 : ByteArray := prog_31_method_24_code
def y_AL_add1 : MethodName := ⟨"java/util/ArrayList", "add", "(Ljava/lang/Object;)Z"⟩
abbrev c_AL_add1 : ByteArray := prog_31_method_25_code
def y_OB_checkIndex : MethodName := ⟨"java/util/Objects", "checkIndex", "(II)I"⟩
abbrev c_OB_checkIndex : ByteArray := prog_35_method_17_code
def y_PC_checkIndex : MethodName := ⟨"jdk/internal/util/Preconditions", "checkIndex", "(IILjava/util/function/BiFunction;)I"⟩
abbrev c_PC_checkIndex : ByteArray := prog_39_method_11_code
def y_L_feed : MethodName := ⟨"WaltzHallLaw", "feed", "(LWaltzHall;IIIII[J)I"⟩
abbrev c_L_feed : ByteArray := method_3_code
def y_L_trim : MethodName := ⟨"WaltzHallLaw", "trim", "(LWaltzHall;I[J)I"⟩
abbrev c_L_trim : ByteArray := method_4_code
def y_L_learn : MethodName := ⟨"WaltzHallLaw", "learn", "(LWaltzHall;I[J)I"⟩
abbrev c_L_learn : ByteArray := method_5_code
def y_L_figure : MethodName := ⟨"WaltzHallLaw", "figure", "(LWaltzHall;II[J)I"⟩
abbrev c_L_figure : ByteArray := method_6_code
def y_L_drift : MethodName := ⟨"WaltzHallLaw", "drift", "(LWaltzHall;II[J)I"⟩
abbrev c_L_drift : ByteArray := method_7_code
def y_L_come : MethodName := ⟨"WaltzHallLaw", "come", "(LWaltzHall;IIII[J)I"⟩
abbrev c_L_come : ByteArray := method_8_code
def y_L_dance : MethodName := ⟨"WaltzHallLaw", "dance", "(LWaltzHall;II[J)I"⟩
abbrev c_L_dance : ByteArray := method_9_code
def y_L_pair : MethodName := ⟨"WaltzHallLaw", "pair", "(LWaltzHall;II[J)I"⟩
abbrev c_L_pair : ByteArray := method_10_code
def y_L_part : MethodName := ⟨"WaltzHallLaw", "part", "(LWaltzHall;I[J)I"⟩
abbrev c_L_part : ByteArray := method_11_code
def y_L_wind : MethodName := ⟨"WaltzHallLaw", "wind", "(LWaltzHall;II[J)I"⟩
abbrev c_L_wind : ByteArray := method_12_code
def y_L_dancer : MethodName := ⟨"WaltzHallLaw", "dancer", "(LWaltzHall;II[J)I"⟩
abbrev c_L_dancer : ByteArray := method_13_code
def y_L_at : MethodName := ⟨"WaltzHallLaw", "at", "(LWaltzHall;II[J)I"⟩
abbrev c_L_at : ByteArray := method_14_code
def y_L_addWinder : MethodName := ⟨"WaltzHallLaw", "addWinder", "(LWaltzHall;III[J)I"⟩
abbrev c_L_addWinder : ByteArray := method_15_code
def y_L_call : MethodName := ⟨"WaltzHallLaw", "call", "(LWaltzHall;II[J)I"⟩
abbrev c_L_call : ByteArray := method_16_code
def y_L_winder : MethodName := ⟨"WaltzHallLaw", "winder", "(LWaltzHall;II[J)I"⟩
abbrev c_L_winder : ByteArray := method_17_code
def y_L_pass : MethodName := ⟨"WaltzHallLaw", "pass", "(LWaltzHall;I[J)I"⟩
abbrev c_L_pass : ByteArray := method_18_code
def y_L_count : MethodName := ⟨"WaltzHallLaw", "count", "(LWaltzHall;I[J)I"⟩
abbrev c_L_count : ByteArray := method_19_code
def y_L_foresee : MethodName := ⟨"WaltzHallLaw", "foresee", "(LWaltzHall;III[J)I"⟩
abbrev c_L_foresee : ByteArray := method_20_code
def y_L_firstToStop : MethodName := ⟨"WaltzHallLaw", "firstToStop", "(LWaltzHall;I[J)I"⟩
abbrev c_L_firstToStop : ByteArray := method_21_code
def y_L_meet : MethodName := ⟨"WaltzHallLaw", "meet", "(LWaltzHall;III[J)I"⟩
abbrev c_L_meet : ByteArray := method_22_code
/-! the words of the tables that the rows use: all that stay true while the machine runs -/
def wOk (w : Cond) : Bool := match w with
  | .arrayClass _ => true
  | .arrayOver _ => true
  | .fieldLinkNest _ _ _ _ _ _ => true
  | .methodLinkNest _ _ _ _ => true
  | .castable _ _ => true
  | .declares _ => true
  | w => w.onTables && w.keeps
def wG : List Cond := lw_tbl.filter wOk
theorem gm {w : Cond} (i : Nat) (h : lw_tbl[i]? = some w) (hok : wOk w = true) : w ∈ wG := List.mem_filter.mpr ⟨List.mem_of_getElem? h, hok⟩
end
section
theorem d_D_init_0 : decode c_D_init 0 = .ok (.aload_n 0, 1) := by decide +kernel
theorem d_D_init_1 : decode c_D_init 1 = .ok (.invokespecial 3, 3) := by decide +kernel
theorem d_D_init_4 : decode c_D_init 4 = .ok (.aload_n 0, 1) := by decide +kernel
theorem d_D_init_5 : decode c_D_init 5 = .ok (.bipush 24, 2) := by decide +kernel
theorem d_D_init_7 : decode c_D_init 7 = .ok (.newarray .byte, 2) := by decide +kernel
theorem d_D_init_9 : decode c_D_init 9 = .ok (.putfield 9, 3) := by decide +kernel
theorem d_D_init_12 : decode c_D_init 12 = .ok (.aload_n 0, 1) := by decide +kernel
theorem d_D_init_13 : decode c_D_init 13 = .ok (.iload_n 1, 1) := by decide +kernel
theorem d_D_init_14 : decode c_D_init 14 = .ok (.putfield 15, 3) := by decide +kernel
theorem d_D_init_17 : decode c_D_init 17 = .ok (.iconst 0, 1) := by decide +kernel
theorem d_D_init_18 : decode c_D_init 18 = .ok (.istore_n 3, 1) := by decide +kernel
theorem d_D_init_19 : decode c_D_init 19 = .ok (.iload_n 3, 1) := by decide +kernel
theorem d_D_init_20 : decode c_D_init 20 = .ok (.aload_n 2, 1) := by decide +kernel
theorem d_D_init_21 : decode c_D_init 21 = .ok (.invokevirtual 19, 3) := by decide +kernel
theorem d_D_init_24 : decode c_D_init 24 = .ok (.if_icmp .ge 37, 3) := by decide +kernel
theorem d_D_init_27 : decode c_D_init 27 = .ok (.iload_n 3, 1) := by decide +kernel
theorem d_D_init_28 : decode c_D_init 28 = .ok (.aload_n 0, 1) := by decide +kernel
theorem d_D_init_29 : decode c_D_init 29 = .ok (.getfield 9, 3) := by decide +kernel
theorem d_D_init_32 : decode c_D_init 32 = .ok (.arraylength, 1) := by decide +kernel
theorem d_D_init_33 : decode c_D_init 33 = .ok (.if_icmp .ge 28, 3) := by decide +kernel
theorem d_D_init_36 : decode c_D_init 36 = .ok (.aload_n 0, 1) := by decide +kernel
theorem d_D_init_37 : decode c_D_init 37 = .ok (.getfield 9, 3) := by decide +kernel
theorem d_D_init_40 : decode c_D_init 40 = .ok (.iload_n 3, 1) := by decide +kernel
theorem d_D_init_41 : decode c_D_init 41 = .ok (.aload_n 2, 1) := by decide +kernel
theorem d_D_init_42 : decode c_D_init 42 = .ok (.iload_n 3, 1) := by decide +kernel
theorem d_D_init_43 : decode c_D_init 43 = .ok (.invokevirtual 25, 3) := by decide +kernel
theorem d_D_init_46 : decode c_D_init 46 = .ok (.i2b, 1) := by decide +kernel
theorem d_D_init_47 : decode c_D_init 47 = .ok (.bastore, 1) := by decide +kernel
theorem d_D_init_48 : decode c_D_init 48 = .ok (.aload_n 0, 1) := by decide +kernel
theorem d_D_init_49 : decode c_D_init 49 = .ok (.iload_n 3, 1) := by decide +kernel
theorem d_D_init_50 : decode c_D_init 50 = .ok (.iconst 1, 1) := by decide +kernel
theorem d_D_init_51 : decode c_D_init 51 = .ok (.iadd, 1) := by decide +kernel
theorem d_D_init_52 : decode c_D_init 52 = .ok (.putfield 29, 3) := by decide +kernel
theorem d_D_init_55 : decode c_D_init 55 = .ok (.iinc 3 1, 3) := by decide +kernel
theorem d_D_init_58 : decode c_D_init 58 = .ok (.goto (-39), 3) := by decide +kernel
theorem d_D_init_61 : decode c_D_init 61 = .ok (.return_, 1) := by decide +kernel
theorem d_D_takeFrom_0 : decode c_D_takeFrom 0 = .ok (.aload_n 1, 1) := by decide +kernel
theorem d_D_takeFrom_1 : decode c_D_takeFrom 1 = .ok (.invokevirtual 31, 3) := by decide +kernel
theorem d_D_takeFrom_4 : decode c_D_takeFrom 4 = .ok (.ifCond .ne 5, 3) := by decide +kernel
theorem d_D_takeFrom_7 : decode c_D_takeFrom 7 = .ok (.iconst 0, 1) := by decide +kernel
theorem d_D_takeFrom_8 : decode c_D_takeFrom 8 = .ok (.ireturn, 1) := by decide +kernel
theorem d_D_takeFrom_9 : decode c_D_takeFrom 9 = .ok (.aload_n 0, 1) := by decide +kernel
theorem d_D_takeFrom_10 : decode c_D_takeFrom 10 = .ok (.aload_n 1, 1) := by decide +kernel
theorem d_D_takeFrom_11 : decode c_D_takeFrom 11 = .ok (.getfield 37, 3) := by decide +kernel
theorem d_D_takeFrom_14 : decode c_D_takeFrom 14 = .ok (.aload_n 0, 1) := by decide +kernel
theorem d_D_takeFrom_15 : decode c_D_takeFrom 15 = .ok (.getfield 9, 3) := by decide +kernel
theorem d_D_takeFrom_18 : decode c_D_takeFrom 18 = .ok (.arraylength, 1) := by decide +kernel
theorem d_D_takeFrom_19 : decode c_D_takeFrom 19 = .ok (.invokestatic 38, 3) := by decide +kernel
theorem d_D_takeFrom_22 : decode c_D_takeFrom 22 = .ok (.putfield 29, 3) := by decide +kernel
theorem d_D_takeFrom_25 : decode c_D_takeFrom 25 = .ok (.iconst 0, 1) := by decide +kernel
theorem d_D_takeFrom_26 : decode c_D_takeFrom 26 = .ok (.istore_n 2, 1) := by decide +kernel
theorem d_D_takeFrom_27 : decode c_D_takeFrom 27 = .ok (.iload_n 2, 1) := by decide +kernel
theorem d_D_takeFrom_28 : decode c_D_takeFrom 28 = .ok (.aload_n 0, 1) := by decide +kernel
theorem d_D_takeFrom_29 : decode c_D_takeFrom 29 = .ok (.getfield 29, 3) := by decide +kernel
theorem d_D_takeFrom_32 : decode c_D_takeFrom 32 = .ok (.if_icmp .ge 39, 3) := by decide +kernel
theorem d_D_takeFrom_35 : decode c_D_takeFrom 35 = .ok (.iload_n 2, 1) := by decide +kernel
theorem d_D_takeFrom_36 : decode c_D_takeFrom 36 = .ok (.aload_n 0, 1) := by decide +kernel
theorem d_D_takeFrom_37 : decode c_D_takeFrom 37 = .ok (.getfield 9, 3) := by decide +kernel
theorem d_D_takeFrom_40 : decode c_D_takeFrom 40 = .ok (.arraylength, 1) := by decide +kernel
theorem d_D_takeFrom_41 : decode c_D_takeFrom 41 = .ok (.if_icmp .ge 30, 3) := by decide +kernel
theorem d_D_takeFrom_44 : decode c_D_takeFrom 44 = .ok (.iload_n 2, 1) := by decide +kernel
theorem d_D_takeFrom_45 : decode c_D_takeFrom 45 = .ok (.aload_n 1, 1) := by decide +kernel
theorem d_D_takeFrom_46 : decode c_D_takeFrom 46 = .ok (.getfield 44, 3) := by decide +kernel
theorem d_D_takeFrom_49 : decode c_D_takeFrom 49 = .ok (.arraylength, 1) := by decide +kernel
theorem d_D_takeFrom_50 : decode c_D_takeFrom 50 = .ok (.if_icmp .ge 21, 3) := by decide +kernel
theorem d_D_takeFrom_53 : decode c_D_takeFrom 53 = .ok (.aload_n 0, 1) := by decide +kernel
theorem d_D_takeFrom_54 : decode c_D_takeFrom 54 = .ok (.getfield 9, 3) := by decide +kernel
theorem d_D_takeFrom_57 : decode c_D_takeFrom 57 = .ok (.iload_n 2, 1) := by decide +kernel
theorem d_D_takeFrom_58 : decode c_D_takeFrom 58 = .ok (.aload_n 1, 1) := by decide +kernel
theorem d_D_takeFrom_59 : decode c_D_takeFrom 59 = .ok (.getfield 44, 3) := by decide +kernel
theorem d_D_takeFrom_62 : decode c_D_takeFrom 62 = .ok (.iload_n 2, 1) := by decide +kernel
theorem d_D_takeFrom_63 : decode c_D_takeFrom 63 = .ok (.baload, 1) := by decide +kernel
theorem d_D_takeFrom_64 : decode c_D_takeFrom 64 = .ok (.bastore, 1) := by decide +kernel
theorem d_D_takeFrom_65 : decode c_D_takeFrom 65 = .ok (.iinc 2 1, 3) := by decide +kernel
theorem d_D_takeFrom_68 : decode c_D_takeFrom 68 = .ok (.goto (-41), 3) := by decide +kernel
theorem d_D_takeFrom_71 : decode c_D_takeFrom 71 = .ok (.iconst 1, 1) := by decide +kernel
theorem d_D_takeFrom_72 : decode c_D_takeFrom 72 = .ok (.ireturn, 1) := by decide +kernel
theorem d_D_figureAt_0 : decode c_D_figureAt 0 = .ok (.iload_n 1, 1) := by decide +kernel
theorem d_D_figureAt_1 : decode c_D_figureAt 1 = .ok (.ifCond .lt 29, 3) := by decide +kernel
theorem d_D_figureAt_4 : decode c_D_figureAt 4 = .ok (.iload_n 1, 1) := by decide +kernel
theorem d_D_figureAt_5 : decode c_D_figureAt 5 = .ok (.aload_n 0, 1) := by decide +kernel
theorem d_D_figureAt_6 : decode c_D_figureAt 6 = .ok (.getfield 29, 3) := by decide +kernel
theorem d_D_figureAt_9 : decode c_D_figureAt 9 = .ok (.if_icmp .ge 21, 3) := by decide +kernel
theorem d_D_figureAt_12 : decode c_D_figureAt 12 = .ok (.iload_n 1, 1) := by decide +kernel
theorem d_D_figureAt_13 : decode c_D_figureAt 13 = .ok (.aload_n 0, 1) := by decide +kernel
theorem d_D_figureAt_14 : decode c_D_figureAt 14 = .ok (.getfield 9, 3) := by decide +kernel
theorem d_D_figureAt_17 : decode c_D_figureAt 17 = .ok (.arraylength, 1) := by decide +kernel
theorem d_D_figureAt_18 : decode c_D_figureAt 18 = .ok (.if_icmp .ge 12, 3) := by decide +kernel
theorem d_D_figureAt_21 : decode c_D_figureAt 21 = .ok (.aload_n 0, 1) := by decide +kernel
theorem d_D_figureAt_22 : decode c_D_figureAt 22 = .ok (.getfield 9, 3) := by decide +kernel
theorem d_D_figureAt_25 : decode c_D_figureAt 25 = .ok (.iload_n 1, 1) := by decide +kernel
theorem d_D_figureAt_26 : decode c_D_figureAt 26 = .ok (.baload, 1) := by decide +kernel
theorem d_D_figureAt_27 : decode c_D_figureAt 27 = .ok (.goto 5, 3) := by decide +kernel
theorem d_D_figureAt_30 : decode c_D_figureAt 30 = .ok (.bipush 119, 2) := by decide +kernel
theorem d_D_figureAt_32 : decode c_D_figureAt 32 = .ok (.ireturn, 1) := by decide +kernel
theorem d_D_placeBehind_0 : decode c_D_placeBehind 0 = .ok (.iload_n 1, 1) := by decide +kernel
theorem d_D_placeBehind_1 : decode c_D_placeBehind 1 = .ok (.iconst 1, 1) := by decide +kernel
theorem d_D_placeBehind_2 : decode c_D_placeBehind 2 = .ok (.iadd, 1) := by decide +kernel
theorem d_D_placeBehind_3 : decode c_D_placeBehind 3 = .ok (.aload_n 0, 1) := by decide +kernel
theorem d_D_placeBehind_4 : decode c_D_placeBehind 4 = .ok (.getfield 29, 3) := by decide +kernel
theorem d_D_placeBehind_7 : decode c_D_placeBehind 7 = .ok (.if_icmp .ge 9, 3) := by decide +kernel
theorem d_D_placeBehind_10 : decode c_D_placeBehind 10 = .ok (.iload_n 1, 1) := by decide +kernel
theorem d_D_placeBehind_11 : decode c_D_placeBehind 11 = .ok (.iconst 1, 1) := by decide +kernel
theorem d_D_placeBehind_12 : decode c_D_placeBehind 12 = .ok (.iadd, 1) := by decide +kernel
theorem d_D_placeBehind_13 : decode c_D_placeBehind 13 = .ok (.goto 4, 3) := by decide +kernel
theorem d_D_placeBehind_16 : decode c_D_placeBehind 16 = .ok (.iconst 0, 1) := by decide +kernel
theorem d_D_placeBehind_17 : decode c_D_placeBehind 17 = .ok (.ireturn, 1) := by decide +kernel
theorem d_D_driftOf_0 : decode c_D_driftOf 0 = .ok (.iconst 0, 1) := by decide +kernel
theorem d_D_driftOf_1 : decode c_D_driftOf 1 = .ok (.istore_n 2, 1) := by decide +kernel
theorem d_D_driftOf_2 : decode c_D_driftOf 2 = .ok (.iconst 0, 1) := by decide +kernel
theorem d_D_driftOf_3 : decode c_D_driftOf 3 = .ok (.istore_n 3, 1) := by decide +kernel
theorem d_D_driftOf_4 : decode c_D_driftOf 4 = .ok (.iconst 0, 1) := by decide +kernel
theorem d_D_driftOf_5 : decode c_D_driftOf 5 = .ok (.istore 4, 2) := by decide +kernel
theorem d_D_driftOf_7 : decode c_D_driftOf 7 = .ok (.iconst 0, 1) := by decide +kernel
theorem d_D_driftOf_8 : decode c_D_driftOf 8 = .ok (.istore 5, 2) := by decide +kernel
theorem d_D_driftOf_10 : decode c_D_driftOf 10 = .ok (.iload 5, 2) := by decide +kernel
theorem d_D_driftOf_12 : decode c_D_driftOf 12 = .ok (.aload_n 0, 1) := by decide +kernel
theorem d_D_driftOf_13 : decode c_D_driftOf 13 = .ok (.getfield 29, 3) := by decide +kernel
theorem d_D_driftOf_16 : decode c_D_driftOf 16 = .ok (.if_icmp .ge 65, 3) := by decide +kernel
theorem d_D_driftOf_19 : decode c_D_driftOf 19 = .ok (.aload_n 0, 1) := by decide +kernel
theorem d_D_driftOf_20 : decode c_D_driftOf 20 = .ok (.iload 5, 2) := by decide +kernel
theorem d_D_driftOf_22 : decode c_D_driftOf 22 = .ok (.invokevirtual 47, 3) := by decide +kernel
theorem d_D_driftOf_25 : decode c_D_driftOf 25 = .ok (.istore 6, 2) := by decide +kernel
theorem d_D_driftOf_27 : decode c_D_driftOf 27 = .ok (.iload 6, 2) := by decide +kernel
theorem d_D_driftOf_29 : decode c_D_driftOf 29 = .ok (.invokestatic 51, 3) := by decide +kernel
theorem d_D_driftOf_32 : decode c_D_driftOf 32 = .ok (.ifCond .eq 31, 3) := by decide +kernel
theorem d_D_driftOf_35 : decode c_D_driftOf 35 = .ok (.iload 4, 2) := by decide +kernel
theorem d_D_driftOf_37 : decode c_D_driftOf 37 = .ok (.iload 6, 2) := by decide +kernel
theorem d_D_driftOf_39 : decode c_D_driftOf 39 = .ok (.invokestatic 55, 3) := by decide +kernel
theorem d_D_driftOf_42 : decode c_D_driftOf 42 = .ok (.invokestatic 58, 3) := by decide +kernel
theorem d_D_driftOf_45 : decode c_D_driftOf 45 = .ok (.istore 7, 2) := by decide +kernel
theorem d_D_driftOf_47 : decode c_D_driftOf 47 = .ok (.iload_n 2, 1) := by decide +kernel
theorem d_D_driftOf_48 : decode c_D_driftOf 48 = .ok (.iload 7, 2) := by decide +kernel
theorem d_D_driftOf_50 : decode c_D_driftOf 50 = .ok (.invokestatic 61, 3) := by decide +kernel
theorem d_D_driftOf_53 : decode c_D_driftOf 53 = .ok (.iadd, 1) := by decide +kernel
theorem d_D_driftOf_54 : decode c_D_driftOf 54 = .ok (.istore_n 2, 1) := by decide +kernel
theorem d_D_driftOf_55 : decode c_D_driftOf 55 = .ok (.iload_n 3, 1) := by decide +kernel
theorem d_D_driftOf_56 : decode c_D_driftOf 56 = .ok (.iload 7, 2) := by decide +kernel
theorem d_D_driftOf_58 : decode c_D_driftOf 58 = .ok (.invokestatic 64, 3) := by decide +kernel
theorem d_D_driftOf_61 : decode c_D_driftOf 61 = .ok (.iadd, 1) := by decide +kernel
theorem d_D_driftOf_62 : decode c_D_driftOf 62 = .ok (.istore_n 3, 1) := by decide +kernel
theorem d_D_driftOf_63 : decode c_D_driftOf 63 = .ok (.iload 4, 2) := by decide +kernel
theorem d_D_driftOf_65 : decode c_D_driftOf 65 = .ok (.iload 6, 2) := by decide +kernel
theorem d_D_driftOf_67 : decode c_D_driftOf 67 = .ok (.invokestatic 67, 3) := by decide +kernel
theorem d_D_driftOf_70 : decode c_D_driftOf 70 = .ok (.invokestatic 58, 3) := by decide +kernel
theorem d_D_driftOf_73 : decode c_D_driftOf 73 = .ok (.istore 4, 2) := by decide +kernel
theorem d_D_driftOf_75 : decode c_D_driftOf 75 = .ok (.iinc 5 1, 3) := by decide +kernel
theorem d_D_driftOf_78 : decode c_D_driftOf 78 = .ok (.goto (-68), 3) := by decide +kernel
theorem d_D_driftOf_81 : decode c_D_driftOf 81 = .ok (.iload_n 1, 1) := by decide +kernel
theorem d_D_driftOf_82 : decode c_D_driftOf 82 = .ok (.tableswitch 33 0 2 #[26, 28, 30], 26) := by decide +kernel
theorem d_D_driftOf_108 : decode c_D_driftOf 108 = .ok (.iload_n 2, 1) := by decide +kernel
theorem d_D_driftOf_109 : decode c_D_driftOf 109 = .ok (.ireturn, 1) := by decide +kernel
theorem d_D_driftOf_110 : decode c_D_driftOf 110 = .ok (.iload_n 3, 1) := by decide +kernel
theorem d_D_driftOf_111 : decode c_D_driftOf 111 = .ok (.ireturn, 1) := by decide +kernel
theorem d_D_driftOf_112 : decode c_D_driftOf 112 = .ok (.iload 4, 2) := by decide +kernel
theorem d_D_driftOf_114 : decode c_D_driftOf 114 = .ok (.ireturn, 1) := by decide +kernel
theorem d_D_driftOf_115 : decode c_D_driftOf 115 = .ok (.iload_n 2, 1) := by decide +kernel
theorem d_D_driftOf_116 : decode c_D_driftOf 116 = .ok (.iload_n 3, 1) := by decide +kernel
theorem d_D_driftOf_117 : decode c_D_driftOf 117 = .ok (.iload 4, 2) := by decide +kernel
theorem d_D_driftOf_119 : decode c_D_driftOf 119 = .ok (.invokestatic 70, 3) := by decide +kernel
theorem d_D_driftOf_122 : decode c_D_driftOf 122 = .ok (.ireturn, 1) := by decide +kernel
theorem d_D_roundsToStart_0 : decode c_D_roundsToStart 0 = .ok (.iload_n 2, 1) := by decide +kernel
theorem d_D_roundsToStart_1 : decode c_D_roundsToStart 1 = .ok (.ifCond .ne 17, 3) := by decide +kernel
theorem d_D_roundsToStart_4 : decode c_D_roundsToStart 4 = .ok (.iload_n 0, 1) := by decide +kernel
theorem d_D_roundsToStart_5 : decode c_D_roundsToStart 5 = .ok (.ifCond .ne 11, 3) := by decide +kernel
theorem d_D_roundsToStart_8 : decode c_D_roundsToStart 8 = .ok (.iload_n 1, 1) := by decide +kernel
theorem d_D_roundsToStart_9 : decode c_D_roundsToStart 9 = .ok (.ifCond .ne 7, 3) := by decide +kernel
theorem d_D_roundsToStart_12 : decode c_D_roundsToStart 12 = .ok (.iconst 1, 1) := by decide +kernel
theorem d_D_roundsToStart_13 : decode c_D_roundsToStart 13 = .ok (.goto 4, 3) := by decide +kernel
theorem d_D_roundsToStart_16 : decode c_D_roundsToStart 16 = .ok (.iconst (-1), 1) := by decide +kernel
theorem d_D_roundsToStart_17 : decode c_D_roundsToStart 17 = .ok (.ireturn, 1) := by decide +kernel
theorem d_D_roundsToStart_18 : decode c_D_roundsToStart 18 = .ok (.iload_n 2, 1) := by decide +kernel
theorem d_D_roundsToStart_19 : decode c_D_roundsToStart 19 = .ok (.iconst 2, 1) := by decide +kernel
theorem d_D_roundsToStart_20 : decode c_D_roundsToStart 20 = .ok (.if_icmp .ne 7, 3) := by decide +kernel
theorem d_D_roundsToStart_23 : decode c_D_roundsToStart 23 = .ok (.iconst 2, 1) := by decide +kernel
theorem d_D_roundsToStart_24 : decode c_D_roundsToStart 24 = .ok (.goto 4, 3) := by decide +kernel
theorem d_D_roundsToStart_27 : decode c_D_roundsToStart 27 = .ok (.iconst 4, 1) := by decide +kernel
theorem d_D_roundsToStart_28 : decode c_D_roundsToStart 28 = .ok (.ireturn, 1) := by decide +kernel
theorem d_D_digestFrom_0 : decode c_D_digestFrom 0 = .ok (.lload_n 1, 1) := by decide +kernel
theorem d_D_digestFrom_1 : decode c_D_digestFrom 1 = .ok (.ldc2_w 74, 3) := by decide +kernel
theorem d_D_digestFrom_4 : decode c_D_digestFrom 4 = .ok (.lmul, 1) := by decide +kernel
theorem d_D_digestFrom_5 : decode c_D_digestFrom 5 = .ok (.aload_n 0, 1) := by decide +kernel
theorem d_D_digestFrom_6 : decode c_D_digestFrom 6 = .ok (.getfield 29, 3) := by decide +kernel
theorem d_D_digestFrom_9 : decode c_D_digestFrom 9 = .ok (.i2l, 1) := by decide +kernel
theorem d_D_digestFrom_10 : decode c_D_digestFrom 10 = .ok (.ladd, 1) := by decide +kernel
theorem d_D_digestFrom_11 : decode c_D_digestFrom 11 = .ok (.lstore_n 3, 1) := by decide +kernel
theorem d_D_digestFrom_12 : decode c_D_digestFrom 12 = .ok (.iconst 0, 1) := by decide +kernel
theorem d_D_digestFrom_13 : decode c_D_digestFrom 13 = .ok (.istore 5, 2) := by decide +kernel
theorem d_D_digestFrom_15 : decode c_D_digestFrom 15 = .ok (.iload 5, 2) := by decide +kernel
theorem d_D_digestFrom_17 : decode c_D_digestFrom 17 = .ok (.aload_n 0, 1) := by decide +kernel
theorem d_D_digestFrom_18 : decode c_D_digestFrom 18 = .ok (.getfield 29, 3) := by decide +kernel
theorem d_D_digestFrom_21 : decode c_D_digestFrom 21 = .ok (.if_icmp .ge 23, 3) := by decide +kernel
theorem d_D_digestFrom_24 : decode c_D_digestFrom 24 = .ok (.lload_n 3, 1) := by decide +kernel
theorem d_D_digestFrom_25 : decode c_D_digestFrom 25 = .ok (.ldc2_w 74, 3) := by decide +kernel
theorem d_D_digestFrom_28 : decode c_D_digestFrom 28 = .ok (.lmul, 1) := by decide +kernel
theorem d_D_digestFrom_29 : decode c_D_digestFrom 29 = .ok (.aload_n 0, 1) := by decide +kernel
theorem d_D_digestFrom_30 : decode c_D_digestFrom 30 = .ok (.iload 5, 2) := by decide +kernel
theorem d_D_digestFrom_32 : decode c_D_digestFrom 32 = .ok (.invokevirtual 47, 3) := by decide +kernel
theorem d_D_digestFrom_35 : decode c_D_digestFrom 35 = .ok (.i2l, 1) := by decide +kernel
theorem d_D_digestFrom_36 : decode c_D_digestFrom 36 = .ok (.ladd, 1) := by decide +kernel
theorem d_D_digestFrom_37 : decode c_D_digestFrom 37 = .ok (.lstore_n 3, 1) := by decide +kernel
theorem d_D_digestFrom_38 : decode c_D_digestFrom 38 = .ok (.iinc 5 1, 3) := by decide +kernel
theorem d_D_digestFrom_41 : decode c_D_digestFrom 41 = .ok (.goto (-26), 3) := by decide +kernel
theorem d_D_digestFrom_44 : decode c_D_digestFrom 44 = .ok (.lload_n 3, 1) := by decide +kernel
theorem d_D_digestFrom_45 : decode c_D_digestFrom 45 = .ok (.lreturn, 1) := by decide +kernel
theorem d_T_init_0 : decode c_T_init 0 = .ok (.aload_n 0, 1) := by decide +kernel
theorem d_T_init_1 : decode c_T_init 1 = .ok (.invokespecial 3, 3) := by decide +kernel
theorem d_T_init_4 : decode c_T_init 4 = .ok (.aload_n 0, 1) := by decide +kernel
theorem d_T_init_5 : decode c_T_init 5 = .ok (.bipush 40, 2) := by decide +kernel
theorem d_T_init_7 : decode c_T_init 7 = .ok (.newarray .byte, 2) := by decide +kernel
theorem d_T_init_9 : decode c_T_init 9 = .ok (.putfield 9, 3) := by decide +kernel
theorem d_T_init_12 : decode c_T_init 12 = .ok (.return_, 1) := by decide +kernel
theorem d_T_bytesLeft_0 : decode c_T_bytesLeft 0 = .ok (.aload_n 0, 1) := by decide +kernel
theorem d_T_bytesLeft_1 : decode c_T_bytesLeft 1 = .ok (.getfield 9, 3) := by decide +kernel
theorem d_T_bytesLeft_4 : decode c_T_bytesLeft 4 = .ok (.arraylength, 1) := by decide +kernel
theorem d_T_bytesLeft_5 : decode c_T_bytesLeft 5 = .ok (.aload_n 0, 1) := by decide +kernel
theorem d_T_bytesLeft_6 : decode c_T_bytesLeft 6 = .ok (.getfield 15, 3) := by decide +kernel
theorem d_T_bytesLeft_9 : decode c_T_bytesLeft 9 = .ok (.isub, 1) := by decide +kernel
theorem d_T_bytesLeft_10 : decode c_T_bytesLeft 10 = .ok (.ireturn, 1) := by decide +kernel
theorem d_T_append_0 : decode c_T_append 0 = .ok (.bipush 24, 2) := by decide +kernel
theorem d_T_append_2 : decode c_T_append 2 = .ok (.istore_n 2, 1) := by decide +kernel
theorem d_T_append_3 : decode c_T_append 3 = .ok (.iload_n 2, 1) := by decide +kernel
theorem d_T_append_4 : decode c_T_append 4 = .ok (.ifCond .lt 51, 3) := by decide +kernel
theorem d_T_append_7 : decode c_T_append 7 = .ok (.aload_n 0, 1) := by decide +kernel
theorem d_T_append_8 : decode c_T_append 8 = .ok (.getfield 15, 3) := by decide +kernel
theorem d_T_append_11 : decode c_T_append 11 = .ok (.ifCond .lt 38, 3) := by decide +kernel
theorem d_T_append_14 : decode c_T_append 14 = .ok (.aload_n 0, 1) := by decide +kernel
theorem d_T_append_15 : decode c_T_append 15 = .ok (.getfield 15, 3) := by decide +kernel
theorem d_T_append_18 : decode c_T_append 18 = .ok (.aload_n 0, 1) := by decide +kernel
theorem d_T_append_19 : decode c_T_append 19 = .ok (.getfield 9, 3) := by decide +kernel
theorem d_T_append_22 : decode c_T_append 22 = .ok (.arraylength, 1) := by decide +kernel
theorem d_T_append_23 : decode c_T_append 23 = .ok (.if_icmp .ge 26, 3) := by decide +kernel
theorem d_T_append_26 : decode c_T_append 26 = .ok (.aload_n 0, 1) := by decide +kernel
theorem d_T_append_27 : decode c_T_append 27 = .ok (.getfield 9, 3) := by decide +kernel
theorem d_T_append_30 : decode c_T_append 30 = .ok (.aload_n 0, 1) := by decide +kernel
theorem d_T_append_31 : decode c_T_append 31 = .ok (.getfield 15, 3) := by decide +kernel
theorem d_T_append_34 : decode c_T_append 34 = .ok (.iload_n 1, 1) := by decide +kernel
theorem d_T_append_35 : decode c_T_append 35 = .ok (.iload_n 2, 1) := by decide +kernel
theorem d_T_append_36 : decode c_T_append 36 = .ok (.iushr, 1) := by decide +kernel
theorem d_T_append_37 : decode c_T_append 37 = .ok (.i2b, 1) := by decide +kernel
theorem d_T_append_38 : decode c_T_append 38 = .ok (.bastore, 1) := by decide +kernel
theorem d_T_append_39 : decode c_T_append 39 = .ok (.aload_n 0, 1) := by decide +kernel
theorem d_T_append_40 : decode c_T_append 40 = .ok (.dup, 1) := by decide +kernel
theorem d_T_append_41 : decode c_T_append 41 = .ok (.getfield 15, 3) := by decide +kernel
theorem d_T_append_44 : decode c_T_append 44 = .ok (.iconst 1, 1) := by decide +kernel
theorem d_T_append_45 : decode c_T_append 45 = .ok (.iadd, 1) := by decide +kernel
theorem d_T_append_46 : decode c_T_append 46 = .ok (.putfield 15, 3) := by decide +kernel
theorem d_T_append_49 : decode c_T_append 49 = .ok (.iinc 2 (-8), 3) := by decide +kernel
theorem d_T_append_52 : decode c_T_append 52 = .ok (.goto (-49), 3) := by decide +kernel
theorem d_T_append_55 : decode c_T_append 55 = .ok (.return_, 1) := by decide +kernel
theorem d_T_isDance_0 : decode c_T_isDance 0 = .ok (.aload_n 0, 1) := by decide +kernel
theorem d_T_isDance_1 : decode c_T_isDance 1 = .ok (.getfield 15, 3) := by decide +kernel
theorem d_T_isDance_4 : decode c_T_isDance 4 = .ok (.iconst 1, 1) := by decide +kernel
theorem d_T_isDance_5 : decode c_T_isDance 5 = .ok (.if_icmp .lt 12, 3) := by decide +kernel
theorem d_T_isDance_8 : decode c_T_isDance 8 = .ok (.aload_n 0, 1) := by decide +kernel
theorem d_T_isDance_9 : decode c_T_isDance 9 = .ok (.getfield 15, 3) := by decide +kernel
theorem d_T_isDance_12 : decode c_T_isDance 12 = .ok (.bipush 24, 2) := by decide +kernel
theorem d_T_isDance_14 : decode c_T_isDance 14 = .ok (.if_icmp .le 5, 3) := by decide +kernel
theorem d_T_isDance_17 : decode c_T_isDance 17 = .ok (.iconst 0, 1) := by decide +kernel
theorem d_T_isDance_18 : decode c_T_isDance 18 = .ok (.ireturn, 1) := by decide +kernel
theorem d_T_isDance_19 : decode c_T_isDance 19 = .ok (.iconst 0, 1) := by decide +kernel
theorem d_T_isDance_20 : decode c_T_isDance 20 = .ok (.istore_n 1, 1) := by decide +kernel
theorem d_T_isDance_21 : decode c_T_isDance 21 = .ok (.iload_n 1, 1) := by decide +kernel
theorem d_T_isDance_22 : decode c_T_isDance 22 = .ok (.aload_n 0, 1) := by decide +kernel
theorem d_T_isDance_23 : decode c_T_isDance 23 = .ok (.getfield 15, 3) := by decide +kernel
theorem d_T_isDance_26 : decode c_T_isDance 26 = .ok (.if_icmp .ge 32, 3) := by decide +kernel
theorem d_T_isDance_29 : decode c_T_isDance 29 = .ok (.iload_n 1, 1) := by decide +kernel
theorem d_T_isDance_30 : decode c_T_isDance 30 = .ok (.aload_n 0, 1) := by decide +kernel
theorem d_T_isDance_31 : decode c_T_isDance 31 = .ok (.getfield 9, 3) := by decide +kernel
theorem d_T_isDance_34 : decode c_T_isDance 34 = .ok (.arraylength, 1) := by decide +kernel
theorem d_T_isDance_35 : decode c_T_isDance 35 = .ok (.if_icmp .ge 23, 3) := by decide +kernel
theorem d_T_isDance_38 : decode c_T_isDance 38 = .ok (.aload_n 0, 1) := by decide +kernel
theorem d_T_isDance_39 : decode c_T_isDance 39 = .ok (.getfield 9, 3) := by decide +kernel
theorem d_T_isDance_42 : decode c_T_isDance 42 = .ok (.iload_n 1, 1) := by decide +kernel
theorem d_T_isDance_43 : decode c_T_isDance 43 = .ok (.baload, 1) := by decide +kernel
theorem d_T_isDance_44 : decode c_T_isDance 44 = .ok (.invokestatic 19, 3) := by decide +kernel
theorem d_T_isDance_47 : decode c_T_isDance 47 = .ok (.ifCond .ne 5, 3) := by decide +kernel
theorem d_T_isDance_50 : decode c_T_isDance 50 = .ok (.iconst 0, 1) := by decide +kernel
theorem d_T_isDance_51 : decode c_T_isDance 51 = .ok (.ireturn, 1) := by decide +kernel
theorem d_T_isDance_52 : decode c_T_isDance 52 = .ok (.iinc 1 1, 3) := by decide +kernel
theorem d_T_isDance_55 : decode c_T_isDance 55 = .ok (.goto (-34), 3) := by decide +kernel
theorem d_T_isDance_58 : decode c_T_isDance 58 = .ok (.iconst 1, 1) := by decide +kernel
theorem d_T_isDance_59 : decode c_T_isDance 59 = .ok (.ireturn, 1) := by decide +kernel
theorem d_R_init_0 : decode c_R_init 0 = .ok (.aload_n 0, 1) := by decide +kernel
theorem d_R_init_1 : decode c_R_init 1 = .ok (.invokespecial 3, 3) := by decide +kernel
theorem d_R_init_4 : decode c_R_init 4 = .ok (.aload_n 0, 1) := by decide +kernel
theorem d_R_init_5 : decode c_R_init 5 = .ok (.bipush 100, 2) := by decide +kernel
theorem d_R_init_7 : decode c_R_init 7 = .ok (.putfield 9, 3) := by decide +kernel
theorem d_R_init_10 : decode c_R_init 10 = .ok (.aload_n 0, 1) := by decide +kernel
theorem d_R_init_11 : decode c_R_init 11 = .ok (.iconst 1, 1) := by decide +kernel
theorem d_R_init_12 : decode c_R_init 12 = .ok (.putfield 15, 3) := by decide +kernel
theorem d_R_init_15 : decode c_R_init 15 = .ok (.aload_n 0, 1) := by decide +kernel
theorem d_R_init_16 : decode c_R_init 16 = .ok (.iload_n 1, 1) := by decide +kernel
theorem d_R_init_17 : decode c_R_init 17 = .ok (.putfield 18, 3) := by decide +kernel
theorem d_R_init_20 : decode c_R_init 20 = .ok (.aload_n 0, 1) := by decide +kernel
theorem d_R_init_21 : decode c_R_init 21 = .ok (.aload_n 2, 1) := by decide +kernel
theorem d_R_init_22 : decode c_R_init 22 = .ok (.putfield 21, 3) := by decide +kernel
theorem d_R_init_25 : decode c_R_init 25 = .ok (.return_, 1) := by decide +kernel
theorem d_R_becomeLike_0 : decode c_R_becomeLike 0 = .ok (.aload_n 0, 1) := by decide +kernel
theorem d_R_becomeLike_1 : decode c_R_becomeLike 1 = .ok (.aload_n 1, 1) := by decide +kernel
theorem d_R_becomeLike_2 : decode c_R_becomeLike 2 = .ok (.getfield 25, 3) := by decide +kernel
theorem d_R_becomeLike_5 : decode c_R_becomeLike 5 = .ok (.putfield 25, 3) := by decide +kernel
theorem d_R_becomeLike_8 : decode c_R_becomeLike 8 = .ok (.aload_n 0, 1) := by decide +kernel
theorem d_R_becomeLike_9 : decode c_R_becomeLike 9 = .ok (.aload_n 1, 1) := by decide +kernel
theorem d_R_becomeLike_10 : decode c_R_becomeLike 10 = .ok (.getfield 28, 3) := by decide +kernel
theorem d_R_becomeLike_13 : decode c_R_becomeLike 13 = .ok (.putfield 28, 3) := by decide +kernel
theorem d_R_becomeLike_16 : decode c_R_becomeLike 16 = .ok (.aload_n 0, 1) := by decide +kernel
theorem d_R_becomeLike_17 : decode c_R_becomeLike 17 = .ok (.aload_n 1, 1) := by decide +kernel
theorem d_R_becomeLike_18 : decode c_R_becomeLike 18 = .ok (.getfield 31, 3) := by decide +kernel
theorem d_R_becomeLike_21 : decode c_R_becomeLike 21 = .ok (.putfield 31, 3) := by decide +kernel
theorem d_R_becomeLike_24 : decode c_R_becomeLike 24 = .ok (.aload_n 0, 1) := by decide +kernel
theorem d_R_becomeLike_25 : decode c_R_becomeLike 25 = .ok (.aload_n 1, 1) := by decide +kernel
theorem d_R_becomeLike_26 : decode c_R_becomeLike 26 = .ok (.getfield 9, 3) := by decide +kernel
theorem d_R_becomeLike_29 : decode c_R_becomeLike 29 = .ok (.putfield 9, 3) := by decide +kernel
theorem d_R_becomeLike_32 : decode c_R_becomeLike 32 = .ok (.aload_n 0, 1) := by decide +kernel
theorem d_R_becomeLike_33 : decode c_R_becomeLike 33 = .ok (.aload_n 1, 1) := by decide +kernel
theorem d_R_becomeLike_34 : decode c_R_becomeLike 34 = .ok (.getfield 15, 3) := by decide +kernel
theorem d_R_becomeLike_37 : decode c_R_becomeLike 37 = .ok (.putfield 15, 3) := by decide +kernel
theorem d_R_becomeLike_40 : decode c_R_becomeLike 40 = .ok (.aload_n 0, 1) := by decide +kernel
theorem d_R_becomeLike_41 : decode c_R_becomeLike 41 = .ok (.aload_n 1, 1) := by decide +kernel
theorem d_R_becomeLike_42 : decode c_R_becomeLike 42 = .ok (.getfield 21, 3) := by decide +kernel
theorem d_R_becomeLike_45 : decode c_R_becomeLike 45 = .ok (.putfield 21, 3) := by decide +kernel
theorem d_R_becomeLike_48 : decode c_R_becomeLike 48 = .ok (.aload_n 0, 1) := by decide +kernel
theorem d_R_becomeLike_49 : decode c_R_becomeLike 49 = .ok (.aload_n 1, 1) := by decide +kernel
theorem d_R_becomeLike_50 : decode c_R_becomeLike 50 = .ok (.getfield 34, 3) := by decide +kernel
theorem d_R_becomeLike_53 : decode c_R_becomeLike 53 = .ok (.putfield 34, 3) := by decide +kernel
theorem d_R_becomeLike_56 : decode c_R_becomeLike 56 = .ok (.aload_n 0, 1) := by decide +kernel
theorem d_R_becomeLike_57 : decode c_R_becomeLike 57 = .ok (.aload_n 1, 1) := by decide +kernel
theorem d_R_becomeLike_58 : decode c_R_becomeLike 58 = .ok (.getfield 37, 3) := by decide +kernel
theorem d_R_becomeLike_61 : decode c_R_becomeLike 61 = .ok (.putfield 37, 3) := by decide +kernel
theorem d_R_becomeLike_64 : decode c_R_becomeLike 64 = .ok (.aload_n 0, 1) := by decide +kernel
theorem d_R_becomeLike_65 : decode c_R_becomeLike 65 = .ok (.aload_n 1, 1) := by decide +kernel
theorem d_R_becomeLike_66 : decode c_R_becomeLike 66 = .ok (.getfield 41, 3) := by decide +kernel
theorem d_R_becomeLike_69 : decode c_R_becomeLike 69 = .ok (.putfield 41, 3) := by decide +kernel
theorem d_R_becomeLike_72 : decode c_R_becomeLike 72 = .ok (.aload_n 0, 1) := by decide +kernel
theorem d_R_becomeLike_73 : decode c_R_becomeLike 73 = .ok (.aload_n 1, 1) := by decide +kernel
theorem d_R_becomeLike_74 : decode c_R_becomeLike 74 = .ok (.getfield 44, 3) := by decide +kernel
theorem d_R_becomeLike_77 : decode c_R_becomeLike 77 = .ok (.putfield 44, 3) := by decide +kernel
theorem d_R_becomeLike_80 : decode c_R_becomeLike 80 = .ok (.aload_n 0, 1) := by decide +kernel
theorem d_R_becomeLike_81 : decode c_R_becomeLike 81 = .ok (.aload_n 1, 1) := by decide +kernel
theorem d_R_becomeLike_82 : decode c_R_becomeLike 82 = .ok (.getfield 47, 3) := by decide +kernel
theorem d_R_becomeLike_85 : decode c_R_becomeLike 85 = .ok (.putfield 47, 3) := by decide +kernel
theorem d_R_becomeLike_88 : decode c_R_becomeLike 88 = .ok (.return_, 1) := by decide +kernel
theorem d_R_standAlone_0 : decode c_R_standAlone 0 = .ok (.aload_n 0, 1) := by decide +kernel
theorem d_R_standAlone_1 : decode c_R_standAlone 1 = .ok (.aconst_null, 1) := by decide +kernel
theorem d_R_standAlone_2 : decode c_R_standAlone 2 = .ok (.putfield 50, 3) := by decide +kernel
theorem d_R_standAlone_5 : decode c_R_standAlone 5 = .ok (.aload_n 0, 1) := by decide +kernel
theorem d_R_standAlone_6 : decode c_R_standAlone 6 = .ok (.iconst 0, 1) := by decide +kernel
theorem d_R_standAlone_7 : decode c_R_standAlone 7 = .ok (.putfield 37, 3) := by decide +kernel
theorem d_R_standAlone_10 : decode c_R_standAlone 10 = .ok (.return_, 1) := by decide +kernel
theorem d_R_isBeside_0 : decode c_R_isBeside 0 = .ok (.aload_n 0, 1) := by decide +kernel
theorem d_R_isBeside_1 : decode c_R_isBeside 1 = .ok (.getfield 25, 3) := by decide +kernel
theorem d_R_isBeside_4 : decode c_R_isBeside 4 = .ok (.aload_n 0, 1) := by decide +kernel
theorem d_R_isBeside_5 : decode c_R_isBeside 5 = .ok (.getfield 28, 3) := by decide +kernel
theorem d_R_isBeside_8 : decode c_R_isBeside 8 = .ok (.aload_n 1, 1) := by decide +kernel
theorem d_R_isBeside_9 : decode c_R_isBeside 9 = .ok (.getfield 25, 3) := by decide +kernel
theorem d_R_isBeside_12 : decode c_R_isBeside 12 = .ok (.aload_n 1, 1) := by decide +kernel
theorem d_R_isBeside_13 : decode c_R_isBeside 13 = .ok (.getfield 28, 3) := by decide +kernel
theorem d_R_isBeside_16 : decode c_R_isBeside 16 = .ok (.invokestatic 54, 3) := by decide +kernel
theorem d_R_isBeside_19 : decode c_R_isBeside 19 = .ok (.iconst 1, 1) := by decide +kernel
theorem d_R_isBeside_20 : decode c_R_isBeside 20 = .ok (.if_icmp .ne 7, 3) := by decide +kernel
theorem d_R_isBeside_23 : decode c_R_isBeside 23 = .ok (.iconst 1, 1) := by decide +kernel
theorem d_R_isBeside_24 : decode c_R_isBeside 24 = .ok (.goto 4, 3) := by decide +kernel
theorem d_R_isBeside_27 : decode c_R_isBeside 27 = .ok (.iconst 0, 1) := by decide +kernel
theorem d_R_isBeside_28 : decode c_R_isBeside 28 = .ok (.ireturn, 1) := by decide +kernel
theorem d_R_isSpent_0 : decode c_R_isSpent 0 = .ok (.aload_n 0, 1) := by decide +kernel
theorem d_R_isSpent_1 : decode c_R_isSpent 1 = .ok (.getfield 9, 3) := by decide +kernel
theorem d_R_isSpent_4 : decode c_R_isSpent 4 = .ok (.aload_n 0, 1) := by decide +kernel
theorem d_R_isSpent_5 : decode c_R_isSpent 5 = .ok (.getfield 15, 3) := by decide +kernel
theorem d_R_isSpent_8 : decode c_R_isSpent 8 = .ok (.if_icmp .ge 7, 3) := by decide +kernel
theorem d_R_isSpent_11 : decode c_R_isSpent 11 = .ok (.iconst 1, 1) := by decide +kernel
theorem d_R_isSpent_12 : decode c_R_isSpent 12 = .ok (.goto 4, 3) := by decide +kernel
theorem d_R_isSpent_15 : decode c_R_isSpent 15 = .ok (.iconst 0, 1) := by decide +kernel
theorem d_R_isSpent_16 : decode c_R_isSpent 16 = .ok (.ireturn, 1) := by decide +kernel
theorem d_R_canDance_0 : decode c_R_canDance 0 = .ok (.aload_n 0, 1) := by decide +kernel
theorem d_R_canDance_1 : decode c_R_canDance 1 = .ok (.getfield 41, 3) := by decide +kernel
theorem d_R_canDance_4 : decode c_R_canDance 4 = .ok (.ifCond .ne 14, 3) := by decide +kernel
theorem d_R_canDance_7 : decode c_R_canDance 7 = .ok (.aload_n 0, 1) := by decide +kernel
theorem d_R_canDance_8 : decode c_R_canDance 8 = .ok (.invokevirtual 58, 3) := by decide +kernel
theorem d_R_canDance_11 : decode c_R_canDance 11 = .ok (.ifCond .ne 7, 3) := by decide +kernel
theorem d_R_canDance_14 : decode c_R_canDance 14 = .ok (.iconst 1, 1) := by decide +kernel
theorem d_R_canDance_15 : decode c_R_canDance 15 = .ok (.goto 4, 3) := by decide +kernel
theorem d_R_canDance_18 : decode c_R_canDance 18 = .ok (.iconst 0, 1) := by decide +kernel
theorem d_R_canDance_19 : decode c_R_canDance 19 = .ok (.ireturn, 1) := by decide +kernel
theorem d_R_windBy_0 : decode c_R_windBy 0 = .ok (.aload_n 0, 1) := by decide +kernel
theorem d_R_windBy_1 : decode c_R_windBy 1 = .ok (.iconst 0, 1) := by decide +kernel
theorem d_R_windBy_2 : decode c_R_windBy 2 = .ok (.sipush 200, 3) := by decide +kernel
theorem d_R_windBy_5 : decode c_R_windBy 5 = .ok (.aload_n 0, 1) := by decide +kernel
theorem d_R_windBy_6 : decode c_R_windBy 6 = .ok (.getfield 9, 3) := by decide +kernel
theorem d_R_windBy_9 : decode c_R_windBy 9 = .ok (.iload_n 1, 1) := by decide +kernel
theorem d_R_windBy_10 : decode c_R_windBy 10 = .ok (.iadd, 1) := by decide +kernel
theorem d_R_windBy_11 : decode c_R_windBy 11 = .ok (.invokestatic 62, 3) := by decide +kernel
theorem d_R_windBy_14 : decode c_R_windBy 14 = .ok (.invokestatic 68, 3) := by decide +kernel
theorem d_R_windBy_17 : decode c_R_windBy 17 = .ok (.putfield 9, 3) := by decide +kernel
theorem d_R_windBy_20 : decode c_R_windBy 20 = .ok (.return_, 1) := by decide +kernel
theorem d_R_aimAt_0 : decode c_R_aimAt 0 = .ok (.aload_n 0, 1) := by decide +kernel
theorem d_R_aimAt_1 : decode c_R_aimAt 1 = .ok (.iload_n 1, 1) := by decide +kernel
theorem d_R_aimAt_2 : decode c_R_aimAt 2 = .ok (.putfield 71, 3) := by decide +kernel
theorem d_R_aimAt_5 : decode c_R_aimAt 5 = .ok (.aload_n 0, 1) := by decide +kernel
theorem d_R_aimAt_6 : decode c_R_aimAt 6 = .ok (.iload_n 2, 1) := by decide +kernel
theorem d_R_aimAt_7 : decode c_R_aimAt 7 = .ok (.putfield 74, 3) := by decide +kernel
theorem d_R_aimAt_10 : decode c_R_aimAt 10 = .ok (.return_, 1) := by decide +kernel
theorem d_R_aimFrom_0 : decode c_R_aimFrom 0 = .ok (.aload_n 0, 1) := by decide +kernel
theorem d_R_aimFrom_1 : decode c_R_aimFrom 1 = .ok (.iload_n 1, 1) := by decide +kernel
theorem d_R_aimFrom_2 : decode c_R_aimFrom 2 = .ok (.iload_n 3, 1) := by decide +kernel
theorem d_R_aimFrom_3 : decode c_R_aimFrom 3 = .ok (.invokestatic 77, 3) := by decide +kernel
theorem d_R_aimFrom_6 : decode c_R_aimFrom 6 = .ok (.iadd, 1) := by decide +kernel
theorem d_R_aimFrom_7 : decode c_R_aimFrom 7 = .ok (.iload_n 2, 1) := by decide +kernel
theorem d_R_aimFrom_8 : decode c_R_aimFrom 8 = .ok (.iload_n 3, 1) := by decide +kernel
theorem d_R_aimFrom_9 : decode c_R_aimFrom 9 = .ok (.invokestatic 81, 3) := by decide +kernel
theorem d_R_aimFrom_12 : decode c_R_aimFrom 12 = .ok (.iadd, 1) := by decide +kernel
theorem d_R_aimFrom_13 : decode c_R_aimFrom 13 = .ok (.invokevirtual 84, 3) := by decide +kernel
theorem d_R_aimFrom_16 : decode c_R_aimFrom 16 = .ok (.return_, 1) := by decide +kernel
theorem d_R_aimsOffFloor_0 : decode c_R_aimsOffFloor 0 = .ok (.aload_n 0, 1) := by decide +kernel
theorem d_R_aimsOffFloor_1 : decode c_R_aimsOffFloor 1 = .ok (.getfield 71, 3) := by decide +kernel
theorem d_R_aimsOffFloor_4 : decode c_R_aimsOffFloor 4 = .ok (.aload_n 0, 1) := by decide +kernel
theorem d_R_aimsOffFloor_5 : decode c_R_aimsOffFloor 5 = .ok (.getfield 74, 3) := by decide +kernel
theorem d_R_aimsOffFloor_8 : decode c_R_aimsOffFloor 8 = .ok (.invokestatic 88, 3) := by decide +kernel
theorem d_R_aimsOffFloor_11 : decode c_R_aimsOffFloor 11 = .ok (.ifCond .ne 7, 3) := by decide +kernel
theorem d_R_aimsOffFloor_14 : decode c_R_aimsOffFloor 14 = .ok (.iconst 1, 1) := by decide +kernel
theorem d_R_aimsOffFloor_15 : decode c_R_aimsOffFloor 15 = .ok (.goto 4, 3) := by decide +kernel
theorem d_R_aimsOffFloor_18 : decode c_R_aimsOffFloor 18 = .ok (.iconst 0, 1) := by decide +kernel
theorem d_R_aimsOffFloor_19 : decode c_R_aimsOffFloor 19 = .ok (.ireturn, 1) := by decide +kernel
theorem d_R_goAndTurn_0 : decode c_R_goAndTurn 0 = .ok (.aload_n 0, 1) := by decide +kernel
theorem d_R_goAndTurn_1 : decode c_R_goAndTurn 1 = .ok (.aload_n 0, 1) := by decide +kernel
theorem d_R_goAndTurn_2 : decode c_R_goAndTurn 2 = .ok (.getfield 71, 3) := by decide +kernel
theorem d_R_goAndTurn_5 : decode c_R_goAndTurn 5 = .ok (.putfield 25, 3) := by decide +kernel
theorem d_R_goAndTurn_8 : decode c_R_goAndTurn 8 = .ok (.aload_n 0, 1) := by decide +kernel
theorem d_R_goAndTurn_9 : decode c_R_goAndTurn 9 = .ok (.aload_n 0, 1) := by decide +kernel
theorem d_R_goAndTurn_10 : decode c_R_goAndTurn 10 = .ok (.getfield 74, 3) := by decide +kernel
theorem d_R_goAndTurn_13 : decode c_R_goAndTurn 13 = .ok (.putfield 28, 3) := by decide +kernel
theorem d_R_goAndTurn_16 : decode c_R_goAndTurn 16 = .ok (.aload_n 0, 1) := by decide +kernel
theorem d_R_goAndTurn_17 : decode c_R_goAndTurn 17 = .ok (.aload_n 0, 1) := by decide +kernel
theorem d_R_goAndTurn_18 : decode c_R_goAndTurn 18 = .ok (.getfield 31, 3) := by decide +kernel
theorem d_R_goAndTurn_21 : decode c_R_goAndTurn 21 = .ok (.iload_n 1, 1) := by decide +kernel
theorem d_R_goAndTurn_22 : decode c_R_goAndTurn 22 = .ok (.invokestatic 92, 3) := by decide +kernel
theorem d_R_goAndTurn_25 : decode c_R_goAndTurn 25 = .ok (.putfield 31, 3) := by decide +kernel
theorem d_R_goAndTurn_28 : decode c_R_goAndTurn 28 = .ok (.aload_n 0, 1) := by decide +kernel
theorem d_R_goAndTurn_29 : decode c_R_goAndTurn 29 = .ok (.dup, 1) := by decide +kernel
theorem d_R_goAndTurn_30 : decode c_R_goAndTurn 30 = .ok (.getfield 9, 3) := by decide +kernel
theorem d_R_goAndTurn_33 : decode c_R_goAndTurn 33 = .ok (.aload_n 0, 1) := by decide +kernel
theorem d_R_goAndTurn_34 : decode c_R_goAndTurn 34 = .ok (.getfield 15, 3) := by decide +kernel
theorem d_R_goAndTurn_37 : decode c_R_goAndTurn 37 = .ok (.isub, 1) := by decide +kernel
theorem d_R_goAndTurn_38 : decode c_R_goAndTurn 38 = .ok (.putfield 9, 3) := by decide +kernel
theorem d_R_goAndTurn_41 : decode c_R_goAndTurn 41 = .ok (.aload_n 0, 1) := by decide +kernel
theorem d_R_goAndTurn_42 : decode c_R_goAndTurn 42 = .ok (.dup, 1) := by decide +kernel
theorem d_R_goAndTurn_43 : decode c_R_goAndTurn 43 = .ok (.getfield 44, 3) := by decide +kernel
theorem d_R_goAndTurn_46 : decode c_R_goAndTurn 46 = .ok (.iconst 1, 1) := by decide +kernel
theorem d_R_goAndTurn_47 : decode c_R_goAndTurn 47 = .ok (.iadd, 1) := by decide +kernel
theorem d_R_goAndTurn_48 : decode c_R_goAndTurn 48 = .ok (.putfield 44, 3) := by decide +kernel
theorem d_R_goAndTurn_51 : decode c_R_goAndTurn 51 = .ok (.return_, 1) := by decide +kernel
theorem d_R_stagger_0 : decode c_R_stagger 0 = .ok (.aload_n 0, 1) := by decide +kernel
theorem d_R_stagger_1 : decode c_R_stagger 1 = .ok (.iconst 3, 1) := by decide +kernel
theorem d_R_stagger_2 : decode c_R_stagger 2 = .ok (.putfield 41, 3) := by decide +kernel
theorem d_R_stagger_5 : decode c_R_stagger 5 = .ok (.aload_n 0, 1) := by decide +kernel
theorem d_R_stagger_6 : decode c_R_stagger 6 = .ok (.dup, 1) := by decide +kernel
theorem d_R_stagger_7 : decode c_R_stagger 7 = .ok (.getfield 47, 3) := by decide +kernel
theorem d_R_stagger_10 : decode c_R_stagger 10 = .ok (.iconst 1, 1) := by decide +kernel
theorem d_R_stagger_11 : decode c_R_stagger 11 = .ok (.iadd, 1) := by decide +kernel
theorem d_R_stagger_12 : decode c_R_stagger 12 = .ok (.putfield 47, 3) := by decide +kernel
theorem d_R_stagger_15 : decode c_R_stagger 15 = .ok (.return_, 1) := by decide +kernel
theorem d_R_directionTo_0 : decode c_R_directionTo 0 = .ok (.aload_n 1, 1) := by decide +kernel
theorem d_R_directionTo_1 : decode c_R_directionTo 1 = .ok (.getfield 25, 3) := by decide +kernel
theorem d_R_directionTo_4 : decode c_R_directionTo 4 = .ok (.aload_n 0, 1) := by decide +kernel
theorem d_R_directionTo_5 : decode c_R_directionTo 5 = .ok (.getfield 25, 3) := by decide +kernel
theorem d_R_directionTo_8 : decode c_R_directionTo 8 = .ok (.if_icmp .eq 20, 3) := by decide +kernel
theorem d_R_directionTo_11 : decode c_R_directionTo 11 = .ok (.aload_n 1, 1) := by decide +kernel
theorem d_R_directionTo_12 : decode c_R_directionTo 12 = .ok (.getfield 25, 3) := by decide +kernel
theorem d_R_directionTo_15 : decode c_R_directionTo 15 = .ok (.aload_n 0, 1) := by decide +kernel
theorem d_R_directionTo_16 : decode c_R_directionTo 16 = .ok (.getfield 25, 3) := by decide +kernel
theorem d_R_directionTo_19 : decode c_R_directionTo 19 = .ok (.if_icmp .le 7, 3) := by decide +kernel
theorem d_R_directionTo_22 : decode c_R_directionTo 22 = .ok (.iconst 1, 1) := by decide +kernel
theorem d_R_directionTo_23 : decode c_R_directionTo 23 = .ok (.goto 4, 3) := by decide +kernel
theorem d_R_directionTo_26 : decode c_R_directionTo 26 = .ok (.iconst 3, 1) := by decide +kernel
theorem d_R_directionTo_27 : decode c_R_directionTo 27 = .ok (.ireturn, 1) := by decide +kernel
theorem d_R_directionTo_28 : decode c_R_directionTo 28 = .ok (.aload_n 1, 1) := by decide +kernel
theorem d_R_directionTo_29 : decode c_R_directionTo 29 = .ok (.getfield 28, 3) := by decide +kernel
theorem d_R_directionTo_32 : decode c_R_directionTo 32 = .ok (.aload_n 0, 1) := by decide +kernel
theorem d_R_directionTo_33 : decode c_R_directionTo 33 = .ok (.getfield 28, 3) := by decide +kernel
theorem d_R_directionTo_36 : decode c_R_directionTo 36 = .ok (.if_icmp .le 7, 3) := by decide +kernel
theorem d_R_directionTo_39 : decode c_R_directionTo 39 = .ok (.iconst 2, 1) := by decide +kernel
theorem d_R_directionTo_40 : decode c_R_directionTo 40 = .ok (.goto 4, 3) := by decide +kernel
theorem d_R_directionTo_43 : decode c_R_directionTo 43 = .ok (.iconst 0, 1) := by decide +kernel
theorem d_R_directionTo_44 : decode c_R_directionTo 44 = .ok (.ireturn, 1) := by decide +kernel
theorem d_R_tell_0 : decode c_R_tell 0 = .ok (.iload_n 1, 1) := by decide +kernel
theorem d_R_tell_1 : decode c_R_tell 1 = .ok (.tableswitch 139 0 10 #[59, 64, 69, 74, 79, 84, 92, 97, 116, 129, 134], 59) := by decide +kernel
theorem d_R_tell_60 : decode c_R_tell 60 = .ok (.aload_n 0, 1) := by decide +kernel
theorem d_R_tell_61 : decode c_R_tell 61 = .ok (.getfield 25, 3) := by decide +kernel
theorem d_R_tell_64 : decode c_R_tell 64 = .ok (.ireturn, 1) := by decide +kernel
theorem d_R_tell_65 : decode c_R_tell 65 = .ok (.aload_n 0, 1) := by decide +kernel
theorem d_R_tell_66 : decode c_R_tell 66 = .ok (.getfield 28, 3) := by decide +kernel
theorem d_R_tell_69 : decode c_R_tell 69 = .ok (.ireturn, 1) := by decide +kernel
theorem d_R_tell_70 : decode c_R_tell 70 = .ok (.aload_n 0, 1) := by decide +kernel
theorem d_R_tell_71 : decode c_R_tell 71 = .ok (.getfield 31, 3) := by decide +kernel
theorem d_R_tell_74 : decode c_R_tell 74 = .ok (.ireturn, 1) := by decide +kernel
theorem d_R_tell_75 : decode c_R_tell 75 = .ok (.aload_n 0, 1) := by decide +kernel
theorem d_R_tell_76 : decode c_R_tell 76 = .ok (.getfield 9, 3) := by decide +kernel
theorem d_R_tell_79 : decode c_R_tell 79 = .ok (.ireturn, 1) := by decide +kernel
theorem d_R_tell_80 : decode c_R_tell 80 = .ok (.aload_n 0, 1) := by decide +kernel
theorem d_R_tell_81 : decode c_R_tell 81 = .ok (.getfield 15, 3) := by decide +kernel
theorem d_R_tell_84 : decode c_R_tell 84 = .ok (.ireturn, 1) := by decide +kernel
theorem d_R_tell_85 : decode c_R_tell 85 = .ok (.aload_n 0, 1) := by decide +kernel
theorem d_R_tell_86 : decode c_R_tell 86 = .ok (.getfield 21, 3) := by decide +kernel
theorem d_R_tell_89 : decode c_R_tell 89 = .ok (.getfield 95, 3) := by decide +kernel
theorem d_R_tell_92 : decode c_R_tell 92 = .ok (.ireturn, 1) := by decide +kernel
theorem d_R_tell_93 : decode c_R_tell 93 = .ok (.aload_n 0, 1) := by decide +kernel
theorem d_R_tell_94 : decode c_R_tell 94 = .ok (.getfield 34, 3) := by decide +kernel
theorem d_R_tell_97 : decode c_R_tell 97 = .ok (.ireturn, 1) := by decide +kernel
theorem d_R_tell_98 : decode c_R_tell 98 = .ok (.aload_n 0, 1) := by decide +kernel
theorem d_R_tell_99 : decode c_R_tell 99 = .ok (.getfield 50, 3) := by decide +kernel
theorem d_R_tell_102 : decode c_R_tell 102 = .ok (.ifnonnull 7, 3) := by decide +kernel
theorem d_R_tell_105 : decode c_R_tell 105 = .ok (.iconst (-1), 1) := by decide +kernel
theorem d_R_tell_106 : decode c_R_tell 106 = .ok (.goto 10, 3) := by decide +kernel
theorem d_R_tell_109 : decode c_R_tell 109 = .ok (.aload_n 0, 1) := by decide +kernel
theorem d_R_tell_110 : decode c_R_tell 110 = .ok (.getfield 50, 3) := by decide +kernel
theorem d_R_tell_113 : decode c_R_tell 113 = .ok (.getfield 18, 3) := by decide +kernel
theorem d_R_tell_116 : decode c_R_tell 116 = .ok (.ireturn, 1) := by decide +kernel
theorem d_R_tell_117 : decode c_R_tell 117 = .ok (.aload_n 0, 1) := by decide +kernel
theorem d_R_tell_118 : decode c_R_tell 118 = .ok (.getfield 37, 3) := by decide +kernel
theorem d_R_tell_121 : decode c_R_tell 121 = .ok (.ifCond .eq 7, 3) := by decide +kernel
theorem d_R_tell_124 : decode c_R_tell 124 = .ok (.iconst 1, 1) := by decide +kernel
theorem d_R_tell_125 : decode c_R_tell 125 = .ok (.goto 4, 3) := by decide +kernel
theorem d_R_tell_128 : decode c_R_tell 128 = .ok (.iconst 0, 1) := by decide +kernel
theorem d_R_tell_129 : decode c_R_tell 129 = .ok (.ireturn, 1) := by decide +kernel
theorem d_R_tell_130 : decode c_R_tell 130 = .ok (.aload_n 0, 1) := by decide +kernel
theorem d_R_tell_131 : decode c_R_tell 131 = .ok (.getfield 41, 3) := by decide +kernel
theorem d_R_tell_134 : decode c_R_tell 134 = .ok (.ireturn, 1) := by decide +kernel
theorem d_R_tell_135 : decode c_R_tell 135 = .ok (.aload_n 0, 1) := by decide +kernel
theorem d_R_tell_136 : decode c_R_tell 136 = .ok (.getfield 44, 3) := by decide +kernel
theorem d_R_tell_139 : decode c_R_tell 139 = .ok (.ireturn, 1) := by decide +kernel
theorem d_R_tell_140 : decode c_R_tell 140 = .ok (.aload_n 0, 1) := by decide +kernel
theorem d_R_tell_141 : decode c_R_tell 141 = .ok (.getfield 47, 3) := by decide +kernel
theorem d_R_tell_144 : decode c_R_tell 144 = .ok (.ireturn, 1) := by decide +kernel
theorem d_N_init_0 : decode c_N_init 0 = .ok (.aload_n 0, 1) := by decide +kernel
theorem d_N_init_1 : decode c_N_init 1 = .ok (.invokespecial 3, 3) := by decide +kernel
theorem d_N_init_4 : decode c_N_init 4 = .ok (.aload_n 0, 1) := by decide +kernel
theorem d_N_init_5 : decode c_N_init 5 = .ok (.bipush 8, 2) := by decide +kernel
theorem d_N_init_7 : decode c_N_init 7 = .ok (.newarray .int, 2) := by decide +kernel
theorem d_N_init_9 : decode c_N_init 9 = .ok (.putfield 9, 3) := by decide +kernel
theorem d_N_init_12 : decode c_N_init 12 = .ok (.return_, 1) := by decide +kernel
theorem d_N_becomeLike_0 : decode c_N_becomeLike 0 = .ok (.aload_n 0, 1) := by decide +kernel
theorem d_N_becomeLike_1 : decode c_N_becomeLike 1 = .ok (.aload_n 1, 1) := by decide +kernel
theorem d_N_becomeLike_2 : decode c_N_becomeLike 2 = .ok (.getfield 15, 3) := by decide +kernel
theorem d_N_becomeLike_5 : decode c_N_becomeLike 5 = .ok (.putfield 15, 3) := by decide +kernel
theorem d_N_becomeLike_8 : decode c_N_becomeLike 8 = .ok (.aload_n 0, 1) := by decide +kernel
theorem d_N_becomeLike_9 : decode c_N_becomeLike 9 = .ok (.aload_n 1, 1) := by decide +kernel
theorem d_N_becomeLike_10 : decode c_N_becomeLike 10 = .ok (.getfield 19, 3) := by decide +kernel
theorem d_N_becomeLike_13 : decode c_N_becomeLike 13 = .ok (.putfield 19, 3) := by decide +kernel
theorem d_N_becomeLike_16 : decode c_N_becomeLike 16 = .ok (.aload_n 0, 1) := by decide +kernel
theorem d_N_becomeLike_17 : decode c_N_becomeLike 17 = .ok (.aload_n 1, 1) := by decide +kernel
theorem d_N_becomeLike_18 : decode c_N_becomeLike 18 = .ok (.getfield 22, 3) := by decide +kernel
theorem d_N_becomeLike_21 : decode c_N_becomeLike 21 = .ok (.putfield 22, 3) := by decide +kernel
theorem d_N_becomeLike_24 : decode c_N_becomeLike 24 = .ok (.aload_n 0, 1) := by decide +kernel
theorem d_N_becomeLike_25 : decode c_N_becomeLike 25 = .ok (.aload_n 1, 1) := by decide +kernel
theorem d_N_becomeLike_26 : decode c_N_becomeLike 26 = .ok (.getfield 25, 3) := by decide +kernel
theorem d_N_becomeLike_29 : decode c_N_becomeLike 29 = .ok (.putfield 25, 3) := by decide +kernel
theorem d_N_becomeLike_32 : decode c_N_becomeLike 32 = .ok (.iconst 0, 1) := by decide +kernel
theorem d_N_becomeLike_33 : decode c_N_becomeLike 33 = .ok (.istore_n 2, 1) := by decide +kernel
theorem d_N_becomeLike_34 : decode c_N_becomeLike 34 = .ok (.iload_n 2, 1) := by decide +kernel
theorem d_N_becomeLike_35 : decode c_N_becomeLike 35 = .ok (.aload_n 0, 1) := by decide +kernel
theorem d_N_becomeLike_36 : decode c_N_becomeLike 36 = .ok (.getfield 9, 3) := by decide +kernel
theorem d_N_becomeLike_39 : decode c_N_becomeLike 39 = .ok (.arraylength, 1) := by decide +kernel
theorem d_N_becomeLike_40 : decode c_N_becomeLike 40 = .ok (.if_icmp .ge 30, 3) := by decide +kernel
theorem d_N_becomeLike_43 : decode c_N_becomeLike 43 = .ok (.iload_n 2, 1) := by decide +kernel
theorem d_N_becomeLike_44 : decode c_N_becomeLike 44 = .ok (.aload_n 1, 1) := by decide +kernel
theorem d_N_becomeLike_45 : decode c_N_becomeLike 45 = .ok (.getfield 9, 3) := by decide +kernel
theorem d_N_becomeLike_48 : decode c_N_becomeLike 48 = .ok (.arraylength, 1) := by decide +kernel
theorem d_N_becomeLike_49 : decode c_N_becomeLike 49 = .ok (.if_icmp .ge 21, 3) := by decide +kernel
theorem d_N_becomeLike_52 : decode c_N_becomeLike 52 = .ok (.aload_n 0, 1) := by decide +kernel
theorem d_N_becomeLike_53 : decode c_N_becomeLike 53 = .ok (.getfield 9, 3) := by decide +kernel
theorem d_N_becomeLike_56 : decode c_N_becomeLike 56 = .ok (.iload_n 2, 1) := by decide +kernel
theorem d_N_becomeLike_57 : decode c_N_becomeLike 57 = .ok (.aload_n 1, 1) := by decide +kernel
theorem d_N_becomeLike_58 : decode c_N_becomeLike 58 = .ok (.getfield 9, 3) := by decide +kernel
theorem d_N_becomeLike_61 : decode c_N_becomeLike 61 = .ok (.iload_n 2, 1) := by decide +kernel
theorem d_N_becomeLike_62 : decode c_N_becomeLike 62 = .ok (.iaload, 1) := by decide +kernel
theorem d_N_becomeLike_63 : decode c_N_becomeLike 63 = .ok (.iastore, 1) := by decide +kernel
theorem d_N_becomeLike_64 : decode c_N_becomeLike 64 = .ok (.iinc 2 1, 3) := by decide +kernel
theorem d_N_becomeLike_67 : decode c_N_becomeLike 67 = .ok (.goto (-33), 3) := by decide +kernel
theorem d_N_becomeLike_70 : decode c_N_becomeLike 70 = .ok (.aload_n 0, 1) := by decide +kernel
theorem d_N_becomeLike_71 : decode c_N_becomeLike 71 = .ok (.aload_n 1, 1) := by decide +kernel
theorem d_N_becomeLike_72 : decode c_N_becomeLike 72 = .ok (.getfield 28, 3) := by decide +kernel
theorem d_N_becomeLike_75 : decode c_N_becomeLike 75 = .ok (.putfield 28, 3) := by decide +kernel
theorem d_N_becomeLike_78 : decode c_N_becomeLike 78 = .ok (.aload_n 0, 1) := by decide +kernel
theorem d_N_becomeLike_79 : decode c_N_becomeLike 79 = .ok (.aload_n 1, 1) := by decide +kernel
theorem d_N_becomeLike_80 : decode c_N_becomeLike 80 = .ok (.getfield 31, 3) := by decide +kernel
theorem d_N_becomeLike_83 : decode c_N_becomeLike 83 = .ok (.putfield 31, 3) := by decide +kernel
theorem d_N_becomeLike_86 : decode c_N_becomeLike 86 = .ok (.return_, 1) := by decide +kernel
theorem d_N_addToRound_0 : decode c_N_addToRound 0 = .ok (.aload_n 0, 1) := by decide +kernel
theorem d_N_addToRound_1 : decode c_N_addToRound 1 = .ok (.getfield 25, 3) := by decide +kernel
theorem d_N_addToRound_4 : decode c_N_addToRound 4 = .ok (.ifCond .lt 35, 3) := by decide +kernel
theorem d_N_addToRound_7 : decode c_N_addToRound 7 = .ok (.aload_n 0, 1) := by decide +kernel
theorem d_N_addToRound_8 : decode c_N_addToRound 8 = .ok (.getfield 25, 3) := by decide +kernel
theorem d_N_addToRound_11 : decode c_N_addToRound 11 = .ok (.aload_n 0, 1) := by decide +kernel
theorem d_N_addToRound_12 : decode c_N_addToRound 12 = .ok (.getfield 9, 3) := by decide +kernel
theorem d_N_addToRound_15 : decode c_N_addToRound 15 = .ok (.arraylength, 1) := by decide +kernel
theorem d_N_addToRound_16 : decode c_N_addToRound 16 = .ok (.if_icmp .ge 23, 3) := by decide +kernel
theorem d_N_addToRound_19 : decode c_N_addToRound 19 = .ok (.aload_n 0, 1) := by decide +kernel
theorem d_N_addToRound_20 : decode c_N_addToRound 20 = .ok (.getfield 9, 3) := by decide +kernel
theorem d_N_addToRound_23 : decode c_N_addToRound 23 = .ok (.aload_n 0, 1) := by decide +kernel
theorem d_N_addToRound_24 : decode c_N_addToRound 24 = .ok (.getfield 25, 3) := by decide +kernel
theorem d_N_addToRound_27 : decode c_N_addToRound 27 = .ok (.iload_n 1, 1) := by decide +kernel
theorem d_N_addToRound_28 : decode c_N_addToRound 28 = .ok (.iastore, 1) := by decide +kernel
theorem d_N_addToRound_29 : decode c_N_addToRound 29 = .ok (.aload_n 0, 1) := by decide +kernel
theorem d_N_addToRound_30 : decode c_N_addToRound 30 = .ok (.dup, 1) := by decide +kernel
theorem d_N_addToRound_31 : decode c_N_addToRound 31 = .ok (.getfield 25, 3) := by decide +kernel
theorem d_N_addToRound_34 : decode c_N_addToRound 34 = .ok (.iconst 1, 1) := by decide +kernel
theorem d_N_addToRound_35 : decode c_N_addToRound 35 = .ok (.iadd, 1) := by decide +kernel
theorem d_N_addToRound_36 : decode c_N_addToRound 36 = .ok (.putfield 25, 3) := by decide +kernel
theorem d_N_addToRound_39 : decode c_N_addToRound 39 = .ok (.return_, 1) := by decide +kernel
theorem d_N_whoseTurn_0 : decode c_N_whoseTurn 0 = .ok (.aload_n 0, 1) := by decide +kernel
theorem d_N_whoseTurn_1 : decode c_N_whoseTurn 1 = .ok (.getfield 28, 3) := by decide +kernel
theorem d_N_whoseTurn_4 : decode c_N_whoseTurn 4 = .ok (.ifCond .lt 38, 3) := by decide +kernel
theorem d_N_whoseTurn_7 : decode c_N_whoseTurn 7 = .ok (.aload_n 0, 1) := by decide +kernel
theorem d_N_whoseTurn_8 : decode c_N_whoseTurn 8 = .ok (.getfield 28, 3) := by decide +kernel
theorem d_N_whoseTurn_11 : decode c_N_whoseTurn 11 = .ok (.aload_n 0, 1) := by decide +kernel
theorem d_N_whoseTurn_12 : decode c_N_whoseTurn 12 = .ok (.getfield 25, 3) := by decide +kernel
theorem d_N_whoseTurn_15 : decode c_N_whoseTurn 15 = .ok (.if_icmp .ge 27, 3) := by decide +kernel
theorem d_N_whoseTurn_18 : decode c_N_whoseTurn 18 = .ok (.aload_n 0, 1) := by decide +kernel
theorem d_N_whoseTurn_19 : decode c_N_whoseTurn 19 = .ok (.getfield 28, 3) := by decide +kernel
theorem d_N_whoseTurn_22 : decode c_N_whoseTurn 22 = .ok (.aload_n 0, 1) := by decide +kernel
theorem d_N_whoseTurn_23 : decode c_N_whoseTurn 23 = .ok (.getfield 9, 3) := by decide +kernel
theorem d_N_whoseTurn_26 : decode c_N_whoseTurn 26 = .ok (.arraylength, 1) := by decide +kernel
theorem d_N_whoseTurn_27 : decode c_N_whoseTurn 27 = .ok (.if_icmp .ge 15, 3) := by decide +kernel
theorem d_N_whoseTurn_30 : decode c_N_whoseTurn 30 = .ok (.aload_n 0, 1) := by decide +kernel
theorem d_N_whoseTurn_31 : decode c_N_whoseTurn 31 = .ok (.getfield 9, 3) := by decide +kernel
theorem d_N_whoseTurn_34 : decode c_N_whoseTurn 34 = .ok (.aload_n 0, 1) := by decide +kernel
theorem d_N_whoseTurn_35 : decode c_N_whoseTurn 35 = .ok (.getfield 28, 3) := by decide +kernel
theorem d_N_whoseTurn_38 : decode c_N_whoseTurn 38 = .ok (.iaload, 1) := by decide +kernel
theorem d_N_whoseTurn_39 : decode c_N_whoseTurn 39 = .ok (.goto 4, 3) := by decide +kernel
theorem d_N_whoseTurn_42 : decode c_N_whoseTurn 42 = .ok (.iconst (-1), 1) := by decide +kernel
theorem d_N_whoseTurn_43 : decode c_N_whoseTurn 43 = .ok (.ireturn, 1) := by decide +kernel
theorem d_N_attend_0 : decode c_N_attend 0 = .ok (.aload_n 0, 1) := by decide +kernel
theorem d_N_attend_1 : decode c_N_attend 1 = .ok (.getfield 15, 3) := by decide +kernel
theorem d_N_attend_4 : decode c_N_attend 4 = .ok (.aload_n 0, 1) := by decide +kernel
theorem d_N_attend_5 : decode c_N_attend 5 = .ok (.getfield 19, 3) := by decide +kernel
theorem d_N_attend_8 : decode c_N_attend 8 = .ok (.aload_n 1, 1) := by decide +kernel
theorem d_N_attend_9 : decode c_N_attend 9 = .ok (.getfield 34, 3) := by decide +kernel
theorem d_N_attend_12 : decode c_N_attend 12 = .ok (.aload_n 1, 1) := by decide +kernel
theorem d_N_attend_13 : decode c_N_attend 13 = .ok (.getfield 37, 3) := by decide +kernel
theorem d_N_attend_16 : decode c_N_attend 16 = .ok (.invokestatic 38, 3) := by decide +kernel
theorem d_N_attend_19 : decode c_N_attend 19 = .ok (.istore_n 2, 1) := by decide +kernel
theorem d_N_attend_20 : decode c_N_attend 20 = .ok (.aload_n 1, 1) := by decide +kernel
theorem d_N_attend_21 : decode c_N_attend 21 = .ok (.getfield 42, 3) := by decide +kernel
theorem d_N_attend_24 : decode c_N_attend 24 = .ok (.sipush 150, 3) := by decide +kernel
theorem d_N_attend_27 : decode c_N_attend 27 = .ok (.if_icmp .lt 10, 3) := by decide +kernel
theorem d_N_attend_30 : decode c_N_attend 30 = .ok (.aload_n 0, 1) := by decide +kernel
theorem d_N_attend_31 : decode c_N_attend 31 = .ok (.invokevirtual 45, 3) := by decide +kernel
theorem d_N_attend_34 : decode c_N_attend 34 = .ok (.goto 97, 3) := by decide +kernel
theorem d_N_attend_37 : decode c_N_attend 37 = .ok (.iload_n 2, 1) := by decide +kernel
theorem d_N_attend_38 : decode c_N_attend 38 = .ok (.iconst 1, 1) := by decide +kernel
theorem d_N_attend_39 : decode c_N_attend 39 = .ok (.if_icmp .gt 28, 3) := by decide +kernel
theorem d_N_attend_42 : decode c_N_attend 42 = .ok (.aload_n 1, 1) := by decide +kernel
theorem d_N_attend_43 : decode c_N_attend 43 = .ok (.aload_n 0, 1) := by decide +kernel
theorem d_N_attend_44 : decode c_N_attend 44 = .ok (.getfield 22, 3) := by decide +kernel
theorem d_N_attend_47 : decode c_N_attend 47 = .ok (.invokevirtual 48, 3) := by decide +kernel
theorem d_N_attend_50 : decode c_N_attend 50 = .ok (.aload_n 0, 1) := by decide +kernel
theorem d_N_attend_51 : decode c_N_attend 51 = .ok (.dup, 1) := by decide +kernel
theorem d_N_attend_52 : decode c_N_attend 52 = .ok (.getfield 31, 3) := by decide +kernel
theorem d_N_attend_55 : decode c_N_attend 55 = .ok (.iconst 1, 1) := by decide +kernel
theorem d_N_attend_56 : decode c_N_attend 56 = .ok (.iadd, 1) := by decide +kernel
theorem d_N_attend_57 : decode c_N_attend 57 = .ok (.putfield 31, 3) := by decide +kernel
theorem d_N_attend_60 : decode c_N_attend 60 = .ok (.aload_n 0, 1) := by decide +kernel
theorem d_N_attend_61 : decode c_N_attend 61 = .ok (.invokevirtual 45, 3) := by decide +kernel
theorem d_N_attend_64 : decode c_N_attend 64 = .ok (.goto 67, 3) := by decide +kernel
theorem d_N_attend_67 : decode c_N_attend 67 = .ok (.aload_n 0, 1) := by decide +kernel
theorem d_N_attend_68 : decode c_N_attend 68 = .ok (.getfield 15, 3) := by decide +kernel
theorem d_N_attend_71 : decode c_N_attend 71 = .ok (.aload_n 1, 1) := by decide +kernel
theorem d_N_attend_72 : decode c_N_attend 72 = .ok (.getfield 34, 3) := by decide +kernel
theorem d_N_attend_75 : decode c_N_attend 75 = .ok (.if_icmp .eq 31, 3) := by decide +kernel
theorem d_N_attend_78 : decode c_N_attend 78 = .ok (.aload_n 0, 1) := by decide +kernel
theorem d_N_attend_79 : decode c_N_attend 79 = .ok (.dup, 1) := by decide +kernel
theorem d_N_attend_80 : decode c_N_attend 80 = .ok (.getfield 15, 3) := by decide +kernel
theorem d_N_attend_83 : decode c_N_attend 83 = .ok (.aload_n 1, 1) := by decide +kernel
theorem d_N_attend_84 : decode c_N_attend 84 = .ok (.getfield 34, 3) := by decide +kernel
theorem d_N_attend_87 : decode c_N_attend 87 = .ok (.aload_n 0, 1) := by decide +kernel
theorem d_N_attend_88 : decode c_N_attend 88 = .ok (.getfield 15, 3) := by decide +kernel
theorem d_N_attend_91 : decode c_N_attend 91 = .ok (.if_icmp .le 7, 3) := by decide +kernel
theorem d_N_attend_94 : decode c_N_attend 94 = .ok (.iconst 1, 1) := by decide +kernel
theorem d_N_attend_95 : decode c_N_attend 95 = .ok (.goto 4, 3) := by decide +kernel
theorem d_N_attend_98 : decode c_N_attend 98 = .ok (.iconst (-1), 1) := by decide +kernel
theorem d_N_attend_99 : decode c_N_attend 99 = .ok (.iadd, 1) := by decide +kernel
theorem d_N_attend_100 : decode c_N_attend 100 = .ok (.putfield 15, 3) := by decide +kernel
theorem d_N_attend_103 : decode c_N_attend 103 = .ok (.goto 28, 3) := by decide +kernel
theorem d_N_attend_106 : decode c_N_attend 106 = .ok (.aload_n 0, 1) := by decide +kernel
theorem d_N_attend_107 : decode c_N_attend 107 = .ok (.dup, 1) := by decide +kernel
theorem d_N_attend_108 : decode c_N_attend 108 = .ok (.getfield 19, 3) := by decide +kernel
theorem d_N_attend_111 : decode c_N_attend 111 = .ok (.aload_n 1, 1) := by decide +kernel
theorem d_N_attend_112 : decode c_N_attend 112 = .ok (.getfield 37, 3) := by decide +kernel
theorem d_N_attend_115 : decode c_N_attend 115 = .ok (.aload_n 0, 1) := by decide +kernel
theorem d_N_attend_116 : decode c_N_attend 116 = .ok (.getfield 19, 3) := by decide +kernel
theorem d_N_attend_119 : decode c_N_attend 119 = .ok (.if_icmp .le 7, 3) := by decide +kernel
theorem d_N_attend_122 : decode c_N_attend 122 = .ok (.iconst 1, 1) := by decide +kernel
theorem d_N_attend_123 : decode c_N_attend 123 = .ok (.goto 4, 3) := by decide +kernel
theorem d_N_attend_126 : decode c_N_attend 126 = .ok (.iconst (-1), 1) := by decide +kernel
theorem d_N_attend_127 : decode c_N_attend 127 = .ok (.iadd, 1) := by decide +kernel
theorem d_N_attend_128 : decode c_N_attend 128 = .ok (.putfield 19, 3) := by decide +kernel
theorem d_N_attend_131 : decode c_N_attend 131 = .ok (.return_, 1) := by decide +kernel
theorem d_N_passTurn_0 : decode c_N_passTurn 0 = .ok (.aload_n 0, 1) := by decide +kernel
theorem d_N_passTurn_1 : decode c_N_passTurn 1 = .ok (.aload_n 0, 1) := by decide +kernel
theorem d_N_passTurn_2 : decode c_N_passTurn 2 = .ok (.getfield 28, 3) := by decide +kernel
theorem d_N_passTurn_5 : decode c_N_passTurn 5 = .ok (.iconst 1, 1) := by decide +kernel
theorem d_N_passTurn_6 : decode c_N_passTurn 6 = .ok (.iadd, 1) := by decide +kernel
theorem d_N_passTurn_7 : decode c_N_passTurn 7 = .ok (.aload_n 0, 1) := by decide +kernel
theorem d_N_passTurn_8 : decode c_N_passTurn 8 = .ok (.getfield 25, 3) := by decide +kernel
theorem d_N_passTurn_11 : decode c_N_passTurn 11 = .ok (.if_icmp .ge 12, 3) := by decide +kernel
theorem d_N_passTurn_14 : decode c_N_passTurn 14 = .ok (.aload_n 0, 1) := by decide +kernel
theorem d_N_passTurn_15 : decode c_N_passTurn 15 = .ok (.getfield 28, 3) := by decide +kernel
theorem d_N_passTurn_18 : decode c_N_passTurn 18 = .ok (.iconst 1, 1) := by decide +kernel
theorem d_N_passTurn_19 : decode c_N_passTurn 19 = .ok (.iadd, 1) := by decide +kernel
theorem d_N_passTurn_20 : decode c_N_passTurn 20 = .ok (.goto 4, 3) := by decide +kernel
theorem d_N_passTurn_23 : decode c_N_passTurn 23 = .ok (.iconst 0, 1) := by decide +kernel
theorem d_N_passTurn_24 : decode c_N_passTurn 24 = .ok (.putfield 28, 3) := by decide +kernel
theorem d_N_passTurn_27 : decode c_N_passTurn 27 = .ok (.return_, 1) := by decide +kernel
theorem d_N_tell_0 : decode c_N_tell 0 = .ok (.iload_n 1, 1) := by decide +kernel
theorem d_N_tell_1 : decode c_N_tell 1 = .ok (.tableswitch 60 0 4 #[35, 40, 45, 50, 55], 35) := by decide +kernel
theorem d_N_tell_36 : decode c_N_tell 36 = .ok (.aload_n 0, 1) := by decide +kernel
theorem d_N_tell_37 : decode c_N_tell 37 = .ok (.getfield 15, 3) := by decide +kernel
theorem d_N_tell_40 : decode c_N_tell 40 = .ok (.ireturn, 1) := by decide +kernel
theorem d_N_tell_41 : decode c_N_tell 41 = .ok (.aload_n 0, 1) := by decide +kernel
theorem d_N_tell_42 : decode c_N_tell 42 = .ok (.getfield 19, 3) := by decide +kernel
theorem d_N_tell_45 : decode c_N_tell 45 = .ok (.ireturn, 1) := by decide +kernel
theorem d_N_tell_46 : decode c_N_tell 46 = .ok (.aload_n 0, 1) := by decide +kernel
theorem d_N_tell_47 : decode c_N_tell 47 = .ok (.getfield 22, 3) := by decide +kernel
theorem d_N_tell_50 : decode c_N_tell 50 = .ok (.ireturn, 1) := by decide +kernel
theorem d_N_tell_51 : decode c_N_tell 51 = .ok (.aload_n 0, 1) := by decide +kernel
theorem d_N_tell_52 : decode c_N_tell 52 = .ok (.getfield 25, 3) := by decide +kernel
theorem d_N_tell_55 : decode c_N_tell 55 = .ok (.ireturn, 1) := by decide +kernel
theorem d_N_tell_56 : decode c_N_tell 56 = .ok (.aload_n 0, 1) := by decide +kernel
theorem d_N_tell_57 : decode c_N_tell 57 = .ok (.invokevirtual 52, 3) := by decide +kernel
theorem d_N_tell_60 : decode c_N_tell 60 = .ok (.ireturn, 1) := by decide +kernel
theorem d_N_tell_61 : decode c_N_tell 61 = .ok (.aload_n 0, 1) := by decide +kernel
theorem d_N_tell_62 : decode c_N_tell 62 = .ok (.getfield 31, 3) := by decide +kernel
theorem d_N_tell_65 : decode c_N_tell 65 = .ok (.ireturn, 1) := by decide +kernel
end
section
theorem d_F_init_0 : decode c_F_init 0 = .ok (.aload_n 0, 1) := by decide +kernel
theorem d_F_init_1 : decode c_F_init 1 = .ok (.invokespecial 3, 3) := by decide +kernel
theorem d_F_init_4 : decode c_F_init 4 = .ok (.aload_n 0, 1) := by decide +kernel
theorem d_F_init_5 : decode c_F_init 5 = .ok (.new 9, 3) := by decide +kernel
theorem d_F_init_8 : decode c_F_init 8 = .ok (.dup, 1) := by decide +kernel
theorem d_F_init_9 : decode c_F_init 9 = .ok (.invokespecial 11, 3) := by decide +kernel
theorem d_F_init_12 : decode c_F_init 12 = .ok (.putfield 12, 3) := by decide +kernel
theorem d_F_init_15 : decode c_F_init 15 = .ok (.aload_n 0, 1) := by decide +kernel
theorem d_F_init_16 : decode c_F_init 16 = .ok (.new 9, 3) := by decide +kernel
theorem d_F_init_19 : decode c_F_init 19 = .ok (.dup, 1) := by decide +kernel
theorem d_F_init_20 : decode c_F_init 20 = .ok (.invokespecial 11, 3) := by decide +kernel
theorem d_F_init_23 : decode c_F_init 23 = .ok (.putfield 18, 3) := by decide +kernel
theorem d_F_init_26 : decode c_F_init 26 = .ok (.return_, 1) := by decide +kernel
theorem d_F_dancerOrNull_0 : decode c_F_dancerOrNull 0 = .ok (.iload_n 1, 1) := by decide +kernel
theorem d_F_dancerOrNull_1 : decode c_F_dancerOrNull 1 = .ok (.ifCond .lt 28, 3) := by decide +kernel
theorem d_F_dancerOrNull_4 : decode c_F_dancerOrNull 4 = .ok (.iload_n 1, 1) := by decide +kernel
theorem d_F_dancerOrNull_5 : decode c_F_dancerOrNull 5 = .ok (.aload_n 0, 1) := by decide +kernel
theorem d_F_dancerOrNull_6 : decode c_F_dancerOrNull 6 = .ok (.getfield 12, 3) := by decide +kernel
theorem d_F_dancerOrNull_9 : decode c_F_dancerOrNull 9 = .ok (.invokevirtual 21, 3) := by decide +kernel
theorem d_F_dancerOrNull_12 : decode c_F_dancerOrNull 12 = .ok (.if_icmp .ge 17, 3) := by decide +kernel
theorem d_F_dancerOrNull_15 : decode c_F_dancerOrNull 15 = .ok (.aload_n 0, 1) := by decide +kernel
theorem d_F_dancerOrNull_16 : decode c_F_dancerOrNull 16 = .ok (.getfield 12, 3) := by decide +kernel
theorem d_F_dancerOrNull_19 : decode c_F_dancerOrNull 19 = .ok (.iload_n 1, 1) := by decide +kernel
theorem d_F_dancerOrNull_20 : decode c_F_dancerOrNull 20 = .ok (.invokevirtual 25, 3) := by decide +kernel
theorem d_F_dancerOrNull_23 : decode c_F_dancerOrNull 23 = .ok (.checkcast 29, 3) := by decide +kernel
theorem d_F_dancerOrNull_26 : decode c_F_dancerOrNull 26 = .ok (.goto 4, 3) := by decide +kernel
theorem d_F_dancerOrNull_29 : decode c_F_dancerOrNull 29 = .ok (.aconst_null, 1) := by decide +kernel
theorem d_F_dancerOrNull_30 : decode c_F_dancerOrNull 30 = .ok (.areturn, 1) := by decide +kernel
theorem d_F_whoIsAt_0 : decode c_F_whoIsAt 0 = .ok (.iconst 0, 1) := by decide +kernel
theorem d_F_whoIsAt_1 : decode c_F_whoIsAt 1 = .ok (.istore_n 3, 1) := by decide +kernel
theorem d_F_whoIsAt_2 : decode c_F_whoIsAt 2 = .ok (.iload_n 3, 1) := by decide +kernel
theorem d_F_whoIsAt_3 : decode c_F_whoIsAt 3 = .ok (.aload_n 0, 1) := by decide +kernel
theorem d_F_whoIsAt_4 : decode c_F_whoIsAt 4 = .ok (.getfield 12, 3) := by decide +kernel
theorem d_F_whoIsAt_7 : decode c_F_whoIsAt 7 = .ok (.invokevirtual 21, 3) := by decide +kernel
theorem d_F_whoIsAt_10 : decode c_F_whoIsAt 10 = .ok (.if_icmp .ge 43, 3) := by decide +kernel
theorem d_F_whoIsAt_13 : decode c_F_whoIsAt 13 = .ok (.aload_n 0, 1) := by decide +kernel
theorem d_F_whoIsAt_14 : decode c_F_whoIsAt 14 = .ok (.getfield 12, 3) := by decide +kernel
theorem d_F_whoIsAt_17 : decode c_F_whoIsAt 17 = .ok (.iload_n 3, 1) := by decide +kernel
theorem d_F_whoIsAt_18 : decode c_F_whoIsAt 18 = .ok (.invokevirtual 25, 3) := by decide +kernel
theorem d_F_whoIsAt_21 : decode c_F_whoIsAt 21 = .ok (.checkcast 29, 3) := by decide +kernel
theorem d_F_whoIsAt_24 : decode c_F_whoIsAt 24 = .ok (.astore 4, 2) := by decide +kernel
theorem d_F_whoIsAt_26 : decode c_F_whoIsAt 26 = .ok (.aload 4, 2) := by decide +kernel
theorem d_F_whoIsAt_28 : decode c_F_whoIsAt 28 = .ok (.getfield 31, 3) := by decide +kernel
theorem d_F_whoIsAt_31 : decode c_F_whoIsAt 31 = .ok (.iload_n 1, 1) := by decide +kernel
theorem d_F_whoIsAt_32 : decode c_F_whoIsAt 32 = .ok (.if_icmp .ne 15, 3) := by decide +kernel
theorem d_F_whoIsAt_35 : decode c_F_whoIsAt 35 = .ok (.aload 4, 2) := by decide +kernel
theorem d_F_whoIsAt_37 : decode c_F_whoIsAt 37 = .ok (.getfield 35, 3) := by decide +kernel
theorem d_F_whoIsAt_40 : decode c_F_whoIsAt 40 = .ok (.iload_n 2, 1) := by decide +kernel
theorem d_F_whoIsAt_41 : decode c_F_whoIsAt 41 = .ok (.if_icmp .ne 6, 3) := by decide +kernel
theorem d_F_whoIsAt_44 : decode c_F_whoIsAt 44 = .ok (.aload 4, 2) := by decide +kernel
theorem d_F_whoIsAt_46 : decode c_F_whoIsAt 46 = .ok (.areturn, 1) := by decide +kernel
theorem d_F_whoIsAt_47 : decode c_F_whoIsAt 47 = .ok (.iinc 3 1, 3) := by decide +kernel
theorem d_F_whoIsAt_50 : decode c_F_whoIsAt 50 = .ok (.goto (-48), 3) := by decide +kernel
theorem d_F_whoIsAt_53 : decode c_F_whoIsAt 53 = .ok (.aconst_null, 1) := by decide +kernel
theorem d_F_whoIsAt_54 : decode c_F_whoIsAt 54 = .ok (.areturn, 1) := by decide +kernel
theorem d_F_areBeside_0 : decode c_F_areBeside 0 = .ok (.aload_n 0, 1) := by decide +kernel
theorem d_F_areBeside_1 : decode c_F_areBeside 1 = .ok (.iload_n 1, 1) := by decide +kernel
theorem d_F_areBeside_2 : decode c_F_areBeside 2 = .ok (.invokevirtual 38, 3) := by decide +kernel
theorem d_F_areBeside_5 : decode c_F_areBeside 5 = .ok (.astore_n 3, 1) := by decide +kernel
theorem d_F_areBeside_6 : decode c_F_areBeside 6 = .ok (.aload_n 0, 1) := by decide +kernel
theorem d_F_areBeside_7 : decode c_F_areBeside 7 = .ok (.iload_n 2, 1) := by decide +kernel
theorem d_F_areBeside_8 : decode c_F_areBeside 8 = .ok (.invokevirtual 38, 3) := by decide +kernel
theorem d_F_areBeside_11 : decode c_F_areBeside 11 = .ok (.astore 4, 2) := by decide +kernel
theorem d_F_areBeside_13 : decode c_F_areBeside 13 = .ok (.aload_n 3, 1) := by decide +kernel
theorem d_F_areBeside_14 : decode c_F_areBeside 14 = .ok (.ifnull 21, 3) := by decide +kernel
theorem d_F_areBeside_17 : decode c_F_areBeside 17 = .ok (.aload 4, 2) := by decide +kernel
theorem d_F_areBeside_19 : decode c_F_areBeside 19 = .ok (.ifnull 16, 3) := by decide +kernel
theorem d_F_areBeside_22 : decode c_F_areBeside 22 = .ok (.aload_n 3, 1) := by decide +kernel
theorem d_F_areBeside_23 : decode c_F_areBeside 23 = .ok (.aload 4, 2) := by decide +kernel
theorem d_F_areBeside_25 : decode c_F_areBeside 25 = .ok (.invokevirtual 42, 3) := by decide +kernel
theorem d_F_areBeside_28 : decode c_F_areBeside 28 = .ok (.ifCond .eq 7, 3) := by decide +kernel
theorem d_F_areBeside_31 : decode c_F_areBeside 31 = .ok (.iconst 1, 1) := by decide +kernel
theorem d_F_areBeside_32 : decode c_F_areBeside 32 = .ok (.goto 4, 3) := by decide +kernel
theorem d_F_areBeside_35 : decode c_F_areBeside 35 = .ok (.iconst 0, 1) := by decide +kernel
theorem d_F_areBeside_36 : decode c_F_areBeside 36 = .ok (.ireturn, 1) := by decide +kernel
theorem d_F_restartBehindTheEndOf_0 : decode c_F_restartBehindTheEndOf 0 = .ok (.iconst 0, 1) := by decide +kernel
theorem d_F_restartBehindTheEndOf_1 : decode c_F_restartBehindTheEndOf 1 = .ok (.istore_n 2, 1) := by decide +kernel
theorem d_F_restartBehindTheEndOf_2 : decode c_F_restartBehindTheEndOf 2 = .ok (.iload_n 2, 1) := by decide +kernel
theorem d_F_restartBehindTheEndOf_3 : decode c_F_restartBehindTheEndOf 3 = .ok (.aload_n 0, 1) := by decide +kernel
theorem d_F_restartBehindTheEndOf_4 : decode c_F_restartBehindTheEndOf 4 = .ok (.getfield 12, 3) := by decide +kernel
theorem d_F_restartBehindTheEndOf_7 : decode c_F_restartBehindTheEndOf 7 = .ok (.invokevirtual 21, 3) := by decide +kernel
theorem d_F_restartBehindTheEndOf_10 : decode c_F_restartBehindTheEndOf 10 = .ok (.if_icmp .ge 45, 3) := by decide +kernel
theorem d_F_restartBehindTheEndOf_13 : decode c_F_restartBehindTheEndOf 13 = .ok (.aload_n 0, 1) := by decide +kernel
theorem d_F_restartBehindTheEndOf_14 : decode c_F_restartBehindTheEndOf 14 = .ok (.getfield 12, 3) := by decide +kernel
theorem d_F_restartBehindTheEndOf_17 : decode c_F_restartBehindTheEndOf 17 = .ok (.iload_n 2, 1) := by decide +kernel
theorem d_F_restartBehindTheEndOf_18 : decode c_F_restartBehindTheEndOf 18 = .ok (.invokevirtual 25, 3) := by decide +kernel
theorem d_F_restartBehindTheEndOf_21 : decode c_F_restartBehindTheEndOf 21 = .ok (.checkcast 29, 3) := by decide +kernel
theorem d_F_restartBehindTheEndOf_24 : decode c_F_restartBehindTheEndOf 24 = .ok (.astore_n 3, 1) := by decide +kernel
theorem d_F_restartBehindTheEndOf_25 : decode c_F_restartBehindTheEndOf 25 = .ok (.aload_n 3, 1) := by decide +kernel
theorem d_F_restartBehindTheEndOf_26 : decode c_F_restartBehindTheEndOf 26 = .ok (.getfield 46, 3) := by decide +kernel
theorem d_F_restartBehindTheEndOf_29 : decode c_F_restartBehindTheEndOf 29 = .ok (.aload_n 1, 1) := by decide +kernel
theorem d_F_restartBehindTheEndOf_30 : decode c_F_restartBehindTheEndOf 30 = .ok (.if_acmp .ne 19, 3) := by decide +kernel
theorem d_F_restartBehindTheEndOf_33 : decode c_F_restartBehindTheEndOf 33 = .ok (.aload_n 3, 1) := by decide +kernel
theorem d_F_restartBehindTheEndOf_34 : decode c_F_restartBehindTheEndOf 34 = .ok (.getfield 50, 3) := by decide +kernel
theorem d_F_restartBehindTheEndOf_37 : decode c_F_restartBehindTheEndOf 37 = .ok (.aload_n 1, 1) := by decide +kernel
theorem d_F_restartBehindTheEndOf_38 : decode c_F_restartBehindTheEndOf 38 = .ok (.getfield 53, 3) := by decide +kernel
theorem d_F_restartBehindTheEndOf_41 : decode c_F_restartBehindTheEndOf 41 = .ok (.if_icmp .lt 8, 3) := by decide +kernel
theorem d_F_restartBehindTheEndOf_44 : decode c_F_restartBehindTheEndOf 44 = .ok (.aload_n 3, 1) := by decide +kernel
theorem d_F_restartBehindTheEndOf_45 : decode c_F_restartBehindTheEndOf 45 = .ok (.iconst 0, 1) := by decide +kernel
theorem d_F_restartBehindTheEndOf_46 : decode c_F_restartBehindTheEndOf 46 = .ok (.putfield 50, 3) := by decide +kernel
theorem d_F_restartBehindTheEndOf_49 : decode c_F_restartBehindTheEndOf 49 = .ok (.iinc 2 1, 3) := by decide +kernel
theorem d_F_restartBehindTheEndOf_52 : decode c_F_restartBehindTheEndOf 52 = .ok (.goto (-50), 3) := by decide +kernel
theorem d_F_restartBehindTheEndOf_55 : decode c_F_restartBehindTheEndOf 55 = .ok (.return_, 1) := by decide +kernel
theorem d_F_becomeLike_0 : decode c_F_becomeLike 0 = .ok (.aload_n 0, 1) := by decide +kernel
theorem d_F_becomeLike_1 : decode c_F_becomeLike 1 = .ok (.aload_n 1, 1) := by decide +kernel
theorem d_F_becomeLike_2 : decode c_F_becomeLike 2 = .ok (.getfield 58, 3) := by decide +kernel
theorem d_F_becomeLike_5 : decode c_F_becomeLike 5 = .ok (.putfield 58, 3) := by decide +kernel
theorem d_F_becomeLike_8 : decode c_F_becomeLike 8 = .ok (.aload_n 0, 1) := by decide +kernel
theorem d_F_becomeLike_9 : decode c_F_becomeLike 9 = .ok (.getfield 12, 3) := by decide +kernel
theorem d_F_becomeLike_12 : decode c_F_becomeLike 12 = .ok (.invokevirtual 21, 3) := by decide +kernel
theorem d_F_becomeLike_15 : decode c_F_becomeLike 15 = .ok (.istore_n 2, 1) := by decide +kernel
theorem d_F_becomeLike_16 : decode c_F_becomeLike 16 = .ok (.iload_n 2, 1) := by decide +kernel
theorem d_F_becomeLike_17 : decode c_F_becomeLike 17 = .ok (.aload_n 1, 1) := by decide +kernel
theorem d_F_becomeLike_18 : decode c_F_becomeLike 18 = .ok (.getfield 12, 3) := by decide +kernel
theorem d_F_becomeLike_21 : decode c_F_becomeLike 21 = .ok (.invokevirtual 21, 3) := by decide +kernel
theorem d_F_becomeLike_24 : decode c_F_becomeLike 24 = .ok (.if_icmp .ge 39, 3) := by decide +kernel
theorem d_F_becomeLike_27 : decode c_F_becomeLike 27 = .ok (.aload_n 0, 1) := by decide +kernel
theorem d_F_becomeLike_28 : decode c_F_becomeLike 28 = .ok (.getfield 12, 3) := by decide +kernel
theorem d_F_becomeLike_31 : decode c_F_becomeLike 31 = .ok (.new 29, 3) := by decide +kernel
theorem d_F_becomeLike_34 : decode c_F_becomeLike 34 = .ok (.dup, 1) := by decide +kernel
theorem d_F_becomeLike_35 : decode c_F_becomeLike 35 = .ok (.iload_n 2, 1) := by decide +kernel
theorem d_F_becomeLike_36 : decode c_F_becomeLike 36 = .ok (.aload_n 1, 1) := by decide +kernel
theorem d_F_becomeLike_37 : decode c_F_becomeLike 37 = .ok (.getfield 12, 3) := by decide +kernel
theorem d_F_becomeLike_40 : decode c_F_becomeLike 40 = .ok (.iload_n 2, 1) := by decide +kernel
theorem d_F_becomeLike_41 : decode c_F_becomeLike 41 = .ok (.invokevirtual 25, 3) := by decide +kernel
theorem d_F_becomeLike_44 : decode c_F_becomeLike 44 = .ok (.checkcast 29, 3) := by decide +kernel
theorem d_F_becomeLike_47 : decode c_F_becomeLike 47 = .ok (.getfield 46, 3) := by decide +kernel
theorem d_F_becomeLike_50 : decode c_F_becomeLike 50 = .ok (.invokespecial 61, 3) := by decide +kernel
theorem d_F_becomeLike_53 : decode c_F_becomeLike 53 = .ok (.invokevirtual 64, 3) := by decide +kernel
theorem d_F_becomeLike_56 : decode c_F_becomeLike 56 = .ok (.pop, 1) := by decide +kernel
theorem d_F_becomeLike_57 : decode c_F_becomeLike 57 = .ok (.iinc 2 1, 3) := by decide +kernel
theorem d_F_becomeLike_60 : decode c_F_becomeLike 60 = .ok (.goto (-44), 3) := by decide +kernel
theorem d_F_becomeLike_63 : decode c_F_becomeLike 63 = .ok (.iconst 0, 1) := by decide +kernel
theorem d_F_becomeLike_64 : decode c_F_becomeLike 64 = .ok (.istore_n 2, 1) := by decide +kernel
theorem d_F_becomeLike_65 : decode c_F_becomeLike 65 = .ok (.iload_n 2, 1) := by decide +kernel
theorem d_F_becomeLike_66 : decode c_F_becomeLike 66 = .ok (.aload_n 0, 1) := by decide +kernel
theorem d_F_becomeLike_67 : decode c_F_becomeLike 67 = .ok (.getfield 12, 3) := by decide +kernel
theorem d_F_becomeLike_70 : decode c_F_becomeLike 70 = .ok (.invokevirtual 21, 3) := by decide +kernel
theorem d_F_becomeLike_73 : decode c_F_becomeLike 73 = .ok (.if_icmp .ge 83, 3) := by decide +kernel
theorem d_F_becomeLike_76 : decode c_F_becomeLike 76 = .ok (.iload_n 2, 1) := by decide +kernel
theorem d_F_becomeLike_77 : decode c_F_becomeLike 77 = .ok (.aload_n 1, 1) := by decide +kernel
theorem d_F_becomeLike_78 : decode c_F_becomeLike 78 = .ok (.getfield 12, 3) := by decide +kernel
theorem d_F_becomeLike_81 : decode c_F_becomeLike 81 = .ok (.invokevirtual 21, 3) := by decide +kernel
theorem d_F_becomeLike_84 : decode c_F_becomeLike 84 = .ok (.if_icmp .ge 72, 3) := by decide +kernel
theorem d_F_becomeLike_87 : decode c_F_becomeLike 87 = .ok (.aload_n 1, 1) := by decide +kernel
theorem d_F_becomeLike_88 : decode c_F_becomeLike 88 = .ok (.getfield 12, 3) := by decide +kernel
theorem d_F_becomeLike_91 : decode c_F_becomeLike 91 = .ok (.iload_n 2, 1) := by decide +kernel
theorem d_F_becomeLike_92 : decode c_F_becomeLike 92 = .ok (.invokevirtual 25, 3) := by decide +kernel
theorem d_F_becomeLike_95 : decode c_F_becomeLike 95 = .ok (.checkcast 29, 3) := by decide +kernel
theorem d_F_becomeLike_98 : decode c_F_becomeLike 98 = .ok (.astore_n 3, 1) := by decide +kernel
theorem d_F_becomeLike_99 : decode c_F_becomeLike 99 = .ok (.aload_n 0, 1) := by decide +kernel
theorem d_F_becomeLike_100 : decode c_F_becomeLike 100 = .ok (.getfield 12, 3) := by decide +kernel
theorem d_F_becomeLike_103 : decode c_F_becomeLike 103 = .ok (.iload_n 2, 1) := by decide +kernel
theorem d_F_becomeLike_104 : decode c_F_becomeLike 104 = .ok (.invokevirtual 25, 3) := by decide +kernel
theorem d_F_becomeLike_107 : decode c_F_becomeLike 107 = .ok (.checkcast 29, 3) := by decide +kernel
theorem d_F_becomeLike_110 : decode c_F_becomeLike 110 = .ok (.aload_n 3, 1) := by decide +kernel
theorem d_F_becomeLike_111 : decode c_F_becomeLike 111 = .ok (.invokevirtual 68, 3) := by decide +kernel
theorem d_F_becomeLike_114 : decode c_F_becomeLike 114 = .ok (.aload_n 0, 1) := by decide +kernel
theorem d_F_becomeLike_115 : decode c_F_becomeLike 115 = .ok (.getfield 12, 3) := by decide +kernel
theorem d_F_becomeLike_118 : decode c_F_becomeLike 118 = .ok (.iload_n 2, 1) := by decide +kernel
theorem d_F_becomeLike_119 : decode c_F_becomeLike 119 = .ok (.invokevirtual 25, 3) := by decide +kernel
theorem d_F_becomeLike_122 : decode c_F_becomeLike 122 = .ok (.checkcast 29, 3) := by decide +kernel
theorem d_F_becomeLike_125 : decode c_F_becomeLike 125 = .ok (.aload_n 3, 1) := by decide +kernel
theorem d_F_becomeLike_126 : decode c_F_becomeLike 126 = .ok (.getfield 72, 3) := by decide +kernel
theorem d_F_becomeLike_129 : decode c_F_becomeLike 129 = .ok (.ifnonnull 7, 3) := by decide +kernel
theorem d_F_becomeLike_132 : decode c_F_becomeLike 132 = .ok (.aconst_null, 1) := by decide +kernel
theorem d_F_becomeLike_133 : decode c_F_becomeLike 133 = .ok (.goto 14, 3) := by decide +kernel
theorem d_F_becomeLike_136 : decode c_F_becomeLike 136 = .ok (.aload_n 0, 1) := by decide +kernel
theorem d_F_becomeLike_137 : decode c_F_becomeLike 137 = .ok (.aload_n 3, 1) := by decide +kernel
theorem d_F_becomeLike_138 : decode c_F_becomeLike 138 = .ok (.getfield 72, 3) := by decide +kernel
theorem d_F_becomeLike_141 : decode c_F_becomeLike 141 = .ok (.getfield 76, 3) := by decide +kernel
theorem d_F_becomeLike_144 : decode c_F_becomeLike 144 = .ok (.invokevirtual 38, 3) := by decide +kernel
theorem d_F_becomeLike_147 : decode c_F_becomeLike 147 = .ok (.putfield 72, 3) := by decide +kernel
theorem d_F_becomeLike_150 : decode c_F_becomeLike 150 = .ok (.iinc 2 1, 3) := by decide +kernel
theorem d_F_becomeLike_153 : decode c_F_becomeLike 153 = .ok (.goto (-88), 3) := by decide +kernel
theorem d_F_becomeLike_156 : decode c_F_becomeLike 156 = .ok (.aload_n 0, 1) := by decide +kernel
theorem d_F_becomeLike_157 : decode c_F_becomeLike 157 = .ok (.getfield 18, 3) := by decide +kernel
theorem d_F_becomeLike_160 : decode c_F_becomeLike 160 = .ok (.invokevirtual 21, 3) := by decide +kernel
theorem d_F_becomeLike_163 : decode c_F_becomeLike 163 = .ok (.istore_n 2, 1) := by decide +kernel
theorem d_F_becomeLike_164 : decode c_F_becomeLike 164 = .ok (.iload_n 2, 1) := by decide +kernel
theorem d_F_becomeLike_165 : decode c_F_becomeLike 165 = .ok (.aload_n 1, 1) := by decide +kernel
theorem d_F_becomeLike_166 : decode c_F_becomeLike 166 = .ok (.getfield 18, 3) := by decide +kernel
theorem d_F_becomeLike_169 : decode c_F_becomeLike 169 = .ok (.invokevirtual 21, 3) := by decide +kernel
theorem d_F_becomeLike_172 : decode c_F_becomeLike 172 = .ok (.if_icmp .ge 24, 3) := by decide +kernel
theorem d_F_becomeLike_175 : decode c_F_becomeLike 175 = .ok (.aload_n 0, 1) := by decide +kernel
theorem d_F_becomeLike_176 : decode c_F_becomeLike 176 = .ok (.getfield 18, 3) := by decide +kernel
theorem d_F_becomeLike_179 : decode c_F_becomeLike 179 = .ok (.new 79, 3) := by decide +kernel
theorem d_F_becomeLike_182 : decode c_F_becomeLike 182 = .ok (.dup, 1) := by decide +kernel
theorem d_F_becomeLike_183 : decode c_F_becomeLike 183 = .ok (.invokespecial 81, 3) := by decide +kernel
theorem d_F_becomeLike_186 : decode c_F_becomeLike 186 = .ok (.invokevirtual 64, 3) := by decide +kernel
theorem d_F_becomeLike_189 : decode c_F_becomeLike 189 = .ok (.pop, 1) := by decide +kernel
theorem d_F_becomeLike_190 : decode c_F_becomeLike 190 = .ok (.iinc 2 1, 3) := by decide +kernel
theorem d_F_becomeLike_193 : decode c_F_becomeLike 193 = .ok (.goto (-29), 3) := by decide +kernel
theorem d_F_becomeLike_196 : decode c_F_becomeLike 196 = .ok (.iconst 0, 1) := by decide +kernel
theorem d_F_becomeLike_197 : decode c_F_becomeLike 197 = .ok (.istore_n 2, 1) := by decide +kernel
theorem d_F_becomeLike_198 : decode c_F_becomeLike 198 = .ok (.iload_n 2, 1) := by decide +kernel
theorem d_F_becomeLike_199 : decode c_F_becomeLike 199 = .ok (.aload_n 0, 1) := by decide +kernel
theorem d_F_becomeLike_200 : decode c_F_becomeLike 200 = .ok (.getfield 18, 3) := by decide +kernel
theorem d_F_becomeLike_203 : decode c_F_becomeLike 203 = .ok (.invokevirtual 21, 3) := by decide +kernel
theorem d_F_becomeLike_206 : decode c_F_becomeLike 206 = .ok (.if_icmp .ge 45, 3) := by decide +kernel
theorem d_F_becomeLike_209 : decode c_F_becomeLike 209 = .ok (.iload_n 2, 1) := by decide +kernel
theorem d_F_becomeLike_210 : decode c_F_becomeLike 210 = .ok (.aload_n 1, 1) := by decide +kernel
theorem d_F_becomeLike_211 : decode c_F_becomeLike 211 = .ok (.getfield 18, 3) := by decide +kernel
theorem d_F_becomeLike_214 : decode c_F_becomeLike 214 = .ok (.invokevirtual 21, 3) := by decide +kernel
theorem d_F_becomeLike_217 : decode c_F_becomeLike 217 = .ok (.if_icmp .ge 34, 3) := by decide +kernel
theorem d_F_becomeLike_220 : decode c_F_becomeLike 220 = .ok (.aload_n 0, 1) := by decide +kernel
theorem d_F_becomeLike_221 : decode c_F_becomeLike 221 = .ok (.getfield 18, 3) := by decide +kernel
theorem d_F_becomeLike_224 : decode c_F_becomeLike 224 = .ok (.iload_n 2, 1) := by decide +kernel
theorem d_F_becomeLike_225 : decode c_F_becomeLike 225 = .ok (.invokevirtual 25, 3) := by decide +kernel
theorem d_F_becomeLike_228 : decode c_F_becomeLike 228 = .ok (.checkcast 79, 3) := by decide +kernel
theorem d_F_becomeLike_231 : decode c_F_becomeLike 231 = .ok (.aload_n 1, 1) := by decide +kernel
theorem d_F_becomeLike_232 : decode c_F_becomeLike 232 = .ok (.getfield 18, 3) := by decide +kernel
theorem d_F_becomeLike_235 : decode c_F_becomeLike 235 = .ok (.iload_n 2, 1) := by decide +kernel
theorem d_F_becomeLike_236 : decode c_F_becomeLike 236 = .ok (.invokevirtual 25, 3) := by decide +kernel
theorem d_F_becomeLike_239 : decode c_F_becomeLike 239 = .ok (.checkcast 79, 3) := by decide +kernel
theorem d_F_becomeLike_242 : decode c_F_becomeLike 242 = .ok (.invokevirtual 82, 3) := by decide +kernel
theorem d_F_becomeLike_245 : decode c_F_becomeLike 245 = .ok (.iinc 2 1, 3) := by decide +kernel
theorem d_F_becomeLike_248 : decode c_F_becomeLike 248 = .ok (.goto (-50), 3) := by decide +kernel
theorem d_F_becomeLike_251 : decode c_F_becomeLike 251 = .ok (.return_, 1) := by decide +kernel
theorem d_F_playBeat_0 : decode c_F_playBeat 0 = .ok (.iconst 0, 1) := by decide +kernel
theorem d_F_playBeat_1 : decode c_F_playBeat 1 = .ok (.istore_n 1, 1) := by decide +kernel
theorem d_F_playBeat_2 : decode c_F_playBeat 2 = .ok (.iconst 0, 1) := by decide +kernel
theorem d_F_playBeat_3 : decode c_F_playBeat 3 = .ok (.istore_n 2, 1) := by decide +kernel
theorem d_F_playBeat_4 : decode c_F_playBeat 4 = .ok (.iload_n 2, 1) := by decide +kernel
theorem d_F_playBeat_5 : decode c_F_playBeat 5 = .ok (.aload_n 0, 1) := by decide +kernel
theorem d_F_playBeat_6 : decode c_F_playBeat 6 = .ok (.getfield 12, 3) := by decide +kernel
theorem d_F_playBeat_9 : decode c_F_playBeat 9 = .ok (.invokevirtual 21, 3) := by decide +kernel
theorem d_F_playBeat_12 : decode c_F_playBeat 12 = .ok (.if_icmp .ge 43, 3) := by decide +kernel
theorem d_F_playBeat_15 : decode c_F_playBeat 15 = .ok (.aload_n 0, 1) := by decide +kernel
theorem d_F_playBeat_16 : decode c_F_playBeat 16 = .ok (.getfield 12, 3) := by decide +kernel
theorem d_F_playBeat_19 : decode c_F_playBeat 19 = .ok (.iload_n 2, 1) := by decide +kernel
theorem d_F_playBeat_20 : decode c_F_playBeat 20 = .ok (.invokevirtual 25, 3) := by decide +kernel
theorem d_F_playBeat_23 : decode c_F_playBeat 23 = .ok (.checkcast 29, 3) := by decide +kernel
theorem d_F_playBeat_26 : decode c_F_playBeat 26 = .ok (.astore_n 3, 1) := by decide +kernel
theorem d_F_playBeat_27 : decode c_F_playBeat 27 = .ok (.aload_n 3, 1) := by decide +kernel
theorem d_F_playBeat_28 : decode c_F_playBeat 28 = .ok (.getfield 85, 3) := by decide +kernel
theorem d_F_playBeat_31 : decode c_F_playBeat 31 = .ok (.ifCond .ne 18, 3) := by decide +kernel
theorem d_F_playBeat_34 : decode c_F_playBeat 34 = .ok (.aload_n 3, 1) := by decide +kernel
theorem d_F_playBeat_35 : decode c_F_playBeat 35 = .ok (.invokestatic 89, 3) := by decide +kernel
theorem d_F_playBeat_38 : decode c_F_playBeat 38 = .ok (.ifCond .eq 11, 3) := by decide +kernel
theorem d_F_playBeat_41 : decode c_F_playBeat 41 = .ok (.iload_n 1, 1) := by decide +kernel
theorem d_F_playBeat_42 : decode c_F_playBeat 42 = .ok (.aload_n 0, 1) := by decide +kernel
theorem d_F_playBeat_43 : decode c_F_playBeat 43 = .ok (.aload_n 3, 1) := by decide +kernel
theorem d_F_playBeat_44 : decode c_F_playBeat 44 = .ok (.invokevirtual 92, 3) := by decide +kernel
theorem d_F_playBeat_47 : decode c_F_playBeat 47 = .ok (.iadd, 1) := by decide +kernel
theorem d_F_playBeat_48 : decode c_F_playBeat 48 = .ok (.istore_n 1, 1) := by decide +kernel
theorem d_F_playBeat_49 : decode c_F_playBeat 49 = .ok (.iinc 2 1, 3) := by decide +kernel
theorem d_F_playBeat_52 : decode c_F_playBeat 52 = .ok (.goto (-48), 3) := by decide +kernel
theorem d_F_playBeat_55 : decode c_F_playBeat 55 = .ok (.iconst 0, 1) := by decide +kernel
theorem d_F_playBeat_56 : decode c_F_playBeat 56 = .ok (.istore_n 2, 1) := by decide +kernel
theorem d_F_playBeat_57 : decode c_F_playBeat 57 = .ok (.iload_n 2, 1) := by decide +kernel
theorem d_F_playBeat_58 : decode c_F_playBeat 58 = .ok (.aload_n 0, 1) := by decide +kernel
theorem d_F_playBeat_59 : decode c_F_playBeat 59 = .ok (.getfield 18, 3) := by decide +kernel
theorem d_F_playBeat_62 : decode c_F_playBeat 62 = .ok (.invokevirtual 21, 3) := by decide +kernel
theorem d_F_playBeat_65 : decode c_F_playBeat 65 = .ok (.if_icmp .ge 47, 3) := by decide +kernel
theorem d_F_playBeat_68 : decode c_F_playBeat 68 = .ok (.aload_n 0, 1) := by decide +kernel
theorem d_F_playBeat_69 : decode c_F_playBeat 69 = .ok (.aload_n 0, 1) := by decide +kernel
theorem d_F_playBeat_70 : decode c_F_playBeat 70 = .ok (.getfield 18, 3) := by decide +kernel
theorem d_F_playBeat_73 : decode c_F_playBeat 73 = .ok (.iload_n 2, 1) := by decide +kernel
theorem d_F_playBeat_74 : decode c_F_playBeat 74 = .ok (.invokevirtual 25, 3) := by decide +kernel
theorem d_F_playBeat_77 : decode c_F_playBeat 77 = .ok (.checkcast 79, 3) := by decide +kernel
theorem d_F_playBeat_80 : decode c_F_playBeat 80 = .ok (.invokevirtual 96, 3) := by decide +kernel
theorem d_F_playBeat_83 : decode c_F_playBeat 83 = .ok (.invokevirtual 38, 3) := by decide +kernel
theorem d_F_playBeat_86 : decode c_F_playBeat 86 = .ok (.astore_n 3, 1) := by decide +kernel
theorem d_F_playBeat_87 : decode c_F_playBeat 87 = .ok (.aload_n 3, 1) := by decide +kernel
theorem d_F_playBeat_88 : decode c_F_playBeat 88 = .ok (.ifnull 18, 3) := by decide +kernel
theorem d_F_playBeat_91 : decode c_F_playBeat 91 = .ok (.aload_n 0, 1) := by decide +kernel
theorem d_F_playBeat_92 : decode c_F_playBeat 92 = .ok (.getfield 18, 3) := by decide +kernel
theorem d_F_playBeat_95 : decode c_F_playBeat 95 = .ok (.iload_n 2, 1) := by decide +kernel
theorem d_F_playBeat_96 : decode c_F_playBeat 96 = .ok (.invokevirtual 25, 3) := by decide +kernel
theorem d_F_playBeat_99 : decode c_F_playBeat 99 = .ok (.checkcast 79, 3) := by decide +kernel
theorem d_F_playBeat_102 : decode c_F_playBeat 102 = .ok (.aload_n 3, 1) := by decide +kernel
theorem d_F_playBeat_103 : decode c_F_playBeat 103 = .ok (.invokevirtual 99, 3) := by decide +kernel
theorem d_F_playBeat_106 : decode c_F_playBeat 106 = .ok (.iinc 2 1, 3) := by decide +kernel
theorem d_F_playBeat_109 : decode c_F_playBeat 109 = .ok (.goto (-52), 3) := by decide +kernel
theorem d_F_playBeat_112 : decode c_F_playBeat 112 = .ok (.iconst 0, 1) := by decide +kernel
theorem d_F_playBeat_113 : decode c_F_playBeat 113 = .ok (.istore_n 2, 1) := by decide +kernel
theorem d_F_playBeat_114 : decode c_F_playBeat 114 = .ok (.iload_n 2, 1) := by decide +kernel
theorem d_F_playBeat_115 : decode c_F_playBeat 115 = .ok (.aload_n 0, 1) := by decide +kernel
theorem d_F_playBeat_116 : decode c_F_playBeat 116 = .ok (.getfield 12, 3) := by decide +kernel
theorem d_F_playBeat_119 : decode c_F_playBeat 119 = .ok (.invokevirtual 21, 3) := by decide +kernel
theorem d_F_playBeat_122 : decode c_F_playBeat 122 = .ok (.if_icmp .ge 35, 3) := by decide +kernel
theorem d_F_playBeat_125 : decode c_F_playBeat 125 = .ok (.aload_n 0, 1) := by decide +kernel
theorem d_F_playBeat_126 : decode c_F_playBeat 126 = .ok (.getfield 12, 3) := by decide +kernel
theorem d_F_playBeat_129 : decode c_F_playBeat 129 = .ok (.iload_n 2, 1) := by decide +kernel
theorem d_F_playBeat_130 : decode c_F_playBeat 130 = .ok (.invokevirtual 25, 3) := by decide +kernel
theorem d_F_playBeat_133 : decode c_F_playBeat 133 = .ok (.checkcast 29, 3) := by decide +kernel
theorem d_F_playBeat_136 : decode c_F_playBeat 136 = .ok (.astore_n 3, 1) := by decide +kernel
theorem d_F_playBeat_137 : decode c_F_playBeat 137 = .ok (.aload_n 3, 1) := by decide +kernel
theorem d_F_playBeat_138 : decode c_F_playBeat 138 = .ok (.iconst 0, 1) := by decide +kernel
theorem d_F_playBeat_139 : decode c_F_playBeat 139 = .ok (.aload_n 3, 1) := by decide +kernel
theorem d_F_playBeat_140 : decode c_F_playBeat 140 = .ok (.getfield 102, 3) := by decide +kernel
theorem d_F_playBeat_143 : decode c_F_playBeat 143 = .ok (.iconst 1, 1) := by decide +kernel
theorem d_F_playBeat_144 : decode c_F_playBeat 144 = .ok (.isub, 1) := by decide +kernel
theorem d_F_playBeat_145 : decode c_F_playBeat 145 = .ok (.invokestatic 105, 3) := by decide +kernel
theorem d_F_playBeat_148 : decode c_F_playBeat 148 = .ok (.putfield 102, 3) := by decide +kernel
theorem d_F_playBeat_151 : decode c_F_playBeat 151 = .ok (.iinc 2 1, 3) := by decide +kernel
theorem d_F_playBeat_154 : decode c_F_playBeat 154 = .ok (.goto (-40), 3) := by decide +kernel
theorem d_F_playBeat_157 : decode c_F_playBeat 157 = .ok (.aload_n 0, 1) := by decide +kernel
theorem d_F_playBeat_158 : decode c_F_playBeat 158 = .ok (.dup, 1) := by decide +kernel
theorem d_F_playBeat_159 : decode c_F_playBeat 159 = .ok (.getfield 58, 3) := by decide +kernel
theorem d_F_playBeat_162 : decode c_F_playBeat 162 = .ok (.iconst 1, 1) := by decide +kernel
theorem d_F_playBeat_163 : decode c_F_playBeat 163 = .ok (.iadd, 1) := by decide +kernel
theorem d_F_playBeat_164 : decode c_F_playBeat 164 = .ok (.putfield 58, 3) := by decide +kernel
theorem d_F_playBeat_167 : decode c_F_playBeat 167 = .ok (.iload_n 1, 1) := by decide +kernel
theorem d_F_playBeat_168 : decode c_F_playBeat 168 = .ok (.ireturn, 1) := by decide +kernel
theorem d_F_mayPerform_0 : decode c_F_mayPerform 0 = .ok (.aload_n 0, 1) := by decide +kernel
theorem d_F_mayPerform_1 : decode c_F_mayPerform 1 = .ok (.invokevirtual 111, 3) := by decide +kernel
theorem d_F_mayPerform_4 : decode c_F_mayPerform 4 = .ok (.ifCond .eq 24, 3) := by decide +kernel
theorem d_F_mayPerform_7 : decode c_F_mayPerform 7 = .ok (.aload_n 0, 1) := by decide +kernel
theorem d_F_mayPerform_8 : decode c_F_mayPerform 8 = .ok (.getfield 72, 3) := by decide +kernel
theorem d_F_mayPerform_11 : decode c_F_mayPerform 11 = .ok (.ifnull 13, 3) := by decide +kernel
theorem d_F_mayPerform_14 : decode c_F_mayPerform 14 = .ok (.aload_n 0, 1) := by decide +kernel
theorem d_F_mayPerform_15 : decode c_F_mayPerform 15 = .ok (.getfield 72, 3) := by decide +kernel
theorem d_F_mayPerform_18 : decode c_F_mayPerform 18 = .ok (.invokevirtual 111, 3) := by decide +kernel
theorem d_F_mayPerform_21 : decode c_F_mayPerform 21 = .ok (.ifCond .eq 7, 3) := by decide +kernel
theorem d_F_mayPerform_24 : decode c_F_mayPerform 24 = .ok (.iconst 1, 1) := by decide +kernel
theorem d_F_mayPerform_25 : decode c_F_mayPerform 25 = .ok (.goto 4, 3) := by decide +kernel
theorem d_F_mayPerform_28 : decode c_F_mayPerform 28 = .ok (.iconst 0, 1) := by decide +kernel
theorem d_F_mayPerform_29 : decode c_F_mayPerform 29 = .ok (.ireturn, 1) := by decide +kernel
theorem d_F_perform_0 : decode c_F_perform 0 = .ok (.aload_n 1, 1) := by decide +kernel
theorem d_F_perform_1 : decode c_F_perform 1 = .ok (.getfield 72, 3) := by decide +kernel
theorem d_F_perform_4 : decode c_F_perform 4 = .ok (.astore_n 2, 1) := by decide +kernel
theorem d_F_perform_5 : decode c_F_perform 5 = .ok (.aload_n 1, 1) := by decide +kernel
theorem d_F_perform_6 : decode c_F_perform 6 = .ok (.getfield 46, 3) := by decide +kernel
theorem d_F_perform_9 : decode c_F_perform 9 = .ok (.aload_n 1, 1) := by decide +kernel
theorem d_F_perform_10 : decode c_F_perform 10 = .ok (.getfield 50, 3) := by decide +kernel
theorem d_F_perform_13 : decode c_F_perform 13 = .ok (.invokevirtual 115, 3) := by decide +kernel
theorem d_F_perform_16 : decode c_F_perform 16 = .ok (.istore_n 3, 1) := by decide +kernel
theorem d_F_perform_17 : decode c_F_perform 17 = .ok (.aload_n 1, 1) := by decide +kernel
theorem d_F_perform_18 : decode c_F_perform 18 = .ok (.aload_n 1, 1) := by decide +kernel
theorem d_F_perform_19 : decode c_F_perform 19 = .ok (.getfield 46, 3) := by decide +kernel
theorem d_F_perform_22 : decode c_F_perform 22 = .ok (.aload_n 1, 1) := by decide +kernel
theorem d_F_perform_23 : decode c_F_perform 23 = .ok (.getfield 50, 3) := by decide +kernel
theorem d_F_perform_26 : decode c_F_perform 26 = .ok (.invokevirtual 119, 3) := by decide +kernel
theorem d_F_perform_29 : decode c_F_perform 29 = .ok (.putfield 50, 3) := by decide +kernel
theorem d_F_perform_32 : decode c_F_perform 32 = .ok (.aload_n 1, 1) := by decide +kernel
theorem d_F_perform_33 : decode c_F_perform 33 = .ok (.iload_n 3, 1) := by decide +kernel
theorem d_F_perform_34 : decode c_F_perform 34 = .ok (.invokestatic 122, 3) := by decide +kernel
theorem d_F_perform_37 : decode c_F_perform 37 = .ok (.aload_n 0, 1) := by decide +kernel
theorem d_F_perform_38 : decode c_F_perform 38 = .ok (.aload_n 1, 1) := by decide +kernel
theorem d_F_perform_39 : decode c_F_perform 39 = .ok (.invokevirtual 126, 3) := by decide +kernel
theorem d_F_perform_42 : decode c_F_perform 42 = .ok (.astore 4, 2) := by decide +kernel
theorem d_F_perform_44 : decode c_F_perform 44 = .ok (.aload_n 2, 1) := by decide +kernel
theorem d_F_perform_45 : decode c_F_perform 45 = .ok (.ifnonnull 7, 3) := by decide +kernel
theorem d_F_perform_48 : decode c_F_perform 48 = .ok (.aconst_null, 1) := by decide +kernel
theorem d_F_perform_49 : decode c_F_perform 49 = .ok (.goto 8, 3) := by decide +kernel
theorem d_F_perform_52 : decode c_F_perform 52 = .ok (.aload_n 0, 1) := by decide +kernel
theorem d_F_perform_53 : decode c_F_perform 53 = .ok (.aload_n 2, 1) := by decide +kernel
theorem d_F_perform_54 : decode c_F_perform 54 = .ok (.invokevirtual 126, 3) := by decide +kernel
theorem d_F_perform_57 : decode c_F_perform 57 = .ok (.astore 5, 2) := by decide +kernel
theorem d_F_perform_59 : decode c_F_perform 59 = .ok (.aload_n 1, 1) := by decide +kernel
theorem d_F_perform_60 : decode c_F_perform 60 = .ok (.invokevirtual 130, 3) := by decide +kernel
theorem d_F_perform_63 : decode c_F_perform 63 = .ok (.ifCond .ne 14, 3) := by decide +kernel
theorem d_F_perform_66 : decode c_F_perform 66 = .ok (.aload_n 2, 1) := by decide +kernel
theorem d_F_perform_67 : decode c_F_perform 67 = .ok (.ifnull 14, 3) := by decide +kernel
theorem d_F_perform_70 : decode c_F_perform 70 = .ok (.aload_n 2, 1) := by decide +kernel
theorem d_F_perform_71 : decode c_F_perform 71 = .ok (.invokevirtual 130, 3) := by decide +kernel
theorem d_F_perform_74 : decode c_F_perform 74 = .ok (.ifCond .eq 7, 3) := by decide +kernel
theorem d_F_perform_77 : decode c_F_perform 77 = .ok (.iconst 1, 1) := by decide +kernel
theorem d_F_perform_78 : decode c_F_perform 78 = .ok (.goto 4, 3) := by decide +kernel
theorem d_F_perform_81 : decode c_F_perform 81 = .ok (.iconst 0, 1) := by decide +kernel
theorem d_F_perform_82 : decode c_F_perform 82 = .ok (.istore 6, 2) := by decide +kernel
theorem d_F_perform_84 : decode c_F_perform 84 = .ok (.iload 6, 2) := by decide +kernel
theorem d_F_perform_86 : decode c_F_perform 86 = .ok (.ifCond .ne 13, 3) := by decide +kernel
theorem d_F_perform_89 : decode c_F_perform 89 = .ok (.aload 4, 2) := by decide +kernel
theorem d_F_perform_91 : decode c_F_perform 91 = .ok (.ifnonnull 8, 3) := by decide +kernel
theorem d_F_perform_94 : decode c_F_perform 94 = .ok (.aload 5, 2) := by decide +kernel
theorem d_F_perform_96 : decode c_F_perform 96 = .ok (.ifnull 25, 3) := by decide +kernel
theorem d_F_perform_99 : decode c_F_perform 99 = .ok (.aload_n 1, 1) := by decide +kernel
theorem d_F_perform_100 : decode c_F_perform 100 = .ok (.invokestatic 133, 3) := by decide +kernel
theorem d_F_perform_103 : decode c_F_perform 103 = .ok (.aload_n 2, 1) := by decide +kernel
theorem d_F_perform_104 : decode c_F_perform 104 = .ok (.invokestatic 133, 3) := by decide +kernel
theorem d_F_perform_107 : decode c_F_perform 107 = .ok (.iadd, 1) := by decide +kernel
theorem d_F_perform_108 : decode c_F_perform 108 = .ok (.aload 4, 2) := by decide +kernel
theorem d_F_perform_110 : decode c_F_perform 110 = .ok (.invokestatic 133, 3) := by decide +kernel
theorem d_F_perform_113 : decode c_F_perform 113 = .ok (.iadd, 1) := by decide +kernel
theorem d_F_perform_114 : decode c_F_perform 114 = .ok (.aload 5, 2) := by decide +kernel
theorem d_F_perform_116 : decode c_F_perform 116 = .ok (.invokestatic 133, 3) := by decide +kernel
theorem d_F_perform_119 : decode c_F_perform 119 = .ok (.iadd, 1) := by decide +kernel
theorem d_F_perform_120 : decode c_F_perform 120 = .ok (.ireturn, 1) := by decide +kernel
theorem d_F_perform_121 : decode c_F_perform 121 = .ok (.aload_n 1, 1) := by decide +kernel
theorem d_F_perform_122 : decode c_F_perform 122 = .ok (.iload_n 3, 1) := by decide +kernel
theorem d_F_perform_123 : decode c_F_perform 123 = .ok (.invokestatic 136, 3) := by decide +kernel
theorem d_F_perform_126 : decode c_F_perform 126 = .ok (.invokevirtual 139, 3) := by decide +kernel
theorem d_F_perform_129 : decode c_F_perform 129 = .ok (.aload_n 2, 1) := by decide +kernel
theorem d_F_perform_130 : decode c_F_perform 130 = .ok (.ifnull 11, 3) := by decide +kernel
theorem d_F_perform_133 : decode c_F_perform 133 = .ok (.aload_n 2, 1) := by decide +kernel
theorem d_F_perform_134 : decode c_F_perform 134 = .ok (.iload_n 3, 1) := by decide +kernel
theorem d_F_perform_135 : decode c_F_perform 135 = .ok (.invokestatic 136, 3) := by decide +kernel
theorem d_F_perform_138 : decode c_F_perform 138 = .ok (.invokevirtual 139, 3) := by decide +kernel
theorem d_F_perform_141 : decode c_F_perform 141 = .ok (.iconst 0, 1) := by decide +kernel
theorem d_F_perform_142 : decode c_F_perform 142 = .ok (.ireturn, 1) := by decide +kernel
theorem d_F_aim_0 : decode c_F_aim 0 = .ok (.aload_n 0, 1) := by decide +kernel
theorem d_F_aim_1 : decode c_F_aim 1 = .ok (.getfield 72, 3) := by decide +kernel
theorem d_F_aim_4 : decode c_F_aim 4 = .ok (.astore_n 2, 1) := by decide +kernel
theorem d_F_aim_5 : decode c_F_aim 5 = .ok (.aload_n 0, 1) := by decide +kernel
theorem d_F_aim_6 : decode c_F_aim 6 = .ok (.aload_n 0, 1) := by decide +kernel
theorem d_F_aim_7 : decode c_F_aim 7 = .ok (.getfield 31, 3) := by decide +kernel
theorem d_F_aim_10 : decode c_F_aim 10 = .ok (.aload_n 0, 1) := by decide +kernel
theorem d_F_aim_11 : decode c_F_aim 11 = .ok (.getfield 35, 3) := by decide +kernel
theorem d_F_aim_14 : decode c_F_aim 14 = .ok (.invokevirtual 143, 3) := by decide +kernel
theorem d_F_aim_17 : decode c_F_aim 17 = .ok (.iload_n 1, 1) := by decide +kernel
theorem d_F_aim_18 : decode c_F_aim 18 = .ok (.invokestatic 147, 3) := by decide +kernel
theorem d_F_aim_21 : decode c_F_aim 21 = .ok (.ifCond .eq 26, 3) := by decide +kernel
theorem d_F_aim_24 : decode c_F_aim 24 = .ok (.aload_n 0, 1) := by decide +kernel
theorem d_F_aim_25 : decode c_F_aim 25 = .ok (.aload_n 0, 1) := by decide +kernel
theorem d_F_aim_26 : decode c_F_aim 26 = .ok (.getfield 31, 3) := by decide +kernel
theorem d_F_aim_29 : decode c_F_aim 29 = .ok (.aload_n 0, 1) := by decide +kernel
theorem d_F_aim_30 : decode c_F_aim 30 = .ok (.getfield 35, 3) := by decide +kernel
theorem d_F_aim_33 : decode c_F_aim 33 = .ok (.aload_n 0, 1) := by decide +kernel
theorem d_F_aim_34 : decode c_F_aim 34 = .ok (.getfield 151, 3) := by decide +kernel
theorem d_F_aim_37 : decode c_F_aim 37 = .ok (.iload_n 1, 1) := by decide +kernel
theorem d_F_aim_38 : decode c_F_aim 38 = .ok (.invokestatic 154, 3) := by decide +kernel
theorem d_F_aim_41 : decode c_F_aim 41 = .ok (.invokestatic 157, 3) := by decide +kernel
theorem d_F_aim_44 : decode c_F_aim 44 = .ok (.invokevirtual 160, 3) := by decide +kernel
theorem d_F_aim_47 : decode c_F_aim 47 = .ok (.aload_n 2, 1) := by decide +kernel
theorem d_F_aim_48 : decode c_F_aim 48 = .ok (.ifnonnull 4, 3) := by decide +kernel
theorem d_F_aim_51 : decode c_F_aim 51 = .ok (.return_, 1) := by decide +kernel
theorem d_F_aim_52 : decode c_F_aim 52 = .ok (.aload_n 2, 1) := by decide +kernel
theorem d_F_aim_53 : decode c_F_aim 53 = .ok (.aload_n 2, 1) := by decide +kernel
theorem d_F_aim_54 : decode c_F_aim 54 = .ok (.getfield 31, 3) := by decide +kernel
theorem d_F_aim_57 : decode c_F_aim 57 = .ok (.aload_n 2, 1) := by decide +kernel
theorem d_F_aim_58 : decode c_F_aim 58 = .ok (.getfield 35, 3) := by decide +kernel
theorem d_F_aim_61 : decode c_F_aim 61 = .ok (.invokevirtual 143, 3) := by decide +kernel
theorem d_F_aim_64 : decode c_F_aim 64 = .ok (.iload_n 1, 1) := by decide +kernel
theorem d_F_aim_65 : decode c_F_aim 65 = .ok (.invokestatic 147, 3) := by decide +kernel
theorem d_F_aim_68 : decode c_F_aim 68 = .ok (.ifCond .eq 29, 3) := by decide +kernel
theorem d_F_aim_71 : decode c_F_aim 71 = .ok (.aload_n 2, 1) := by decide +kernel
theorem d_F_aim_72 : decode c_F_aim 72 = .ok (.aload_n 2, 1) := by decide +kernel
theorem d_F_aim_73 : decode c_F_aim 73 = .ok (.getfield 31, 3) := by decide +kernel
theorem d_F_aim_76 : decode c_F_aim 76 = .ok (.aload_n 2, 1) := by decide +kernel
theorem d_F_aim_77 : decode c_F_aim 77 = .ok (.getfield 35, 3) := by decide +kernel
theorem d_F_aim_80 : decode c_F_aim 80 = .ok (.aload_n 0, 1) := by decide +kernel
theorem d_F_aim_81 : decode c_F_aim 81 = .ok (.getfield 151, 3) := by decide +kernel
theorem d_F_aim_84 : decode c_F_aim 84 = .ok (.iload_n 1, 1) := by decide +kernel
theorem d_F_aim_85 : decode c_F_aim 85 = .ok (.invokestatic 154, 3) := by decide +kernel
theorem d_F_aim_88 : decode c_F_aim 88 = .ok (.invokestatic 157, 3) := by decide +kernel
theorem d_F_aim_91 : decode c_F_aim 91 = .ok (.invokevirtual 160, 3) := by decide +kernel
theorem d_F_aim_94 : decode c_F_aim 94 = .ok (.goto 69, 3) := by decide +kernel
theorem d_F_aim_97 : decode c_F_aim 97 = .ok (.iload_n 1, 1) := by decide +kernel
theorem d_F_aim_98 : decode c_F_aim 98 = .ok (.bipush 115, 2) := by decide +kernel
theorem d_F_aim_100 : decode c_F_aim 100 = .ok (.if_icmp .ne 30, 3) := by decide +kernel
theorem d_F_aim_103 : decode c_F_aim 103 = .ok (.aload_n 0, 1) := by decide +kernel
theorem d_F_aim_104 : decode c_F_aim 104 = .ok (.aload_n 2, 1) := by decide +kernel
theorem d_F_aim_105 : decode c_F_aim 105 = .ok (.getfield 31, 3) := by decide +kernel
theorem d_F_aim_108 : decode c_F_aim 108 = .ok (.aload_n 2, 1) := by decide +kernel
theorem d_F_aim_109 : decode c_F_aim 109 = .ok (.getfield 35, 3) := by decide +kernel
theorem d_F_aim_112 : decode c_F_aim 112 = .ok (.invokevirtual 143, 3) := by decide +kernel
theorem d_F_aim_115 : decode c_F_aim 115 = .ok (.aload_n 2, 1) := by decide +kernel
theorem d_F_aim_116 : decode c_F_aim 116 = .ok (.aload_n 0, 1) := by decide +kernel
theorem d_F_aim_117 : decode c_F_aim 117 = .ok (.getfield 31, 3) := by decide +kernel
theorem d_F_aim_120 : decode c_F_aim 120 = .ok (.aload_n 0, 1) := by decide +kernel
theorem d_F_aim_121 : decode c_F_aim 121 = .ok (.getfield 35, 3) := by decide +kernel
theorem d_F_aim_124 : decode c_F_aim 124 = .ok (.invokevirtual 143, 3) := by decide +kernel
theorem d_F_aim_127 : decode c_F_aim 127 = .ok (.goto 36, 3) := by decide +kernel
theorem d_F_aim_130 : decode c_F_aim 130 = .ok (.iload_n 1, 1) := by decide +kernel
theorem d_F_aim_131 : decode c_F_aim 131 = .ok (.invokestatic 136, 3) := by decide +kernel
theorem d_F_aim_134 : decode c_F_aim 134 = .ok (.ifCond .eq 29, 3) := by decide +kernel
theorem d_F_aim_137 : decode c_F_aim 137 = .ok (.aload_n 0, 1) := by decide +kernel
theorem d_F_aim_138 : decode c_F_aim 138 = .ok (.aload_n 2, 1) := by decide +kernel
theorem d_F_aim_139 : decode c_F_aim 139 = .ok (.invokevirtual 164, 3) := by decide +kernel
theorem d_F_aim_142 : decode c_F_aim 142 = .ok (.iload_n 1, 1) := by decide +kernel
theorem d_F_aim_143 : decode c_F_aim 143 = .ok (.invokestatic 136, 3) := by decide +kernel
theorem d_F_aim_146 : decode c_F_aim 146 = .ok (.invokestatic 157, 3) := by decide +kernel
theorem d_F_aim_149 : decode c_F_aim 149 = .ok (.istore_n 3, 1) := by decide +kernel
theorem d_F_aim_150 : decode c_F_aim 150 = .ok (.aload_n 2, 1) := by decide +kernel
theorem d_F_aim_151 : decode c_F_aim 151 = .ok (.aload_n 0, 1) := by decide +kernel
theorem d_F_aim_152 : decode c_F_aim 152 = .ok (.getfield 31, 3) := by decide +kernel
theorem d_F_aim_155 : decode c_F_aim 155 = .ok (.aload_n 0, 1) := by decide +kernel
theorem d_F_aim_156 : decode c_F_aim 156 = .ok (.getfield 35, 3) := by decide +kernel
theorem d_F_aim_159 : decode c_F_aim 159 = .ok (.iload_n 3, 1) := by decide +kernel
theorem d_F_aim_160 : decode c_F_aim 160 = .ok (.invokevirtual 160, 3) := by decide +kernel
theorem d_F_aim_163 : decode c_F_aim 163 = .ok (.return_, 1) := by decide +kernel
theorem d_F_whoIsInTheWayOf_0 : decode c_F_whoIsInTheWayOf 0 = .ok (.aload_n 0, 1) := by decide +kernel
theorem d_F_whoIsInTheWayOf_1 : decode c_F_whoIsInTheWayOf 1 = .ok (.aload_n 1, 1) := by decide +kernel
theorem d_F_whoIsInTheWayOf_2 : decode c_F_whoIsInTheWayOf 2 = .ok (.getfield 167, 3) := by decide +kernel
theorem d_F_whoIsInTheWayOf_5 : decode c_F_whoIsInTheWayOf 5 = .ok (.aload_n 1, 1) := by decide +kernel
theorem d_F_whoIsInTheWayOf_6 : decode c_F_whoIsInTheWayOf 6 = .ok (.getfield 170, 3) := by decide +kernel
theorem d_F_whoIsInTheWayOf_9 : decode c_F_whoIsInTheWayOf 9 = .ok (.invokevirtual 173, 3) := by decide +kernel
theorem d_F_whoIsInTheWayOf_12 : decode c_F_whoIsInTheWayOf 12 = .ok (.astore_n 2, 1) := by decide +kernel
theorem d_F_whoIsInTheWayOf_13 : decode c_F_whoIsInTheWayOf 13 = .ok (.aload_n 2, 1) := by decide +kernel
theorem d_F_whoIsInTheWayOf_14 : decode c_F_whoIsInTheWayOf 14 = .ok (.aload_n 1, 1) := by decide +kernel
theorem d_F_whoIsInTheWayOf_15 : decode c_F_whoIsInTheWayOf 15 = .ok (.if_acmp .eq 11, 3) := by decide +kernel
theorem d_F_whoIsInTheWayOf_18 : decode c_F_whoIsInTheWayOf 18 = .ok (.aload_n 2, 1) := by decide +kernel
theorem d_F_whoIsInTheWayOf_19 : decode c_F_whoIsInTheWayOf 19 = .ok (.aload_n 1, 1) := by decide +kernel
theorem d_F_whoIsInTheWayOf_20 : decode c_F_whoIsInTheWayOf 20 = .ok (.getfield 72, 3) := by decide +kernel
theorem d_F_whoIsInTheWayOf_23 : decode c_F_whoIsInTheWayOf 23 = .ok (.if_acmp .ne 7, 3) := by decide +kernel
theorem d_F_whoIsInTheWayOf_26 : decode c_F_whoIsInTheWayOf 26 = .ok (.aconst_null, 1) := by decide +kernel
theorem d_F_whoIsInTheWayOf_27 : decode c_F_whoIsInTheWayOf 27 = .ok (.goto 4, 3) := by decide +kernel
theorem d_F_whoIsInTheWayOf_30 : decode c_F_whoIsInTheWayOf 30 = .ok (.aload_n 2, 1) := by decide +kernel
theorem d_F_whoIsInTheWayOf_31 : decode c_F_whoIsInTheWayOf 31 = .ok (.areturn, 1) := by decide +kernel
theorem d_F_bump_0 : decode c_F_bump 0 = .ok (.aload_n 0, 1) := by decide +kernel
theorem d_F_bump_1 : decode c_F_bump 1 = .ok (.ifnonnull 5, 3) := by decide +kernel
theorem d_F_bump_4 : decode c_F_bump 4 = .ok (.iconst 0, 1) := by decide +kernel
theorem d_F_bump_5 : decode c_F_bump 5 = .ok (.ireturn, 1) := by decide +kernel
theorem d_F_bump_6 : decode c_F_bump 6 = .ok (.aload_n 0, 1) := by decide +kernel
theorem d_F_bump_7 : decode c_F_bump 7 = .ok (.invokevirtual 177, 3) := by decide +kernel
theorem d_F_bump_10 : decode c_F_bump 10 = .ok (.iconst 1, 1) := by decide +kernel
theorem d_F_bump_11 : decode c_F_bump 11 = .ok (.ireturn, 1) := by decide +kernel
theorem d_F_firstSpentUnlike_0 : decode c_F_firstSpentUnlike 0 = .ok (.iconst 0, 1) := by decide +kernel
theorem d_F_firstSpentUnlike_1 : decode c_F_firstSpentUnlike 1 = .ok (.istore_n 2, 1) := by decide +kernel
theorem d_F_firstSpentUnlike_2 : decode c_F_firstSpentUnlike 2 = .ok (.iload_n 2, 1) := by decide +kernel
theorem d_F_firstSpentUnlike_3 : decode c_F_firstSpentUnlike 3 = .ok (.aload_n 0, 1) := by decide +kernel
theorem d_F_firstSpentUnlike_4 : decode c_F_firstSpentUnlike 4 = .ok (.getfield 12, 3) := by decide +kernel
theorem d_F_firstSpentUnlike_7 : decode c_F_firstSpentUnlike 7 = .ok (.invokevirtual 21, 3) := by decide +kernel
theorem d_F_firstSpentUnlike_10 : decode c_F_firstSpentUnlike 10 = .ok (.if_icmp .ge 56, 3) := by decide +kernel
theorem d_F_firstSpentUnlike_13 : decode c_F_firstSpentUnlike 13 = .ok (.iload_n 2, 1) := by decide +kernel
theorem d_F_firstSpentUnlike_14 : decode c_F_firstSpentUnlike 14 = .ok (.aload_n 1, 1) := by decide +kernel
theorem d_F_firstSpentUnlike_15 : decode c_F_firstSpentUnlike 15 = .ok (.getfield 12, 3) := by decide +kernel
theorem d_F_firstSpentUnlike_18 : decode c_F_firstSpentUnlike 18 = .ok (.invokevirtual 21, 3) := by decide +kernel
theorem d_F_firstSpentUnlike_21 : decode c_F_firstSpentUnlike 21 = .ok (.if_icmp .ge 45, 3) := by decide +kernel
theorem d_F_firstSpentUnlike_24 : decode c_F_firstSpentUnlike 24 = .ok (.aload_n 0, 1) := by decide +kernel
theorem d_F_firstSpentUnlike_25 : decode c_F_firstSpentUnlike 25 = .ok (.getfield 12, 3) := by decide +kernel
theorem d_F_firstSpentUnlike_28 : decode c_F_firstSpentUnlike 28 = .ok (.iload_n 2, 1) := by decide +kernel
theorem d_F_firstSpentUnlike_29 : decode c_F_firstSpentUnlike 29 = .ok (.invokevirtual 25, 3) := by decide +kernel
theorem d_F_firstSpentUnlike_32 : decode c_F_firstSpentUnlike 32 = .ok (.checkcast 29, 3) := by decide +kernel
theorem d_F_firstSpentUnlike_35 : decode c_F_firstSpentUnlike 35 = .ok (.invokevirtual 180, 3) := by decide +kernel
theorem d_F_firstSpentUnlike_38 : decode c_F_firstSpentUnlike 38 = .ok (.ifCond .eq 22, 3) := by decide +kernel
theorem d_F_firstSpentUnlike_41 : decode c_F_firstSpentUnlike 41 = .ok (.aload_n 1, 1) := by decide +kernel
theorem d_F_firstSpentUnlike_42 : decode c_F_firstSpentUnlike 42 = .ok (.getfield 12, 3) := by decide +kernel
theorem d_F_firstSpentUnlike_45 : decode c_F_firstSpentUnlike 45 = .ok (.iload_n 2, 1) := by decide +kernel
theorem d_F_firstSpentUnlike_46 : decode c_F_firstSpentUnlike 46 = .ok (.invokevirtual 25, 3) := by decide +kernel
theorem d_F_firstSpentUnlike_49 : decode c_F_firstSpentUnlike 49 = .ok (.checkcast 29, 3) := by decide +kernel
theorem d_F_firstSpentUnlike_52 : decode c_F_firstSpentUnlike 52 = .ok (.invokevirtual 180, 3) := by decide +kernel
theorem d_F_firstSpentUnlike_55 : decode c_F_firstSpentUnlike 55 = .ok (.ifCond .ne 5, 3) := by decide +kernel
theorem d_F_firstSpentUnlike_58 : decode c_F_firstSpentUnlike 58 = .ok (.iload_n 2, 1) := by decide +kernel
theorem d_F_firstSpentUnlike_59 : decode c_F_firstSpentUnlike 59 = .ok (.ireturn, 1) := by decide +kernel
theorem d_F_firstSpentUnlike_60 : decode c_F_firstSpentUnlike 60 = .ok (.iinc 2 1, 3) := by decide +kernel
theorem d_F_firstSpentUnlike_63 : decode c_F_firstSpentUnlike 63 = .ok (.goto (-61), 3) := by decide +kernel
theorem d_F_firstSpentUnlike_66 : decode c_F_firstSpentUnlike 66 = .ok (.iconst (-1), 1) := by decide +kernel
theorem d_F_firstSpentUnlike_67 : decode c_F_firstSpentUnlike 67 = .ok (.ireturn, 1) := by decide +kernel
theorem d_F_sumOf_0 : decode c_F_sumOf 0 = .ok (.iconst 0, 1) := by decide +kernel
theorem d_F_sumOf_1 : decode c_F_sumOf 1 = .ok (.istore_n 2, 1) := by decide +kernel
theorem d_F_sumOf_2 : decode c_F_sumOf 2 = .ok (.iconst 0, 1) := by decide +kernel
theorem d_F_sumOf_3 : decode c_F_sumOf 3 = .ok (.istore_n 3, 1) := by decide +kernel
theorem d_F_sumOf_4 : decode c_F_sumOf 4 = .ok (.iload_n 3, 1) := by decide +kernel
theorem d_F_sumOf_5 : decode c_F_sumOf 5 = .ok (.aload_n 0, 1) := by decide +kernel
theorem d_F_sumOf_6 : decode c_F_sumOf 6 = .ok (.getfield 12, 3) := by decide +kernel
theorem d_F_sumOf_9 : decode c_F_sumOf 9 = .ok (.invokevirtual 21, 3) := by decide +kernel
theorem d_F_sumOf_12 : decode c_F_sumOf 12 = .ok (.if_icmp .ge 27, 3) := by decide +kernel
theorem d_F_sumOf_15 : decode c_F_sumOf 15 = .ok (.iload_n 2, 1) := by decide +kernel
theorem d_F_sumOf_16 : decode c_F_sumOf 16 = .ok (.aload_n 0, 1) := by decide +kernel
theorem d_F_sumOf_17 : decode c_F_sumOf 17 = .ok (.getfield 12, 3) := by decide +kernel
theorem d_F_sumOf_20 : decode c_F_sumOf 20 = .ok (.iload_n 3, 1) := by decide +kernel
theorem d_F_sumOf_21 : decode c_F_sumOf 21 = .ok (.invokevirtual 25, 3) := by decide +kernel
theorem d_F_sumOf_24 : decode c_F_sumOf 24 = .ok (.checkcast 29, 3) := by decide +kernel
theorem d_F_sumOf_27 : decode c_F_sumOf 27 = .ok (.iload_n 1, 1) := by decide +kernel
theorem d_F_sumOf_28 : decode c_F_sumOf 28 = .ok (.invokevirtual 183, 3) := by decide +kernel
theorem d_F_sumOf_31 : decode c_F_sumOf 31 = .ok (.iadd, 1) := by decide +kernel
theorem d_F_sumOf_32 : decode c_F_sumOf 32 = .ok (.istore_n 2, 1) := by decide +kernel
theorem d_F_sumOf_33 : decode c_F_sumOf 33 = .ok (.iinc 3 1, 3) := by decide +kernel
theorem d_F_sumOf_36 : decode c_F_sumOf 36 = .ok (.goto (-32), 3) := by decide +kernel
theorem d_F_sumOf_39 : decode c_F_sumOf 39 = .ok (.iload_n 2, 1) := by decide +kernel
theorem d_F_sumOf_40 : decode c_F_sumOf 40 = .ok (.ireturn, 1) := by decide +kernel
theorem d_F_dizzyOnes_0 : decode c_F_dizzyOnes 0 = .ok (.iconst 0, 1) := by decide +kernel
theorem d_F_dizzyOnes_1 : decode c_F_dizzyOnes 1 = .ok (.istore_n 1, 1) := by decide +kernel
theorem d_F_dizzyOnes_2 : decode c_F_dizzyOnes 2 = .ok (.iconst 0, 1) := by decide +kernel
theorem d_F_dizzyOnes_3 : decode c_F_dizzyOnes 3 = .ok (.istore_n 2, 1) := by decide +kernel
theorem d_F_dizzyOnes_4 : decode c_F_dizzyOnes 4 = .ok (.iload_n 2, 1) := by decide +kernel
theorem d_F_dizzyOnes_5 : decode c_F_dizzyOnes 5 = .ok (.aload_n 0, 1) := by decide +kernel
theorem d_F_dizzyOnes_6 : decode c_F_dizzyOnes 6 = .ok (.getfield 12, 3) := by decide +kernel
theorem d_F_dizzyOnes_9 : decode c_F_dizzyOnes 9 = .ok (.invokevirtual 21, 3) := by decide +kernel
theorem d_F_dizzyOnes_12 : decode c_F_dizzyOnes 12 = .ok (.if_icmp .ge 34, 3) := by decide +kernel
theorem d_F_dizzyOnes_15 : decode c_F_dizzyOnes 15 = .ok (.iload_n 1, 1) := by decide +kernel
theorem d_F_dizzyOnes_16 : decode c_F_dizzyOnes 16 = .ok (.aload_n 0, 1) := by decide +kernel
theorem d_F_dizzyOnes_17 : decode c_F_dizzyOnes 17 = .ok (.getfield 12, 3) := by decide +kernel
theorem d_F_dizzyOnes_20 : decode c_F_dizzyOnes 20 = .ok (.iload_n 2, 1) := by decide +kernel
theorem d_F_dizzyOnes_21 : decode c_F_dizzyOnes 21 = .ok (.invokevirtual 25, 3) := by decide +kernel
theorem d_F_dizzyOnes_24 : decode c_F_dizzyOnes 24 = .ok (.checkcast 29, 3) := by decide +kernel
theorem d_F_dizzyOnes_27 : decode c_F_dizzyOnes 27 = .ok (.getfield 102, 3) := by decide +kernel
theorem d_F_dizzyOnes_30 : decode c_F_dizzyOnes 30 = .ok (.ifCond .le 7, 3) := by decide +kernel
theorem d_F_dizzyOnes_33 : decode c_F_dizzyOnes 33 = .ok (.iconst 1, 1) := by decide +kernel
theorem d_F_dizzyOnes_34 : decode c_F_dizzyOnes 34 = .ok (.goto 4, 3) := by decide +kernel
theorem d_F_dizzyOnes_37 : decode c_F_dizzyOnes 37 = .ok (.iconst 0, 1) := by decide +kernel
theorem d_F_dizzyOnes_38 : decode c_F_dizzyOnes 38 = .ok (.iadd, 1) := by decide +kernel
theorem d_F_dizzyOnes_39 : decode c_F_dizzyOnes 39 = .ok (.istore_n 1, 1) := by decide +kernel
theorem d_F_dizzyOnes_40 : decode c_F_dizzyOnes 40 = .ok (.iinc 2 1, 3) := by decide +kernel
theorem d_F_dizzyOnes_43 : decode c_F_dizzyOnes 43 = .ok (.goto (-39), 3) := by decide +kernel
theorem d_F_dizzyOnes_46 : decode c_F_dizzyOnes 46 = .ok (.iload_n 1, 1) := by decide +kernel
theorem d_F_dizzyOnes_47 : decode c_F_dizzyOnes 47 = .ok (.ireturn, 1) := by decide +kernel
theorem d_F_spentOnes_0 : decode c_F_spentOnes 0 = .ok (.iconst 0, 1) := by decide +kernel
theorem d_F_spentOnes_1 : decode c_F_spentOnes 1 = .ok (.istore_n 1, 1) := by decide +kernel
theorem d_F_spentOnes_2 : decode c_F_spentOnes 2 = .ok (.iconst 0, 1) := by decide +kernel
theorem d_F_spentOnes_3 : decode c_F_spentOnes 3 = .ok (.istore_n 2, 1) := by decide +kernel
theorem d_F_spentOnes_4 : decode c_F_spentOnes 4 = .ok (.iload_n 2, 1) := by decide +kernel
theorem d_F_spentOnes_5 : decode c_F_spentOnes 5 = .ok (.aload_n 0, 1) := by decide +kernel
theorem d_F_spentOnes_6 : decode c_F_spentOnes 6 = .ok (.getfield 12, 3) := by decide +kernel
theorem d_F_spentOnes_9 : decode c_F_spentOnes 9 = .ok (.invokevirtual 21, 3) := by decide +kernel
theorem d_F_spentOnes_12 : decode c_F_spentOnes 12 = .ok (.if_icmp .ge 34, 3) := by decide +kernel
theorem d_F_spentOnes_15 : decode c_F_spentOnes 15 = .ok (.iload_n 1, 1) := by decide +kernel
theorem d_F_spentOnes_16 : decode c_F_spentOnes 16 = .ok (.aload_n 0, 1) := by decide +kernel
theorem d_F_spentOnes_17 : decode c_F_spentOnes 17 = .ok (.getfield 12, 3) := by decide +kernel
theorem d_F_spentOnes_20 : decode c_F_spentOnes 20 = .ok (.iload_n 2, 1) := by decide +kernel
theorem d_F_spentOnes_21 : decode c_F_spentOnes 21 = .ok (.invokevirtual 25, 3) := by decide +kernel
theorem d_F_spentOnes_24 : decode c_F_spentOnes 24 = .ok (.checkcast 29, 3) := by decide +kernel
theorem d_F_spentOnes_27 : decode c_F_spentOnes 27 = .ok (.invokevirtual 180, 3) := by decide +kernel
theorem d_F_spentOnes_30 : decode c_F_spentOnes 30 = .ok (.ifCond .eq 7, 3) := by decide +kernel
theorem d_F_spentOnes_33 : decode c_F_spentOnes 33 = .ok (.iconst 1, 1) := by decide +kernel
theorem d_F_spentOnes_34 : decode c_F_spentOnes 34 = .ok (.goto 4, 3) := by decide +kernel
theorem d_F_spentOnes_37 : decode c_F_spentOnes 37 = .ok (.iconst 0, 1) := by decide +kernel
theorem d_F_spentOnes_38 : decode c_F_spentOnes 38 = .ok (.iadd, 1) := by decide +kernel
theorem d_F_spentOnes_39 : decode c_F_spentOnes 39 = .ok (.istore_n 1, 1) := by decide +kernel
theorem d_F_spentOnes_40 : decode c_F_spentOnes 40 = .ok (.iinc 2 1, 3) := by decide +kernel
theorem d_F_spentOnes_43 : decode c_F_spentOnes 43 = .ok (.goto (-39), 3) := by decide +kernel
theorem d_F_spentOnes_46 : decode c_F_spentOnes 46 = .ok (.iload_n 1, 1) := by decide +kernel
theorem d_F_spentOnes_47 : decode c_F_spentOnes 47 = .ok (.ireturn, 1) := by decide +kernel
theorem d_F_tell_0 : decode c_F_tell 0 = .ok (.iload_n 1, 1) := by decide +kernel
theorem d_F_tell_1 : decode c_F_tell 1 = .ok (.tableswitch 100 0 7 #[47, 52, 60, 67, 75, 80, 86, 93], 47) := by decide +kernel
theorem d_F_tell_48 : decode c_F_tell 48 = .ok (.aload_n 0, 1) := by decide +kernel
theorem d_F_tell_49 : decode c_F_tell 49 = .ok (.getfield 58, 3) := by decide +kernel
theorem d_F_tell_52 : decode c_F_tell 52 = .ok (.ireturn, 1) := by decide +kernel
theorem d_F_tell_53 : decode c_F_tell 53 = .ok (.aload_n 0, 1) := by decide +kernel
theorem d_F_tell_54 : decode c_F_tell 54 = .ok (.getfield 12, 3) := by decide +kernel
theorem d_F_tell_57 : decode c_F_tell 57 = .ok (.invokevirtual 21, 3) := by decide +kernel
theorem d_F_tell_60 : decode c_F_tell 60 = .ok (.ireturn, 1) := by decide +kernel
theorem d_F_tell_61 : decode c_F_tell 61 = .ok (.aload_n 0, 1) := by decide +kernel
theorem d_F_tell_62 : decode c_F_tell 62 = .ok (.bipush 8, 2) := by decide +kernel
theorem d_F_tell_64 : decode c_F_tell 64 = .ok (.invokevirtual 186, 3) := by decide +kernel
theorem d_F_tell_67 : decode c_F_tell 67 = .ok (.ireturn, 1) := by decide +kernel
theorem d_F_tell_68 : decode c_F_tell 68 = .ok (.aload_n 0, 1) := by decide +kernel
theorem d_F_tell_69 : decode c_F_tell 69 = .ok (.getfield 18, 3) := by decide +kernel
theorem d_F_tell_72 : decode c_F_tell 72 = .ok (.invokevirtual 21, 3) := by decide +kernel
theorem d_F_tell_75 : decode c_F_tell 75 = .ok (.ireturn, 1) := by decide +kernel
theorem d_F_tell_76 : decode c_F_tell 76 = .ok (.aload_n 0, 1) := by decide +kernel
theorem d_F_tell_77 : decode c_F_tell 77 = .ok (.invokevirtual 189, 3) := by decide +kernel
theorem d_F_tell_80 : decode c_F_tell 80 = .ok (.ireturn, 1) := by decide +kernel
theorem d_F_tell_81 : decode c_F_tell 81 = .ok (.aload_n 0, 1) := by decide +kernel
theorem d_F_tell_82 : decode c_F_tell 82 = .ok (.iconst 3, 1) := by decide +kernel
theorem d_F_tell_83 : decode c_F_tell 83 = .ok (.invokevirtual 186, 3) := by decide +kernel
theorem d_F_tell_86 : decode c_F_tell 86 = .ok (.ireturn, 1) := by decide +kernel
theorem d_F_tell_87 : decode c_F_tell 87 = .ok (.aload_n 0, 1) := by decide +kernel
theorem d_F_tell_88 : decode c_F_tell 88 = .ok (.bipush 10, 2) := by decide +kernel
theorem d_F_tell_90 : decode c_F_tell 90 = .ok (.invokevirtual 186, 3) := by decide +kernel
theorem d_F_tell_93 : decode c_F_tell 93 = .ok (.ireturn, 1) := by decide +kernel
theorem d_F_tell_94 : decode c_F_tell 94 = .ok (.aload_n 0, 1) := by decide +kernel
theorem d_F_tell_95 : decode c_F_tell 95 = .ok (.bipush 11, 2) := by decide +kernel
theorem d_F_tell_97 : decode c_F_tell 97 = .ok (.invokevirtual 186, 3) := by decide +kernel
theorem d_F_tell_100 : decode c_F_tell 100 = .ok (.ireturn, 1) := by decide +kernel
theorem d_F_tell_101 : decode c_F_tell 101 = .ok (.aload_n 0, 1) := by decide +kernel
theorem d_F_tell_102 : decode c_F_tell 102 = .ok (.invokevirtual 192, 3) := by decide +kernel
theorem d_F_tell_105 : decode c_F_tell 105 = .ok (.ireturn, 1) := by decide +kernel
end
section
theorem d_H_init_0 : decode c_H_init 0 = .ok (.aload_n 0, 1) := by decide +kernel
theorem d_H_init_1 : decode c_H_init 1 = .ok (.invokespecial 1, 3) := by decide +kernel
theorem d_H_init_4 : decode c_H_init 4 = .ok (.aload_n 0, 1) := by decide +kernel
theorem d_H_init_5 : decode c_H_init 5 = .ok (.new 7, 3) := by decide +kernel
theorem d_H_init_8 : decode c_H_init 8 = .ok (.dup, 1) := by decide +kernel
theorem d_H_init_9 : decode c_H_init 9 = .ok (.invokespecial 9, 3) := by decide +kernel
theorem d_H_init_12 : decode c_H_init 12 = .ok (.putfield 10, 3) := by decide +kernel
theorem d_H_init_15 : decode c_H_init 15 = .ok (.aload_n 0, 1) := by decide +kernel
theorem d_H_init_16 : decode c_H_init 16 = .ok (.new 16, 3) := by decide +kernel
theorem d_H_init_19 : decode c_H_init 19 = .ok (.dup, 1) := by decide +kernel
theorem d_H_init_20 : decode c_H_init 20 = .ok (.invokespecial 18, 3) := by decide +kernel
theorem d_H_init_23 : decode c_H_init 23 = .ok (.putfield 19, 3) := by decide +kernel
theorem d_H_init_26 : decode c_H_init 26 = .ok (.aload_n 0, 1) := by decide +kernel
theorem d_H_init_27 : decode c_H_init 27 = .ok (.new 23, 3) := by decide +kernel
theorem d_H_init_30 : decode c_H_init 30 = .ok (.dup, 1) := by decide +kernel
theorem d_H_init_31 : decode c_H_init 31 = .ok (.iconst 0, 1) := by decide +kernel
theorem d_H_init_32 : decode c_H_init 32 = .ok (.ldc 25, 2) := by decide +kernel
theorem d_H_init_34 : decode c_H_init 34 = .ok (.invokespecial 27, 3) := by decide +kernel
theorem d_H_init_37 : decode c_H_init 37 = .ok (.putfield 30, 3) := by decide +kernel
theorem d_H_init_40 : decode c_H_init 40 = .ok (.aload_n 0, 1) := by decide +kernel
theorem d_H_init_41 : decode c_H_init 41 = .ok (.new 34, 3) := by decide +kernel
theorem d_H_init_44 : decode c_H_init 44 = .ok (.dup, 1) := by decide +kernel
theorem d_H_init_45 : decode c_H_init 45 = .ok (.invokespecial 36, 3) := by decide +kernel
theorem d_H_init_48 : decode c_H_init 48 = .ok (.putfield 37, 3) := by decide +kernel
theorem d_H_init_51 : decode c_H_init 51 = .ok (.aload_n 0, 1) := by decide +kernel
theorem d_H_init_52 : decode c_H_init 52 = .ok (.new 34, 3) := by decide +kernel
theorem d_H_init_55 : decode c_H_init 55 = .ok (.dup, 1) := by decide +kernel
theorem d_H_init_56 : decode c_H_init 56 = .ok (.invokespecial 36, 3) := by decide +kernel
theorem d_H_init_59 : decode c_H_init 59 = .ok (.putfield 41, 3) := by decide +kernel
theorem d_H_init_62 : decode c_H_init 62 = .ok (.aload_n 0, 1) := by decide +kernel
theorem d_H_init_63 : decode c_H_init 63 = .ok (.getfield 19, 3) := by decide +kernel
theorem d_H_init_66 : decode c_H_init 66 = .ok (.aload_n 0, 1) := by decide +kernel
theorem d_H_init_67 : decode c_H_init 67 = .ok (.getfield 30, 3) := by decide +kernel
theorem d_H_init_70 : decode c_H_init 70 = .ok (.invokevirtual 44, 3) := by decide +kernel
theorem d_H_init_73 : decode c_H_init 73 = .ok (.pop, 1) := by decide +kernel
theorem d_H_init_74 : decode c_H_init 74 = .ok (.aload_n 0, 1) := by decide +kernel
theorem d_H_init_75 : decode c_H_init 75 = .ok (.getfield 19, 3) := by decide +kernel
theorem d_H_init_78 : decode c_H_init 78 = .ok (.new 23, 3) := by decide +kernel
theorem d_H_init_81 : decode c_H_init 81 = .ok (.dup, 1) := by decide +kernel
theorem d_H_init_82 : decode c_H_init 82 = .ok (.iconst 1, 1) := by decide +kernel
theorem d_H_init_83 : decode c_H_init 83 = .ok (.ldc 48, 2) := by decide +kernel
theorem d_H_init_85 : decode c_H_init 85 = .ok (.invokespecial 27, 3) := by decide +kernel
theorem d_H_init_88 : decode c_H_init 88 = .ok (.invokevirtual 44, 3) := by decide +kernel
theorem d_H_init_91 : decode c_H_init 91 = .ok (.pop, 1) := by decide +kernel
theorem d_H_init_92 : decode c_H_init 92 = .ok (.aload_n 0, 1) := by decide +kernel
theorem d_H_init_93 : decode c_H_init 93 = .ok (.getfield 19, 3) := by decide +kernel
theorem d_H_init_96 : decode c_H_init 96 = .ok (.new 23, 3) := by decide +kernel
theorem d_H_init_99 : decode c_H_init 99 = .ok (.dup, 1) := by decide +kernel
theorem d_H_init_100 : decode c_H_init 100 = .ok (.iconst 2, 1) := by decide +kernel
theorem d_H_init_101 : decode c_H_init 101 = .ok (.ldc 50, 2) := by decide +kernel
theorem d_H_init_103 : decode c_H_init 103 = .ok (.invokespecial 27, 3) := by decide +kernel
theorem d_H_init_106 : decode c_H_init 106 = .ok (.invokevirtual 44, 3) := by decide +kernel
theorem d_H_init_109 : decode c_H_init 109 = .ok (.pop, 1) := by decide +kernel
theorem d_H_init_110 : decode c_H_init 110 = .ok (.aload_n 0, 1) := by decide +kernel
theorem d_H_init_111 : decode c_H_init 111 = .ok (.getfield 19, 3) := by decide +kernel
theorem d_H_init_114 : decode c_H_init 114 = .ok (.new 23, 3) := by decide +kernel
theorem d_H_init_117 : decode c_H_init 117 = .ok (.dup, 1) := by decide +kernel
theorem d_H_init_118 : decode c_H_init 118 = .ok (.iconst 3, 1) := by decide +kernel
theorem d_H_init_119 : decode c_H_init 119 = .ok (.ldc 52, 2) := by decide +kernel
theorem d_H_init_121 : decode c_H_init 121 = .ok (.invokespecial 27, 3) := by decide +kernel
theorem d_H_init_124 : decode c_H_init 124 = .ok (.invokevirtual 44, 3) := by decide +kernel
theorem d_H_init_127 : decode c_H_init 127 = .ok (.pop, 1) := by decide +kernel
theorem d_H_init_128 : decode c_H_init 128 = .ok (.aload_n 0, 1) := by decide +kernel
theorem d_H_init_129 : decode c_H_init 129 = .ok (.getfield 19, 3) := by decide +kernel
theorem d_H_init_132 : decode c_H_init 132 = .ok (.new 23, 3) := by decide +kernel
theorem d_H_init_135 : decode c_H_init 135 = .ok (.dup, 1) := by decide +kernel
theorem d_H_init_136 : decode c_H_init 136 = .ok (.iconst 4, 1) := by decide +kernel
theorem d_H_init_137 : decode c_H_init 137 = .ok (.ldc 54, 2) := by decide +kernel
theorem d_H_init_139 : decode c_H_init 139 = .ok (.invokespecial 27, 3) := by decide +kernel
theorem d_H_init_142 : decode c_H_init 142 = .ok (.invokevirtual 44, 3) := by decide +kernel
theorem d_H_init_145 : decode c_H_init 145 = .ok (.pop, 1) := by decide +kernel
theorem d_H_init_146 : decode c_H_init 146 = .ok (.aload_n 0, 1) := by decide +kernel
theorem d_H_init_147 : decode c_H_init 147 = .ok (.getfield 19, 3) := by decide +kernel
theorem d_H_init_150 : decode c_H_init 150 = .ok (.new 23, 3) := by decide +kernel
theorem d_H_init_153 : decode c_H_init 153 = .ok (.dup, 1) := by decide +kernel
theorem d_H_init_154 : decode c_H_init 154 = .ok (.iconst 5, 1) := by decide +kernel
theorem d_H_init_155 : decode c_H_init 155 = .ok (.ldc 56, 2) := by decide +kernel
theorem d_H_init_157 : decode c_H_init 157 = .ok (.invokespecial 27, 3) := by decide +kernel
theorem d_H_init_160 : decode c_H_init 160 = .ok (.invokevirtual 44, 3) := by decide +kernel
theorem d_H_init_163 : decode c_H_init 163 = .ok (.pop, 1) := by decide +kernel
theorem d_H_init_164 : decode c_H_init 164 = .ok (.aload_n 0, 1) := by decide +kernel
theorem d_H_init_165 : decode c_H_init 165 = .ok (.getfield 19, 3) := by decide +kernel
theorem d_H_init_168 : decode c_H_init 168 = .ok (.new 23, 3) := by decide +kernel
theorem d_H_init_171 : decode c_H_init 171 = .ok (.dup, 1) := by decide +kernel
theorem d_H_init_172 : decode c_H_init 172 = .ok (.bipush 6, 2) := by decide +kernel
theorem d_H_init_174 : decode c_H_init 174 = .ok (.ldc 58, 2) := by decide +kernel
theorem d_H_init_176 : decode c_H_init 176 = .ok (.invokespecial 27, 3) := by decide +kernel
theorem d_H_init_179 : decode c_H_init 179 = .ok (.invokevirtual 44, 3) := by decide +kernel
theorem d_H_init_182 : decode c_H_init 182 = .ok (.pop, 1) := by decide +kernel
theorem d_H_init_183 : decode c_H_init 183 = .ok (.aload_n 0, 1) := by decide +kernel
theorem d_H_init_184 : decode c_H_init 184 = .ok (.getfield 19, 3) := by decide +kernel
theorem d_H_init_187 : decode c_H_init 187 = .ok (.new 23, 3) := by decide +kernel
theorem d_H_init_190 : decode c_H_init 190 = .ok (.dup, 1) := by decide +kernel
theorem d_H_init_191 : decode c_H_init 191 = .ok (.bipush 7, 2) := by decide +kernel
theorem d_H_init_193 : decode c_H_init 193 = .ok (.ldc 60, 2) := by decide +kernel
theorem d_H_init_195 : decode c_H_init 195 = .ok (.invokespecial 27, 3) := by decide +kernel
theorem d_H_init_198 : decode c_H_init 198 = .ok (.invokevirtual 44, 3) := by decide +kernel
theorem d_H_init_201 : decode c_H_init 201 = .ok (.pop, 1) := by decide +kernel
theorem d_H_init_202 : decode c_H_init 202 = .ok (.return_, 1) := by decide +kernel
theorem d_H_feed_0 : decode c_H_feed 0 = .ok (.aload_n 0, 1) := by decide +kernel
theorem d_H_feed_1 : decode c_H_feed 1 = .ok (.getfield 10, 3) := by decide +kernel
theorem d_H_feed_4 : decode c_H_feed 4 = .ok (.invokevirtual 62, 3) := by decide +kernel
theorem d_H_feed_7 : decode c_H_feed 7 = .ok (.bipush 20, 2) := by decide +kernel
theorem d_H_feed_9 : decode c_H_feed 9 = .ok (.if_icmp .ge 13, 3) := by decide +kernel
theorem d_H_feed_12 : decode c_H_feed 12 = .ok (.new 66, 3) := by decide +kernel
theorem d_H_feed_15 : decode c_H_feed 15 = .ok (.dup, 1) := by decide +kernel
theorem d_H_feed_16 : decode c_H_feed 16 = .ok (.ldc 68, 2) := by decide +kernel
theorem d_H_feed_18 : decode c_H_feed 18 = .ok (.invokespecial 70, 3) := by decide +kernel
theorem d_H_feed_21 : decode c_H_feed 21 = .ok (.athrow, 1) := by decide +kernel
theorem d_H_feed_22 : decode c_H_feed 22 = .ok (.aload_n 0, 1) := by decide +kernel
theorem d_H_feed_23 : decode c_H_feed 23 = .ok (.getfield 10, 3) := by decide +kernel
theorem d_H_feed_26 : decode c_H_feed 26 = .ok (.iload_n 1, 1) := by decide +kernel
theorem d_H_feed_27 : decode c_H_feed 27 = .ok (.invokevirtual 73, 3) := by decide +kernel
theorem d_H_feed_30 : decode c_H_feed 30 = .ok (.aload_n 0, 1) := by decide +kernel
theorem d_H_feed_31 : decode c_H_feed 31 = .ok (.getfield 10, 3) := by decide +kernel
theorem d_H_feed_34 : decode c_H_feed 34 = .ok (.iload_n 2, 1) := by decide +kernel
theorem d_H_feed_35 : decode c_H_feed 35 = .ok (.invokevirtual 73, 3) := by decide +kernel
theorem d_H_feed_38 : decode c_H_feed 38 = .ok (.aload_n 0, 1) := by decide +kernel
theorem d_H_feed_39 : decode c_H_feed 39 = .ok (.getfield 10, 3) := by decide +kernel
theorem d_H_feed_42 : decode c_H_feed 42 = .ok (.iload_n 3, 1) := by decide +kernel
theorem d_H_feed_43 : decode c_H_feed 43 = .ok (.invokevirtual 73, 3) := by decide +kernel
theorem d_H_feed_46 : decode c_H_feed 46 = .ok (.aload_n 0, 1) := by decide +kernel
theorem d_H_feed_47 : decode c_H_feed 47 = .ok (.getfield 10, 3) := by decide +kernel
theorem d_H_feed_50 : decode c_H_feed 50 = .ok (.iload 4, 2) := by decide +kernel
theorem d_H_feed_52 : decode c_H_feed 52 = .ok (.invokevirtual 73, 3) := by decide +kernel
theorem d_H_feed_55 : decode c_H_feed 55 = .ok (.aload_n 0, 1) := by decide +kernel
theorem d_H_feed_56 : decode c_H_feed 56 = .ok (.getfield 10, 3) := by decide +kernel
theorem d_H_feed_59 : decode c_H_feed 59 = .ok (.iload 5, 2) := by decide +kernel
theorem d_H_feed_61 : decode c_H_feed 61 = .ok (.invokevirtual 73, 3) := by decide +kernel
theorem d_H_feed_64 : decode c_H_feed 64 = .ok (.aload_n 0, 1) := by decide +kernel
theorem d_H_feed_65 : decode c_H_feed 65 = .ok (.getfield 10, 3) := by decide +kernel
theorem d_H_feed_68 : decode c_H_feed 68 = .ok (.getfield 77, 3) := by decide +kernel
theorem d_H_feed_71 : decode c_H_feed 71 = .ok (.ireturn, 1) := by decide +kernel
theorem d_H_trim_0 : decode c_H_trim 0 = .ok (.iload_n 1, 1) := by decide +kernel
theorem d_H_trim_1 : decode c_H_trim 1 = .ok (.ifCond .lt 14, 3) := by decide +kernel
theorem d_H_trim_4 : decode c_H_trim 4 = .ok (.iload_n 1, 1) := by decide +kernel
theorem d_H_trim_5 : decode c_H_trim 5 = .ok (.aload_n 0, 1) := by decide +kernel
theorem d_H_trim_6 : decode c_H_trim 6 = .ok (.getfield 10, 3) := by decide +kernel
theorem d_H_trim_9 : decode c_H_trim 9 = .ok (.getfield 77, 3) := by decide +kernel
theorem d_H_trim_12 : decode c_H_trim 12 = .ok (.if_icmp .le 13, 3) := by decide +kernel
theorem d_H_trim_15 : decode c_H_trim 15 = .ok (.new 81, 3) := by decide +kernel
theorem d_H_trim_18 : decode c_H_trim 18 = .ok (.dup, 1) := by decide +kernel
theorem d_H_trim_19 : decode c_H_trim 19 = .ok (.ldc 83, 2) := by decide +kernel
theorem d_H_trim_21 : decode c_H_trim 21 = .ok (.invokespecial 85, 3) := by decide +kernel
theorem d_H_trim_24 : decode c_H_trim 24 = .ok (.athrow, 1) := by decide +kernel
theorem d_H_trim_25 : decode c_H_trim 25 = .ok (.aload_n 0, 1) := by decide +kernel
theorem d_H_trim_26 : decode c_H_trim 26 = .ok (.getfield 10, 3) := by decide +kernel
theorem d_H_trim_29 : decode c_H_trim 29 = .ok (.iload_n 1, 1) := by decide +kernel
theorem d_H_trim_30 : decode c_H_trim 30 = .ok (.putfield 77, 3) := by decide +kernel
theorem d_H_trim_33 : decode c_H_trim 33 = .ok (.iload_n 1, 1) := by decide +kernel
theorem d_H_trim_34 : decode c_H_trim 34 = .ok (.ireturn, 1) := by decide +kernel
theorem d_H_learn_0 : decode c_H_learn 0 = .ok (.aload_n 0, 1) := by decide +kernel
theorem d_H_learn_1 : decode c_H_learn 1 = .ok (.iload_n 1, 1) := by decide +kernel
theorem d_H_learn_2 : decode c_H_learn 2 = .ok (.invokevirtual 86, 3) := by decide +kernel
theorem d_H_learn_5 : decode c_H_learn 5 = .ok (.astore_n 2, 1) := by decide +kernel
theorem d_H_learn_6 : decode c_H_learn 6 = .ok (.aload_n 2, 1) := by decide +kernel
theorem d_H_learn_7 : decode c_H_learn 7 = .ok (.aload_n 0, 1) := by decide +kernel
theorem d_H_learn_8 : decode c_H_learn 8 = .ok (.getfield 10, 3) := by decide +kernel
theorem d_H_learn_11 : decode c_H_learn 11 = .ok (.invokevirtual 90, 3) := by decide +kernel
theorem d_H_learn_14 : decode c_H_learn 14 = .ok (.istore_n 3, 1) := by decide +kernel
theorem d_H_learn_15 : decode c_H_learn 15 = .ok (.aload_n 0, 1) := by decide +kernel
theorem d_H_learn_16 : decode c_H_learn 16 = .ok (.getfield 10, 3) := by decide +kernel
theorem d_H_learn_19 : decode c_H_learn 19 = .ok (.iconst 0, 1) := by decide +kernel
theorem d_H_learn_20 : decode c_H_learn 20 = .ok (.putfield 77, 3) := by decide +kernel
theorem d_H_learn_23 : decode c_H_learn 23 = .ok (.iload_n 3, 1) := by decide +kernel
theorem d_H_learn_24 : decode c_H_learn 24 = .ok (.ifCond .ne 5, 3) := by decide +kernel
theorem d_H_learn_27 : decode c_H_learn 27 = .ok (.iconst (-1), 1) := by decide +kernel
theorem d_H_learn_28 : decode c_H_learn 28 = .ok (.ireturn, 1) := by decide +kernel
theorem d_H_learn_29 : decode c_H_learn 29 = .ok (.aload_n 0, 1) := by decide +kernel
theorem d_H_learn_30 : decode c_H_learn 30 = .ok (.getfield 37, 3) := by decide +kernel
theorem d_H_learn_33 : decode c_H_learn 33 = .ok (.aload_n 2, 1) := by decide +kernel
theorem d_H_learn_34 : decode c_H_learn 34 = .ok (.invokevirtual 94, 3) := by decide +kernel
theorem d_H_learn_37 : decode c_H_learn 37 = .ok (.aload_n 2, 1) := by decide +kernel
theorem d_H_learn_38 : decode c_H_learn 38 = .ok (.getfield 98, 3) := by decide +kernel
theorem d_H_learn_41 : decode c_H_learn 41 = .ok (.ireturn, 1) := by decide +kernel
theorem d_H_figure_0 : decode c_H_figure 0 = .ok (.aload_n 0, 1) := by decide +kernel
theorem d_H_figure_1 : decode c_H_figure 1 = .ok (.iload_n 1, 1) := by decide +kernel
theorem d_H_figure_2 : decode c_H_figure 2 = .ok (.invokevirtual 86, 3) := by decide +kernel
theorem d_H_figure_5 : decode c_H_figure 5 = .ok (.astore_n 3, 1) := by decide +kernel
theorem d_H_figure_6 : decode c_H_figure 6 = .ok (.iload_n 2, 1) := by decide +kernel
theorem d_H_figure_7 : decode c_H_figure 7 = .ok (.ifCond .lt 11, 3) := by decide +kernel
theorem d_H_figure_10 : decode c_H_figure 10 = .ok (.iload_n 2, 1) := by decide +kernel
theorem d_H_figure_11 : decode c_H_figure 11 = .ok (.aload_n 3, 1) := by decide +kernel
theorem d_H_figure_12 : decode c_H_figure 12 = .ok (.getfield 98, 3) := by decide +kernel
theorem d_H_figure_15 : decode c_H_figure 15 = .ok (.if_icmp .lt 13, 3) := by decide +kernel
theorem d_H_figure_18 : decode c_H_figure 18 = .ok (.new 99, 3) := by decide +kernel
theorem d_H_figure_21 : decode c_H_figure 21 = .ok (.dup, 1) := by decide +kernel
theorem d_H_figure_22 : decode c_H_figure 22 = .ok (.ldc 101, 2) := by decide +kernel
theorem d_H_figure_24 : decode c_H_figure 24 = .ok (.invokespecial 103, 3) := by decide +kernel
theorem d_H_figure_27 : decode c_H_figure 27 = .ok (.athrow, 1) := by decide +kernel
theorem d_H_figure_28 : decode c_H_figure 28 = .ok (.aload_n 3, 1) := by decide +kernel
theorem d_H_figure_29 : decode c_H_figure 29 = .ok (.iload_n 2, 1) := by decide +kernel
theorem d_H_figure_30 : decode c_H_figure 30 = .ok (.invokevirtual 104, 3) := by decide +kernel
theorem d_H_figure_33 : decode c_H_figure 33 = .ok (.ireturn, 1) := by decide +kernel
theorem d_H_drift_0 : decode c_H_drift 0 = .ok (.aload_n 0, 1) := by decide +kernel
theorem d_H_drift_1 : decode c_H_drift 1 = .ok (.iload_n 1, 1) := by decide +kernel
theorem d_H_drift_2 : decode c_H_drift 2 = .ok (.invokevirtual 86, 3) := by decide +kernel
theorem d_H_drift_5 : decode c_H_drift 5 = .ok (.astore_n 3, 1) := by decide +kernel
theorem d_H_drift_6 : decode c_H_drift 6 = .ok (.iload_n 2, 1) := by decide +kernel
theorem d_H_drift_7 : decode c_H_drift 7 = .ok (.iconst 4, 1) := by decide +kernel
theorem d_H_drift_8 : decode c_H_drift 8 = .ok (.invokestatic 108, 3) := by decide +kernel
theorem d_H_drift_11 : decode c_H_drift 11 = .ok (.aload_n 3, 1) := by decide +kernel
theorem d_H_drift_12 : decode c_H_drift 12 = .ok (.iload_n 2, 1) := by decide +kernel
theorem d_H_drift_13 : decode c_H_drift 13 = .ok (.invokevirtual 112, 3) := by decide +kernel
theorem d_H_drift_16 : decode c_H_drift 16 = .ok (.ireturn, 1) := by decide +kernel
theorem d_H_come_0 : decode c_H_come 0 = .ok (.iload_n 1, 1) := by decide +kernel
theorem d_H_come_1 : decode c_H_come 1 = .ok (.iload_n 2, 1) := by decide +kernel
theorem d_H_come_2 : decode c_H_come 2 = .ok (.invokestatic 115, 3) := by decide +kernel
theorem d_H_come_5 : decode c_H_come 5 = .ok (.ifCond .eq 25, 3) := by decide +kernel
theorem d_H_come_8 : decode c_H_come 8 = .ok (.iload_n 3, 1) := by decide +kernel
theorem d_H_come_9 : decode c_H_come 9 = .ok (.ifCond .lt 21, 3) := by decide +kernel
theorem d_H_come_12 : decode c_H_come 12 = .ok (.iload_n 3, 1) := by decide +kernel
theorem d_H_come_13 : decode c_H_come 13 = .ok (.iconst 4, 1) := by decide +kernel
theorem d_H_come_14 : decode c_H_come 14 = .ok (.if_icmp .ge 16, 3) := by decide +kernel
theorem d_H_come_17 : decode c_H_come 17 = .ok (.iload 4, 2) := by decide +kernel
theorem d_H_come_19 : decode c_H_come 19 = .ok (.iconst 1, 1) := by decide +kernel
theorem d_H_come_20 : decode c_H_come 20 = .ok (.if_icmp .lt 10, 3) := by decide +kernel
theorem d_H_come_23 : decode c_H_come 23 = .ok (.iload 4, 2) := by decide +kernel
theorem d_H_come_25 : decode c_H_come 25 = .ok (.bipush 9, 2) := by decide +kernel
theorem d_H_come_27 : decode c_H_come 27 = .ok (.if_icmp .le 13, 3) := by decide +kernel
theorem d_H_come_30 : decode c_H_come 30 = .ok (.new 81, 3) := by decide +kernel
theorem d_H_come_33 : decode c_H_come 33 = .ok (.dup, 1) := by decide +kernel
theorem d_H_come_34 : decode c_H_come 34 = .ok (.ldc 119, 2) := by decide +kernel
theorem d_H_come_36 : decode c_H_come 36 = .ok (.invokespecial 85, 3) := by decide +kernel
theorem d_H_come_39 : decode c_H_come 39 = .ok (.athrow, 1) := by decide +kernel
theorem d_H_come_40 : decode c_H_come 40 = .ok (.aload_n 0, 1) := by decide +kernel
theorem d_H_come_41 : decode c_H_come 41 = .ok (.getfield 37, 3) := by decide +kernel
theorem d_H_come_44 : decode c_H_come 44 = .ok (.getfield 121, 3) := by decide +kernel
theorem d_H_come_47 : decode c_H_come 47 = .ok (.invokevirtual 124, 3) := by decide +kernel
theorem d_H_come_50 : decode c_H_come 50 = .ok (.bipush 8, 2) := by decide +kernel
theorem d_H_come_52 : decode c_H_come 52 = .ok (.if_icmp .ge 15, 3) := by decide +kernel
theorem d_H_come_55 : decode c_H_come 55 = .ok (.aload_n 0, 1) := by decide +kernel
theorem d_H_come_56 : decode c_H_come 56 = .ok (.getfield 37, 3) := by decide +kernel
theorem d_H_come_59 : decode c_H_come 59 = .ok (.iload_n 1, 1) := by decide +kernel
theorem d_H_come_60 : decode c_H_come 60 = .ok (.iload_n 2, 1) := by decide +kernel
theorem d_H_come_61 : decode c_H_come 61 = .ok (.invokevirtual 127, 3) := by decide +kernel
theorem d_H_come_64 : decode c_H_come 64 = .ok (.ifnull 13, 3) := by decide +kernel
theorem d_H_come_67 : decode c_H_come 67 = .ok (.new 66, 3) := by decide +kernel
theorem d_H_come_70 : decode c_H_come 70 = .ok (.dup, 1) := by decide +kernel
theorem d_H_come_71 : decode c_H_come 71 = .ok (.ldc 131, 2) := by decide +kernel
theorem d_H_come_73 : decode c_H_come 73 = .ok (.invokespecial 70, 3) := by decide +kernel
theorem d_H_come_76 : decode c_H_come 76 = .ok (.athrow, 1) := by decide +kernel
theorem d_H_come_77 : decode c_H_come 77 = .ok (.new 133, 3) := by decide +kernel
theorem d_H_come_80 : decode c_H_come 80 = .ok (.dup, 1) := by decide +kernel
theorem d_H_come_81 : decode c_H_come 81 = .ok (.aload_n 0, 1) := by decide +kernel
theorem d_H_come_82 : decode c_H_come 82 = .ok (.getfield 37, 3) := by decide +kernel
theorem d_H_come_85 : decode c_H_come 85 = .ok (.getfield 121, 3) := by decide +kernel
theorem d_H_come_88 : decode c_H_come 88 = .ok (.invokevirtual 124, 3) := by decide +kernel
theorem d_H_come_91 : decode c_H_come 91 = .ok (.aload_n 0, 1) := by decide +kernel
theorem d_H_come_92 : decode c_H_come 92 = .ok (.getfield 30, 3) := by decide +kernel
theorem d_H_come_95 : decode c_H_come 95 = .ok (.invokespecial 135, 3) := by decide +kernel
theorem d_H_come_98 : decode c_H_come 98 = .ok (.astore 5, 2) := by decide +kernel
theorem d_H_come_100 : decode c_H_come 100 = .ok (.aload 5, 2) := by decide +kernel
theorem d_H_come_102 : decode c_H_come 102 = .ok (.iload_n 1, 1) := by decide +kernel
theorem d_H_come_103 : decode c_H_come 103 = .ok (.putfield 138, 3) := by decide +kernel
theorem d_H_come_106 : decode c_H_come 106 = .ok (.aload 5, 2) := by decide +kernel
theorem d_H_come_108 : decode c_H_come 108 = .ok (.iload_n 2, 1) := by decide +kernel
theorem d_H_come_109 : decode c_H_come 109 = .ok (.putfield 141, 3) := by decide +kernel
theorem d_H_come_112 : decode c_H_come 112 = .ok (.aload 5, 2) := by decide +kernel
theorem d_H_come_114 : decode c_H_come 114 = .ok (.iload_n 3, 1) := by decide +kernel
theorem d_H_come_115 : decode c_H_come 115 = .ok (.putfield 144, 3) := by decide +kernel
theorem d_H_come_118 : decode c_H_come 118 = .ok (.aload 5, 2) := by decide +kernel
theorem d_H_come_120 : decode c_H_come 120 = .ok (.iload 4, 2) := by decide +kernel
theorem d_H_come_122 : decode c_H_come 122 = .ok (.putfield 147, 3) := by decide +kernel
theorem d_H_come_125 : decode c_H_come 125 = .ok (.aload_n 0, 1) := by decide +kernel
theorem d_H_come_126 : decode c_H_come 126 = .ok (.getfield 37, 3) := by decide +kernel
theorem d_H_come_129 : decode c_H_come 129 = .ok (.getfield 121, 3) := by decide +kernel
theorem d_H_come_132 : decode c_H_come 132 = .ok (.aload 5, 2) := by decide +kernel
theorem d_H_come_134 : decode c_H_come 134 = .ok (.invokevirtual 44, 3) := by decide +kernel
theorem d_H_come_137 : decode c_H_come 137 = .ok (.pop, 1) := by decide +kernel
theorem d_H_come_138 : decode c_H_come 138 = .ok (.aload 5, 2) := by decide +kernel
theorem d_H_come_140 : decode c_H_come 140 = .ok (.getfield 150, 3) := by decide +kernel
theorem d_H_come_143 : decode c_H_come 143 = .ok (.ireturn, 1) := by decide +kernel
theorem d_H_dance_0 : decode c_H_dance 0 = .ok (.aload_n 0, 1) := by decide +kernel
theorem d_H_dance_1 : decode c_H_dance 1 = .ok (.iload_n 1, 1) := by decide +kernel
theorem d_H_dance_2 : decode c_H_dance 2 = .ok (.invokevirtual 153, 3) := by decide +kernel
theorem d_H_dance_5 : decode c_H_dance 5 = .ok (.astore_n 3, 1) := by decide +kernel
theorem d_H_dance_6 : decode c_H_dance 6 = .ok (.aload_n 0, 1) := by decide +kernel
theorem d_H_dance_7 : decode c_H_dance 7 = .ok (.iload_n 2, 1) := by decide +kernel
theorem d_H_dance_8 : decode c_H_dance 8 = .ok (.invokevirtual 86, 3) := by decide +kernel
theorem d_H_dance_11 : decode c_H_dance 11 = .ok (.astore 4, 2) := by decide +kernel
theorem d_H_dance_13 : decode c_H_dance 13 = .ok (.aload_n 3, 1) := by decide +kernel
theorem d_H_dance_14 : decode c_H_dance 14 = .ok (.getfield 157, 3) := by decide +kernel
theorem d_H_dance_17 : decode c_H_dance 17 = .ok (.getfield 160, 3) := by decide +kernel
theorem d_H_dance_20 : decode c_H_dance 20 = .ok (.istore 5, 2) := by decide +kernel
theorem d_H_dance_22 : decode c_H_dance 22 = .ok (.aload_n 3, 1) := by decide +kernel
theorem d_H_dance_23 : decode c_H_dance 23 = .ok (.aload 4, 2) := by decide +kernel
theorem d_H_dance_25 : decode c_H_dance 25 = .ok (.putfield 157, 3) := by decide +kernel
theorem d_H_dance_28 : decode c_H_dance 28 = .ok (.aload_n 3, 1) := by decide +kernel
theorem d_H_dance_29 : decode c_H_dance 29 = .ok (.iconst 0, 1) := by decide +kernel
theorem d_H_dance_30 : decode c_H_dance 30 = .ok (.putfield 161, 3) := by decide +kernel
theorem d_H_dance_33 : decode c_H_dance 33 = .ok (.iload 5, 2) := by decide +kernel
theorem d_H_dance_35 : decode c_H_dance 35 = .ok (.ireturn, 1) := by decide +kernel
theorem d_H_pair_0 : decode c_H_pair 0 = .ok (.aload_n 0, 1) := by decide +kernel
theorem d_H_pair_1 : decode c_H_pair 1 = .ok (.iload_n 1, 1) := by decide +kernel
theorem d_H_pair_2 : decode c_H_pair 2 = .ok (.invokevirtual 153, 3) := by decide +kernel
theorem d_H_pair_5 : decode c_H_pair 5 = .ok (.astore_n 3, 1) := by decide +kernel
theorem d_H_pair_6 : decode c_H_pair 6 = .ok (.aload_n 0, 1) := by decide +kernel
theorem d_H_pair_7 : decode c_H_pair 7 = .ok (.iload_n 2, 1) := by decide +kernel
theorem d_H_pair_8 : decode c_H_pair 8 = .ok (.invokevirtual 153, 3) := by decide +kernel
theorem d_H_pair_11 : decode c_H_pair 11 = .ok (.astore 4, 2) := by decide +kernel
theorem d_H_pair_13 : decode c_H_pair 13 = .ok (.iload_n 1, 1) := by decide +kernel
theorem d_H_pair_14 : decode c_H_pair 14 = .ok (.iload_n 2, 1) := by decide +kernel
theorem d_H_pair_15 : decode c_H_pair 15 = .ok (.if_icmp .ne 13, 3) := by decide +kernel
theorem d_H_pair_18 : decode c_H_pair 18 = .ok (.new 81, 3) := by decide +kernel
theorem d_H_pair_21 : decode c_H_pair 21 = .ok (.dup, 1) := by decide +kernel
theorem d_H_pair_22 : decode c_H_pair 22 = .ok (.ldc 164, 2) := by decide +kernel
theorem d_H_pair_24 : decode c_H_pair 24 = .ok (.invokespecial 85, 3) := by decide +kernel
theorem d_H_pair_27 : decode c_H_pair 27 = .ok (.athrow, 1) := by decide +kernel
theorem d_H_pair_28 : decode c_H_pair 28 = .ok (.aload_n 3, 1) := by decide +kernel
theorem d_H_pair_29 : decode c_H_pair 29 = .ok (.getfield 166, 3) := by decide +kernel
theorem d_H_pair_32 : decode c_H_pair 32 = .ok (.ifnonnull 20, 3) := by decide +kernel
theorem d_H_pair_35 : decode c_H_pair 35 = .ok (.aload 4, 2) := by decide +kernel
theorem d_H_pair_37 : decode c_H_pair 37 = .ok (.getfield 166, 3) := by decide +kernel
theorem d_H_pair_40 : decode c_H_pair 40 = .ok (.ifnonnull 12, 3) := by decide +kernel
theorem d_H_pair_43 : decode c_H_pair 43 = .ok (.aload_n 3, 1) := by decide +kernel
theorem d_H_pair_44 : decode c_H_pair 44 = .ok (.aload 4, 2) := by decide +kernel
theorem d_H_pair_46 : decode c_H_pair 46 = .ok (.invokevirtual 170, 3) := by decide +kernel
theorem d_H_pair_49 : decode c_H_pair 49 = .ok (.ifCond .ne 13, 3) := by decide +kernel
theorem d_H_pair_52 : decode c_H_pair 52 = .ok (.new 66, 3) := by decide +kernel
theorem d_H_pair_55 : decode c_H_pair 55 = .ok (.dup, 1) := by decide +kernel
theorem d_H_pair_56 : decode c_H_pair 56 = .ok (.ldc 174, 2) := by decide +kernel
theorem d_H_pair_58 : decode c_H_pair 58 = .ok (.invokespecial 70, 3) := by decide +kernel
theorem d_H_pair_61 : decode c_H_pair 61 = .ok (.athrow, 1) := by decide +kernel
theorem d_H_pair_62 : decode c_H_pair 62 = .ok (.aload_n 3, 1) := by decide +kernel
theorem d_H_pair_63 : decode c_H_pair 63 = .ok (.aload 4, 2) := by decide +kernel
theorem d_H_pair_65 : decode c_H_pair 65 = .ok (.putfield 166, 3) := by decide +kernel
theorem d_H_pair_68 : decode c_H_pair 68 = .ok (.aload 4, 2) := by decide +kernel
theorem d_H_pair_70 : decode c_H_pair 70 = .ok (.aload_n 3, 1) := by decide +kernel
theorem d_H_pair_71 : decode c_H_pair 71 = .ok (.putfield 166, 3) := by decide +kernel
theorem d_H_pair_74 : decode c_H_pair 74 = .ok (.aload 4, 2) := by decide +kernel
theorem d_H_pair_76 : decode c_H_pair 76 = .ok (.iconst 1, 1) := by decide +kernel
theorem d_H_pair_77 : decode c_H_pair 77 = .ok (.putfield 176, 3) := by decide +kernel
theorem d_H_pair_80 : decode c_H_pair 80 = .ok (.aload_n 0, 1) := by decide +kernel
theorem d_H_pair_81 : decode c_H_pair 81 = .ok (.getfield 37, 3) := by decide +kernel
theorem d_H_pair_84 : decode c_H_pair 84 = .ok (.bipush 8, 2) := by decide +kernel
theorem d_H_pair_86 : decode c_H_pair 86 = .ok (.invokevirtual 180, 3) := by decide +kernel
theorem d_H_pair_89 : decode c_H_pair 89 = .ok (.ireturn, 1) := by decide +kernel
theorem d_H_part_0 : decode c_H_part 0 = .ok (.aload_n 0, 1) := by decide +kernel
theorem d_H_part_1 : decode c_H_part 1 = .ok (.iload_n 1, 1) := by decide +kernel
theorem d_H_part_2 : decode c_H_part 2 = .ok (.invokevirtual 153, 3) := by decide +kernel
theorem d_H_part_5 : decode c_H_part 5 = .ok (.astore_n 2, 1) := by decide +kernel
theorem d_H_part_6 : decode c_H_part 6 = .ok (.aload_n 2, 1) := by decide +kernel
theorem d_H_part_7 : decode c_H_part 7 = .ok (.getfield 166, 3) := by decide +kernel
theorem d_H_part_10 : decode c_H_part 10 = .ok (.astore_n 3, 1) := by decide +kernel
theorem d_H_part_11 : decode c_H_part 11 = .ok (.aload_n 3, 1) := by decide +kernel
theorem d_H_part_12 : decode c_H_part 12 = .ok (.ifnonnull 13, 3) := by decide +kernel
theorem d_H_part_15 : decode c_H_part 15 = .ok (.new 66, 3) := by decide +kernel
theorem d_H_part_18 : decode c_H_part 18 = .ok (.dup, 1) := by decide +kernel
theorem d_H_part_19 : decode c_H_part 19 = .ok (.ldc 183, 2) := by decide +kernel
theorem d_H_part_21 : decode c_H_part 21 = .ok (.invokespecial 70, 3) := by decide +kernel
theorem d_H_part_24 : decode c_H_part 24 = .ok (.athrow, 1) := by decide +kernel
theorem d_H_part_25 : decode c_H_part 25 = .ok (.aload_n 2, 1) := by decide +kernel
theorem d_H_part_26 : decode c_H_part 26 = .ok (.invokevirtual 185, 3) := by decide +kernel
theorem d_H_part_29 : decode c_H_part 29 = .ok (.aload_n 3, 1) := by decide +kernel
theorem d_H_part_30 : decode c_H_part 30 = .ok (.invokevirtual 185, 3) := by decide +kernel
theorem d_H_part_33 : decode c_H_part 33 = .ok (.aload_n 3, 1) := by decide +kernel
theorem d_H_part_34 : decode c_H_part 34 = .ok (.getfield 150, 3) := by decide +kernel
theorem d_H_part_37 : decode c_H_part 37 = .ok (.ireturn, 1) := by decide +kernel
theorem d_H_wind_0 : decode c_H_wind 0 = .ok (.aload_n 0, 1) := by decide +kernel
theorem d_H_wind_1 : decode c_H_wind 1 = .ok (.iload_n 1, 1) := by decide +kernel
theorem d_H_wind_2 : decode c_H_wind 2 = .ok (.invokevirtual 153, 3) := by decide +kernel
theorem d_H_wind_5 : decode c_H_wind 5 = .ok (.astore_n 3, 1) := by decide +kernel
theorem d_H_wind_6 : decode c_H_wind 6 = .ok (.iload_n 2, 1) := by decide +kernel
theorem d_H_wind_7 : decode c_H_wind 7 = .ok (.sipush (-200), 3) := by decide +kernel
theorem d_H_wind_10 : decode c_H_wind 10 = .ok (.if_icmp .lt 10, 3) := by decide +kernel
theorem d_H_wind_13 : decode c_H_wind 13 = .ok (.iload_n 2, 1) := by decide +kernel
theorem d_H_wind_14 : decode c_H_wind 14 = .ok (.sipush 200, 3) := by decide +kernel
theorem d_H_wind_17 : decode c_H_wind 17 = .ok (.if_icmp .le 13, 3) := by decide +kernel
theorem d_H_wind_20 : decode c_H_wind 20 = .ok (.new 81, 3) := by decide +kernel
theorem d_H_wind_23 : decode c_H_wind 23 = .ok (.dup, 1) := by decide +kernel
theorem d_H_wind_24 : decode c_H_wind 24 = .ok (.ldc 188, 2) := by decide +kernel
theorem d_H_wind_26 : decode c_H_wind 26 = .ok (.invokespecial 85, 3) := by decide +kernel
theorem d_H_wind_29 : decode c_H_wind 29 = .ok (.athrow, 1) := by decide +kernel
theorem d_H_wind_30 : decode c_H_wind 30 = .ok (.aload_n 3, 1) := by decide +kernel
theorem d_H_wind_31 : decode c_H_wind 31 = .ok (.iload_n 2, 1) := by decide +kernel
theorem d_H_wind_32 : decode c_H_wind 32 = .ok (.invokevirtual 190, 3) := by decide +kernel
theorem d_H_wind_35 : decode c_H_wind 35 = .ok (.aload_n 3, 1) := by decide +kernel
theorem d_H_wind_36 : decode c_H_wind 36 = .ok (.getfield 193, 3) := by decide +kernel
theorem d_H_wind_39 : decode c_H_wind 39 = .ok (.ireturn, 1) := by decide +kernel
theorem d_H_dancer_0 : decode c_H_dancer 0 = .ok (.aload_n 0, 1) := by decide +kernel
theorem d_H_dancer_1 : decode c_H_dancer 1 = .ok (.iload_n 1, 1) := by decide +kernel
theorem d_H_dancer_2 : decode c_H_dancer 2 = .ok (.invokevirtual 153, 3) := by decide +kernel
theorem d_H_dancer_5 : decode c_H_dancer 5 = .ok (.astore_n 3, 1) := by decide +kernel
theorem d_H_dancer_6 : decode c_H_dancer 6 = .ok (.iload_n 2, 1) := by decide +kernel
theorem d_H_dancer_7 : decode c_H_dancer 7 = .ok (.bipush 12, 2) := by decide +kernel
theorem d_H_dancer_9 : decode c_H_dancer 9 = .ok (.invokestatic 108, 3) := by decide +kernel
theorem d_H_dancer_12 : decode c_H_dancer 12 = .ok (.aload_n 3, 1) := by decide +kernel
theorem d_H_dancer_13 : decode c_H_dancer 13 = .ok (.iload_n 2, 1) := by decide +kernel
theorem d_H_dancer_14 : decode c_H_dancer 14 = .ok (.invokevirtual 196, 3) := by decide +kernel
theorem d_H_dancer_17 : decode c_H_dancer 17 = .ok (.ireturn, 1) := by decide +kernel
theorem d_H_at_0 : decode c_H_at 0 = .ok (.iload_n 1, 1) := by decide +kernel
theorem d_H_at_1 : decode c_H_at 1 = .ok (.iload_n 2, 1) := by decide +kernel
theorem d_H_at_2 : decode c_H_at 2 = .ok (.invokestatic 115, 3) := by decide +kernel
theorem d_H_at_5 : decode c_H_at 5 = .ok (.ifCond .ne 13, 3) := by decide +kernel
theorem d_H_at_8 : decode c_H_at 8 = .ok (.new 99, 3) := by decide +kernel
theorem d_H_at_11 : decode c_H_at 11 = .ok (.dup, 1) := by decide +kernel
theorem d_H_at_12 : decode c_H_at 12 = .ok (.ldc 199, 2) := by decide +kernel
theorem d_H_at_14 : decode c_H_at 14 = .ok (.invokespecial 103, 3) := by decide +kernel
theorem d_H_at_17 : decode c_H_at 17 = .ok (.athrow, 1) := by decide +kernel
theorem d_H_at_18 : decode c_H_at 18 = .ok (.aload_n 0, 1) := by decide +kernel
theorem d_H_at_19 : decode c_H_at 19 = .ok (.getfield 37, 3) := by decide +kernel
theorem d_H_at_22 : decode c_H_at 22 = .ok (.iload_n 1, 1) := by decide +kernel
theorem d_H_at_23 : decode c_H_at 23 = .ok (.iload_n 2, 1) := by decide +kernel
theorem d_H_at_24 : decode c_H_at 24 = .ok (.invokevirtual 127, 3) := by decide +kernel
theorem d_H_at_27 : decode c_H_at 27 = .ok (.astore_n 3, 1) := by decide +kernel
theorem d_H_at_28 : decode c_H_at 28 = .ok (.aload_n 3, 1) := by decide +kernel
theorem d_H_at_29 : decode c_H_at 29 = .ok (.ifnonnull 7, 3) := by decide +kernel
theorem d_H_at_32 : decode c_H_at 32 = .ok (.iconst (-1), 1) := by decide +kernel
theorem d_H_at_33 : decode c_H_at 33 = .ok (.goto 7, 3) := by decide +kernel
theorem d_H_at_36 : decode c_H_at 36 = .ok (.aload_n 3, 1) := by decide +kernel
theorem d_H_at_37 : decode c_H_at 37 = .ok (.getfield 150, 3) := by decide +kernel
theorem d_H_at_40 : decode c_H_at 40 = .ok (.ireturn, 1) := by decide +kernel
theorem d_H_addWinder_0 : decode c_H_addWinder 0 = .ok (.iload_n 1, 1) := by decide +kernel
theorem d_H_addWinder_1 : decode c_H_addWinder 1 = .ok (.iload_n 2, 1) := by decide +kernel
theorem d_H_addWinder_2 : decode c_H_addWinder 2 = .ok (.invokestatic 115, 3) := by decide +kernel
theorem d_H_addWinder_5 : decode c_H_addWinder 5 = .ok (.ifCond .eq 14, 3) := by decide +kernel
theorem d_H_addWinder_8 : decode c_H_addWinder 8 = .ok (.iload_n 3, 1) := by decide +kernel
theorem d_H_addWinder_9 : decode c_H_addWinder 9 = .ok (.iconst 1, 1) := by decide +kernel
theorem d_H_addWinder_10 : decode c_H_addWinder 10 = .ok (.if_icmp .lt 9, 3) := by decide +kernel
theorem d_H_addWinder_13 : decode c_H_addWinder 13 = .ok (.iload_n 3, 1) := by decide +kernel
theorem d_H_addWinder_14 : decode c_H_addWinder 14 = .ok (.bipush 100, 2) := by decide +kernel
theorem d_H_addWinder_16 : decode c_H_addWinder 16 = .ok (.if_icmp .le 13, 3) := by decide +kernel
theorem d_H_addWinder_19 : decode c_H_addWinder 19 = .ok (.new 81, 3) := by decide +kernel
theorem d_H_addWinder_22 : decode c_H_addWinder 22 = .ok (.dup, 1) := by decide +kernel
theorem d_H_addWinder_23 : decode c_H_addWinder 23 = .ok (.ldc 201, 2) := by decide +kernel
theorem d_H_addWinder_25 : decode c_H_addWinder 25 = .ok (.invokespecial 85, 3) := by decide +kernel
theorem d_H_addWinder_28 : decode c_H_addWinder 28 = .ok (.athrow, 1) := by decide +kernel
theorem d_H_addWinder_29 : decode c_H_addWinder 29 = .ok (.aload_n 0, 1) := by decide +kernel
theorem d_H_addWinder_30 : decode c_H_addWinder 30 = .ok (.getfield 37, 3) := by decide +kernel
theorem d_H_addWinder_33 : decode c_H_addWinder 33 = .ok (.getfield 203, 3) := by decide +kernel
theorem d_H_addWinder_36 : decode c_H_addWinder 36 = .ok (.invokevirtual 124, 3) := by decide +kernel
theorem d_H_addWinder_39 : decode c_H_addWinder 39 = .ok (.istore 4, 2) := by decide +kernel
theorem d_H_addWinder_41 : decode c_H_addWinder 41 = .ok (.iload 4, 2) := by decide +kernel
theorem d_H_addWinder_43 : decode c_H_addWinder 43 = .ok (.iconst 3, 1) := by decide +kernel
theorem d_H_addWinder_44 : decode c_H_addWinder 44 = .ok (.if_icmp .lt 13, 3) := by decide +kernel
theorem d_H_addWinder_47 : decode c_H_addWinder 47 = .ok (.new 66, 3) := by decide +kernel
theorem d_H_addWinder_50 : decode c_H_addWinder 50 = .ok (.dup, 1) := by decide +kernel
theorem d_H_addWinder_51 : decode c_H_addWinder 51 = .ok (.ldc 206, 2) := by decide +kernel
theorem d_H_addWinder_53 : decode c_H_addWinder 53 = .ok (.invokespecial 70, 3) := by decide +kernel
theorem d_H_addWinder_56 : decode c_H_addWinder 56 = .ok (.athrow, 1) := by decide +kernel
theorem d_H_addWinder_57 : decode c_H_addWinder 57 = .ok (.new 208, 3) := by decide +kernel
theorem d_H_addWinder_60 : decode c_H_addWinder 60 = .ok (.dup, 1) := by decide +kernel
theorem d_H_addWinder_61 : decode c_H_addWinder 61 = .ok (.invokespecial 210, 3) := by decide +kernel
theorem d_H_addWinder_64 : decode c_H_addWinder 64 = .ok (.astore 5, 2) := by decide +kernel
theorem d_H_addWinder_66 : decode c_H_addWinder 66 = .ok (.aload 5, 2) := by decide +kernel
theorem d_H_addWinder_68 : decode c_H_addWinder 68 = .ok (.iload_n 1, 1) := by decide +kernel
theorem d_H_addWinder_69 : decode c_H_addWinder 69 = .ok (.putfield 211, 3) := by decide +kernel
theorem d_H_addWinder_72 : decode c_H_addWinder 72 = .ok (.aload 5, 2) := by decide +kernel
theorem d_H_addWinder_74 : decode c_H_addWinder 74 = .ok (.iload_n 2, 1) := by decide +kernel
theorem d_H_addWinder_75 : decode c_H_addWinder 75 = .ok (.putfield 212, 3) := by decide +kernel
theorem d_H_addWinder_78 : decode c_H_addWinder 78 = .ok (.aload 5, 2) := by decide +kernel
theorem d_H_addWinder_80 : decode c_H_addWinder 80 = .ok (.iload_n 3, 1) := by decide +kernel
theorem d_H_addWinder_81 : decode c_H_addWinder 81 = .ok (.putfield 213, 3) := by decide +kernel
theorem d_H_addWinder_84 : decode c_H_addWinder 84 = .ok (.aload_n 0, 1) := by decide +kernel
theorem d_H_addWinder_85 : decode c_H_addWinder 85 = .ok (.getfield 37, 3) := by decide +kernel
theorem d_H_addWinder_88 : decode c_H_addWinder 88 = .ok (.getfield 203, 3) := by decide +kernel
theorem d_H_addWinder_91 : decode c_H_addWinder 91 = .ok (.aload 5, 2) := by decide +kernel
theorem d_H_addWinder_93 : decode c_H_addWinder 93 = .ok (.invokevirtual 44, 3) := by decide +kernel
theorem d_H_addWinder_96 : decode c_H_addWinder 96 = .ok (.pop, 1) := by decide +kernel
theorem d_H_addWinder_97 : decode c_H_addWinder 97 = .ok (.iload 4, 2) := by decide +kernel
theorem d_H_addWinder_99 : decode c_H_addWinder 99 = .ok (.ireturn, 1) := by decide +kernel
theorem d_H_call_0 : decode c_H_call 0 = .ok (.aload_n 0, 1) := by decide +kernel
theorem d_H_call_1 : decode c_H_call 1 = .ok (.iload_n 1, 1) := by decide +kernel
theorem d_H_call_2 : decode c_H_call 2 = .ok (.invokevirtual 216, 3) := by decide +kernel
theorem d_H_call_5 : decode c_H_call 5 = .ok (.astore_n 3, 1) := by decide +kernel
theorem d_H_call_6 : decode c_H_call 6 = .ok (.aload_n 0, 1) := by decide +kernel
theorem d_H_call_7 : decode c_H_call 7 = .ok (.iload_n 2, 1) := by decide +kernel
theorem d_H_call_8 : decode c_H_call 8 = .ok (.invokevirtual 153, 3) := by decide +kernel
theorem d_H_call_11 : decode c_H_call 11 = .ok (.astore 4, 2) := by decide +kernel
theorem d_H_call_13 : decode c_H_call 13 = .ok (.aload_n 3, 1) := by decide +kernel
theorem d_H_call_14 : decode c_H_call 14 = .ok (.getfield 220, 3) := by decide +kernel
theorem d_H_call_17 : decode c_H_call 17 = .ok (.bipush 8, 2) := by decide +kernel
theorem d_H_call_19 : decode c_H_call 19 = .ok (.if_icmp .lt 13, 3) := by decide +kernel
theorem d_H_call_22 : decode c_H_call 22 = .ok (.new 66, 3) := by decide +kernel
theorem d_H_call_25 : decode c_H_call 25 = .ok (.dup, 1) := by decide +kernel
theorem d_H_call_26 : decode c_H_call 26 = .ok (.ldc 223, 2) := by decide +kernel
theorem d_H_call_28 : decode c_H_call 28 = .ok (.invokespecial 70, 3) := by decide +kernel
theorem d_H_call_31 : decode c_H_call 31 = .ok (.athrow, 1) := by decide +kernel
theorem d_H_call_32 : decode c_H_call 32 = .ok (.aload_n 3, 1) := by decide +kernel
theorem d_H_call_33 : decode c_H_call 33 = .ok (.aload 4, 2) := by decide +kernel
theorem d_H_call_35 : decode c_H_call 35 = .ok (.getfield 150, 3) := by decide +kernel
theorem d_H_call_38 : decode c_H_call 38 = .ok (.invokevirtual 225, 3) := by decide +kernel
theorem d_H_call_41 : decode c_H_call 41 = .ok (.aload_n 3, 1) := by decide +kernel
theorem d_H_call_42 : decode c_H_call 42 = .ok (.getfield 220, 3) := by decide +kernel
theorem d_H_call_45 : decode c_H_call 45 = .ok (.ireturn, 1) := by decide +kernel
theorem d_H_winder_0 : decode c_H_winder 0 = .ok (.aload_n 0, 1) := by decide +kernel
theorem d_H_winder_1 : decode c_H_winder 1 = .ok (.iload_n 1, 1) := by decide +kernel
theorem d_H_winder_2 : decode c_H_winder 2 = .ok (.invokevirtual 216, 3) := by decide +kernel
theorem d_H_winder_5 : decode c_H_winder 5 = .ok (.astore_n 3, 1) := by decide +kernel
theorem d_H_winder_6 : decode c_H_winder 6 = .ok (.iload_n 2, 1) := by decide +kernel
theorem d_H_winder_7 : decode c_H_winder 7 = .ok (.bipush 6, 2) := by decide +kernel
theorem d_H_winder_9 : decode c_H_winder 9 = .ok (.invokestatic 108, 3) := by decide +kernel
theorem d_H_winder_12 : decode c_H_winder 12 = .ok (.aload_n 3, 1) := by decide +kernel
theorem d_H_winder_13 : decode c_H_winder 13 = .ok (.iload_n 2, 1) := by decide +kernel
theorem d_H_winder_14 : decode c_H_winder 14 = .ok (.invokevirtual 228, 3) := by decide +kernel
theorem d_H_winder_17 : decode c_H_winder 17 = .ok (.ireturn, 1) := by decide +kernel
theorem d_H_pass_0 : decode c_H_pass 0 = .ok (.iload_n 1, 1) := by decide +kernel
theorem d_H_pass_1 : decode c_H_pass 1 = .ok (.invokestatic 229, 3) := by decide +kernel
theorem d_H_pass_4 : decode c_H_pass 4 = .ok (.iconst 0, 1) := by decide +kernel
theorem d_H_pass_5 : decode c_H_pass 5 = .ok (.istore_n 2, 1) := by decide +kernel
theorem d_H_pass_6 : decode c_H_pass 6 = .ok (.iconst 0, 1) := by decide +kernel
theorem d_H_pass_7 : decode c_H_pass 7 = .ok (.istore_n 3, 1) := by decide +kernel
theorem d_H_pass_8 : decode c_H_pass 8 = .ok (.iload_n 3, 1) := by decide +kernel
theorem d_H_pass_9 : decode c_H_pass 9 = .ok (.iload_n 1, 1) := by decide +kernel
theorem d_H_pass_10 : decode c_H_pass 10 = .ok (.if_icmp .ge 19, 3) := by decide +kernel
theorem d_H_pass_13 : decode c_H_pass 13 = .ok (.iload_n 2, 1) := by decide +kernel
theorem d_H_pass_14 : decode c_H_pass 14 = .ok (.aload_n 0, 1) := by decide +kernel
theorem d_H_pass_15 : decode c_H_pass 15 = .ok (.getfield 37, 3) := by decide +kernel
theorem d_H_pass_18 : decode c_H_pass 18 = .ok (.invokevirtual 232, 3) := by decide +kernel
theorem d_H_pass_21 : decode c_H_pass 21 = .ok (.iadd, 1) := by decide +kernel
theorem d_H_pass_22 : decode c_H_pass 22 = .ok (.istore_n 2, 1) := by decide +kernel
theorem d_H_pass_23 : decode c_H_pass 23 = .ok (.iinc 3 1, 3) := by decide +kernel
theorem d_H_pass_26 : decode c_H_pass 26 = .ok (.goto (-18), 3) := by decide +kernel
theorem d_H_pass_29 : decode c_H_pass 29 = .ok (.iload_n 2, 1) := by decide +kernel
theorem d_H_pass_30 : decode c_H_pass 30 = .ok (.ireturn, 1) := by decide +kernel
theorem d_H_count_0 : decode c_H_count 0 = .ok (.iload_n 1, 1) := by decide +kernel
theorem d_H_count_1 : decode c_H_count 1 = .ok (.bipush 9, 2) := by decide +kernel
theorem d_H_count_3 : decode c_H_count 3 = .ok (.invokestatic 108, 3) := by decide +kernel
theorem d_H_count_6 : decode c_H_count 6 = .ok (.aload_n 0, 1) := by decide +kernel
theorem d_H_count_7 : decode c_H_count 7 = .ok (.getfield 37, 3) := by decide +kernel
theorem d_H_count_10 : decode c_H_count 10 = .ok (.iload_n 1, 1) := by decide +kernel
theorem d_H_count_11 : decode c_H_count 11 = .ok (.invokevirtual 235, 3) := by decide +kernel
theorem d_H_count_14 : decode c_H_count 14 = .ok (.ireturn, 1) := by decide +kernel
theorem d_H_foresee_0 : decode c_H_foresee 0 = .ok (.aload_n 0, 1) := by decide +kernel
theorem d_H_foresee_1 : decode c_H_foresee 1 = .ok (.iload_n 1, 1) := by decide +kernel
theorem d_H_foresee_2 : decode c_H_foresee 2 = .ok (.invokevirtual 153, 3) := by decide +kernel
theorem d_H_foresee_5 : decode c_H_foresee 5 = .ok (.astore 4, 2) := by decide +kernel
theorem d_H_foresee_7 : decode c_H_foresee 7 = .ok (.iload_n 3, 1) := by decide +kernel
theorem d_H_foresee_8 : decode c_H_foresee 8 = .ok (.iconst 5, 1) := by decide +kernel
theorem d_H_foresee_9 : decode c_H_foresee 9 = .ok (.invokestatic 108, 3) := by decide +kernel
theorem d_H_foresee_12 : decode c_H_foresee 12 = .ok (.iload_n 2, 1) := by decide +kernel
theorem d_H_foresee_13 : decode c_H_foresee 13 = .ok (.invokestatic 229, 3) := by decide +kernel
theorem d_H_foresee_16 : decode c_H_foresee 16 = .ok (.aload_n 0, 1) := by decide +kernel
theorem d_H_foresee_17 : decode c_H_foresee 17 = .ok (.getfield 41, 3) := by decide +kernel
theorem d_H_foresee_20 : decode c_H_foresee 20 = .ok (.aload_n 0, 1) := by decide +kernel
theorem d_H_foresee_21 : decode c_H_foresee 21 = .ok (.getfield 37, 3) := by decide +kernel
theorem d_H_foresee_24 : decode c_H_foresee 24 = .ok (.invokevirtual 236, 3) := by decide +kernel
theorem d_H_foresee_27 : decode c_H_foresee 27 = .ok (.iconst 0, 1) := by decide +kernel
theorem d_H_foresee_28 : decode c_H_foresee 28 = .ok (.istore 5, 2) := by decide +kernel
theorem d_H_foresee_30 : decode c_H_foresee 30 = .ok (.iload 5, 2) := by decide +kernel
theorem d_H_foresee_32 : decode c_H_foresee 32 = .ok (.iload_n 2, 1) := by decide +kernel
theorem d_H_foresee_33 : decode c_H_foresee 33 = .ok (.if_icmp .ge 17, 3) := by decide +kernel
theorem d_H_foresee_36 : decode c_H_foresee 36 = .ok (.aload_n 0, 1) := by decide +kernel
theorem d_H_foresee_37 : decode c_H_foresee 37 = .ok (.getfield 41, 3) := by decide +kernel
theorem d_H_foresee_40 : decode c_H_foresee 40 = .ok (.invokevirtual 232, 3) := by decide +kernel
theorem d_H_foresee_43 : decode c_H_foresee 43 = .ok (.pop, 1) := by decide +kernel
theorem d_H_foresee_44 : decode c_H_foresee 44 = .ok (.iinc 5 1, 3) := by decide +kernel
theorem d_H_foresee_47 : decode c_H_foresee 47 = .ok (.goto (-17), 3) := by decide +kernel
theorem d_H_foresee_50 : decode c_H_foresee 50 = .ok (.aload_n 0, 1) := by decide +kernel
theorem d_H_foresee_51 : decode c_H_foresee 51 = .ok (.getfield 41, 3) := by decide +kernel
theorem d_H_foresee_54 : decode c_H_foresee 54 = .ok (.iload_n 1, 1) := by decide +kernel
theorem d_H_foresee_55 : decode c_H_foresee 55 = .ok (.invokevirtual 240, 3) := by decide +kernel
theorem d_H_foresee_58 : decode c_H_foresee 58 = .ok (.astore 5, 2) := by decide +kernel
theorem d_H_foresee_60 : decode c_H_foresee 60 = .ok (.aload 5, 2) := by decide +kernel
theorem d_H_foresee_62 : decode c_H_foresee 62 = .ok (.ifnonnull 5, 3) := by decide +kernel
theorem d_H_foresee_65 : decode c_H_foresee 65 = .ok (.iconst (-1), 1) := by decide +kernel
theorem d_H_foresee_66 : decode c_H_foresee 66 = .ok (.ireturn, 1) := by decide +kernel
theorem d_H_foresee_67 : decode c_H_foresee 67 = .ok (.iload_n 3, 1) := by decide +kernel
theorem d_H_foresee_68 : decode c_H_foresee 68 = .ok (.iconst 4, 1) := by decide +kernel
theorem d_H_foresee_69 : decode c_H_foresee 69 = .ok (.if_icmp .ne 17, 3) := by decide +kernel
theorem d_H_foresee_72 : decode c_H_foresee 72 = .ok (.aload 5, 2) := by decide +kernel
theorem d_H_foresee_74 : decode c_H_foresee 74 = .ok (.getfield 243, 3) := by decide +kernel
theorem d_H_foresee_77 : decode c_H_foresee 77 = .ok (.aload 4, 2) := by decide +kernel
theorem d_H_foresee_79 : decode c_H_foresee 79 = .ok (.getfield 243, 3) := by decide +kernel
theorem d_H_foresee_82 : decode c_H_foresee 82 = .ok (.isub, 1) := by decide +kernel
theorem d_H_foresee_83 : decode c_H_foresee 83 = .ok (.goto 9, 3) := by decide +kernel
theorem d_H_foresee_86 : decode c_H_foresee 86 = .ok (.aload 5, 2) := by decide +kernel
theorem d_H_foresee_88 : decode c_H_foresee 88 = .ok (.iload_n 3, 1) := by decide +kernel
theorem d_H_foresee_89 : decode c_H_foresee 89 = .ok (.invokevirtual 196, 3) := by decide +kernel
theorem d_H_foresee_92 : decode c_H_foresee 92 = .ok (.ireturn, 1) := by decide +kernel
theorem d_H_firstToStop_0 : decode c_H_firstToStop 0 = .ok (.iload_n 1, 1) := by decide +kernel
theorem d_H_firstToStop_1 : decode c_H_firstToStop 1 = .ok (.invokestatic 229, 3) := by decide +kernel
theorem d_H_firstToStop_4 : decode c_H_firstToStop 4 = .ok (.aload_n 0, 1) := by decide +kernel
theorem d_H_firstToStop_5 : decode c_H_firstToStop 5 = .ok (.getfield 41, 3) := by decide +kernel
theorem d_H_firstToStop_8 : decode c_H_firstToStop 8 = .ok (.aload_n 0, 1) := by decide +kernel
theorem d_H_firstToStop_9 : decode c_H_firstToStop 9 = .ok (.getfield 37, 3) := by decide +kernel
theorem d_H_firstToStop_12 : decode c_H_firstToStop 12 = .ok (.invokevirtual 236, 3) := by decide +kernel
theorem d_H_firstToStop_15 : decode c_H_firstToStop 15 = .ok (.iconst 0, 1) := by decide +kernel
theorem d_H_firstToStop_16 : decode c_H_firstToStop 16 = .ok (.istore_n 2, 1) := by decide +kernel
theorem d_H_firstToStop_17 : decode c_H_firstToStop 17 = .ok (.iload_n 2, 1) := by decide +kernel
theorem d_H_firstToStop_18 : decode c_H_firstToStop 18 = .ok (.iload_n 1, 1) := by decide +kernel
theorem d_H_firstToStop_19 : decode c_H_firstToStop 19 = .ok (.if_icmp .ge 35, 3) := by decide +kernel
theorem d_H_firstToStop_22 : decode c_H_firstToStop 22 = .ok (.aload_n 0, 1) := by decide +kernel
theorem d_H_firstToStop_23 : decode c_H_firstToStop 23 = .ok (.getfield 41, 3) := by decide +kernel
theorem d_H_firstToStop_26 : decode c_H_firstToStop 26 = .ok (.invokevirtual 232, 3) := by decide +kernel
theorem d_H_firstToStop_29 : decode c_H_firstToStop 29 = .ok (.pop, 1) := by decide +kernel
theorem d_H_firstToStop_30 : decode c_H_firstToStop 30 = .ok (.aload_n 0, 1) := by decide +kernel
theorem d_H_firstToStop_31 : decode c_H_firstToStop 31 = .ok (.getfield 41, 3) := by decide +kernel
theorem d_H_firstToStop_34 : decode c_H_firstToStop 34 = .ok (.aload_n 0, 1) := by decide +kernel
theorem d_H_firstToStop_35 : decode c_H_firstToStop 35 = .ok (.getfield 37, 3) := by decide +kernel
theorem d_H_firstToStop_38 : decode c_H_firstToStop 38 = .ok (.invokevirtual 246, 3) := by decide +kernel
theorem d_H_firstToStop_41 : decode c_H_firstToStop 41 = .ok (.istore_n 3, 1) := by decide +kernel
theorem d_H_firstToStop_42 : decode c_H_firstToStop 42 = .ok (.iload_n 3, 1) := by decide +kernel
theorem d_H_firstToStop_43 : decode c_H_firstToStop 43 = .ok (.ifCond .lt 5, 3) := by decide +kernel
theorem d_H_firstToStop_46 : decode c_H_firstToStop 46 = .ok (.iload_n 3, 1) := by decide +kernel
theorem d_H_firstToStop_47 : decode c_H_firstToStop 47 = .ok (.ireturn, 1) := by decide +kernel
theorem d_H_firstToStop_48 : decode c_H_firstToStop 48 = .ok (.iinc 2 1, 3) := by decide +kernel
theorem d_H_firstToStop_51 : decode c_H_firstToStop 51 = .ok (.goto (-34), 3) := by decide +kernel
theorem d_H_firstToStop_54 : decode c_H_firstToStop 54 = .ok (.iconst (-1), 1) := by decide +kernel
theorem d_H_firstToStop_55 : decode c_H_firstToStop 55 = .ok (.ireturn, 1) := by decide +kernel
theorem d_H_meet_0 : decode c_H_meet 0 = .ok (.aload_n 0, 1) := by decide +kernel
theorem d_H_meet_1 : decode c_H_meet 1 = .ok (.iload_n 1, 1) := by decide +kernel
theorem d_H_meet_2 : decode c_H_meet 2 = .ok (.invokevirtual 153, 3) := by decide +kernel
theorem d_H_meet_5 : decode c_H_meet 5 = .ok (.pop, 1) := by decide +kernel
theorem d_H_meet_6 : decode c_H_meet 6 = .ok (.aload_n 0, 1) := by decide +kernel
theorem d_H_meet_7 : decode c_H_meet 7 = .ok (.iload_n 2, 1) := by decide +kernel
theorem d_H_meet_8 : decode c_H_meet 8 = .ok (.invokevirtual 153, 3) := by decide +kernel
theorem d_H_meet_11 : decode c_H_meet 11 = .ok (.pop, 1) := by decide +kernel
theorem d_H_meet_12 : decode c_H_meet 12 = .ok (.iload_n 1, 1) := by decide +kernel
theorem d_H_meet_13 : decode c_H_meet 13 = .ok (.iload_n 2, 1) := by decide +kernel
theorem d_H_meet_14 : decode c_H_meet 14 = .ok (.if_icmp .ne 13, 3) := by decide +kernel
theorem d_H_meet_17 : decode c_H_meet 17 = .ok (.new 81, 3) := by decide +kernel
theorem d_H_meet_20 : decode c_H_meet 20 = .ok (.dup, 1) := by decide +kernel
theorem d_H_meet_21 : decode c_H_meet 21 = .ok (.ldc 250, 2) := by decide +kernel
theorem d_H_meet_23 : decode c_H_meet 23 = .ok (.invokespecial 85, 3) := by decide +kernel
theorem d_H_meet_26 : decode c_H_meet 26 = .ok (.athrow, 1) := by decide +kernel
theorem d_H_meet_27 : decode c_H_meet 27 = .ok (.iload_n 3, 1) := by decide +kernel
theorem d_H_meet_28 : decode c_H_meet 28 = .ok (.invokestatic 229, 3) := by decide +kernel
theorem d_H_meet_31 : decode c_H_meet 31 = .ok (.aload_n 0, 1) := by decide +kernel
theorem d_H_meet_32 : decode c_H_meet 32 = .ok (.getfield 41, 3) := by decide +kernel
theorem d_H_meet_35 : decode c_H_meet 35 = .ok (.aload_n 0, 1) := by decide +kernel
theorem d_H_meet_36 : decode c_H_meet 36 = .ok (.getfield 37, 3) := by decide +kernel
theorem d_H_meet_39 : decode c_H_meet 39 = .ok (.invokevirtual 236, 3) := by decide +kernel
theorem d_H_meet_42 : decode c_H_meet 42 = .ok (.aload_n 0, 1) := by decide +kernel
theorem d_H_meet_43 : decode c_H_meet 43 = .ok (.getfield 41, 3) := by decide +kernel
theorem d_H_meet_46 : decode c_H_meet 46 = .ok (.iload_n 1, 1) := by decide +kernel
theorem d_H_meet_47 : decode c_H_meet 47 = .ok (.iload_n 2, 1) := by decide +kernel
theorem d_H_meet_48 : decode c_H_meet 48 = .ok (.invokevirtual 252, 3) := by decide +kernel
theorem d_H_meet_51 : decode c_H_meet 51 = .ok (.ifCond .eq 5, 3) := by decide +kernel
theorem d_H_meet_54 : decode c_H_meet 54 = .ok (.iconst 0, 1) := by decide +kernel
theorem d_H_meet_55 : decode c_H_meet 55 = .ok (.ireturn, 1) := by decide +kernel
theorem d_H_meet_56 : decode c_H_meet 56 = .ok (.iconst 1, 1) := by decide +kernel
theorem d_H_meet_57 : decode c_H_meet 57 = .ok (.istore 4, 2) := by decide +kernel
theorem d_H_meet_59 : decode c_H_meet 59 = .ok (.iload 4, 2) := by decide +kernel
theorem d_H_meet_61 : decode c_H_meet 61 = .ok (.iload_n 3, 1) := by decide +kernel
theorem d_H_meet_62 : decode c_H_meet 62 = .ok (.if_icmp .gt 32, 3) := by decide +kernel
theorem d_H_meet_65 : decode c_H_meet 65 = .ok (.aload_n 0, 1) := by decide +kernel
theorem d_H_meet_66 : decode c_H_meet 66 = .ok (.getfield 41, 3) := by decide +kernel
theorem d_H_meet_69 : decode c_H_meet 69 = .ok (.invokevirtual 232, 3) := by decide +kernel
theorem d_H_meet_72 : decode c_H_meet 72 = .ok (.pop, 1) := by decide +kernel
theorem d_H_meet_73 : decode c_H_meet 73 = .ok (.aload_n 0, 1) := by decide +kernel
theorem d_H_meet_74 : decode c_H_meet 74 = .ok (.getfield 41, 3) := by decide +kernel
theorem d_H_meet_77 : decode c_H_meet 77 = .ok (.iload_n 1, 1) := by decide +kernel
theorem d_H_meet_78 : decode c_H_meet 78 = .ok (.iload_n 2, 1) := by decide +kernel
theorem d_H_meet_79 : decode c_H_meet 79 = .ok (.invokevirtual 252, 3) := by decide +kernel
theorem d_H_meet_82 : decode c_H_meet 82 = .ok (.ifCond .eq 6, 3) := by decide +kernel
theorem d_H_meet_85 : decode c_H_meet 85 = .ok (.iload 4, 2) := by decide +kernel
theorem d_H_meet_87 : decode c_H_meet 87 = .ok (.ireturn, 1) := by decide +kernel
theorem d_H_meet_88 : decode c_H_meet 88 = .ok (.iinc 4 1, 3) := by decide +kernel
theorem d_H_meet_91 : decode c_H_meet 91 = .ok (.goto (-32), 3) := by decide +kernel
theorem d_H_meet_94 : decode c_H_meet 94 = .ok (.iconst (-1), 1) := by decide +kernel
theorem d_H_meet_95 : decode c_H_meet 95 = .ok (.ireturn, 1) := by decide +kernel
theorem d_H_tension_0 : decode c_H_tension 0 = .ok (.aload_n 0, 1) := by decide +kernel
theorem d_H_tension_1 : decode c_H_tension 1 = .ok (.getfield 37, 3) := by decide +kernel
theorem d_H_tension_4 : decode c_H_tension 4 = .ok (.getfield 121, 3) := by decide +kernel
theorem d_H_tension_7 : decode c_H_tension 7 = .ok (.invokevirtual 124, 3) := by decide +kernel
theorem d_H_tension_10 : decode c_H_tension 10 = .ok (.istore_n 1, 1) := by decide +kernel
theorem d_H_tension_11 : decode c_H_tension 11 = .ok (.iload_n 1, 1) := by decide +kernel
theorem d_H_tension_12 : decode c_H_tension 12 = .ok (.ifCond .ne 7, 3) := by decide +kernel
theorem d_H_tension_15 : decode c_H_tension 15 = .ok (.dconst 0, 1) := by decide +kernel
theorem d_H_tension_16 : decode c_H_tension 16 = .ok (.goto 15, 3) := by decide +kernel
theorem d_H_tension_19 : decode c_H_tension 19 = .ok (.aload_n 0, 1) := by decide +kernel
theorem d_H_tension_20 : decode c_H_tension 20 = .ok (.getfield 37, 3) := by decide +kernel
theorem d_H_tension_23 : decode c_H_tension 23 = .ok (.iconst 3, 1) := by decide +kernel
theorem d_H_tension_24 : decode c_H_tension 24 = .ok (.invokevirtual 180, 3) := by decide +kernel
theorem d_H_tension_27 : decode c_H_tension 27 = .ok (.i2d, 1) := by decide +kernel
theorem d_H_tension_28 : decode c_H_tension 28 = .ok (.iload_n 1, 1) := by decide +kernel
theorem d_H_tension_29 : decode c_H_tension 29 = .ok (.i2d, 1) := by decide +kernel
theorem d_H_tension_30 : decode c_H_tension 30 = .ok (.ddiv, 1) := by decide +kernel
theorem d_H_tension_31 : decode c_H_tension 31 = .ok (.dreturn, 1) := by decide +kernel
theorem d_H_digest_0 : decode c_H_digest 0 = .ok (.ldc2_w 255, 3) := by decide +kernel
theorem d_H_digest_3 : decode c_H_digest 3 = .ok (.lstore_n 1, 1) := by decide +kernel
theorem d_H_digest_4 : decode c_H_digest 4 = .ok (.iconst 0, 1) := by decide +kernel
theorem d_H_digest_5 : decode c_H_digest 5 = .ok (.istore_n 3, 1) := by decide +kernel
theorem d_H_digest_6 : decode c_H_digest 6 = .ok (.iload_n 3, 1) := by decide +kernel
theorem d_H_digest_7 : decode c_H_digest 7 = .ok (.bipush 9, 2) := by decide +kernel
theorem d_H_digest_9 : decode c_H_digest 9 = .ok (.if_icmp .ge 25, 3) := by decide +kernel
theorem d_H_digest_12 : decode c_H_digest 12 = .ok (.lload_n 1, 1) := by decide +kernel
theorem d_H_digest_13 : decode c_H_digest 13 = .ok (.ldc2_w 257, 3) := by decide +kernel
theorem d_H_digest_16 : decode c_H_digest 16 = .ok (.lmul, 1) := by decide +kernel
theorem d_H_digest_17 : decode c_H_digest 17 = .ok (.aload_n 0, 1) := by decide +kernel
theorem d_H_digest_18 : decode c_H_digest 18 = .ok (.getfield 37, 3) := by decide +kernel
theorem d_H_digest_21 : decode c_H_digest 21 = .ok (.iload_n 3, 1) := by decide +kernel
theorem d_H_digest_22 : decode c_H_digest 22 = .ok (.invokevirtual 235, 3) := by decide +kernel
theorem d_H_digest_25 : decode c_H_digest 25 = .ok (.i2l, 1) := by decide +kernel
theorem d_H_digest_26 : decode c_H_digest 26 = .ok (.ladd, 1) := by decide +kernel
theorem d_H_digest_27 : decode c_H_digest 27 = .ok (.lstore_n 1, 1) := by decide +kernel
theorem d_H_digest_28 : decode c_H_digest 28 = .ok (.iinc 3 1, 3) := by decide +kernel
theorem d_H_digest_31 : decode c_H_digest 31 = .ok (.goto (-25), 3) := by decide +kernel
theorem d_H_digest_34 : decode c_H_digest 34 = .ok (.iconst 0, 1) := by decide +kernel
theorem d_H_digest_35 : decode c_H_digest 35 = .ok (.istore_n 3, 1) := by decide +kernel
theorem d_H_digest_36 : decode c_H_digest 36 = .ok (.iload_n 3, 1) := by decide +kernel
theorem d_H_digest_37 : decode c_H_digest 37 = .ok (.aload_n 0, 1) := by decide +kernel
theorem d_H_digest_38 : decode c_H_digest 38 = .ok (.getfield 19, 3) := by decide +kernel
theorem d_H_digest_41 : decode c_H_digest 41 = .ok (.invokevirtual 124, 3) := by decide +kernel
theorem d_H_digest_44 : decode c_H_digest 44 = .ok (.if_icmp .ge 25, 3) := by decide +kernel
theorem d_H_digest_47 : decode c_H_digest 47 = .ok (.aload_n 0, 1) := by decide +kernel
theorem d_H_digest_48 : decode c_H_digest 48 = .ok (.getfield 19, 3) := by decide +kernel
theorem d_H_digest_51 : decode c_H_digest 51 = .ok (.iload_n 3, 1) := by decide +kernel
theorem d_H_digest_52 : decode c_H_digest 52 = .ok (.invokevirtual 259, 3) := by decide +kernel
theorem d_H_digest_55 : decode c_H_digest 55 = .ok (.checkcast 23, 3) := by decide +kernel
theorem d_H_digest_58 : decode c_H_digest 58 = .ok (.lload_n 1, 1) := by decide +kernel
theorem d_H_digest_59 : decode c_H_digest 59 = .ok (.invokevirtual 263, 3) := by decide +kernel
theorem d_H_digest_62 : decode c_H_digest 62 = .ok (.lstore_n 1, 1) := by decide +kernel
theorem d_H_digest_63 : decode c_H_digest 63 = .ok (.iinc 3 1, 3) := by decide +kernel
theorem d_H_digest_66 : decode c_H_digest 66 = .ok (.goto (-30), 3) := by decide +kernel
theorem d_H_digest_69 : decode c_H_digest 69 = .ok (.iconst 0, 1) := by decide +kernel
theorem d_H_digest_70 : decode c_H_digest 70 = .ok (.istore_n 3, 1) := by decide +kernel
theorem d_H_digest_71 : decode c_H_digest 71 = .ok (.iload_n 3, 1) := by decide +kernel
theorem d_H_digest_72 : decode c_H_digest 72 = .ok (.aload_n 0, 1) := by decide +kernel
theorem d_H_digest_73 : decode c_H_digest 73 = .ok (.getfield 37, 3) := by decide +kernel
theorem d_H_digest_76 : decode c_H_digest 76 = .ok (.getfield 121, 3) := by decide +kernel
theorem d_H_digest_79 : decode c_H_digest 79 = .ok (.invokevirtual 124, 3) := by decide +kernel
theorem d_H_digest_82 : decode c_H_digest 82 = .ok (.if_icmp .ge 52, 3) := by decide +kernel
theorem d_H_digest_85 : decode c_H_digest 85 = .ok (.iconst 0, 1) := by decide +kernel
theorem d_H_digest_86 : decode c_H_digest 86 = .ok (.istore 4, 2) := by decide +kernel
theorem d_H_digest_88 : decode c_H_digest 88 = .ok (.iload 4, 2) := by decide +kernel
theorem d_H_digest_90 : decode c_H_digest 90 = .ok (.bipush 12, 2) := by decide +kernel
theorem d_H_digest_92 : decode c_H_digest 92 = .ok (.if_icmp .ge 36, 3) := by decide +kernel
theorem d_H_digest_95 : decode c_H_digest 95 = .ok (.lload_n 1, 1) := by decide +kernel
theorem d_H_digest_96 : decode c_H_digest 96 = .ok (.ldc2_w 257, 3) := by decide +kernel
theorem d_H_digest_99 : decode c_H_digest 99 = .ok (.lmul, 1) := by decide +kernel
theorem d_H_digest_100 : decode c_H_digest 100 = .ok (.aload_n 0, 1) := by decide +kernel
theorem d_H_digest_101 : decode c_H_digest 101 = .ok (.getfield 37, 3) := by decide +kernel
theorem d_H_digest_104 : decode c_H_digest 104 = .ok (.getfield 121, 3) := by decide +kernel
theorem d_H_digest_107 : decode c_H_digest 107 = .ok (.iload_n 3, 1) := by decide +kernel
theorem d_H_digest_108 : decode c_H_digest 108 = .ok (.invokevirtual 259, 3) := by decide +kernel
theorem d_H_digest_111 : decode c_H_digest 111 = .ok (.checkcast 133, 3) := by decide +kernel
theorem d_H_digest_114 : decode c_H_digest 114 = .ok (.iload 4, 2) := by decide +kernel
theorem d_H_digest_116 : decode c_H_digest 116 = .ok (.invokevirtual 196, 3) := by decide +kernel
theorem d_H_digest_119 : decode c_H_digest 119 = .ok (.i2l, 1) := by decide +kernel
theorem d_H_digest_120 : decode c_H_digest 120 = .ok (.ladd, 1) := by decide +kernel
theorem d_H_digest_121 : decode c_H_digest 121 = .ok (.lstore_n 1, 1) := by decide +kernel
theorem d_H_digest_122 : decode c_H_digest 122 = .ok (.iinc 4 1, 3) := by decide +kernel
theorem d_H_digest_125 : decode c_H_digest 125 = .ok (.goto (-37), 3) := by decide +kernel
theorem d_H_digest_128 : decode c_H_digest 128 = .ok (.iinc 3 1, 3) := by decide +kernel
theorem d_H_digest_131 : decode c_H_digest 131 = .ok (.goto (-60), 3) := by decide +kernel
theorem d_H_digest_134 : decode c_H_digest 134 = .ok (.iconst 0, 1) := by decide +kernel
theorem d_H_digest_135 : decode c_H_digest 135 = .ok (.istore_n 3, 1) := by decide +kernel
theorem d_H_digest_136 : decode c_H_digest 136 = .ok (.iload_n 3, 1) := by decide +kernel
theorem d_H_digest_137 : decode c_H_digest 137 = .ok (.aload_n 0, 1) := by decide +kernel
theorem d_H_digest_138 : decode c_H_digest 138 = .ok (.getfield 37, 3) := by decide +kernel
theorem d_H_digest_141 : decode c_H_digest 141 = .ok (.getfield 203, 3) := by decide +kernel
theorem d_H_digest_144 : decode c_H_digest 144 = .ok (.invokevirtual 124, 3) := by decide +kernel
theorem d_H_digest_147 : decode c_H_digest 147 = .ok (.if_icmp .ge 52, 3) := by decide +kernel
theorem d_H_digest_150 : decode c_H_digest 150 = .ok (.iconst 0, 1) := by decide +kernel
theorem d_H_digest_151 : decode c_H_digest 151 = .ok (.istore 4, 2) := by decide +kernel
theorem d_H_digest_153 : decode c_H_digest 153 = .ok (.iload 4, 2) := by decide +kernel
theorem d_H_digest_155 : decode c_H_digest 155 = .ok (.bipush 6, 2) := by decide +kernel
theorem d_H_digest_157 : decode c_H_digest 157 = .ok (.if_icmp .ge 36, 3) := by decide +kernel
theorem d_H_digest_160 : decode c_H_digest 160 = .ok (.lload_n 1, 1) := by decide +kernel
theorem d_H_digest_161 : decode c_H_digest 161 = .ok (.ldc2_w 257, 3) := by decide +kernel
theorem d_H_digest_164 : decode c_H_digest 164 = .ok (.lmul, 1) := by decide +kernel
theorem d_H_digest_165 : decode c_H_digest 165 = .ok (.aload_n 0, 1) := by decide +kernel
theorem d_H_digest_166 : decode c_H_digest 166 = .ok (.getfield 37, 3) := by decide +kernel
theorem d_H_digest_169 : decode c_H_digest 169 = .ok (.getfield 203, 3) := by decide +kernel
theorem d_H_digest_172 : decode c_H_digest 172 = .ok (.iload_n 3, 1) := by decide +kernel
theorem d_H_digest_173 : decode c_H_digest 173 = .ok (.invokevirtual 259, 3) := by decide +kernel
theorem d_H_digest_176 : decode c_H_digest 176 = .ok (.checkcast 208, 3) := by decide +kernel
theorem d_H_digest_179 : decode c_H_digest 179 = .ok (.iload 4, 2) := by decide +kernel
theorem d_H_digest_181 : decode c_H_digest 181 = .ok (.invokevirtual 228, 3) := by decide +kernel
theorem d_H_digest_184 : decode c_H_digest 184 = .ok (.i2l, 1) := by decide +kernel
theorem d_H_digest_185 : decode c_H_digest 185 = .ok (.ladd, 1) := by decide +kernel
theorem d_H_digest_186 : decode c_H_digest 186 = .ok (.lstore_n 1, 1) := by decide +kernel
theorem d_H_digest_187 : decode c_H_digest 187 = .ok (.iinc 4 1, 3) := by decide +kernel
theorem d_H_digest_190 : decode c_H_digest 190 = .ok (.goto (-37), 3) := by decide +kernel
theorem d_H_digest_193 : decode c_H_digest 193 = .ok (.iinc 3 1, 3) := by decide +kernel
theorem d_H_digest_196 : decode c_H_digest 196 = .ok (.goto (-60), 3) := by decide +kernel
theorem d_H_digest_199 : decode c_H_digest 199 = .ok (.lload_n 1, 1) := by decide +kernel
theorem d_H_digest_200 : decode c_H_digest 200 = .ok (.lreturn, 1) := by decide +kernel
theorem d_H_neededDance_0 : decode c_H_neededDance 0 = .ok (.iload_n 1, 1) := by decide +kernel
theorem d_H_neededDance_1 : decode c_H_neededDance 1 = .ok (.ifCond .lt 14, 3) := by decide +kernel
theorem d_H_neededDance_4 : decode c_H_neededDance 4 = .ok (.iload_n 1, 1) := by decide +kernel
theorem d_H_neededDance_5 : decode c_H_neededDance 5 = .ok (.aload_n 0, 1) := by decide +kernel
theorem d_H_neededDance_6 : decode c_H_neededDance 6 = .ok (.getfield 19, 3) := by decide +kernel
theorem d_H_neededDance_9 : decode c_H_neededDance 9 = .ok (.invokevirtual 124, 3) := by decide +kernel
theorem d_H_neededDance_12 : decode c_H_neededDance 12 = .ok (.if_icmp .lt 14, 3) := by decide +kernel
theorem d_H_neededDance_15 : decode c_H_neededDance 15 = .ok (.new 99, 3) := by decide +kernel
theorem d_H_neededDance_18 : decode c_H_neededDance 18 = .ok (.dup, 1) := by decide +kernel
theorem d_H_neededDance_19 : decode c_H_neededDance 19 = .ok (.ldc_w 267, 3) := by decide +kernel
theorem d_H_neededDance_22 : decode c_H_neededDance 22 = .ok (.invokespecial 103, 3) := by decide +kernel
theorem d_H_neededDance_25 : decode c_H_neededDance 25 = .ok (.athrow, 1) := by decide +kernel
theorem d_H_neededDance_26 : decode c_H_neededDance 26 = .ok (.aload_n 0, 1) := by decide +kernel
theorem d_H_neededDance_27 : decode c_H_neededDance 27 = .ok (.getfield 19, 3) := by decide +kernel
theorem d_H_neededDance_30 : decode c_H_neededDance 30 = .ok (.iload_n 1, 1) := by decide +kernel
theorem d_H_neededDance_31 : decode c_H_neededDance 31 = .ok (.invokevirtual 259, 3) := by decide +kernel
theorem d_H_neededDance_34 : decode c_H_neededDance 34 = .ok (.checkcast 23, 3) := by decide +kernel
theorem d_H_neededDance_37 : decode c_H_neededDance 37 = .ok (.areturn, 1) := by decide +kernel
theorem d_H_neededDancer_0 : decode c_H_neededDancer 0 = .ok (.aload_n 0, 1) := by decide +kernel
theorem d_H_neededDancer_1 : decode c_H_neededDancer 1 = .ok (.getfield 37, 3) := by decide +kernel
theorem d_H_neededDancer_4 : decode c_H_neededDancer 4 = .ok (.iload_n 1, 1) := by decide +kernel
theorem d_H_neededDancer_5 : decode c_H_neededDancer 5 = .ok (.invokevirtual 240, 3) := by decide +kernel
theorem d_H_neededDancer_8 : decode c_H_neededDancer 8 = .ok (.astore_n 2, 1) := by decide +kernel
theorem d_H_neededDancer_9 : decode c_H_neededDancer 9 = .ok (.aload_n 2, 1) := by decide +kernel
theorem d_H_neededDancer_10 : decode c_H_neededDancer 10 = .ok (.ifnonnull 14, 3) := by decide +kernel
theorem d_H_neededDancer_13 : decode c_H_neededDancer 13 = .ok (.new 99, 3) := by decide +kernel
theorem d_H_neededDancer_16 : decode c_H_neededDancer 16 = .ok (.dup, 1) := by decide +kernel
theorem d_H_neededDancer_17 : decode c_H_neededDancer 17 = .ok (.ldc_w 269, 3) := by decide +kernel
theorem d_H_neededDancer_20 : decode c_H_neededDancer 20 = .ok (.invokespecial 103, 3) := by decide +kernel
theorem d_H_neededDancer_23 : decode c_H_neededDancer 23 = .ok (.athrow, 1) := by decide +kernel
theorem d_H_neededDancer_24 : decode c_H_neededDancer 24 = .ok (.aload_n 2, 1) := by decide +kernel
theorem d_H_neededDancer_25 : decode c_H_neededDancer 25 = .ok (.areturn, 1) := by decide +kernel
theorem d_H_neededWinder_0 : decode c_H_neededWinder 0 = .ok (.iload_n 1, 1) := by decide +kernel
theorem d_H_neededWinder_1 : decode c_H_neededWinder 1 = .ok (.ifCond .lt 17, 3) := by decide +kernel
theorem d_H_neededWinder_4 : decode c_H_neededWinder 4 = .ok (.iload_n 1, 1) := by decide +kernel
theorem d_H_neededWinder_5 : decode c_H_neededWinder 5 = .ok (.aload_n 0, 1) := by decide +kernel
theorem d_H_neededWinder_6 : decode c_H_neededWinder 6 = .ok (.getfield 37, 3) := by decide +kernel
theorem d_H_neededWinder_9 : decode c_H_neededWinder 9 = .ok (.getfield 203, 3) := by decide +kernel
theorem d_H_neededWinder_12 : decode c_H_neededWinder 12 = .ok (.invokevirtual 124, 3) := by decide +kernel
theorem d_H_neededWinder_15 : decode c_H_neededWinder 15 = .ok (.if_icmp .lt 14, 3) := by decide +kernel
theorem d_H_neededWinder_18 : decode c_H_neededWinder 18 = .ok (.new 99, 3) := by decide +kernel
theorem d_H_neededWinder_21 : decode c_H_neededWinder 21 = .ok (.dup, 1) := by decide +kernel
theorem d_H_neededWinder_22 : decode c_H_neededWinder 22 = .ok (.ldc_w 271, 3) := by decide +kernel
theorem d_H_neededWinder_25 : decode c_H_neededWinder 25 = .ok (.invokespecial 103, 3) := by decide +kernel
theorem d_H_neededWinder_28 : decode c_H_neededWinder 28 = .ok (.athrow, 1) := by decide +kernel
theorem d_H_neededWinder_29 : decode c_H_neededWinder 29 = .ok (.aload_n 0, 1) := by decide +kernel
theorem d_H_neededWinder_30 : decode c_H_neededWinder 30 = .ok (.getfield 37, 3) := by decide +kernel
theorem d_H_neededWinder_33 : decode c_H_neededWinder 33 = .ok (.getfield 203, 3) := by decide +kernel
theorem d_H_neededWinder_36 : decode c_H_neededWinder 36 = .ok (.iload_n 1, 1) := by decide +kernel
theorem d_H_neededWinder_37 : decode c_H_neededWinder 37 = .ok (.invokevirtual 259, 3) := by decide +kernel
theorem d_H_neededWinder_40 : decode c_H_neededWinder 40 = .ok (.checkcast 208, 3) := by decide +kernel
theorem d_H_neededWinder_43 : decode c_H_neededWinder 43 = .ok (.areturn, 1) := by decide +kernel
theorem d_H_needKind_0 : decode c_H_needKind 0 = .ok (.iload_n 0, 1) := by decide +kernel
theorem d_H_needKind_1 : decode c_H_needKind 1 = .ok (.ifCond .lt 8, 3) := by decide +kernel
theorem d_H_needKind_4 : decode c_H_needKind 4 = .ok (.iload_n 0, 1) := by decide +kernel
theorem d_H_needKind_5 : decode c_H_needKind 5 = .ok (.iload_n 1, 1) := by decide +kernel
theorem d_H_needKind_6 : decode c_H_needKind 6 = .ok (.if_icmp .lt 14, 3) := by decide +kernel
theorem d_H_needKind_9 : decode c_H_needKind 9 = .ok (.new 99, 3) := by decide +kernel
theorem d_H_needKind_12 : decode c_H_needKind 12 = .ok (.dup, 1) := by decide +kernel
theorem d_H_needKind_13 : decode c_H_needKind 13 = .ok (.ldc_w 273, 3) := by decide +kernel
theorem d_H_needKind_16 : decode c_H_needKind 16 = .ok (.invokespecial 103, 3) := by decide +kernel
theorem d_H_needKind_19 : decode c_H_needKind 19 = .ok (.athrow, 1) := by decide +kernel
theorem d_H_needKind_20 : decode c_H_needKind 20 = .ok (.return_, 1) := by decide +kernel
theorem d_H_needBeats_0 : decode c_H_needBeats 0 = .ok (.iload_n 0, 1) := by decide +kernel
theorem d_H_needBeats_1 : decode c_H_needBeats 1 = .ok (.iconst 1, 1) := by decide +kernel
theorem d_H_needBeats_2 : decode c_H_needBeats 2 = .ok (.if_icmp .lt 10, 3) := by decide +kernel
theorem d_H_needBeats_5 : decode c_H_needBeats 5 = .ok (.iload_n 0, 1) := by decide +kernel
theorem d_H_needBeats_6 : decode c_H_needBeats 6 = .ok (.sipush 200, 3) := by decide +kernel
theorem d_H_needBeats_9 : decode c_H_needBeats 9 = .ok (.if_icmp .le 14, 3) := by decide +kernel
theorem d_H_needBeats_12 : decode c_H_needBeats 12 = .ok (.new 81, 3) := by decide +kernel
theorem d_H_needBeats_15 : decode c_H_needBeats 15 = .ok (.dup, 1) := by decide +kernel
theorem d_H_needBeats_16 : decode c_H_needBeats 16 = .ok (.ldc_w 275, 3) := by decide +kernel
theorem d_H_needBeats_19 : decode c_H_needBeats 19 = .ok (.invokespecial 85, 3) := by decide +kernel
theorem d_H_needBeats_22 : decode c_H_needBeats 22 = .ok (.athrow, 1) := by decide +kernel
theorem d_H_needBeats_23 : decode c_H_needBeats 23 = .ok (.return_, 1) := by decide +kernel
theorem d_H_isOnFloor_0 : decode c_H_isOnFloor 0 = .ok (.iload_n 0, 1) := by decide +kernel
theorem d_H_isOnFloor_1 : decode c_H_isOnFloor 1 = .ok (.ifCond .lt 23, 3) := by decide +kernel
theorem d_H_isOnFloor_4 : decode c_H_isOnFloor 4 = .ok (.iload_n 0, 1) := by decide +kernel
theorem d_H_isOnFloor_5 : decode c_H_isOnFloor 5 = .ok (.bipush 16, 2) := by decide +kernel
theorem d_H_isOnFloor_7 : decode c_H_isOnFloor 7 = .ok (.if_icmp .ge 17, 3) := by decide +kernel
theorem d_H_isOnFloor_10 : decode c_H_isOnFloor 10 = .ok (.iload_n 1, 1) := by decide +kernel
theorem d_H_isOnFloor_11 : decode c_H_isOnFloor 11 = .ok (.ifCond .lt 13, 3) := by decide +kernel
theorem d_H_isOnFloor_14 : decode c_H_isOnFloor 14 = .ok (.iload_n 1, 1) := by decide +kernel
theorem d_H_isOnFloor_15 : decode c_H_isOnFloor 15 = .ok (.bipush 16, 2) := by decide +kernel
theorem d_H_isOnFloor_17 : decode c_H_isOnFloor 17 = .ok (.if_icmp .ge 7, 3) := by decide +kernel
theorem d_H_isOnFloor_20 : decode c_H_isOnFloor 20 = .ok (.iconst 1, 1) := by decide +kernel
theorem d_H_isOnFloor_21 : decode c_H_isOnFloor 21 = .ok (.goto 4, 3) := by decide +kernel
theorem d_H_isOnFloor_24 : decode c_H_isOnFloor 24 = .ok (.iconst 0, 1) := by decide +kernel
theorem d_H_isOnFloor_25 : decode c_H_isOnFloor 25 = .ok (.ireturn, 1) := by decide +kernel
theorem d_H_distance_0 : decode c_H_distance 0 = .ok (.iload_n 0, 1) := by decide +kernel
theorem d_H_distance_1 : decode c_H_distance 1 = .ok (.iload_n 2, 1) := by decide +kernel
theorem d_H_distance_2 : decode c_H_distance 2 = .ok (.isub, 1) := by decide +kernel
theorem d_H_distance_3 : decode c_H_distance 3 = .ok (.invokestatic 277, 3) := by decide +kernel
theorem d_H_distance_6 : decode c_H_distance 6 = .ok (.iload_n 1, 1) := by decide +kernel
theorem d_H_distance_7 : decode c_H_distance 7 = .ok (.iload_n 3, 1) := by decide +kernel
theorem d_H_distance_8 : decode c_H_distance 8 = .ok (.isub, 1) := by decide +kernel
theorem d_H_distance_9 : decode c_H_distance 9 = .ok (.invokestatic 277, 3) := by decide +kernel
theorem d_H_distance_12 : decode c_H_distance 12 = .ok (.iadd, 1) := by decide +kernel
theorem d_H_distance_13 : decode c_H_distance 13 = .ok (.ireturn, 1) := by decide +kernel
theorem d_H_turned_0 : decode c_H_turned 0 = .ok (.iload_n 0, 1) := by decide +kernel
theorem d_H_turned_1 : decode c_H_turned 1 = .ok (.iload_n 1, 1) := by decide +kernel
theorem d_H_turned_2 : decode c_H_turned 2 = .ok (.iadd, 1) := by decide +kernel
theorem d_H_turned_3 : decode c_H_turned 3 = .ok (.iconst 4, 1) := by decide +kernel
theorem d_H_turned_4 : decode c_H_turned 4 = .ok (.invokestatic 282, 3) := by decide +kernel
theorem d_H_turned_7 : decode c_H_turned 7 = .ok (.ireturn, 1) := by decide +kernel
theorem d_H_columnStep_0 : decode c_H_columnStep 0 = .ok (.iload_n 0, 1) := by decide +kernel
theorem d_H_columnStep_1 : decode c_H_columnStep 1 = .ok (.iconst 1, 1) := by decide +kernel
theorem d_H_columnStep_2 : decode c_H_columnStep 2 = .ok (.if_icmp .ne 7, 3) := by decide +kernel
theorem d_H_columnStep_5 : decode c_H_columnStep 5 = .ok (.iconst 1, 1) := by decide +kernel
theorem d_H_columnStep_6 : decode c_H_columnStep 6 = .ok (.goto 13, 3) := by decide +kernel
theorem d_H_columnStep_9 : decode c_H_columnStep 9 = .ok (.iload_n 0, 1) := by decide +kernel
theorem d_H_columnStep_10 : decode c_H_columnStep 10 = .ok (.iconst 3, 1) := by decide +kernel
theorem d_H_columnStep_11 : decode c_H_columnStep 11 = .ok (.if_icmp .ne 7, 3) := by decide +kernel
theorem d_H_columnStep_14 : decode c_H_columnStep 14 = .ok (.iconst (-1), 1) := by decide +kernel
theorem d_H_columnStep_15 : decode c_H_columnStep 15 = .ok (.goto 4, 3) := by decide +kernel
theorem d_H_columnStep_18 : decode c_H_columnStep 18 = .ok (.iconst 0, 1) := by decide +kernel
theorem d_H_columnStep_19 : decode c_H_columnStep 19 = .ok (.ireturn, 1) := by decide +kernel
theorem d_H_rowStep_0 : decode c_H_rowStep 0 = .ok (.iload_n 0, 1) := by decide +kernel
theorem d_H_rowStep_1 : decode c_H_rowStep 1 = .ok (.ifCond .ne 7, 3) := by decide +kernel
theorem d_H_rowStep_4 : decode c_H_rowStep 4 = .ok (.iconst (-1), 1) := by decide +kernel
theorem d_H_rowStep_5 : decode c_H_rowStep 5 = .ok (.goto 13, 3) := by decide +kernel
theorem d_H_rowStep_8 : decode c_H_rowStep 8 = .ok (.iload_n 0, 1) := by decide +kernel
theorem d_H_rowStep_9 : decode c_H_rowStep 9 = .ok (.iconst 2, 1) := by decide +kernel
theorem d_H_rowStep_10 : decode c_H_rowStep 10 = .ok (.if_icmp .ne 7, 3) := by decide +kernel
theorem d_H_rowStep_13 : decode c_H_rowStep 13 = .ok (.iconst 1, 1) := by decide +kernel
theorem d_H_rowStep_14 : decode c_H_rowStep 14 = .ok (.goto 4, 3) := by decide +kernel
theorem d_H_rowStep_17 : decode c_H_rowStep 17 = .ok (.iconst 0, 1) := by decide +kernel
theorem d_H_rowStep_18 : decode c_H_rowStep 18 = .ok (.ireturn, 1) := by decide +kernel
theorem d_H_isWalk_0 : decode c_H_isWalk 0 = .ok (.iload_n 0, 1) := by decide +kernel
theorem d_H_isWalk_1 : decode c_H_isWalk 1 = .ok (.bipush 102, 2) := by decide +kernel
theorem d_H_isWalk_3 : decode c_H_isWalk 3 = .ok (.if_icmp .eq 21, 3) := by decide +kernel
theorem d_H_isWalk_6 : decode c_H_isWalk 6 = .ok (.iload_n 0, 1) := by decide +kernel
theorem d_H_isWalk_7 : decode c_H_isWalk 7 = .ok (.bipush 114, 2) := by decide +kernel
theorem d_H_isWalk_9 : decode c_H_isWalk 9 = .ok (.if_icmp .eq 15, 3) := by decide +kernel
theorem d_H_isWalk_12 : decode c_H_isWalk 12 = .ok (.iload_n 0, 1) := by decide +kernel
theorem d_H_isWalk_13 : decode c_H_isWalk 13 = .ok (.bipush 98, 2) := by decide +kernel
theorem d_H_isWalk_15 : decode c_H_isWalk 15 = .ok (.if_icmp .eq 9, 3) := by decide +kernel
theorem d_H_isWalk_18 : decode c_H_isWalk 18 = .ok (.iload_n 0, 1) := by decide +kernel
theorem d_H_isWalk_19 : decode c_H_isWalk 19 = .ok (.bipush 108, 2) := by decide +kernel
theorem d_H_isWalk_21 : decode c_H_isWalk 21 = .ok (.if_icmp .ne 7, 3) := by decide +kernel
theorem d_H_isWalk_24 : decode c_H_isWalk 24 = .ok (.iconst 1, 1) := by decide +kernel
theorem d_H_isWalk_25 : decode c_H_isWalk 25 = .ok (.goto 4, 3) := by decide +kernel
theorem d_H_isWalk_28 : decode c_H_isWalk 28 = .ok (.iconst 0, 1) := by decide +kernel
theorem d_H_isWalk_29 : decode c_H_isWalk 29 = .ok (.ireturn, 1) := by decide +kernel
theorem d_H_isFigure_0 : decode c_H_isFigure 0 = .ok (.iload_n 0, 1) := by decide +kernel
theorem d_H_isFigure_1 : decode c_H_isFigure 1 = .ok (.invokestatic 286, 3) := by decide +kernel
theorem d_H_isFigure_4 : decode c_H_isFigure 4 = .ok (.ifCond .ne 22, 3) := by decide +kernel
theorem d_H_isFigure_7 : decode c_H_isFigure 7 = .ok (.iload_n 0, 1) := by decide +kernel
theorem d_H_isFigure_8 : decode c_H_isFigure 8 = .ok (.invokestatic 290, 3) := by decide +kernel
theorem d_H_isFigure_11 : decode c_H_isFigure 11 = .ok (.ifCond .ne 15, 3) := by decide +kernel
theorem d_H_isFigure_14 : decode c_H_isFigure 14 = .ok (.iload_n 0, 1) := by decide +kernel
theorem d_H_isFigure_15 : decode c_H_isFigure 15 = .ok (.bipush 115, 2) := by decide +kernel
theorem d_H_isFigure_17 : decode c_H_isFigure 17 = .ok (.if_icmp .eq 9, 3) := by decide +kernel
theorem d_H_isFigure_20 : decode c_H_isFigure 20 = .ok (.iload_n 0, 1) := by decide +kernel
theorem d_H_isFigure_21 : decode c_H_isFigure 21 = .ok (.bipush 119, 2) := by decide +kernel
theorem d_H_isFigure_23 : decode c_H_isFigure 23 = .ok (.if_icmp .ne 7, 3) := by decide +kernel
theorem d_H_isFigure_26 : decode c_H_isFigure 26 = .ok (.iconst 1, 1) := by decide +kernel
theorem d_H_isFigure_27 : decode c_H_isFigure 27 = .ok (.goto 4, 3) := by decide +kernel
theorem d_H_isFigure_30 : decode c_H_isFigure 30 = .ok (.iconst 0, 1) := by decide +kernel
theorem d_H_isFigure_31 : decode c_H_isFigure 31 = .ok (.ireturn, 1) := by decide +kernel
theorem d_H_wayOf_0 : decode c_H_wayOf 0 = .ok (.iload_n 0, 1) := by decide +kernel
theorem d_H_wayOf_1 : decode c_H_wayOf 1 = .ok (.lookupswitch 41 #[(98, 37), (108, 39), (114, 35)], 35) := by decide +kernel
theorem d_H_wayOf_36 : decode c_H_wayOf 36 = .ok (.iconst 1, 1) := by decide +kernel
theorem d_H_wayOf_37 : decode c_H_wayOf 37 = .ok (.ireturn, 1) := by decide +kernel
theorem d_H_wayOf_38 : decode c_H_wayOf 38 = .ok (.iconst 2, 1) := by decide +kernel
theorem d_H_wayOf_39 : decode c_H_wayOf 39 = .ok (.ireturn, 1) := by decide +kernel
theorem d_H_wayOf_40 : decode c_H_wayOf 40 = .ok (.iconst 3, 1) := by decide +kernel
theorem d_H_wayOf_41 : decode c_H_wayOf 41 = .ok (.ireturn, 1) := by decide +kernel
theorem d_H_wayOf_42 : decode c_H_wayOf 42 = .ok (.iconst 0, 1) := by decide +kernel
theorem d_H_wayOf_43 : decode c_H_wayOf 43 = .ok (.ireturn, 1) := by decide +kernel
theorem d_H_turnOf_0 : decode c_H_turnOf 0 = .ok (.iload_n 0, 1) := by decide +kernel
theorem d_H_turnOf_1 : decode c_H_turnOf 1 = .ok (.bipush 116, 2) := by decide +kernel
theorem d_H_turnOf_3 : decode c_H_turnOf 3 = .ok (.if_icmp .ne 7, 3) := by decide +kernel
theorem d_H_turnOf_6 : decode c_H_turnOf 6 = .ok (.iconst 1, 1) := by decide +kernel
theorem d_H_turnOf_7 : decode c_H_turnOf 7 = .ok (.goto 14, 3) := by decide +kernel
theorem d_H_turnOf_10 : decode c_H_turnOf 10 = .ok (.iload_n 0, 1) := by decide +kernel
theorem d_H_turnOf_11 : decode c_H_turnOf 11 = .ok (.bipush 117, 2) := by decide +kernel
theorem d_H_turnOf_13 : decode c_H_turnOf 13 = .ok (.if_icmp .ne 7, 3) := by decide +kernel
theorem d_H_turnOf_16 : decode c_H_turnOf 16 = .ok (.iconst (-1), 1) := by decide +kernel
theorem d_H_turnOf_17 : decode c_H_turnOf 17 = .ok (.goto 4, 3) := by decide +kernel
theorem d_H_turnOf_20 : decode c_H_turnOf 20 = .ok (.iconst 0, 1) := by decide +kernel
theorem d_H_turnOf_21 : decode c_H_turnOf 21 = .ok (.ireturn, 1) := by decide +kernel
end
section
theorem d_S_init_0 : decode c_S_init 0 = .ok (.aload_n 0, 1) := by decide +kernel
theorem d_S_init_1 : decode c_S_init 1 = .ok (.aload_n 1, 1) := by decide +kernel
theorem d_S_init_2 : decode c_S_init 2 = .ok (.putfield 3, 3) := by decide +kernel
theorem d_S_init_5 : decode c_S_init 5 = .ok (.aload_n 0, 1) := by decide +kernel
theorem d_S_init_6 : decode c_S_init 6 = .ok (.invokespecial 9, 3) := by decide +kernel
theorem d_S_init_9 : decode c_S_init 9 = .ok (.aload_n 0, 1) := by decide +kernel
theorem d_S_init_10 : decode c_S_init 10 = .ok (.bipush 8, 2) := by decide +kernel
theorem d_S_init_12 : decode c_S_init 12 = .ok (.newarray .int, 2) := by decide +kernel
theorem d_S_init_14 : decode c_S_init 14 = .ok (.putfield 15, 3) := by decide +kernel
theorem d_S_init_17 : decode c_S_init 17 = .ok (.aload_n 0, 1) := by decide +kernel
theorem d_S_init_18 : decode c_S_init 18 = .ok (.bipush 8, 2) := by decide +kernel
theorem d_S_init_20 : decode c_S_init 20 = .ok (.newarray .int, 2) := by decide +kernel
theorem d_S_init_22 : decode c_S_init 22 = .ok (.putfield 19, 3) := by decide +kernel
theorem d_S_init_25 : decode c_S_init 25 = .ok (.aload_n 0, 1) := by decide +kernel
theorem d_S_init_26 : decode c_S_init 26 = .ok (.bipush 8, 2) := by decide +kernel
theorem d_S_init_28 : decode c_S_init 28 = .ok (.newarray .int, 2) := by decide +kernel
theorem d_S_init_30 : decode c_S_init 30 = .ok (.putfield 22, 3) := by decide +kernel
theorem d_S_init_33 : decode c_S_init 33 = .ok (.aload_n 0, 1) := by decide +kernel
theorem d_S_init_34 : decode c_S_init 34 = .ok (.bipush 8, 2) := by decide +kernel
theorem d_S_init_36 : decode c_S_init 36 = .ok (.newarray .int, 2) := by decide +kernel
theorem d_S_init_38 : decode c_S_init 38 = .ok (.putfield 25, 3) := by decide +kernel
theorem d_S_init_41 : decode c_S_init 41 = .ok (.aload_n 0, 1) := by decide +kernel
theorem d_S_init_42 : decode c_S_init 42 = .ok (.bipush 8, 2) := by decide +kernel
theorem d_S_init_44 : decode c_S_init 44 = .ok (.newarray .int, 2) := by decide +kernel
theorem d_S_init_46 : decode c_S_init 46 = .ok (.putfield 28, 3) := by decide +kernel
theorem d_S_init_49 : decode c_S_init 49 = .ok (.aload_n 0, 1) := by decide +kernel
theorem d_S_init_50 : decode c_S_init 50 = .ok (.bipush 8, 2) := by decide +kernel
theorem d_S_init_52 : decode c_S_init 52 = .ok (.newarray .int, 2) := by decide +kernel
theorem d_S_init_54 : decode c_S_init 54 = .ok (.putfield 31, 3) := by decide +kernel
theorem d_S_init_57 : decode c_S_init 57 = .ok (.aload_n 0, 1) := by decide +kernel
theorem d_S_init_58 : decode c_S_init 58 = .ok (.bipush 8, 2) := by decide +kernel
theorem d_S_init_60 : decode c_S_init 60 = .ok (.newarray .int, 2) := by decide +kernel
theorem d_S_init_62 : decode c_S_init 62 = .ok (.putfield 34, 3) := by decide +kernel
theorem d_S_init_65 : decode c_S_init 65 = .ok (.aload_n 0, 1) := by decide +kernel
theorem d_S_init_66 : decode c_S_init 66 = .ok (.bipush 8, 2) := by decide +kernel
theorem d_S_init_68 : decode c_S_init 68 = .ok (.newarray .int, 2) := by decide +kernel
theorem d_S_init_70 : decode c_S_init 70 = .ok (.putfield 37, 3) := by decide +kernel
theorem d_S_init_73 : decode c_S_init 73 = .ok (.aload_n 0, 1) := by decide +kernel
theorem d_S_init_74 : decode c_S_init 74 = .ok (.bipush 8, 2) := by decide +kernel
theorem d_S_init_76 : decode c_S_init 76 = .ok (.newarray .boolean, 2) := by decide +kernel
theorem d_S_init_78 : decode c_S_init 78 = .ok (.putfield 40, 3) := by decide +kernel
theorem d_S_init_81 : decode c_S_init 81 = .ok (.aload_n 0, 1) := by decide +kernel
theorem d_S_init_82 : decode c_S_init 82 = .ok (.bipush 8, 2) := by decide +kernel
theorem d_S_init_84 : decode c_S_init 84 = .ok (.newarray .int, 2) := by decide +kernel
theorem d_S_init_86 : decode c_S_init 86 = .ok (.putfield 44, 3) := by decide +kernel
theorem d_S_init_89 : decode c_S_init 89 = .ok (.aload_n 0, 1) := by decide +kernel
theorem d_S_init_90 : decode c_S_init 90 = .ok (.bipush 8, 2) := by decide +kernel
theorem d_S_init_92 : decode c_S_init 92 = .ok (.newarray .int, 2) := by decide +kernel
theorem d_S_init_94 : decode c_S_init 94 = .ok (.putfield 47, 3) := by decide +kernel
theorem d_S_init_97 : decode c_S_init 97 = .ok (.aload_n 0, 1) := by decide +kernel
theorem d_S_init_98 : decode c_S_init 98 = .ok (.bipush 8, 2) := by decide +kernel
theorem d_S_init_100 : decode c_S_init 100 = .ok (.newarray .int, 2) := by decide +kernel
theorem d_S_init_102 : decode c_S_init 102 = .ok (.putfield 50, 3) := by decide +kernel
theorem d_S_init_105 : decode c_S_init 105 = .ok (.aload_n 0, 1) := by decide +kernel
theorem d_S_init_106 : decode c_S_init 106 = .ok (.bipush 18, 2) := by decide +kernel
theorem d_S_init_108 : decode c_S_init 108 = .ok (.newarray .int, 2) := by decide +kernel
theorem d_S_init_110 : decode c_S_init 110 = .ok (.putfield 53, 3) := by decide +kernel
theorem d_S_init_113 : decode c_S_init 113 = .ok (.aload_n 0, 1) := by decide +kernel
theorem d_S_init_114 : decode c_S_init 114 = .ok (.bipush 24, 2) := by decide +kernel
theorem d_S_init_116 : decode c_S_init 116 = .ok (.newarray .int, 2) := by decide +kernel
theorem d_S_init_118 : decode c_S_init 118 = .ok (.putfield 56, 3) := by decide +kernel
theorem d_S_init_121 : decode c_S_init 121 = .ok (.return_, 1) := by decide +kernel
theorem d_S_copy_0 : decode c_S_copy 0 = .ok (.aload_n 1, 1) := by decide +kernel
theorem d_S_copy_1 : decode c_S_copy 1 = .ok (.iconst 0, 1) := by decide +kernel
theorem d_S_copy_2 : decode c_S_copy 2 = .ok (.aload_n 2, 1) := by decide +kernel
theorem d_S_copy_3 : decode c_S_copy 3 = .ok (.iconst 0, 1) := by decide +kernel
theorem d_S_copy_4 : decode c_S_copy 4 = .ok (.aload_n 1, 1) := by decide +kernel
theorem d_S_copy_5 : decode c_S_copy 5 = .ok (.arraylength, 1) := by decide +kernel
theorem d_S_copy_6 : decode c_S_copy 6 = .ok (.invokestatic 59, 3) := by decide +kernel
theorem d_S_copy_9 : decode c_S_copy 9 = .ok (.return_, 1) := by decide +kernel
theorem d_S_become_0 : decode c_S_become 0 = .ok (.aload_n 0, 1) := by decide +kernel
theorem d_S_become_1 : decode c_S_become 1 = .ok (.aload_n 1, 1) := by decide +kernel
theorem d_S_become_2 : decode c_S_become 2 = .ok (.getfield 65, 3) := by decide +kernel
theorem d_S_become_5 : decode c_S_become 5 = .ok (.putfield 65, 3) := by decide +kernel
theorem d_S_become_8 : decode c_S_become 8 = .ok (.aload_n 0, 1) := by decide +kernel
theorem d_S_become_9 : decode c_S_become 9 = .ok (.aload_n 1, 1) := by decide +kernel
theorem d_S_become_10 : decode c_S_become 10 = .ok (.getfield 69, 3) := by decide +kernel
theorem d_S_become_13 : decode c_S_become 13 = .ok (.putfield 69, 3) := by decide +kernel
theorem d_S_become_16 : decode c_S_become 16 = .ok (.aload_n 0, 1) := by decide +kernel
theorem d_S_become_17 : decode c_S_become 17 = .ok (.aload_n 1, 1) := by decide +kernel
theorem d_S_become_18 : decode c_S_become 18 = .ok (.getfield 72, 3) := by decide +kernel
theorem d_S_become_21 : decode c_S_become 21 = .ok (.putfield 72, 3) := by decide +kernel
theorem d_S_become_24 : decode c_S_become 24 = .ok (.aload_n 0, 1) := by decide +kernel
theorem d_S_become_25 : decode c_S_become 25 = .ok (.aload_n 1, 1) := by decide +kernel
theorem d_S_become_26 : decode c_S_become 26 = .ok (.getfield 15, 3) := by decide +kernel
theorem d_S_become_29 : decode c_S_become 29 = .ok (.aload_n 0, 1) := by decide +kernel
theorem d_S_become_30 : decode c_S_become 30 = .ok (.getfield 15, 3) := by decide +kernel
theorem d_S_become_33 : decode c_S_become 33 = .ok (.invokevirtual 75, 3) := by decide +kernel
theorem d_S_become_36 : decode c_S_become 36 = .ok (.aload_n 0, 1) := by decide +kernel
theorem d_S_become_37 : decode c_S_become 37 = .ok (.aload_n 1, 1) := by decide +kernel
theorem d_S_become_38 : decode c_S_become 38 = .ok (.getfield 19, 3) := by decide +kernel
theorem d_S_become_41 : decode c_S_become 41 = .ok (.aload_n 0, 1) := by decide +kernel
theorem d_S_become_42 : decode c_S_become 42 = .ok (.getfield 19, 3) := by decide +kernel
theorem d_S_become_45 : decode c_S_become 45 = .ok (.invokevirtual 75, 3) := by decide +kernel
theorem d_S_become_48 : decode c_S_become 48 = .ok (.aload_n 0, 1) := by decide +kernel
theorem d_S_become_49 : decode c_S_become 49 = .ok (.aload_n 1, 1) := by decide +kernel
theorem d_S_become_50 : decode c_S_become 50 = .ok (.getfield 22, 3) := by decide +kernel
theorem d_S_become_53 : decode c_S_become 53 = .ok (.aload_n 0, 1) := by decide +kernel
theorem d_S_become_54 : decode c_S_become 54 = .ok (.getfield 22, 3) := by decide +kernel
theorem d_S_become_57 : decode c_S_become 57 = .ok (.invokevirtual 75, 3) := by decide +kernel
theorem d_S_become_60 : decode c_S_become 60 = .ok (.aload_n 0, 1) := by decide +kernel
theorem d_S_become_61 : decode c_S_become 61 = .ok (.aload_n 1, 1) := by decide +kernel
theorem d_S_become_62 : decode c_S_become 62 = .ok (.getfield 25, 3) := by decide +kernel
theorem d_S_become_65 : decode c_S_become 65 = .ok (.aload_n 0, 1) := by decide +kernel
theorem d_S_become_66 : decode c_S_become 66 = .ok (.getfield 25, 3) := by decide +kernel
theorem d_S_become_69 : decode c_S_become 69 = .ok (.invokevirtual 75, 3) := by decide +kernel
theorem d_S_become_72 : decode c_S_become 72 = .ok (.aload_n 0, 1) := by decide +kernel
theorem d_S_become_73 : decode c_S_become 73 = .ok (.aload_n 1, 1) := by decide +kernel
theorem d_S_become_74 : decode c_S_become 74 = .ok (.getfield 28, 3) := by decide +kernel
theorem d_S_become_77 : decode c_S_become 77 = .ok (.aload_n 0, 1) := by decide +kernel
theorem d_S_become_78 : decode c_S_become 78 = .ok (.getfield 28, 3) := by decide +kernel
theorem d_S_become_81 : decode c_S_become 81 = .ok (.invokevirtual 75, 3) := by decide +kernel
theorem d_S_become_84 : decode c_S_become 84 = .ok (.aload_n 0, 1) := by decide +kernel
theorem d_S_become_85 : decode c_S_become 85 = .ok (.aload_n 1, 1) := by decide +kernel
theorem d_S_become_86 : decode c_S_become 86 = .ok (.getfield 31, 3) := by decide +kernel
theorem d_S_become_89 : decode c_S_become 89 = .ok (.aload_n 0, 1) := by decide +kernel
theorem d_S_become_90 : decode c_S_become 90 = .ok (.getfield 31, 3) := by decide +kernel
theorem d_S_become_93 : decode c_S_become 93 = .ok (.invokevirtual 75, 3) := by decide +kernel
theorem d_S_become_96 : decode c_S_become 96 = .ok (.aload_n 0, 1) := by decide +kernel
theorem d_S_become_97 : decode c_S_become 97 = .ok (.aload_n 1, 1) := by decide +kernel
theorem d_S_become_98 : decode c_S_become 98 = .ok (.getfield 34, 3) := by decide +kernel
theorem d_S_become_101 : decode c_S_become 101 = .ok (.aload_n 0, 1) := by decide +kernel
theorem d_S_become_102 : decode c_S_become 102 = .ok (.getfield 34, 3) := by decide +kernel
theorem d_S_become_105 : decode c_S_become 105 = .ok (.invokevirtual 75, 3) := by decide +kernel
theorem d_S_become_108 : decode c_S_become 108 = .ok (.aload_n 0, 1) := by decide +kernel
theorem d_S_become_109 : decode c_S_become 109 = .ok (.aload_n 1, 1) := by decide +kernel
theorem d_S_become_110 : decode c_S_become 110 = .ok (.getfield 37, 3) := by decide +kernel
theorem d_S_become_113 : decode c_S_become 113 = .ok (.aload_n 0, 1) := by decide +kernel
theorem d_S_become_114 : decode c_S_become 114 = .ok (.getfield 37, 3) := by decide +kernel
theorem d_S_become_117 : decode c_S_become 117 = .ok (.invokevirtual 75, 3) := by decide +kernel
theorem d_S_become_120 : decode c_S_become 120 = .ok (.aload_n 1, 1) := by decide +kernel
theorem d_S_become_121 : decode c_S_become 121 = .ok (.getfield 40, 3) := by decide +kernel
theorem d_S_become_124 : decode c_S_become 124 = .ok (.iconst 0, 1) := by decide +kernel
theorem d_S_become_125 : decode c_S_become 125 = .ok (.aload_n 0, 1) := by decide +kernel
theorem d_S_become_126 : decode c_S_become 126 = .ok (.getfield 40, 3) := by decide +kernel
theorem d_S_become_129 : decode c_S_become 129 = .ok (.iconst 0, 1) := by decide +kernel
theorem d_S_become_130 : decode c_S_become 130 = .ok (.bipush 8, 2) := by decide +kernel
theorem d_S_become_132 : decode c_S_become 132 = .ok (.invokestatic 59, 3) := by decide +kernel
theorem d_S_become_135 : decode c_S_become 135 = .ok (.aload_n 0, 1) := by decide +kernel
theorem d_S_become_136 : decode c_S_become 136 = .ok (.aload_n 1, 1) := by decide +kernel
theorem d_S_become_137 : decode c_S_become 137 = .ok (.getfield 44, 3) := by decide +kernel
theorem d_S_become_140 : decode c_S_become 140 = .ok (.aload_n 0, 1) := by decide +kernel
theorem d_S_become_141 : decode c_S_become 141 = .ok (.getfield 44, 3) := by decide +kernel
theorem d_S_become_144 : decode c_S_become 144 = .ok (.invokevirtual 75, 3) := by decide +kernel
theorem d_S_become_147 : decode c_S_become 147 = .ok (.aload_n 0, 1) := by decide +kernel
theorem d_S_become_148 : decode c_S_become 148 = .ok (.aload_n 1, 1) := by decide +kernel
theorem d_S_become_149 : decode c_S_become 149 = .ok (.getfield 47, 3) := by decide +kernel
theorem d_S_become_152 : decode c_S_become 152 = .ok (.aload_n 0, 1) := by decide +kernel
theorem d_S_become_153 : decode c_S_become 153 = .ok (.getfield 47, 3) := by decide +kernel
theorem d_S_become_156 : decode c_S_become 156 = .ok (.invokevirtual 75, 3) := by decide +kernel
theorem d_S_become_159 : decode c_S_become 159 = .ok (.aload_n 0, 1) := by decide +kernel
theorem d_S_become_160 : decode c_S_become 160 = .ok (.aload_n 1, 1) := by decide +kernel
theorem d_S_become_161 : decode c_S_become 161 = .ok (.getfield 50, 3) := by decide +kernel
theorem d_S_become_164 : decode c_S_become 164 = .ok (.aload_n 0, 1) := by decide +kernel
theorem d_S_become_165 : decode c_S_become 165 = .ok (.getfield 50, 3) := by decide +kernel
theorem d_S_become_168 : decode c_S_become 168 = .ok (.invokevirtual 75, 3) := by decide +kernel
theorem d_S_become_171 : decode c_S_become 171 = .ok (.aload_n 0, 1) := by decide +kernel
theorem d_S_become_172 : decode c_S_become 172 = .ok (.aload_n 1, 1) := by decide +kernel
theorem d_S_become_173 : decode c_S_become 173 = .ok (.getfield 53, 3) := by decide +kernel
theorem d_S_become_176 : decode c_S_become 176 = .ok (.aload_n 0, 1) := by decide +kernel
theorem d_S_become_177 : decode c_S_become 177 = .ok (.getfield 53, 3) := by decide +kernel
theorem d_S_become_180 : decode c_S_become 180 = .ok (.invokevirtual 75, 3) := by decide +kernel
theorem d_S_become_183 : decode c_S_become 183 = .ok (.aload_n 0, 1) := by decide +kernel
theorem d_S_become_184 : decode c_S_become 184 = .ok (.aload_n 1, 1) := by decide +kernel
theorem d_S_become_185 : decode c_S_become 185 = .ok (.getfield 56, 3) := by decide +kernel
theorem d_S_become_188 : decode c_S_become 188 = .ok (.aload_n 0, 1) := by decide +kernel
theorem d_S_become_189 : decode c_S_become 189 = .ok (.getfield 56, 3) := by decide +kernel
theorem d_S_become_192 : decode c_S_become 192 = .ok (.invokevirtual 75, 3) := by decide +kernel
theorem d_S_become_195 : decode c_S_become 195 = .ok (.return_, 1) := by decide +kernel
theorem d_S_at_0 : decode c_S_at 0 = .ok (.iconst (-1), 1) := by decide +kernel
theorem d_S_at_1 : decode c_S_at 1 = .ok (.istore_n 3, 1) := by decide +kernel
theorem d_S_at_2 : decode c_S_at 2 = .ok (.iconst 0, 1) := by decide +kernel
theorem d_S_at_3 : decode c_S_at 3 = .ok (.istore 4, 2) := by decide +kernel
theorem d_S_at_5 : decode c_S_at 5 = .ok (.iload 4, 2) := by decide +kernel
theorem d_S_at_7 : decode c_S_at 7 = .ok (.aload_n 0, 1) := by decide +kernel
theorem d_S_at_8 : decode c_S_at 8 = .ok (.getfield 69, 3) := by decide +kernel
theorem d_S_at_11 : decode c_S_at 11 = .ok (.if_icmp .ge 34, 3) := by decide +kernel
theorem d_S_at_14 : decode c_S_at 14 = .ok (.aload_n 0, 1) := by decide +kernel
theorem d_S_at_15 : decode c_S_at 15 = .ok (.getfield 15, 3) := by decide +kernel
theorem d_S_at_18 : decode c_S_at 18 = .ok (.iload 4, 2) := by decide +kernel
theorem d_S_at_20 : decode c_S_at 20 = .ok (.iaload, 1) := by decide +kernel
theorem d_S_at_21 : decode c_S_at 21 = .ok (.iload_n 1, 1) := by decide +kernel
theorem d_S_at_22 : decode c_S_at 22 = .ok (.if_icmp .ne 17, 3) := by decide +kernel
theorem d_S_at_25 : decode c_S_at 25 = .ok (.aload_n 0, 1) := by decide +kernel
theorem d_S_at_26 : decode c_S_at 26 = .ok (.getfield 19, 3) := by decide +kernel
theorem d_S_at_29 : decode c_S_at 29 = .ok (.iload 4, 2) := by decide +kernel
theorem d_S_at_31 : decode c_S_at 31 = .ok (.iaload, 1) := by decide +kernel
theorem d_S_at_32 : decode c_S_at 32 = .ok (.iload_n 2, 1) := by decide +kernel
theorem d_S_at_33 : decode c_S_at 33 = .ok (.if_icmp .ne 6, 3) := by decide +kernel
theorem d_S_at_36 : decode c_S_at 36 = .ok (.iload 4, 2) := by decide +kernel
theorem d_S_at_38 : decode c_S_at 38 = .ok (.istore_n 3, 1) := by decide +kernel
theorem d_S_at_39 : decode c_S_at 39 = .ok (.iinc 4 1, 3) := by decide +kernel
theorem d_S_at_42 : decode c_S_at 42 = .ok (.goto (-37), 3) := by decide +kernel
theorem d_S_at_45 : decode c_S_at 45 = .ok (.iload_n 3, 1) := by decide +kernel
theorem d_S_at_46 : decode c_S_at 46 = .ok (.ireturn, 1) := by decide +kernel
theorem d_S_isBeside_0 : decode c_S_isBeside 0 = .ok (.aload_n 0, 1) := by decide +kernel
theorem d_S_isBeside_1 : decode c_S_isBeside 1 = .ok (.getfield 15, 3) := by decide +kernel
theorem d_S_isBeside_4 : decode c_S_isBeside 4 = .ok (.iload_n 1, 1) := by decide +kernel
theorem d_S_isBeside_5 : decode c_S_isBeside 5 = .ok (.iaload, 1) := by decide +kernel
theorem d_S_isBeside_6 : decode c_S_isBeside 6 = .ok (.aload_n 0, 1) := by decide +kernel
theorem d_S_isBeside_7 : decode c_S_isBeside 7 = .ok (.getfield 15, 3) := by decide +kernel
theorem d_S_isBeside_10 : decode c_S_isBeside 10 = .ok (.iload_n 2, 1) := by decide +kernel
theorem d_S_isBeside_11 : decode c_S_isBeside 11 = .ok (.iaload, 1) := by decide +kernel
theorem d_S_isBeside_12 : decode c_S_isBeside 12 = .ok (.isub, 1) := by decide +kernel
theorem d_S_isBeside_13 : decode c_S_isBeside 13 = .ok (.invokestatic 79, 3) := by decide +kernel
theorem d_S_isBeside_16 : decode c_S_isBeside 16 = .ok (.aload_n 0, 1) := by decide +kernel
theorem d_S_isBeside_17 : decode c_S_isBeside 17 = .ok (.getfield 19, 3) := by decide +kernel
theorem d_S_isBeside_20 : decode c_S_isBeside 20 = .ok (.iload_n 1, 1) := by decide +kernel
theorem d_S_isBeside_21 : decode c_S_isBeside 21 = .ok (.iaload, 1) := by decide +kernel
theorem d_S_isBeside_22 : decode c_S_isBeside 22 = .ok (.aload_n 0, 1) := by decide +kernel
theorem d_S_isBeside_23 : decode c_S_isBeside 23 = .ok (.getfield 19, 3) := by decide +kernel
theorem d_S_isBeside_26 : decode c_S_isBeside 26 = .ok (.iload_n 2, 1) := by decide +kernel
theorem d_S_isBeside_27 : decode c_S_isBeside 27 = .ok (.iaload, 1) := by decide +kernel
theorem d_S_isBeside_28 : decode c_S_isBeside 28 = .ok (.isub, 1) := by decide +kernel
theorem d_S_isBeside_29 : decode c_S_isBeside 29 = .ok (.invokestatic 79, 3) := by decide +kernel
theorem d_S_isBeside_32 : decode c_S_isBeside 32 = .ok (.iadd, 1) := by decide +kernel
theorem d_S_isBeside_33 : decode c_S_isBeside 33 = .ok (.iconst 1, 1) := by decide +kernel
theorem d_S_isBeside_34 : decode c_S_isBeside 34 = .ok (.if_icmp .ne 7, 3) := by decide +kernel
theorem d_S_isBeside_37 : decode c_S_isBeside 37 = .ok (.iconst 1, 1) := by decide +kernel
theorem d_S_isBeside_38 : decode c_S_isBeside 38 = .ok (.goto 4, 3) := by decide +kernel
theorem d_S_isBeside_41 : decode c_S_isBeside 41 = .ok (.iconst 0, 1) := by decide +kernel
theorem d_S_isBeside_42 : decode c_S_isBeside 42 = .ok (.ireturn, 1) := by decide +kernel
theorem d_S_isTired_0 : decode c_S_isTired 0 = .ok (.aload_n 0, 1) := by decide +kernel
theorem d_S_isTired_1 : decode c_S_isTired 1 = .ok (.getfield 25, 3) := by decide +kernel
theorem d_S_isTired_4 : decode c_S_isTired 4 = .ok (.iload_n 1, 1) := by decide +kernel
theorem d_S_isTired_5 : decode c_S_isTired 5 = .ok (.iaload, 1) := by decide +kernel
theorem d_S_isTired_6 : decode c_S_isTired 6 = .ok (.aload_n 0, 1) := by decide +kernel
theorem d_S_isTired_7 : decode c_S_isTired 7 = .ok (.getfield 28, 3) := by decide +kernel
theorem d_S_isTired_10 : decode c_S_isTired 10 = .ok (.iload_n 1, 1) := by decide +kernel
theorem d_S_isTired_11 : decode c_S_isTired 11 = .ok (.iaload, 1) := by decide +kernel
theorem d_S_isTired_12 : decode c_S_isTired 12 = .ok (.if_icmp .ge 7, 3) := by decide +kernel
theorem d_S_isTired_15 : decode c_S_isTired 15 = .ok (.iconst 1, 1) := by decide +kernel
theorem d_S_isTired_16 : decode c_S_isTired 16 = .ok (.goto 4, 3) := by decide +kernel
theorem d_S_isTired_19 : decode c_S_isTired 19 = .ok (.iconst 0, 1) := by decide +kernel
theorem d_S_isTired_20 : decode c_S_isTired 20 = .ok (.ireturn, 1) := by decide +kernel
theorem d_S_isResting_0 : decode c_S_isResting 0 = .ok (.iload_n 1, 1) := by decide +kernel
theorem d_S_isResting_1 : decode c_S_isResting 1 = .ok (.iconst (-1), 1) := by decide +kernel
theorem d_S_isResting_2 : decode c_S_isResting 2 = .ok (.if_icmp .eq 24, 3) := by decide +kernel
theorem d_S_isResting_5 : decode c_S_isResting 5 = .ok (.aload_n 0, 1) := by decide +kernel
theorem d_S_isResting_6 : decode c_S_isResting 6 = .ok (.getfield 44, 3) := by decide +kernel
theorem d_S_isResting_9 : decode c_S_isResting 9 = .ok (.iload_n 1, 1) := by decide +kernel
theorem d_S_isResting_10 : decode c_S_isResting 10 = .ok (.iaload, 1) := by decide +kernel
theorem d_S_isResting_11 : decode c_S_isResting 11 = .ok (.ifCond .gt 11, 3) := by decide +kernel
theorem d_S_isResting_14 : decode c_S_isResting 14 = .ok (.aload_n 0, 1) := by decide +kernel
theorem d_S_isResting_15 : decode c_S_isResting 15 = .ok (.iload_n 1, 1) := by decide +kernel
theorem d_S_isResting_16 : decode c_S_isResting 16 = .ok (.invokevirtual 85, 3) := by decide +kernel
theorem d_S_isResting_19 : decode c_S_isResting 19 = .ok (.ifCond .eq 7, 3) := by decide +kernel
theorem d_S_isResting_22 : decode c_S_isResting 22 = .ok (.iconst 1, 1) := by decide +kernel
theorem d_S_isResting_23 : decode c_S_isResting 23 = .ok (.goto 4, 3) := by decide +kernel
theorem d_S_isResting_26 : decode c_S_isResting 26 = .ok (.iconst 0, 1) := by decide +kernel
theorem d_S_isResting_27 : decode c_S_isResting 27 = .ok (.ireturn, 1) := by decide +kernel
theorem d_S_pass_0 : decode c_S_pass 0 = .ok (.aload_n 0, 1) := by decide +kernel
theorem d_S_pass_1 : decode c_S_pass 1 = .ok (.bipush 7, 2) := by decide +kernel
theorem d_S_pass_3 : decode c_S_pass 3 = .ok (.invokevirtual 89, 3) := by decide +kernel
theorem d_S_pass_6 : decode c_S_pass 6 = .ok (.istore_n 1, 1) := by decide +kernel
theorem d_S_pass_7 : decode c_S_pass 7 = .ok (.iconst 0, 1) := by decide +kernel
theorem d_S_pass_8 : decode c_S_pass 8 = .ok (.istore_n 2, 1) := by decide +kernel
theorem d_S_pass_9 : decode c_S_pass 9 = .ok (.iload_n 2, 1) := by decide +kernel
theorem d_S_pass_10 : decode c_S_pass 10 = .ok (.aload_n 0, 1) := by decide +kernel
theorem d_S_pass_11 : decode c_S_pass 11 = .ok (.getfield 69, 3) := by decide +kernel
theorem d_S_pass_14 : decode c_S_pass 14 = .ok (.if_icmp .ge 44, 3) := by decide +kernel
theorem d_S_pass_17 : decode c_S_pass 17 = .ok (.aload_n 0, 1) := by decide +kernel
theorem d_S_pass_18 : decode c_S_pass 18 = .ok (.getfield 40, 3) := by decide +kernel
theorem d_S_pass_21 : decode c_S_pass 21 = .ok (.iload_n 2, 1) := by decide +kernel
theorem d_S_pass_22 : decode c_S_pass 22 = .ok (.baload, 1) := by decide +kernel
theorem d_S_pass_23 : decode c_S_pass 23 = .ok (.ifCond .ne 29, 3) := by decide +kernel
theorem d_S_pass_26 : decode c_S_pass 26 = .ok (.aload_n 0, 1) := by decide +kernel
theorem d_S_pass_27 : decode c_S_pass 27 = .ok (.iload_n 2, 1) := by decide +kernel
theorem d_S_pass_28 : decode c_S_pass 28 = .ok (.invokevirtual 92, 3) := by decide +kernel
theorem d_S_pass_31 : decode c_S_pass 31 = .ok (.ifCond .ne 21, 3) := by decide +kernel
theorem d_S_pass_34 : decode c_S_pass 34 = .ok (.aload_n 0, 1) := by decide +kernel
theorem d_S_pass_35 : decode c_S_pass 35 = .ok (.aload_n 0, 1) := by decide +kernel
theorem d_S_pass_36 : decode c_S_pass 36 = .ok (.getfield 37, 3) := by decide +kernel
theorem d_S_pass_39 : decode c_S_pass 39 = .ok (.iload_n 2, 1) := by decide +kernel
theorem d_S_pass_40 : decode c_S_pass 40 = .ok (.iaload, 1) := by decide +kernel
theorem d_S_pass_41 : decode c_S_pass 41 = .ok (.invokevirtual 92, 3) := by decide +kernel
theorem d_S_pass_44 : decode c_S_pass 44 = .ok (.ifCond .ne 8, 3) := by decide +kernel
theorem d_S_pass_47 : decode c_S_pass 47 = .ok (.aload_n 0, 1) := by decide +kernel
theorem d_S_pass_48 : decode c_S_pass 48 = .ok (.iload_n 2, 1) := by decide +kernel
theorem d_S_pass_49 : decode c_S_pass 49 = .ok (.invokevirtual 95, 3) := by decide +kernel
theorem d_S_pass_52 : decode c_S_pass 52 = .ok (.iinc 2 1, 3) := by decide +kernel
theorem d_S_pass_55 : decode c_S_pass 55 = .ok (.goto (-46), 3) := by decide +kernel
theorem d_S_pass_58 : decode c_S_pass 58 = .ok (.iconst 0, 1) := by decide +kernel
theorem d_S_pass_59 : decode c_S_pass 59 = .ok (.istore_n 2, 1) := by decide +kernel
theorem d_S_pass_60 : decode c_S_pass 60 = .ok (.iload_n 2, 1) := by decide +kernel
theorem d_S_pass_61 : decode c_S_pass 61 = .ok (.aload_n 0, 1) := by decide +kernel
theorem d_S_pass_62 : decode c_S_pass 62 = .ok (.getfield 72, 3) := by decide +kernel
theorem d_S_pass_65 : decode c_S_pass 65 = .ok (.if_icmp .ge 28, 3) := by decide +kernel
theorem d_S_pass_68 : decode c_S_pass 68 = .ok (.aload_n 0, 1) := by decide +kernel
theorem d_S_pass_69 : decode c_S_pass 69 = .ok (.getfield 53, 3) := by decide +kernel
theorem d_S_pass_72 : decode c_S_pass 72 = .ok (.bipush 6, 2) := by decide +kernel
theorem d_S_pass_74 : decode c_S_pass 74 = .ok (.iload_n 2, 1) := by decide +kernel
theorem d_S_pass_75 : decode c_S_pass 75 = .ok (.imul, 1) := by decide +kernel
theorem d_S_pass_76 : decode c_S_pass 76 = .ok (.iconst 3, 1) := by decide +kernel
theorem d_S_pass_77 : decode c_S_pass 77 = .ok (.iadd, 1) := by decide +kernel
theorem d_S_pass_78 : decode c_S_pass 78 = .ok (.iaload, 1) := by decide +kernel
theorem d_S_pass_79 : decode c_S_pass 79 = .ok (.ifCond .le 8, 3) := by decide +kernel
theorem d_S_pass_82 : decode c_S_pass 82 = .ok (.aload_n 0, 1) := by decide +kernel
theorem d_S_pass_83 : decode c_S_pass 83 = .ok (.iload_n 2, 1) := by decide +kernel
theorem d_S_pass_84 : decode c_S_pass 84 = .ok (.invokevirtual 99, 3) := by decide +kernel
theorem d_S_pass_87 : decode c_S_pass 87 = .ok (.iinc 2 1, 3) := by decide +kernel
theorem d_S_pass_90 : decode c_S_pass 90 = .ok (.goto (-30), 3) := by decide +kernel
theorem d_S_pass_93 : decode c_S_pass 93 = .ok (.iconst 0, 1) := by decide +kernel
theorem d_S_pass_94 : decode c_S_pass 94 = .ok (.istore_n 2, 1) := by decide +kernel
theorem d_S_pass_95 : decode c_S_pass 95 = .ok (.iload_n 2, 1) := by decide +kernel
theorem d_S_pass_96 : decode c_S_pass 96 = .ok (.aload_n 0, 1) := by decide +kernel
theorem d_S_pass_97 : decode c_S_pass 97 = .ok (.getfield 69, 3) := by decide +kernel
theorem d_S_pass_100 : decode c_S_pass 100 = .ok (.if_icmp .ge 27, 3) := by decide +kernel
theorem d_S_pass_103 : decode c_S_pass 103 = .ok (.aload_n 0, 1) := by decide +kernel
theorem d_S_pass_104 : decode c_S_pass 104 = .ok (.getfield 44, 3) := by decide +kernel
theorem d_S_pass_107 : decode c_S_pass 107 = .ok (.iload_n 2, 1) := by decide +kernel
theorem d_S_pass_108 : decode c_S_pass 108 = .ok (.iconst 0, 1) := by decide +kernel
theorem d_S_pass_109 : decode c_S_pass 109 = .ok (.aload_n 0, 1) := by decide +kernel
theorem d_S_pass_110 : decode c_S_pass 110 = .ok (.getfield 44, 3) := by decide +kernel
theorem d_S_pass_113 : decode c_S_pass 113 = .ok (.iload_n 2, 1) := by decide +kernel
theorem d_S_pass_114 : decode c_S_pass 114 = .ok (.iaload, 1) := by decide +kernel
theorem d_S_pass_115 : decode c_S_pass 115 = .ok (.iconst 1, 1) := by decide +kernel
theorem d_S_pass_116 : decode c_S_pass 116 = .ok (.isub, 1) := by decide +kernel
theorem d_S_pass_117 : decode c_S_pass 117 = .ok (.invokestatic 102, 3) := by decide +kernel
theorem d_S_pass_120 : decode c_S_pass 120 = .ok (.iastore, 1) := by decide +kernel
theorem d_S_pass_121 : decode c_S_pass 121 = .ok (.iinc 2 1, 3) := by decide +kernel
theorem d_S_pass_124 : decode c_S_pass 124 = .ok (.goto (-29), 3) := by decide +kernel
theorem d_S_pass_127 : decode c_S_pass 127 = .ok (.aload_n 0, 1) := by decide +kernel
theorem d_S_pass_128 : decode c_S_pass 128 = .ok (.dup, 1) := by decide +kernel
theorem d_S_pass_129 : decode c_S_pass 129 = .ok (.getfield 65, 3) := by decide +kernel
theorem d_S_pass_132 : decode c_S_pass 132 = .ok (.iconst 1, 1) := by decide +kernel
theorem d_S_pass_133 : decode c_S_pass 133 = .ok (.iadd, 1) := by decide +kernel
theorem d_S_pass_134 : decode c_S_pass 134 = .ok (.putfield 65, 3) := by decide +kernel
theorem d_S_pass_137 : decode c_S_pass 137 = .ok (.aload_n 0, 1) := by decide +kernel
theorem d_S_pass_138 : decode c_S_pass 138 = .ok (.bipush 7, 2) := by decide +kernel
theorem d_S_pass_140 : decode c_S_pass 140 = .ok (.invokevirtual 89, 3) := by decide +kernel
theorem d_S_pass_143 : decode c_S_pass 143 = .ok (.iload_n 1, 1) := by decide +kernel
theorem d_S_pass_144 : decode c_S_pass 144 = .ok (.isub, 1) := by decide +kernel
theorem d_S_pass_145 : decode c_S_pass 145 = .ok (.ireturn, 1) := by decide +kernel
theorem d_S_act_0 : decode c_S_act 0 = .ok (.aload_n 0, 1) := by decide +kernel
theorem d_S_act_1 : decode c_S_act 1 = .ok (.getfield 37, 3) := by decide +kernel
theorem d_S_act_4 : decode c_S_act 4 = .ok (.iload_n 1, 1) := by decide +kernel
theorem d_S_act_5 : decode c_S_act 5 = .ok (.iaload, 1) := by decide +kernel
theorem d_S_act_6 : decode c_S_act 6 = .ok (.istore_n 2, 1) := by decide +kernel
theorem d_S_act_7 : decode c_S_act 7 = .ok (.aload_n 0, 1) := by decide +kernel
theorem d_S_act_8 : decode c_S_act 8 = .ok (.getfield 3, 3) := by decide +kernel
theorem d_S_act_11 : decode c_S_act 11 = .ok (.getfield 106, 3) := by decide +kernel
theorem d_S_act_14 : decode c_S_act 14 = .ok (.bipush 24, 2) := by decide +kernel
theorem d_S_act_16 : decode c_S_act 16 = .ok (.aload_n 0, 1) := by decide +kernel
theorem d_S_act_17 : decode c_S_act 17 = .ok (.getfield 31, 3) := by decide +kernel
theorem d_S_act_20 : decode c_S_act 20 = .ok (.iload_n 1, 1) := by decide +kernel
theorem d_S_act_21 : decode c_S_act 21 = .ok (.iaload, 1) := by decide +kernel
theorem d_S_act_22 : decode c_S_act 22 = .ok (.imul, 1) := by decide +kernel
theorem d_S_act_23 : decode c_S_act 23 = .ok (.aload_n 0, 1) := by decide +kernel
theorem d_S_act_24 : decode c_S_act 24 = .ok (.getfield 34, 3) := by decide +kernel
theorem d_S_act_27 : decode c_S_act 27 = .ok (.iload_n 1, 1) := by decide +kernel
theorem d_S_act_28 : decode c_S_act 28 = .ok (.iaload, 1) := by decide +kernel
theorem d_S_act_29 : decode c_S_act 29 = .ok (.iadd, 1) := by decide +kernel
theorem d_S_act_30 : decode c_S_act 30 = .ok (.iaload, 1) := by decide +kernel
theorem d_S_act_31 : decode c_S_act 31 = .ok (.istore_n 3, 1) := by decide +kernel
theorem d_S_act_32 : decode c_S_act 32 = .ok (.aload_n 0, 1) := by decide +kernel
theorem d_S_act_33 : decode c_S_act 33 = .ok (.getfield 34, 3) := by decide +kernel
theorem d_S_act_36 : decode c_S_act 36 = .ok (.iload_n 1, 1) := by decide +kernel
theorem d_S_act_37 : decode c_S_act 37 = .ok (.aload_n 0, 1) := by decide +kernel
theorem d_S_act_38 : decode c_S_act 38 = .ok (.getfield 34, 3) := by decide +kernel
theorem d_S_act_41 : decode c_S_act 41 = .ok (.iload_n 1, 1) := by decide +kernel
theorem d_S_act_42 : decode c_S_act 42 = .ok (.iaload, 1) := by decide +kernel
theorem d_S_act_43 : decode c_S_act 43 = .ok (.iconst 1, 1) := by decide +kernel
theorem d_S_act_44 : decode c_S_act 44 = .ok (.iadd, 1) := by decide +kernel
theorem d_S_act_45 : decode c_S_act 45 = .ok (.aload_n 0, 1) := by decide +kernel
theorem d_S_act_46 : decode c_S_act 46 = .ok (.getfield 3, 3) := by decide +kernel
theorem d_S_act_49 : decode c_S_act 49 = .ok (.getfield 109, 3) := by decide +kernel
theorem d_S_act_52 : decode c_S_act 52 = .ok (.aload_n 0, 1) := by decide +kernel
theorem d_S_act_53 : decode c_S_act 53 = .ok (.getfield 31, 3) := by decide +kernel
theorem d_S_act_56 : decode c_S_act 56 = .ok (.iload_n 1, 1) := by decide +kernel
theorem d_S_act_57 : decode c_S_act 57 = .ok (.iaload, 1) := by decide +kernel
theorem d_S_act_58 : decode c_S_act 58 = .ok (.iaload, 1) := by decide +kernel
theorem d_S_act_59 : decode c_S_act 59 = .ok (.irem, 1) := by decide +kernel
theorem d_S_act_60 : decode c_S_act 60 = .ok (.iastore, 1) := by decide +kernel
theorem d_S_act_61 : decode c_S_act 61 = .ok (.aload_n 0, 1) := by decide +kernel
theorem d_S_act_62 : decode c_S_act 62 = .ok (.getfield 15, 3) := by decide +kernel
theorem d_S_act_65 : decode c_S_act 65 = .ok (.iload_n 1, 1) := by decide +kernel
theorem d_S_act_66 : decode c_S_act 66 = .ok (.iaload, 1) := by decide +kernel
theorem d_S_act_67 : decode c_S_act 67 = .ok (.istore 4, 2) := by decide +kernel
theorem d_S_act_69 : decode c_S_act 69 = .ok (.aload_n 0, 1) := by decide +kernel
theorem d_S_act_70 : decode c_S_act 70 = .ok (.getfield 19, 3) := by decide +kernel
theorem d_S_act_73 : decode c_S_act 73 = .ok (.iload_n 1, 1) := by decide +kernel
theorem d_S_act_74 : decode c_S_act 74 = .ok (.iaload, 1) := by decide +kernel
theorem d_S_act_75 : decode c_S_act 75 = .ok (.istore 5, 2) := by decide +kernel
theorem d_S_act_77 : decode c_S_act 77 = .ok (.iload_n 2, 1) := by decide +kernel
theorem d_S_act_78 : decode c_S_act 78 = .ok (.iconst (-1), 1) := by decide +kernel
theorem d_S_act_79 : decode c_S_act 79 = .ok (.if_icmp .ne 7, 3) := by decide +kernel
theorem d_S_act_82 : decode c_S_act 82 = .ok (.iconst 0, 1) := by decide +kernel
theorem d_S_act_83 : decode c_S_act 83 = .ok (.goto 9, 3) := by decide +kernel
theorem d_S_act_86 : decode c_S_act 86 = .ok (.aload_n 0, 1) := by decide +kernel
theorem d_S_act_87 : decode c_S_act 87 = .ok (.getfield 15, 3) := by decide +kernel
theorem d_S_act_90 : decode c_S_act 90 = .ok (.iload_n 2, 1) := by decide +kernel
theorem d_S_act_91 : decode c_S_act 91 = .ok (.iaload, 1) := by decide +kernel
theorem d_S_act_92 : decode c_S_act 92 = .ok (.istore 6, 2) := by decide +kernel
theorem d_S_act_94 : decode c_S_act 94 = .ok (.iload_n 2, 1) := by decide +kernel
theorem d_S_act_95 : decode c_S_act 95 = .ok (.iconst (-1), 1) := by decide +kernel
theorem d_S_act_96 : decode c_S_act 96 = .ok (.if_icmp .ne 7, 3) := by decide +kernel
theorem d_S_act_99 : decode c_S_act 99 = .ok (.iconst 0, 1) := by decide +kernel
theorem d_S_act_100 : decode c_S_act 100 = .ok (.goto 9, 3) := by decide +kernel
theorem d_S_act_103 : decode c_S_act 103 = .ok (.aload_n 0, 1) := by decide +kernel
theorem d_S_act_104 : decode c_S_act 104 = .ok (.getfield 19, 3) := by decide +kernel
theorem d_S_act_107 : decode c_S_act 107 = .ok (.iload_n 2, 1) := by decide +kernel
theorem d_S_act_108 : decode c_S_act 108 = .ok (.iaload, 1) := by decide +kernel
theorem d_S_act_109 : decode c_S_act 109 = .ok (.istore 7, 2) := by decide +kernel
theorem d_S_act_111 : decode c_S_act 111 = .ok (.iload_n 3, 1) := by decide +kernel
theorem d_S_act_112 : decode c_S_act 112 = .ok (.bipush 116, 2) := by decide +kernel
theorem d_S_act_114 : decode c_S_act 114 = .ok (.if_icmp .ne 7, 3) := by decide +kernel
theorem d_S_act_117 : decode c_S_act 117 = .ok (.iconst 1, 1) := by decide +kernel
theorem d_S_act_118 : decode c_S_act 118 = .ok (.goto 14, 3) := by decide +kernel
theorem d_S_act_121 : decode c_S_act 121 = .ok (.iload_n 3, 1) := by decide +kernel
theorem d_S_act_122 : decode c_S_act 122 = .ok (.bipush 117, 2) := by decide +kernel
theorem d_S_act_124 : decode c_S_act 124 = .ok (.if_icmp .ne 7, 3) := by decide +kernel
theorem d_S_act_127 : decode c_S_act 127 = .ok (.iconst 3, 1) := by decide +kernel
theorem d_S_act_128 : decode c_S_act 128 = .ok (.goto 4, 3) := by decide +kernel
theorem d_S_act_131 : decode c_S_act 131 = .ok (.iconst 0, 1) := by decide +kernel
theorem d_S_act_132 : decode c_S_act 132 = .ok (.istore 8, 2) := by decide +kernel
theorem d_S_act_134 : decode c_S_act 134 = .ok (.iload_n 3, 1) := by decide +kernel
theorem d_S_act_135 : decode c_S_act 135 = .ok (.bipush 102, 2) := by decide +kernel
theorem d_S_act_137 : decode c_S_act 137 = .ok (.if_icmp .ne 7, 3) := by decide +kernel
theorem d_S_act_140 : decode c_S_act 140 = .ok (.iconst 0, 1) := by decide +kernel
theorem d_S_act_141 : decode c_S_act 141 = .ok (.goto 34, 3) := by decide +kernel
theorem d_S_act_144 : decode c_S_act 144 = .ok (.iload_n 3, 1) := by decide +kernel
theorem d_S_act_145 : decode c_S_act 145 = .ok (.bipush 114, 2) := by decide +kernel
theorem d_S_act_147 : decode c_S_act 147 = .ok (.if_icmp .ne 7, 3) := by decide +kernel
theorem d_S_act_150 : decode c_S_act 150 = .ok (.iconst 1, 1) := by decide +kernel
theorem d_S_act_151 : decode c_S_act 151 = .ok (.goto 24, 3) := by decide +kernel
theorem d_S_act_154 : decode c_S_act 154 = .ok (.iload_n 3, 1) := by decide +kernel
theorem d_S_act_155 : decode c_S_act 155 = .ok (.bipush 98, 2) := by decide +kernel
theorem d_S_act_157 : decode c_S_act 157 = .ok (.if_icmp .ne 7, 3) := by decide +kernel
theorem d_S_act_160 : decode c_S_act 160 = .ok (.iconst 2, 1) := by decide +kernel
theorem d_S_act_161 : decode c_S_act 161 = .ok (.goto 14, 3) := by decide +kernel
theorem d_S_act_164 : decode c_S_act 164 = .ok (.iload_n 3, 1) := by decide +kernel
theorem d_S_act_165 : decode c_S_act 165 = .ok (.bipush 108, 2) := by decide +kernel
theorem d_S_act_167 : decode c_S_act 167 = .ok (.if_icmp .ne 7, 3) := by decide +kernel
theorem d_S_act_170 : decode c_S_act 170 = .ok (.iconst 3, 1) := by decide +kernel
theorem d_S_act_171 : decode c_S_act 171 = .ok (.goto 4, 3) := by decide +kernel
theorem d_S_act_174 : decode c_S_act 174 = .ok (.iconst (-1), 1) := by decide +kernel
theorem d_S_act_175 : decode c_S_act 175 = .ok (.istore 9, 2) := by decide +kernel
theorem d_S_act_177 : decode c_S_act 177 = .ok (.iload 9, 2) := by decide +kernel
theorem d_S_act_179 : decode c_S_act 179 = .ok (.iconst (-1), 1) := by decide +kernel
theorem d_S_act_180 : decode c_S_act 180 = .ok (.if_icmp .eq 63, 3) := by decide +kernel
theorem d_S_act_183 : decode c_S_act 183 = .ok (.aload_n 0, 1) := by decide +kernel
theorem d_S_act_184 : decode c_S_act 184 = .ok (.getfield 22, 3) := by decide +kernel
theorem d_S_act_187 : decode c_S_act 187 = .ok (.iload_n 1, 1) := by decide +kernel
theorem d_S_act_188 : decode c_S_act 188 = .ok (.iaload, 1) := by decide +kernel
theorem d_S_act_189 : decode c_S_act 189 = .ok (.iload 9, 2) := by decide +kernel
theorem d_S_act_191 : decode c_S_act 191 = .ok (.iadd, 1) := by decide +kernel
theorem d_S_act_192 : decode c_S_act 192 = .ok (.iconst 4, 1) := by decide +kernel
theorem d_S_act_193 : decode c_S_act 193 = .ok (.irem, 1) := by decide +kernel
theorem d_S_act_194 : decode c_S_act 194 = .ok (.istore 9, 2) := by decide +kernel
theorem d_S_act_196 : decode c_S_act 196 = .ok (.iload 4, 2) := by decide +kernel
theorem d_S_act_198 : decode c_S_act 198 = .ok (.getstatic 112, 3) := by decide +kernel
theorem d_S_act_201 : decode c_S_act 201 = .ok (.iload 9, 2) := by decide +kernel
theorem d_S_act_203 : decode c_S_act 203 = .ok (.iaload, 1) := by decide +kernel
theorem d_S_act_204 : decode c_S_act 204 = .ok (.iadd, 1) := by decide +kernel
theorem d_S_act_205 : decode c_S_act 205 = .ok (.istore 4, 2) := by decide +kernel
theorem d_S_act_207 : decode c_S_act 207 = .ok (.iload 5, 2) := by decide +kernel
theorem d_S_act_209 : decode c_S_act 209 = .ok (.getstatic 115, 3) := by decide +kernel
theorem d_S_act_212 : decode c_S_act 212 = .ok (.iload 9, 2) := by decide +kernel
theorem d_S_act_214 : decode c_S_act 214 = .ok (.iaload, 1) := by decide +kernel
theorem d_S_act_215 : decode c_S_act 215 = .ok (.iadd, 1) := by decide +kernel
theorem d_S_act_216 : decode c_S_act 216 = .ok (.istore 5, 2) := by decide +kernel
theorem d_S_act_218 : decode c_S_act 218 = .ok (.iload 6, 2) := by decide +kernel
theorem d_S_act_220 : decode c_S_act 220 = .ok (.getstatic 112, 3) := by decide +kernel
theorem d_S_act_223 : decode c_S_act 223 = .ok (.iload 9, 2) := by decide +kernel
theorem d_S_act_225 : decode c_S_act 225 = .ok (.iaload, 1) := by decide +kernel
theorem d_S_act_226 : decode c_S_act 226 = .ok (.iadd, 1) := by decide +kernel
theorem d_S_act_227 : decode c_S_act 227 = .ok (.istore 6, 2) := by decide +kernel
theorem d_S_act_229 : decode c_S_act 229 = .ok (.iload 7, 2) := by decide +kernel
theorem d_S_act_231 : decode c_S_act 231 = .ok (.getstatic 115, 3) := by decide +kernel
theorem d_S_act_234 : decode c_S_act 234 = .ok (.iload 9, 2) := by decide +kernel
theorem d_S_act_236 : decode c_S_act 236 = .ok (.iaload, 1) := by decide +kernel
theorem d_S_act_237 : decode c_S_act 237 = .ok (.iadd, 1) := by decide +kernel
theorem d_S_act_238 : decode c_S_act 238 = .ok (.istore 7, 2) := by decide +kernel
theorem d_S_act_240 : decode c_S_act 240 = .ok (.goto 152, 3) := by decide +kernel
theorem d_S_act_243 : decode c_S_act 243 = .ok (.iload 8, 2) := by decide +kernel
theorem d_S_act_245 : decode c_S_act 245 = .ok (.ifCond .le 104, 3) := by decide +kernel
theorem d_S_act_248 : decode c_S_act 248 = .ok (.iload_n 2, 1) := by decide +kernel
theorem d_S_act_249 : decode c_S_act 249 = .ok (.iconst (-1), 1) := by decide +kernel
theorem d_S_act_250 : decode c_S_act 250 = .ok (.if_icmp .eq 99, 3) := by decide +kernel
theorem d_S_act_253 : decode c_S_act 253 = .ok (.iconst 0, 1) := by decide +kernel
theorem d_S_act_254 : decode c_S_act 254 = .ok (.istore 10, 2) := by decide +kernel
theorem d_S_act_256 : decode c_S_act 256 = .ok (.aload_n 0, 1) := by decide +kernel
theorem d_S_act_257 : decode c_S_act 257 = .ok (.getfield 15, 3) := by decide +kernel
theorem d_S_act_260 : decode c_S_act 260 = .ok (.iload_n 1, 1) := by decide +kernel
theorem d_S_act_261 : decode c_S_act 261 = .ok (.iaload, 1) := by decide +kernel
theorem d_S_act_262 : decode c_S_act 262 = .ok (.getstatic 112, 3) := by decide +kernel
theorem d_S_act_265 : decode c_S_act 265 = .ok (.iload 10, 2) := by decide +kernel
theorem d_S_act_267 : decode c_S_act 267 = .ok (.iaload, 1) := by decide +kernel
theorem d_S_act_268 : decode c_S_act 268 = .ok (.iadd, 1) := by decide +kernel
theorem d_S_act_269 : decode c_S_act 269 = .ok (.aload_n 0, 1) := by decide +kernel
theorem d_S_act_270 : decode c_S_act 270 = .ok (.getfield 15, 3) := by decide +kernel
theorem d_S_act_273 : decode c_S_act 273 = .ok (.iload_n 2, 1) := by decide +kernel
theorem d_S_act_274 : decode c_S_act 274 = .ok (.iaload, 1) := by decide +kernel
theorem d_S_act_275 : decode c_S_act 275 = .ok (.if_icmp .ne 25, 3) := by decide +kernel
theorem d_S_act_278 : decode c_S_act 278 = .ok (.aload_n 0, 1) := by decide +kernel
theorem d_S_act_279 : decode c_S_act 279 = .ok (.getfield 19, 3) := by decide +kernel
theorem d_S_act_282 : decode c_S_act 282 = .ok (.iload_n 1, 1) := by decide +kernel
theorem d_S_act_283 : decode c_S_act 283 = .ok (.iaload, 1) := by decide +kernel
theorem d_S_act_284 : decode c_S_act 284 = .ok (.getstatic 115, 3) := by decide +kernel
theorem d_S_act_287 : decode c_S_act 287 = .ok (.iload 10, 2) := by decide +kernel
theorem d_S_act_289 : decode c_S_act 289 = .ok (.iaload, 1) := by decide +kernel
theorem d_S_act_290 : decode c_S_act 290 = .ok (.iadd, 1) := by decide +kernel
theorem d_S_act_291 : decode c_S_act 291 = .ok (.aload_n 0, 1) := by decide +kernel
theorem d_S_act_292 : decode c_S_act 292 = .ok (.getfield 19, 3) := by decide +kernel
theorem d_S_act_295 : decode c_S_act 295 = .ok (.iload_n 2, 1) := by decide +kernel
theorem d_S_act_296 : decode c_S_act 296 = .ok (.iaload, 1) := by decide +kernel
theorem d_S_act_297 : decode c_S_act 297 = .ok (.if_icmp .eq 9, 3) := by decide +kernel
theorem d_S_act_300 : decode c_S_act 300 = .ok (.iinc 10 1, 3) := by decide +kernel
theorem d_S_act_303 : decode c_S_act 303 = .ok (.goto (-47), 3) := by decide +kernel
theorem d_S_act_306 : decode c_S_act 306 = .ok (.aload_n 0, 1) := by decide +kernel
theorem d_S_act_307 : decode c_S_act 307 = .ok (.getfield 15, 3) := by decide +kernel
theorem d_S_act_310 : decode c_S_act 310 = .ok (.iload_n 1, 1) := by decide +kernel
theorem d_S_act_311 : decode c_S_act 311 = .ok (.iaload, 1) := by decide +kernel
theorem d_S_act_312 : decode c_S_act 312 = .ok (.getstatic 112, 3) := by decide +kernel
theorem d_S_act_315 : decode c_S_act 315 = .ok (.iload 10, 2) := by decide +kernel
theorem d_S_act_317 : decode c_S_act 317 = .ok (.iload 8, 2) := by decide +kernel
theorem d_S_act_319 : decode c_S_act 319 = .ok (.iadd, 1) := by decide +kernel
theorem d_S_act_320 : decode c_S_act 320 = .ok (.iconst 4, 1) := by decide +kernel
theorem d_S_act_321 : decode c_S_act 321 = .ok (.irem, 1) := by decide +kernel
theorem d_S_act_322 : decode c_S_act 322 = .ok (.iaload, 1) := by decide +kernel
theorem d_S_act_323 : decode c_S_act 323 = .ok (.iadd, 1) := by decide +kernel
theorem d_S_act_324 : decode c_S_act 324 = .ok (.istore 6, 2) := by decide +kernel
theorem d_S_act_326 : decode c_S_act 326 = .ok (.aload_n 0, 1) := by decide +kernel
theorem d_S_act_327 : decode c_S_act 327 = .ok (.getfield 19, 3) := by decide +kernel
theorem d_S_act_330 : decode c_S_act 330 = .ok (.iload_n 1, 1) := by decide +kernel
theorem d_S_act_331 : decode c_S_act 331 = .ok (.iaload, 1) := by decide +kernel
theorem d_S_act_332 : decode c_S_act 332 = .ok (.getstatic 115, 3) := by decide +kernel
theorem d_S_act_335 : decode c_S_act 335 = .ok (.iload 10, 2) := by decide +kernel
theorem d_S_act_337 : decode c_S_act 337 = .ok (.iload 8, 2) := by decide +kernel
theorem d_S_act_339 : decode c_S_act 339 = .ok (.iadd, 1) := by decide +kernel
theorem d_S_act_340 : decode c_S_act 340 = .ok (.iconst 4, 1) := by decide +kernel
theorem d_S_act_341 : decode c_S_act 341 = .ok (.irem, 1) := by decide +kernel
theorem d_S_act_342 : decode c_S_act 342 = .ok (.iaload, 1) := by decide +kernel
theorem d_S_act_343 : decode c_S_act 343 = .ok (.iadd, 1) := by decide +kernel
theorem d_S_act_344 : decode c_S_act 344 = .ok (.istore 7, 2) := by decide +kernel
theorem d_S_act_346 : decode c_S_act 346 = .ok (.goto 46, 3) := by decide +kernel
theorem d_S_act_349 : decode c_S_act 349 = .ok (.iload_n 3, 1) := by decide +kernel
theorem d_S_act_350 : decode c_S_act 350 = .ok (.bipush 115, 2) := by decide +kernel
theorem d_S_act_352 : decode c_S_act 352 = .ok (.if_icmp .ne 40, 3) := by decide +kernel
theorem d_S_act_355 : decode c_S_act 355 = .ok (.iload_n 2, 1) := by decide +kernel
theorem d_S_act_356 : decode c_S_act 356 = .ok (.iconst (-1), 1) := by decide +kernel
theorem d_S_act_357 : decode c_S_act 357 = .ok (.if_icmp .eq 35, 3) := by decide +kernel
theorem d_S_act_360 : decode c_S_act 360 = .ok (.aload_n 0, 1) := by decide +kernel
theorem d_S_act_361 : decode c_S_act 361 = .ok (.getfield 15, 3) := by decide +kernel
theorem d_S_act_364 : decode c_S_act 364 = .ok (.iload_n 2, 1) := by decide +kernel
theorem d_S_act_365 : decode c_S_act 365 = .ok (.iaload, 1) := by decide +kernel
theorem d_S_act_366 : decode c_S_act 366 = .ok (.istore 4, 2) := by decide +kernel
theorem d_S_act_368 : decode c_S_act 368 = .ok (.aload_n 0, 1) := by decide +kernel
theorem d_S_act_369 : decode c_S_act 369 = .ok (.getfield 19, 3) := by decide +kernel
theorem d_S_act_372 : decode c_S_act 372 = .ok (.iload_n 2, 1) := by decide +kernel
theorem d_S_act_373 : decode c_S_act 373 = .ok (.iaload, 1) := by decide +kernel
theorem d_S_act_374 : decode c_S_act 374 = .ok (.istore 5, 2) := by decide +kernel
theorem d_S_act_376 : decode c_S_act 376 = .ok (.aload_n 0, 1) := by decide +kernel
theorem d_S_act_377 : decode c_S_act 377 = .ok (.getfield 15, 3) := by decide +kernel
theorem d_S_act_380 : decode c_S_act 380 = .ok (.iload_n 1, 1) := by decide +kernel
theorem d_S_act_381 : decode c_S_act 381 = .ok (.iaload, 1) := by decide +kernel
theorem d_S_act_382 : decode c_S_act 382 = .ok (.istore 6, 2) := by decide +kernel
theorem d_S_act_384 : decode c_S_act 384 = .ok (.aload_n 0, 1) := by decide +kernel
theorem d_S_act_385 : decode c_S_act 385 = .ok (.getfield 19, 3) := by decide +kernel
theorem d_S_act_388 : decode c_S_act 388 = .ok (.iload_n 1, 1) := by decide +kernel
theorem d_S_act_389 : decode c_S_act 389 = .ok (.iaload, 1) := by decide +kernel
theorem d_S_act_390 : decode c_S_act 390 = .ok (.istore 7, 2) := by decide +kernel
theorem d_S_act_392 : decode c_S_act 392 = .ok (.aload_n 0, 1) := by decide +kernel
theorem d_S_act_393 : decode c_S_act 393 = .ok (.iload 4, 2) := by decide +kernel
theorem d_S_act_395 : decode c_S_act 395 = .ok (.iload 5, 2) := by decide +kernel
theorem d_S_act_397 : decode c_S_act 397 = .ok (.iload_n 1, 1) := by decide +kernel
theorem d_S_act_398 : decode c_S_act 398 = .ok (.iload_n 2, 1) := by decide +kernel
theorem d_S_act_399 : decode c_S_act 399 = .ok (.invokevirtual 118, 3) := by decide +kernel
theorem d_S_act_402 : decode c_S_act 402 = .ok (.iload_n 2, 1) := by decide +kernel
theorem d_S_act_403 : decode c_S_act 403 = .ok (.iconst (-1), 1) := by decide +kernel
theorem d_S_act_404 : decode c_S_act 404 = .ok (.if_icmp .eq 16, 3) := by decide +kernel
theorem d_S_act_407 : decode c_S_act 407 = .ok (.aload_n 0, 1) := by decide +kernel
theorem d_S_act_408 : decode c_S_act 408 = .ok (.iload 6, 2) := by decide +kernel
theorem d_S_act_410 : decode c_S_act 410 = .ok (.iload 7, 2) := by decide +kernel
theorem d_S_act_412 : decode c_S_act 412 = .ok (.iload_n 1, 1) := by decide +kernel
theorem d_S_act_413 : decode c_S_act 413 = .ok (.iload_n 2, 1) := by decide +kernel
theorem d_S_act_414 : decode c_S_act 414 = .ok (.invokevirtual 118, 3) := by decide +kernel
theorem d_S_act_417 : decode c_S_act 417 = .ok (.ifCond .eq 7, 3) := by decide +kernel
theorem d_S_act_420 : decode c_S_act 420 = .ok (.iconst 1, 1) := by decide +kernel
theorem d_S_act_421 : decode c_S_act 421 = .ok (.goto 4, 3) := by decide +kernel
theorem d_S_act_424 : decode c_S_act 424 = .ok (.iconst 0, 1) := by decide +kernel
theorem d_S_act_425 : decode c_S_act 425 = .ok (.iand, 1) := by decide +kernel
theorem d_S_act_426 : decode c_S_act 426 = .ok (.istore 10, 2) := by decide +kernel
theorem d_S_act_428 : decode c_S_act 428 = .ok (.iload 10, 2) := by decide +kernel
theorem d_S_act_430 : decode c_S_act 430 = .ok (.ifCond .ne 44, 3) := by decide +kernel
theorem d_S_act_433 : decode c_S_act 433 = .ok (.aload_n 0, 1) := by decide +kernel
theorem d_S_act_434 : decode c_S_act 434 = .ok (.iload 4, 2) := by decide +kernel
theorem d_S_act_436 : decode c_S_act 436 = .ok (.iload 5, 2) := by decide +kernel
theorem d_S_act_438 : decode c_S_act 438 = .ok (.iload_n 1, 1) := by decide +kernel
theorem d_S_act_439 : decode c_S_act 439 = .ok (.iload_n 2, 1) := by decide +kernel
theorem d_S_act_440 : decode c_S_act 440 = .ok (.invokevirtual 122, 3) := by decide +kernel
theorem d_S_act_443 : decode c_S_act 443 = .ok (.iload_n 2, 1) := by decide +kernel
theorem d_S_act_444 : decode c_S_act 444 = .ok (.iconst (-1), 1) := by decide +kernel
theorem d_S_act_445 : decode c_S_act 445 = .ok (.if_icmp .eq 13, 3) := by decide +kernel
theorem d_S_act_448 : decode c_S_act 448 = .ok (.aload_n 0, 1) := by decide +kernel
theorem d_S_act_449 : decode c_S_act 449 = .ok (.iload 6, 2) := by decide +kernel
theorem d_S_act_451 : decode c_S_act 451 = .ok (.iload 7, 2) := by decide +kernel
theorem d_S_act_453 : decode c_S_act 453 = .ok (.iload_n 1, 1) := by decide +kernel
theorem d_S_act_454 : decode c_S_act 454 = .ok (.iload_n 2, 1) := by decide +kernel
theorem d_S_act_455 : decode c_S_act 455 = .ok (.invokevirtual 122, 3) := by decide +kernel
theorem d_S_act_458 : decode c_S_act 458 = .ok (.aload_n 0, 1) := by decide +kernel
theorem d_S_act_459 : decode c_S_act 459 = .ok (.iload_n 1, 1) := by decide +kernel
theorem d_S_act_460 : decode c_S_act 460 = .ok (.invokevirtual 126, 3) := by decide +kernel
theorem d_S_act_463 : decode c_S_act 463 = .ok (.iload_n 2, 1) := by decide +kernel
theorem d_S_act_464 : decode c_S_act 464 = .ok (.iconst (-1), 1) := by decide +kernel
theorem d_S_act_465 : decode c_S_act 465 = .ok (.if_icmp .eq 8, 3) := by decide +kernel
theorem d_S_act_468 : decode c_S_act 468 = .ok (.aload_n 0, 1) := by decide +kernel
theorem d_S_act_469 : decode c_S_act 469 = .ok (.iload_n 2, 1) := by decide +kernel
theorem d_S_act_470 : decode c_S_act 470 = .ok (.invokevirtual 126, 3) := by decide +kernel
theorem d_S_act_473 : decode c_S_act 473 = .ok (.return_, 1) := by decide +kernel
theorem d_S_act_474 : decode c_S_act 474 = .ok (.aload_n 0, 1) := by decide +kernel
theorem d_S_act_475 : decode c_S_act 475 = .ok (.iload_n 1, 1) := by decide +kernel
theorem d_S_act_476 : decode c_S_act 476 = .ok (.iload 4, 2) := by decide +kernel
theorem d_S_act_478 : decode c_S_act 478 = .ok (.iload 5, 2) := by decide +kernel
theorem d_S_act_480 : decode c_S_act 480 = .ok (.iload 8, 2) := by decide +kernel
theorem d_S_act_482 : decode c_S_act 482 = .ok (.invokevirtual 129, 3) := by decide +kernel
theorem d_S_act_485 : decode c_S_act 485 = .ok (.iload_n 2, 1) := by decide +kernel
theorem d_S_act_486 : decode c_S_act 486 = .ok (.iconst (-1), 1) := by decide +kernel
theorem d_S_act_487 : decode c_S_act 487 = .ok (.if_icmp .eq 14, 3) := by decide +kernel
theorem d_S_act_490 : decode c_S_act 490 = .ok (.aload_n 0, 1) := by decide +kernel
theorem d_S_act_491 : decode c_S_act 491 = .ok (.iload_n 2, 1) := by decide +kernel
theorem d_S_act_492 : decode c_S_act 492 = .ok (.iload 6, 2) := by decide +kernel
theorem d_S_act_494 : decode c_S_act 494 = .ok (.iload 7, 2) := by decide +kernel
theorem d_S_act_496 : decode c_S_act 496 = .ok (.iload 8, 2) := by decide +kernel
theorem d_S_act_498 : decode c_S_act 498 = .ok (.invokevirtual 129, 3) := by decide +kernel
theorem d_S_act_501 : decode c_S_act 501 = .ok (.return_, 1) := by decide +kernel
theorem d_S_isFree_0 : decode c_S_isFree 0 = .ok (.aload_n 0, 1) := by decide +kernel
theorem d_S_isFree_1 : decode c_S_isFree 1 = .ok (.iload_n 1, 1) := by decide +kernel
theorem d_S_isFree_2 : decode c_S_isFree 2 = .ok (.iload_n 2, 1) := by decide +kernel
theorem d_S_isFree_3 : decode c_S_isFree 3 = .ok (.invokevirtual 132, 3) := by decide +kernel
theorem d_S_isFree_6 : decode c_S_isFree 6 = .ok (.istore 5, 2) := by decide +kernel
theorem d_S_isFree_8 : decode c_S_isFree 8 = .ok (.iload_n 1, 1) := by decide +kernel
theorem d_S_isFree_9 : decode c_S_isFree 9 = .ok (.iconst 0, 1) := by decide +kernel
theorem d_S_isFree_10 : decode c_S_isFree 10 = .ok (.bipush 15, 2) := by decide +kernel
theorem d_S_isFree_12 : decode c_S_isFree 12 = .ok (.invokestatic 135, 3) := by decide +kernel
theorem d_S_isFree_15 : decode c_S_isFree 15 = .ok (.ifCond .eq 36, 3) := by decide +kernel
theorem d_S_isFree_18 : decode c_S_isFree 18 = .ok (.iload_n 2, 1) := by decide +kernel
theorem d_S_isFree_19 : decode c_S_isFree 19 = .ok (.iconst 0, 1) := by decide +kernel
theorem d_S_isFree_20 : decode c_S_isFree 20 = .ok (.bipush 15, 2) := by decide +kernel
theorem d_S_isFree_22 : decode c_S_isFree 22 = .ok (.invokestatic 135, 3) := by decide +kernel
theorem d_S_isFree_25 : decode c_S_isFree 25 = .ok (.ifCond .eq 26, 3) := by decide +kernel
theorem d_S_isFree_28 : decode c_S_isFree 28 = .ok (.iload 5, 2) := by decide +kernel
theorem d_S_isFree_30 : decode c_S_isFree 30 = .ok (.iconst (-1), 1) := by decide +kernel
theorem d_S_isFree_31 : decode c_S_isFree 31 = .ok (.if_icmp .eq 16, 3) := by decide +kernel
theorem d_S_isFree_34 : decode c_S_isFree 34 = .ok (.iload 5, 2) := by decide +kernel
theorem d_S_isFree_36 : decode c_S_isFree 36 = .ok (.iload_n 3, 1) := by decide +kernel
theorem d_S_isFree_37 : decode c_S_isFree 37 = .ok (.if_icmp .eq 10, 3) := by decide +kernel
theorem d_S_isFree_40 : decode c_S_isFree 40 = .ok (.iload 5, 2) := by decide +kernel
theorem d_S_isFree_42 : decode c_S_isFree 42 = .ok (.iload 4, 2) := by decide +kernel
theorem d_S_isFree_44 : decode c_S_isFree 44 = .ok (.if_icmp .ne 7, 3) := by decide +kernel
theorem d_S_isFree_47 : decode c_S_isFree 47 = .ok (.iconst 1, 1) := by decide +kernel
theorem d_S_isFree_48 : decode c_S_isFree 48 = .ok (.goto 4, 3) := by decide +kernel
theorem d_S_isFree_51 : decode c_S_isFree 51 = .ok (.iconst 0, 1) := by decide +kernel
theorem d_S_isFree_52 : decode c_S_isFree 52 = .ok (.ireturn, 1) := by decide +kernel
theorem d_S_bump_0 : decode c_S_bump 0 = .ok (.aload_n 0, 1) := by decide +kernel
theorem d_S_bump_1 : decode c_S_bump 1 = .ok (.iload_n 1, 1) := by decide +kernel
theorem d_S_bump_2 : decode c_S_bump 2 = .ok (.iload_n 2, 1) := by decide +kernel
theorem d_S_bump_3 : decode c_S_bump 3 = .ok (.invokevirtual 132, 3) := by decide +kernel
theorem d_S_bump_6 : decode c_S_bump 6 = .ok (.istore 5, 2) := by decide +kernel
theorem d_S_bump_8 : decode c_S_bump 8 = .ok (.iload 5, 2) := by decide +kernel
theorem d_S_bump_10 : decode c_S_bump 10 = .ok (.iconst (-1), 1) := by decide +kernel
theorem d_S_bump_11 : decode c_S_bump 11 = .ok (.if_icmp .eq 22, 3) := by decide +kernel
theorem d_S_bump_14 : decode c_S_bump 14 = .ok (.iload 5, 2) := by decide +kernel
theorem d_S_bump_16 : decode c_S_bump 16 = .ok (.iload_n 3, 1) := by decide +kernel
theorem d_S_bump_17 : decode c_S_bump 17 = .ok (.if_icmp .eq 16, 3) := by decide +kernel
theorem d_S_bump_20 : decode c_S_bump 20 = .ok (.iload 5, 2) := by decide +kernel
theorem d_S_bump_22 : decode c_S_bump 22 = .ok (.iload 4, 2) := by decide +kernel
theorem d_S_bump_24 : decode c_S_bump 24 = .ok (.if_icmp .eq 9, 3) := by decide +kernel
theorem d_S_bump_27 : decode c_S_bump 27 = .ok (.aload_n 0, 1) := by decide +kernel
theorem d_S_bump_28 : decode c_S_bump 28 = .ok (.iload 5, 2) := by decide +kernel
theorem d_S_bump_30 : decode c_S_bump 30 = .ok (.invokevirtual 126, 3) := by decide +kernel
theorem d_S_bump_33 : decode c_S_bump 33 = .ok (.return_, 1) := by decide +kernel
theorem d_S_hit_0 : decode c_S_hit 0 = .ok (.aload_n 0, 1) := by decide +kernel
theorem d_S_hit_1 : decode c_S_hit 1 = .ok (.getfield 44, 3) := by decide +kernel
theorem d_S_hit_4 : decode c_S_hit 4 = .ok (.iload_n 1, 1) := by decide +kernel
theorem d_S_hit_5 : decode c_S_hit 5 = .ok (.iconst 3, 1) := by decide +kernel
theorem d_S_hit_6 : decode c_S_hit 6 = .ok (.iastore, 1) := by decide +kernel
theorem d_S_hit_7 : decode c_S_hit 7 = .ok (.aload_n 0, 1) := by decide +kernel
theorem d_S_hit_8 : decode c_S_hit 8 = .ok (.getfield 50, 3) := by decide +kernel
theorem d_S_hit_11 : decode c_S_hit 11 = .ok (.iload_n 1, 1) := by decide +kernel
theorem d_S_hit_12 : decode c_S_hit 12 = .ok (.dup2, 1) := by decide +kernel
theorem d_S_hit_13 : decode c_S_hit 13 = .ok (.iaload, 1) := by decide +kernel
theorem d_S_hit_14 : decode c_S_hit 14 = .ok (.iconst 1, 1) := by decide +kernel
theorem d_S_hit_15 : decode c_S_hit 15 = .ok (.iadd, 1) := by decide +kernel
theorem d_S_hit_16 : decode c_S_hit 16 = .ok (.iastore, 1) := by decide +kernel
theorem d_S_hit_17 : decode c_S_hit 17 = .ok (.return_, 1) := by decide +kernel
theorem d_S_finish_0 : decode c_S_finish 0 = .ok (.aload_n 0, 1) := by decide +kernel
theorem d_S_finish_1 : decode c_S_finish 1 = .ok (.getfield 15, 3) := by decide +kernel
theorem d_S_finish_4 : decode c_S_finish 4 = .ok (.iload_n 1, 1) := by decide +kernel
theorem d_S_finish_5 : decode c_S_finish 5 = .ok (.iload_n 2, 1) := by decide +kernel
theorem d_S_finish_6 : decode c_S_finish 6 = .ok (.iastore, 1) := by decide +kernel
theorem d_S_finish_7 : decode c_S_finish 7 = .ok (.aload_n 0, 1) := by decide +kernel
theorem d_S_finish_8 : decode c_S_finish 8 = .ok (.getfield 19, 3) := by decide +kernel
theorem d_S_finish_11 : decode c_S_finish 11 = .ok (.iload_n 1, 1) := by decide +kernel
theorem d_S_finish_12 : decode c_S_finish 12 = .ok (.iload_n 3, 1) := by decide +kernel
theorem d_S_finish_13 : decode c_S_finish 13 = .ok (.iastore, 1) := by decide +kernel
theorem d_S_finish_14 : decode c_S_finish 14 = .ok (.aload_n 0, 1) := by decide +kernel
theorem d_S_finish_15 : decode c_S_finish 15 = .ok (.getfield 22, 3) := by decide +kernel
theorem d_S_finish_18 : decode c_S_finish 18 = .ok (.iload_n 1, 1) := by decide +kernel
theorem d_S_finish_19 : decode c_S_finish 19 = .ok (.aload_n 0, 1) := by decide +kernel
theorem d_S_finish_20 : decode c_S_finish 20 = .ok (.getfield 22, 3) := by decide +kernel
theorem d_S_finish_23 : decode c_S_finish 23 = .ok (.iload_n 1, 1) := by decide +kernel
theorem d_S_finish_24 : decode c_S_finish 24 = .ok (.iaload, 1) := by decide +kernel
theorem d_S_finish_25 : decode c_S_finish 25 = .ok (.iload 4, 2) := by decide +kernel
theorem d_S_finish_27 : decode c_S_finish 27 = .ok (.iadd, 1) := by decide +kernel
theorem d_S_finish_28 : decode c_S_finish 28 = .ok (.iconst 4, 1) := by decide +kernel
theorem d_S_finish_29 : decode c_S_finish 29 = .ok (.irem, 1) := by decide +kernel
theorem d_S_finish_30 : decode c_S_finish 30 = .ok (.iastore, 1) := by decide +kernel
theorem d_S_finish_31 : decode c_S_finish 31 = .ok (.aload_n 0, 1) := by decide +kernel
theorem d_S_finish_32 : decode c_S_finish 32 = .ok (.getfield 25, 3) := by decide +kernel
theorem d_S_finish_35 : decode c_S_finish 35 = .ok (.iload_n 1, 1) := by decide +kernel
theorem d_S_finish_36 : decode c_S_finish 36 = .ok (.dup2, 1) := by decide +kernel
theorem d_S_finish_37 : decode c_S_finish 37 = .ok (.iaload, 1) := by decide +kernel
theorem d_S_finish_38 : decode c_S_finish 38 = .ok (.aload_n 0, 1) := by decide +kernel
theorem d_S_finish_39 : decode c_S_finish 39 = .ok (.getfield 28, 3) := by decide +kernel
theorem d_S_finish_42 : decode c_S_finish 42 = .ok (.iload_n 1, 1) := by decide +kernel
theorem d_S_finish_43 : decode c_S_finish 43 = .ok (.iaload, 1) := by decide +kernel
theorem d_S_finish_44 : decode c_S_finish 44 = .ok (.isub, 1) := by decide +kernel
theorem d_S_finish_45 : decode c_S_finish 45 = .ok (.iastore, 1) := by decide +kernel
theorem d_S_finish_46 : decode c_S_finish 46 = .ok (.aload_n 0, 1) := by decide +kernel
theorem d_S_finish_47 : decode c_S_finish 47 = .ok (.getfield 47, 3) := by decide +kernel
theorem d_S_finish_50 : decode c_S_finish 50 = .ok (.iload_n 1, 1) := by decide +kernel
theorem d_S_finish_51 : decode c_S_finish 51 = .ok (.dup2, 1) := by decide +kernel
theorem d_S_finish_52 : decode c_S_finish 52 = .ok (.iaload, 1) := by decide +kernel
theorem d_S_finish_53 : decode c_S_finish 53 = .ok (.iconst 1, 1) := by decide +kernel
theorem d_S_finish_54 : decode c_S_finish 54 = .ok (.iadd, 1) := by decide +kernel
theorem d_S_finish_55 : decode c_S_finish 55 = .ok (.iastore, 1) := by decide +kernel
theorem d_S_finish_56 : decode c_S_finish 56 = .ok (.return_, 1) := by decide +kernel
theorem d_S_go_0 : decode c_S_go 0 = .ok (.bipush 6, 2) := by decide +kernel
theorem d_S_go_2 : decode c_S_go 2 = .ok (.iload_n 1, 1) := by decide +kernel
theorem d_S_go_3 : decode c_S_go 3 = .ok (.imul, 1) := by decide +kernel
theorem d_S_go_4 : decode c_S_go 4 = .ok (.istore_n 2, 1) := by decide +kernel
theorem d_S_go_5 : decode c_S_go 5 = .ok (.aload_n 0, 1) := by decide +kernel
theorem d_S_go_6 : decode c_S_go 6 = .ok (.getfield 56, 3) := by decide +kernel
theorem d_S_go_9 : decode c_S_go 9 = .ok (.bipush 8, 2) := by decide +kernel
theorem d_S_go_11 : decode c_S_go 11 = .ok (.iload_n 1, 1) := by decide +kernel
theorem d_S_go_12 : decode c_S_go 12 = .ok (.imul, 1) := by decide +kernel
theorem d_S_go_13 : decode c_S_go 13 = .ok (.aload_n 0, 1) := by decide +kernel
theorem d_S_go_14 : decode c_S_go 14 = .ok (.getfield 53, 3) := by decide +kernel
theorem d_S_go_17 : decode c_S_go 17 = .ok (.iload_n 2, 1) := by decide +kernel
theorem d_S_go_18 : decode c_S_go 18 = .ok (.iconst 4, 1) := by decide +kernel
theorem d_S_go_19 : decode c_S_go 19 = .ok (.iadd, 1) := by decide +kernel
theorem d_S_go_20 : decode c_S_go 20 = .ok (.iaload, 1) := by decide +kernel
theorem d_S_go_21 : decode c_S_go 21 = .ok (.iadd, 1) := by decide +kernel
theorem d_S_go_22 : decode c_S_go 22 = .ok (.iaload, 1) := by decide +kernel
theorem d_S_go_23 : decode c_S_go 23 = .ok (.istore_n 3, 1) := by decide +kernel
theorem d_S_go_24 : decode c_S_go 24 = .ok (.aload_n 0, 1) := by decide +kernel
theorem d_S_go_25 : decode c_S_go 25 = .ok (.getfield 15, 3) := by decide +kernel
theorem d_S_go_28 : decode c_S_go 28 = .ok (.iload_n 3, 1) := by decide +kernel
theorem d_S_go_29 : decode c_S_go 29 = .ok (.iaload, 1) := by decide +kernel
theorem d_S_go_30 : decode c_S_go 30 = .ok (.aload_n 0, 1) := by decide +kernel
theorem d_S_go_31 : decode c_S_go 31 = .ok (.getfield 53, 3) := by decide +kernel
theorem d_S_go_34 : decode c_S_go 34 = .ok (.iload_n 2, 1) := by decide +kernel
theorem d_S_go_35 : decode c_S_go 35 = .ok (.iaload, 1) := by decide +kernel
theorem d_S_go_36 : decode c_S_go 36 = .ok (.isub, 1) := by decide +kernel
theorem d_S_go_37 : decode c_S_go 37 = .ok (.istore 4, 2) := by decide +kernel
theorem d_S_go_39 : decode c_S_go 39 = .ok (.aload_n 0, 1) := by decide +kernel
theorem d_S_go_40 : decode c_S_go 40 = .ok (.getfield 19, 3) := by decide +kernel
theorem d_S_go_43 : decode c_S_go 43 = .ok (.iload_n 3, 1) := by decide +kernel
theorem d_S_go_44 : decode c_S_go 44 = .ok (.iaload, 1) := by decide +kernel
theorem d_S_go_45 : decode c_S_go 45 = .ok (.aload_n 0, 1) := by decide +kernel
theorem d_S_go_46 : decode c_S_go 46 = .ok (.getfield 53, 3) := by decide +kernel
theorem d_S_go_49 : decode c_S_go 49 = .ok (.iload_n 2, 1) := by decide +kernel
theorem d_S_go_50 : decode c_S_go 50 = .ok (.iconst 1, 1) := by decide +kernel
theorem d_S_go_51 : decode c_S_go 51 = .ok (.iadd, 1) := by decide +kernel
theorem d_S_go_52 : decode c_S_go 52 = .ok (.iaload, 1) := by decide +kernel
theorem d_S_go_53 : decode c_S_go 53 = .ok (.isub, 1) := by decide +kernel
theorem d_S_go_54 : decode c_S_go 54 = .ok (.istore 5, 2) := by decide +kernel
theorem d_S_go_56 : decode c_S_go 56 = .ok (.iload 4, 2) := by decide +kernel
theorem d_S_go_58 : decode c_S_go 58 = .ok (.invokestatic 79, 3) := by decide +kernel
theorem d_S_go_61 : decode c_S_go 61 = .ok (.iload 5, 2) := by decide +kernel
theorem d_S_go_63 : decode c_S_go 63 = .ok (.invokestatic 79, 3) := by decide +kernel
theorem d_S_go_66 : decode c_S_go 66 = .ok (.iadd, 1) := by decide +kernel
theorem d_S_go_67 : decode c_S_go 67 = .ok (.iconst 2, 1) := by decide +kernel
theorem d_S_go_68 : decode c_S_go 68 = .ok (.if_icmp .ge 7, 3) := by decide +kernel
theorem d_S_go_71 : decode c_S_go 71 = .ok (.iconst 1, 1) := by decide +kernel
theorem d_S_go_72 : decode c_S_go 72 = .ok (.goto 4, 3) := by decide +kernel
theorem d_S_go_75 : decode c_S_go 75 = .ok (.iconst 0, 1) := by decide +kernel
theorem d_S_go_76 : decode c_S_go 76 = .ok (.istore 6, 2) := by decide +kernel
theorem d_S_go_78 : decode c_S_go 78 = .ok (.aload_n 0, 1) := by decide +kernel
theorem d_S_go_79 : decode c_S_go 79 = .ok (.getfield 25, 3) := by decide +kernel
theorem d_S_go_82 : decode c_S_go 82 = .ok (.iload_n 3, 1) := by decide +kernel
theorem d_S_go_83 : decode c_S_go 83 = .ok (.iaload, 1) := by decide +kernel
theorem d_S_go_84 : decode c_S_go 84 = .ok (.sipush 150, 3) := by decide +kernel
theorem d_S_go_87 : decode c_S_go 87 = .ok (.if_icmp .ge 47, 3) := by decide +kernel
theorem d_S_go_90 : decode c_S_go 90 = .ok (.iload 6, 2) := by decide +kernel
theorem d_S_go_92 : decode c_S_go 92 = .ok (.ifCond .ne 42, 3) := by decide +kernel
theorem d_S_go_95 : decode c_S_go 95 = .ok (.iload 4, 2) := by decide +kernel
theorem d_S_go_97 : decode c_S_go 97 = .ok (.ifCond .eq 20, 3) := by decide +kernel
theorem d_S_go_100 : decode c_S_go 100 = .ok (.aload_n 0, 1) := by decide +kernel
theorem d_S_go_101 : decode c_S_go 101 = .ok (.getfield 53, 3) := by decide +kernel
theorem d_S_go_104 : decode c_S_go 104 = .ok (.iload_n 2, 1) := by decide +kernel
theorem d_S_go_105 : decode c_S_go 105 = .ok (.dup2, 1) := by decide +kernel
theorem d_S_go_106 : decode c_S_go 106 = .ok (.iaload, 1) := by decide +kernel
theorem d_S_go_107 : decode c_S_go 107 = .ok (.iload 4, 2) := by decide +kernel
theorem d_S_go_109 : decode c_S_go 109 = .ok (.invokestatic 139, 3) := by decide +kernel
theorem d_S_go_112 : decode c_S_go 112 = .ok (.iadd, 1) := by decide +kernel
theorem d_S_go_113 : decode c_S_go 113 = .ok (.iastore, 1) := by decide +kernel
theorem d_S_go_114 : decode c_S_go 114 = .ok (.goto 19, 3) := by decide +kernel
theorem d_S_go_117 : decode c_S_go 117 = .ok (.aload_n 0, 1) := by decide +kernel
theorem d_S_go_118 : decode c_S_go 118 = .ok (.getfield 53, 3) := by decide +kernel
theorem d_S_go_121 : decode c_S_go 121 = .ok (.iload_n 2, 1) := by decide +kernel
theorem d_S_go_122 : decode c_S_go 122 = .ok (.iconst 1, 1) := by decide +kernel
theorem d_S_go_123 : decode c_S_go 123 = .ok (.iadd, 1) := by decide +kernel
theorem d_S_go_124 : decode c_S_go 124 = .ok (.dup2, 1) := by decide +kernel
theorem d_S_go_125 : decode c_S_go 125 = .ok (.iaload, 1) := by decide +kernel
theorem d_S_go_126 : decode c_S_go 126 = .ok (.iload 5, 2) := by decide +kernel
theorem d_S_go_128 : decode c_S_go 128 = .ok (.invokestatic 139, 3) := by decide +kernel
theorem d_S_go_131 : decode c_S_go 131 = .ok (.iadd, 1) := by decide +kernel
theorem d_S_go_132 : decode c_S_go 132 = .ok (.iastore, 1) := by decide +kernel
theorem d_S_go_133 : decode c_S_go 133 = .ok (.return_, 1) := by decide +kernel
theorem d_S_go_134 : decode c_S_go 134 = .ok (.aload_n 0, 1) := by decide +kernel
theorem d_S_go_135 : decode c_S_go 135 = .ok (.getfield 25, 3) := by decide +kernel
theorem d_S_go_138 : decode c_S_go 138 = .ok (.iload_n 3, 1) := by decide +kernel
theorem d_S_go_139 : decode c_S_go 139 = .ok (.iaload, 1) := by decide +kernel
theorem d_S_go_140 : decode c_S_go 140 = .ok (.sipush 150, 3) := by decide +kernel
theorem d_S_go_143 : decode c_S_go 143 = .ok (.if_icmp .ge 42, 3) := by decide +kernel
theorem d_S_go_146 : decode c_S_go 146 = .ok (.aload_n 0, 1) := by decide +kernel
theorem d_S_go_147 : decode c_S_go 147 = .ok (.getfield 25, 3) := by decide +kernel
theorem d_S_go_150 : decode c_S_go 150 = .ok (.iload_n 3, 1) := by decide +kernel
theorem d_S_go_151 : decode c_S_go 151 = .ok (.sipush 200, 3) := by decide +kernel
theorem d_S_go_154 : decode c_S_go 154 = .ok (.aload_n 0, 1) := by decide +kernel
theorem d_S_go_155 : decode c_S_go 155 = .ok (.getfield 25, 3) := by decide +kernel
theorem d_S_go_158 : decode c_S_go 158 = .ok (.iload_n 3, 1) := by decide +kernel
theorem d_S_go_159 : decode c_S_go 159 = .ok (.iaload, 1) := by decide +kernel
theorem d_S_go_160 : decode c_S_go 160 = .ok (.aload_n 0, 1) := by decide +kernel
theorem d_S_go_161 : decode c_S_go 161 = .ok (.getfield 53, 3) := by decide +kernel
theorem d_S_go_164 : decode c_S_go 164 = .ok (.iload_n 2, 1) := by decide +kernel
theorem d_S_go_165 : decode c_S_go 165 = .ok (.iconst 2, 1) := by decide +kernel
theorem d_S_go_166 : decode c_S_go 166 = .ok (.iadd, 1) := by decide +kernel
theorem d_S_go_167 : decode c_S_go 167 = .ok (.iaload, 1) := by decide +kernel
theorem d_S_go_168 : decode c_S_go 168 = .ok (.iadd, 1) := by decide +kernel
theorem d_S_go_169 : decode c_S_go 169 = .ok (.invokestatic 144, 3) := by decide +kernel
theorem d_S_go_172 : decode c_S_go 172 = .ok (.iastore, 1) := by decide +kernel
theorem d_S_go_173 : decode c_S_go 173 = .ok (.aload_n 0, 1) := by decide +kernel
theorem d_S_go_174 : decode c_S_go 174 = .ok (.getfield 53, 3) := by decide +kernel
theorem d_S_go_177 : decode c_S_go 177 = .ok (.iload_n 2, 1) := by decide +kernel
theorem d_S_go_178 : decode c_S_go 178 = .ok (.iconst 5, 1) := by decide +kernel
theorem d_S_go_179 : decode c_S_go 179 = .ok (.iadd, 1) := by decide +kernel
theorem d_S_go_180 : decode c_S_go 180 = .ok (.dup2, 1) := by decide +kernel
theorem d_S_go_181 : decode c_S_go 181 = .ok (.iaload, 1) := by decide +kernel
theorem d_S_go_182 : decode c_S_go 182 = .ok (.iconst 1, 1) := by decide +kernel
theorem d_S_go_183 : decode c_S_go 183 = .ok (.iadd, 1) := by decide +kernel
theorem d_S_go_184 : decode c_S_go 184 = .ok (.iastore, 1) := by decide +kernel
theorem d_S_go_185 : decode c_S_go 185 = .ok (.aload_n 0, 1) := by decide +kernel
theorem d_S_go_186 : decode c_S_go 186 = .ok (.getfield 53, 3) := by decide +kernel
theorem d_S_go_189 : decode c_S_go 189 = .ok (.iload_n 2, 1) := by decide +kernel
theorem d_S_go_190 : decode c_S_go 190 = .ok (.iconst 4, 1) := by decide +kernel
theorem d_S_go_191 : decode c_S_go 191 = .ok (.iadd, 1) := by decide +kernel
theorem d_S_go_192 : decode c_S_go 192 = .ok (.aload_n 0, 1) := by decide +kernel
theorem d_S_go_193 : decode c_S_go 193 = .ok (.getfield 53, 3) := by decide +kernel
theorem d_S_go_196 : decode c_S_go 196 = .ok (.iload_n 2, 1) := by decide +kernel
theorem d_S_go_197 : decode c_S_go 197 = .ok (.iconst 4, 1) := by decide +kernel
theorem d_S_go_198 : decode c_S_go 198 = .ok (.iadd, 1) := by decide +kernel
theorem d_S_go_199 : decode c_S_go 199 = .ok (.iaload, 1) := by decide +kernel
theorem d_S_go_200 : decode c_S_go 200 = .ok (.iconst 1, 1) := by decide +kernel
theorem d_S_go_201 : decode c_S_go 201 = .ok (.iadd, 1) := by decide +kernel
theorem d_S_go_202 : decode c_S_go 202 = .ok (.aload_n 0, 1) := by decide +kernel
theorem d_S_go_203 : decode c_S_go 203 = .ok (.getfield 53, 3) := by decide +kernel
theorem d_S_go_206 : decode c_S_go 206 = .ok (.iload_n 2, 1) := by decide +kernel
theorem d_S_go_207 : decode c_S_go 207 = .ok (.iconst 3, 1) := by decide +kernel
theorem d_S_go_208 : decode c_S_go 208 = .ok (.iadd, 1) := by decide +kernel
theorem d_S_go_209 : decode c_S_go 209 = .ok (.iaload, 1) := by decide +kernel
theorem d_S_go_210 : decode c_S_go 210 = .ok (.irem, 1) := by decide +kernel
theorem d_S_go_211 : decode c_S_go 211 = .ok (.iastore, 1) := by decide +kernel
theorem d_S_go_212 : decode c_S_go 212 = .ok (.return_, 1) := by decide +kernel
theorem d_S_sum_0 : decode c_S_sum 0 = .ok (.iconst 0, 1) := by decide +kernel
theorem d_S_sum_1 : decode c_S_sum 1 = .ok (.istore_n 2, 1) := by decide +kernel
theorem d_S_sum_2 : decode c_S_sum 2 = .ok (.iconst 0, 1) := by decide +kernel
theorem d_S_sum_3 : decode c_S_sum 3 = .ok (.istore_n 3, 1) := by decide +kernel
theorem d_S_sum_4 : decode c_S_sum 4 = .ok (.iload_n 3, 1) := by decide +kernel
theorem d_S_sum_5 : decode c_S_sum 5 = .ok (.aload_n 0, 1) := by decide +kernel
theorem d_S_sum_6 : decode c_S_sum 6 = .ok (.getfield 69, 3) := by decide +kernel
theorem d_S_sum_9 : decode c_S_sum 9 = .ok (.if_icmp .ge 113, 3) := by decide +kernel
theorem d_S_sum_12 : decode c_S_sum 12 = .ok (.iload_n 2, 1) := by decide +kernel
theorem d_S_sum_13 : decode c_S_sum 13 = .ok (.iload_n 1, 1) := by decide +kernel
theorem d_S_sum_14 : decode c_S_sum 14 = .ok (.iconst 2, 1) := by decide +kernel
theorem d_S_sum_15 : decode c_S_sum 15 = .ok (.if_icmp .ne 20, 3) := by decide +kernel
theorem d_S_sum_18 : decode c_S_sum 18 = .ok (.aload_n 0, 1) := by decide +kernel
theorem d_S_sum_19 : decode c_S_sum 19 = .ok (.getfield 40, 3) := by decide +kernel
theorem d_S_sum_22 : decode c_S_sum 22 = .ok (.iload_n 3, 1) := by decide +kernel
theorem d_S_sum_23 : decode c_S_sum 23 = .ok (.baload, 1) := by decide +kernel
theorem d_S_sum_24 : decode c_S_sum 24 = .ok (.ifCond .eq 7, 3) := by decide +kernel
theorem d_S_sum_27 : decode c_S_sum 27 = .ok (.iconst 1, 1) := by decide +kernel
theorem d_S_sum_28 : decode c_S_sum 28 = .ok (.goto 86, 3) := by decide +kernel
theorem d_S_sum_31 : decode c_S_sum 31 = .ok (.iconst 0, 1) := by decide +kernel
theorem d_S_sum_32 : decode c_S_sum 32 = .ok (.goto 82, 3) := by decide +kernel
theorem d_S_sum_35 : decode c_S_sum 35 = .ok (.iload_n 1, 1) := by decide +kernel
theorem d_S_sum_36 : decode c_S_sum 36 = .ok (.iconst 4, 1) := by decide +kernel
theorem d_S_sum_37 : decode c_S_sum 37 = .ok (.if_icmp .ne 20, 3) := by decide +kernel
theorem d_S_sum_40 : decode c_S_sum 40 = .ok (.aload_n 0, 1) := by decide +kernel
theorem d_S_sum_41 : decode c_S_sum 41 = .ok (.getfield 44, 3) := by decide +kernel
theorem d_S_sum_44 : decode c_S_sum 44 = .ok (.iload_n 3, 1) := by decide +kernel
theorem d_S_sum_45 : decode c_S_sum 45 = .ok (.iaload, 1) := by decide +kernel
theorem d_S_sum_46 : decode c_S_sum 46 = .ok (.ifCond .le 7, 3) := by decide +kernel
theorem d_S_sum_49 : decode c_S_sum 49 = .ok (.iconst 1, 1) := by decide +kernel
theorem d_S_sum_50 : decode c_S_sum 50 = .ok (.goto 64, 3) := by decide +kernel
theorem d_S_sum_53 : decode c_S_sum 53 = .ok (.iconst 0, 1) := by decide +kernel
theorem d_S_sum_54 : decode c_S_sum 54 = .ok (.goto 60, 3) := by decide +kernel
theorem d_S_sum_57 : decode c_S_sum 57 = .ok (.iload_n 1, 1) := by decide +kernel
theorem d_S_sum_58 : decode c_S_sum 58 = .ok (.iconst 5, 1) := by decide +kernel
theorem d_S_sum_59 : decode c_S_sum 59 = .ok (.if_icmp .ne 12, 3) := by decide +kernel
theorem d_S_sum_62 : decode c_S_sum 62 = .ok (.aload_n 0, 1) := by decide +kernel
theorem d_S_sum_63 : decode c_S_sum 63 = .ok (.getfield 25, 3) := by decide +kernel
theorem d_S_sum_66 : decode c_S_sum 66 = .ok (.iload_n 3, 1) := by decide +kernel
theorem d_S_sum_67 : decode c_S_sum 67 = .ok (.iaload, 1) := by decide +kernel
theorem d_S_sum_68 : decode c_S_sum 68 = .ok (.goto 46, 3) := by decide +kernel
theorem d_S_sum_71 : decode c_S_sum 71 = .ok (.iload_n 1, 1) := by decide +kernel
theorem d_S_sum_72 : decode c_S_sum 72 = .ok (.bipush 6, 2) := by decide +kernel
theorem d_S_sum_74 : decode c_S_sum 74 = .ok (.if_icmp .ne 12, 3) := by decide +kernel
theorem d_S_sum_77 : decode c_S_sum 77 = .ok (.aload_n 0, 1) := by decide +kernel
theorem d_S_sum_78 : decode c_S_sum 78 = .ok (.getfield 47, 3) := by decide +kernel
theorem d_S_sum_81 : decode c_S_sum 81 = .ok (.iload_n 3, 1) := by decide +kernel
theorem d_S_sum_82 : decode c_S_sum 82 = .ok (.iaload, 1) := by decide +kernel
theorem d_S_sum_83 : decode c_S_sum 83 = .ok (.goto 31, 3) := by decide +kernel
theorem d_S_sum_86 : decode c_S_sum 86 = .ok (.iload_n 1, 1) := by decide +kernel
theorem d_S_sum_87 : decode c_S_sum 87 = .ok (.bipush 7, 2) := by decide +kernel
theorem d_S_sum_89 : decode c_S_sum 89 = .ok (.if_icmp .ne 12, 3) := by decide +kernel
theorem d_S_sum_92 : decode c_S_sum 92 = .ok (.aload_n 0, 1) := by decide +kernel
theorem d_S_sum_93 : decode c_S_sum 93 = .ok (.getfield 50, 3) := by decide +kernel
theorem d_S_sum_96 : decode c_S_sum 96 = .ok (.iload_n 3, 1) := by decide +kernel
theorem d_S_sum_97 : decode c_S_sum 97 = .ok (.iaload, 1) := by decide +kernel
theorem d_S_sum_98 : decode c_S_sum 98 = .ok (.goto 16, 3) := by decide +kernel
theorem d_S_sum_101 : decode c_S_sum 101 = .ok (.aload_n 0, 1) := by decide +kernel
theorem d_S_sum_102 : decode c_S_sum 102 = .ok (.iload_n 3, 1) := by decide +kernel
theorem d_S_sum_103 : decode c_S_sum 103 = .ok (.invokevirtual 85, 3) := by decide +kernel
theorem d_S_sum_106 : decode c_S_sum 106 = .ok (.ifCond .eq 7, 3) := by decide +kernel
theorem d_S_sum_109 : decode c_S_sum 109 = .ok (.iconst 1, 1) := by decide +kernel
theorem d_S_sum_110 : decode c_S_sum 110 = .ok (.goto 4, 3) := by decide +kernel
theorem d_S_sum_113 : decode c_S_sum 113 = .ok (.iconst 0, 1) := by decide +kernel
theorem d_S_sum_114 : decode c_S_sum 114 = .ok (.iadd, 1) := by decide +kernel
theorem d_S_sum_115 : decode c_S_sum 115 = .ok (.istore_n 2, 1) := by decide +kernel
theorem d_S_sum_116 : decode c_S_sum 116 = .ok (.iinc 3 1, 3) := by decide +kernel
theorem d_S_sum_119 : decode c_S_sum 119 = .ok (.goto (-115), 3) := by decide +kernel
theorem d_S_sum_122 : decode c_S_sum 122 = .ok (.iload_n 2, 1) := by decide +kernel
theorem d_S_sum_123 : decode c_S_sum 123 = .ok (.ireturn, 1) := by decide +kernel
end
section
theorem d_M_init_0 : decode c_M_init 0 = .ok (.aload_n 0, 1) := by decide +kernel
theorem d_M_init_1 : decode c_M_init 1 = .ok (.invokespecial 1, 3) := by decide +kernel
theorem d_M_init_4 : decode c_M_init 4 = .ok (.aload_n 0, 1) := by decide +kernel
theorem d_M_init_5 : decode c_M_init 5 = .ok (.bipush 40, 2) := by decide +kernel
theorem d_M_init_7 : decode c_M_init 7 = .ok (.newarray .int, 2) := by decide +kernel
theorem d_M_init_9 : decode c_M_init 9 = .ok (.putfield 9, 3) := by decide +kernel
theorem d_M_init_12 : decode c_M_init 12 = .ok (.aload_n 0, 1) := by decide +kernel
theorem d_M_init_13 : decode c_M_init 13 = .ok (.sipush 192, 3) := by decide +kernel
theorem d_M_init_16 : decode c_M_init 16 = .ok (.newarray .int, 2) := by decide +kernel
theorem d_M_init_18 : decode c_M_init 18 = .ok (.putfield 13, 3) := by decide +kernel
theorem d_M_init_21 : decode c_M_init 21 = .ok (.aload_n 0, 1) := by decide +kernel
theorem d_M_init_22 : decode c_M_init 22 = .ok (.bipush 8, 2) := by decide +kernel
theorem d_M_init_24 : decode c_M_init 24 = .ok (.newarray .int, 2) := by decide +kernel
theorem d_M_init_26 : decode c_M_init 26 = .ok (.putfield 16, 3) := by decide +kernel
theorem d_M_init_29 : decode c_M_init 29 = .ok (.aload_n 0, 1) := by decide +kernel
theorem d_M_init_30 : decode c_M_init 30 = .ok (.new 19, 3) := by decide +kernel
theorem d_M_init_33 : decode c_M_init 33 = .ok (.dup, 1) := by decide +kernel
theorem d_M_init_34 : decode c_M_init 34 = .ok (.aload_n 0, 1) := by decide +kernel
theorem d_M_init_35 : decode c_M_init 35 = .ok (.invokespecial 21, 3) := by decide +kernel
theorem d_M_init_38 : decode c_M_init 38 = .ok (.putfield 24, 3) := by decide +kernel
theorem d_M_init_41 : decode c_M_init 41 = .ok (.aload_n 0, 1) := by decide +kernel
theorem d_M_init_42 : decode c_M_init 42 = .ok (.new 19, 3) := by decide +kernel
theorem d_M_init_45 : decode c_M_init 45 = .ok (.dup, 1) := by decide +kernel
theorem d_M_init_46 : decode c_M_init 46 = .ok (.aload_n 0, 1) := by decide +kernel
theorem d_M_init_47 : decode c_M_init 47 = .ok (.invokespecial 21, 3) := by decide +kernel
theorem d_M_init_50 : decode c_M_init 50 = .ok (.putfield 28, 3) := by decide +kernel
theorem d_M_init_53 : decode c_M_init 53 = .ok (.iconst 0, 1) := by decide +kernel
theorem d_M_init_54 : decode c_M_init 54 = .ok (.istore_n 1, 1) := by decide +kernel
theorem d_M_init_55 : decode c_M_init 55 = .ok (.iload_n 1, 1) := by decide +kernel
theorem d_M_init_56 : decode c_M_init 56 = .ok (.bipush 8, 2) := by decide +kernel
theorem d_M_init_58 : decode c_M_init 58 = .ok (.if_icmp .ge 61, 3) := by decide +kernel
theorem d_M_init_61 : decode c_M_init 61 = .ok (.aload_n 0, 1) := by decide +kernel
theorem d_M_init_62 : decode c_M_init 62 = .ok (.getfield 16, 3) := by decide +kernel
theorem d_M_init_65 : decode c_M_init 65 = .ok (.iload_n 1, 1) := by decide +kernel
theorem d_M_init_66 : decode c_M_init 66 = .ok (.getstatic 31, 3) := by decide +kernel
theorem d_M_init_69 : decode c_M_init 69 = .ok (.iload_n 1, 1) := by decide +kernel
theorem d_M_init_70 : decode c_M_init 70 = .ok (.aaload, 1) := by decide +kernel
theorem d_M_init_71 : decode c_M_init 71 = .ok (.invokevirtual 35, 3) := by decide +kernel
theorem d_M_init_74 : decode c_M_init 74 = .ok (.iastore, 1) := by decide +kernel
theorem d_M_init_75 : decode c_M_init 75 = .ok (.iconst 0, 1) := by decide +kernel
theorem d_M_init_76 : decode c_M_init 76 = .ok (.istore_n 2, 1) := by decide +kernel
theorem d_M_init_77 : decode c_M_init 77 = .ok (.iload_n 2, 1) := by decide +kernel
theorem d_M_init_78 : decode c_M_init 78 = .ok (.aload_n 0, 1) := by decide +kernel
theorem d_M_init_79 : decode c_M_init 79 = .ok (.getfield 16, 3) := by decide +kernel
theorem d_M_init_82 : decode c_M_init 82 = .ok (.iload_n 1, 1) := by decide +kernel
theorem d_M_init_83 : decode c_M_init 83 = .ok (.iaload, 1) := by decide +kernel
theorem d_M_init_84 : decode c_M_init 84 = .ok (.if_icmp .ge 29, 3) := by decide +kernel
theorem d_M_init_87 : decode c_M_init 87 = .ok (.aload_n 0, 1) := by decide +kernel
theorem d_M_init_88 : decode c_M_init 88 = .ok (.getfield 13, 3) := by decide +kernel
theorem d_M_init_91 : decode c_M_init 91 = .ok (.bipush 24, 2) := by decide +kernel
theorem d_M_init_93 : decode c_M_init 93 = .ok (.iload_n 1, 1) := by decide +kernel
theorem d_M_init_94 : decode c_M_init 94 = .ok (.imul, 1) := by decide +kernel
theorem d_M_init_95 : decode c_M_init 95 = .ok (.iload_n 2, 1) := by decide +kernel
theorem d_M_init_96 : decode c_M_init 96 = .ok (.iadd, 1) := by decide +kernel
theorem d_M_init_97 : decode c_M_init 97 = .ok (.getstatic 31, 3) := by decide +kernel
theorem d_M_init_100 : decode c_M_init 100 = .ok (.iload_n 1, 1) := by decide +kernel
theorem d_M_init_101 : decode c_M_init 101 = .ok (.aaload, 1) := by decide +kernel
theorem d_M_init_102 : decode c_M_init 102 = .ok (.iload_n 2, 1) := by decide +kernel
theorem d_M_init_103 : decode c_M_init 103 = .ok (.invokevirtual 41, 3) := by decide +kernel
theorem d_M_init_106 : decode c_M_init 106 = .ok (.iastore, 1) := by decide +kernel
theorem d_M_init_107 : decode c_M_init 107 = .ok (.iinc 2 1, 3) := by decide +kernel
theorem d_M_init_110 : decode c_M_init 110 = .ok (.goto (-33), 3) := by decide +kernel
theorem d_M_init_113 : decode c_M_init 113 = .ok (.iinc 1 1, 3) := by decide +kernel
theorem d_M_init_116 : decode c_M_init 116 = .ok (.goto (-61), 3) := by decide +kernel
theorem d_M_init_119 : decode c_M_init 119 = .ok (.return_, 1) := by decide +kernel
theorem d_M_thrown_0 : decode c_M_thrown 0 = .ok (.aload_n 0, 1) := by decide +kernel
theorem d_M_thrown_1 : decode c_M_thrown 1 = .ok (.getfield 45, 3) := by decide +kernel
theorem d_M_thrown_4 : decode c_M_thrown 4 = .ok (.ireturn, 1) := by decide +kernel
theorem d_M_no_0 : decode c_M_no 0 = .ok (.aload_n 0, 1) := by decide +kernel
theorem d_M_no_1 : decode c_M_no 1 = .ok (.iload_n 1, 1) := by decide +kernel
theorem d_M_no_2 : decode c_M_no 2 = .ok (.putfield 45, 3) := by decide +kernel
theorem d_M_no_5 : decode c_M_no 5 = .ok (.iconst 0, 1) := by decide +kernel
theorem d_M_no_6 : decode c_M_no 6 = .ok (.ireturn, 1) := by decide +kernel
theorem d_M_isIn_0 : decode c_M_isIn 0 = .ok (.iload_n 0, 1) := by decide +kernel
theorem d_M_isIn_1 : decode c_M_isIn 1 = .ok (.iload_n 1, 1) := by decide +kernel
theorem d_M_isIn_2 : decode c_M_isIn 2 = .ok (.if_icmp .lt 12, 3) := by decide +kernel
theorem d_M_isIn_5 : decode c_M_isIn 5 = .ok (.iload_n 0, 1) := by decide +kernel
theorem d_M_isIn_6 : decode c_M_isIn 6 = .ok (.iload_n 2, 1) := by decide +kernel
theorem d_M_isIn_7 : decode c_M_isIn 7 = .ok (.if_icmp .gt 7, 3) := by decide +kernel
theorem d_M_isIn_10 : decode c_M_isIn 10 = .ok (.iconst 1, 1) := by decide +kernel
theorem d_M_isIn_11 : decode c_M_isIn 11 = .ok (.goto 4, 3) := by decide +kernel
theorem d_M_isIn_14 : decode c_M_isIn 14 = .ok (.iconst 0, 1) := by decide +kernel
theorem d_M_isIn_15 : decode c_M_isIn 15 = .ok (.ireturn, 1) := by decide +kernel
theorem d_M_feed_0 : decode c_M_feed 0 = .ok (.aload_n 0, 1) := by decide +kernel
theorem d_M_feed_1 : decode c_M_feed 1 = .ok (.iconst 0, 1) := by decide +kernel
theorem d_M_feed_2 : decode c_M_feed 2 = .ok (.putfield 45, 3) := by decide +kernel
theorem d_M_feed_5 : decode c_M_feed 5 = .ok (.aload_n 0, 1) := by decide +kernel
theorem d_M_feed_6 : decode c_M_feed 6 = .ok (.getfield 49, 3) := by decide +kernel
theorem d_M_feed_9 : decode c_M_feed 9 = .ok (.bipush 20, 2) := by decide +kernel
theorem d_M_feed_11 : decode c_M_feed 11 = .ok (.iadd, 1) := by decide +kernel
theorem d_M_feed_12 : decode c_M_feed 12 = .ok (.bipush 40, 2) := by decide +kernel
theorem d_M_feed_14 : decode c_M_feed 14 = .ok (.if_icmp .le 9, 3) := by decide +kernel
theorem d_M_feed_17 : decode c_M_feed 17 = .ok (.aload_n 0, 1) := by decide +kernel
theorem d_M_feed_18 : decode c_M_feed 18 = .ok (.iconst 1, 1) := by decide +kernel
theorem d_M_feed_19 : decode c_M_feed 19 = .ok (.invokevirtual 52, 3) := by decide +kernel
theorem d_M_feed_22 : decode c_M_feed 22 = .ok (.ireturn, 1) := by decide +kernel
theorem d_M_feed_23 : decode c_M_feed 23 = .ok (.iconst 5, 1) := by decide +kernel
theorem d_M_feed_24 : decode c_M_feed 24 = .ok (.newarray .int, 2) := by decide +kernel
theorem d_M_feed_26 : decode c_M_feed 26 = .ok (.dup, 1) := by decide +kernel
theorem d_M_feed_27 : decode c_M_feed 27 = .ok (.iconst 0, 1) := by decide +kernel
theorem d_M_feed_28 : decode c_M_feed 28 = .ok (.iload_n 1, 1) := by decide +kernel
theorem d_M_feed_29 : decode c_M_feed 29 = .ok (.iastore, 1) := by decide +kernel
theorem d_M_feed_30 : decode c_M_feed 30 = .ok (.dup, 1) := by decide +kernel
theorem d_M_feed_31 : decode c_M_feed 31 = .ok (.iconst 1, 1) := by decide +kernel
theorem d_M_feed_32 : decode c_M_feed 32 = .ok (.iload_n 2, 1) := by decide +kernel
theorem d_M_feed_33 : decode c_M_feed 33 = .ok (.iastore, 1) := by decide +kernel
theorem d_M_feed_34 : decode c_M_feed 34 = .ok (.dup, 1) := by decide +kernel
theorem d_M_feed_35 : decode c_M_feed 35 = .ok (.iconst 2, 1) := by decide +kernel
theorem d_M_feed_36 : decode c_M_feed 36 = .ok (.iload_n 3, 1) := by decide +kernel
theorem d_M_feed_37 : decode c_M_feed 37 = .ok (.iastore, 1) := by decide +kernel
theorem d_M_feed_38 : decode c_M_feed 38 = .ok (.dup, 1) := by decide +kernel
theorem d_M_feed_39 : decode c_M_feed 39 = .ok (.iconst 3, 1) := by decide +kernel
theorem d_M_feed_40 : decode c_M_feed 40 = .ok (.iload 4, 2) := by decide +kernel
theorem d_M_feed_42 : decode c_M_feed 42 = .ok (.iastore, 1) := by decide +kernel
theorem d_M_feed_43 : decode c_M_feed 43 = .ok (.dup, 1) := by decide +kernel
theorem d_M_feed_44 : decode c_M_feed 44 = .ok (.iconst 4, 1) := by decide +kernel
theorem d_M_feed_45 : decode c_M_feed 45 = .ok (.iload 5, 2) := by decide +kernel
theorem d_M_feed_47 : decode c_M_feed 47 = .ok (.iastore, 1) := by decide +kernel
theorem d_M_feed_48 : decode c_M_feed 48 = .ok (.astore 6, 2) := by decide +kernel
theorem d_M_feed_50 : decode c_M_feed 50 = .ok (.aload 6, 2) := by decide +kernel
theorem d_M_feed_52 : decode c_M_feed 52 = .ok (.astore 7, 2) := by decide +kernel
theorem d_M_feed_54 : decode c_M_feed 54 = .ok (.aload 7, 2) := by decide +kernel
theorem d_M_feed_56 : decode c_M_feed 56 = .ok (.arraylength, 1) := by decide +kernel
theorem d_M_feed_57 : decode c_M_feed 57 = .ok (.istore 8, 2) := by decide +kernel
theorem d_M_feed_59 : decode c_M_feed 59 = .ok (.iconst 0, 1) := by decide +kernel
theorem d_M_feed_60 : decode c_M_feed 60 = .ok (.istore 9, 2) := by decide +kernel
theorem d_M_feed_62 : decode c_M_feed 62 = .ok (.iload 9, 2) := by decide +kernel
theorem d_M_feed_64 : decode c_M_feed 64 = .ok (.iload 8, 2) := by decide +kernel
theorem d_M_feed_66 : decode c_M_feed 66 = .ok (.if_icmp .ge 61, 3) := by decide +kernel
theorem d_M_feed_69 : decode c_M_feed 69 = .ok (.aload 7, 2) := by decide +kernel
theorem d_M_feed_71 : decode c_M_feed 71 = .ok (.iload 9, 2) := by decide +kernel
theorem d_M_feed_73 : decode c_M_feed 73 = .ok (.iaload, 1) := by decide +kernel
theorem d_M_feed_74 : decode c_M_feed 74 = .ok (.istore 10, 2) := by decide +kernel
theorem d_M_feed_76 : decode c_M_feed 76 = .ok (.iconst 3, 1) := by decide +kernel
theorem d_M_feed_77 : decode c_M_feed 77 = .ok (.istore 11, 2) := by decide +kernel
theorem d_M_feed_79 : decode c_M_feed 79 = .ok (.iload 11, 2) := by decide +kernel
theorem d_M_feed_81 : decode c_M_feed 81 = .ok (.ifCond .lt 40, 3) := by decide +kernel
theorem d_M_feed_84 : decode c_M_feed 84 = .ok (.aload_n 0, 1) := by decide +kernel
theorem d_M_feed_85 : decode c_M_feed 85 = .ok (.getfield 9, 3) := by decide +kernel
theorem d_M_feed_88 : decode c_M_feed 88 = .ok (.aload_n 0, 1) := by decide +kernel
theorem d_M_feed_89 : decode c_M_feed 89 = .ok (.getfield 49, 3) := by decide +kernel
theorem d_M_feed_92 : decode c_M_feed 92 = .ok (.iload 10, 2) := by decide +kernel
theorem d_M_feed_94 : decode c_M_feed 94 = .ok (.bipush 8, 2) := by decide +kernel
theorem d_M_feed_96 : decode c_M_feed 96 = .ok (.iload 11, 2) := by decide +kernel
theorem d_M_feed_98 : decode c_M_feed 98 = .ok (.imul, 1) := by decide +kernel
theorem d_M_feed_99 : decode c_M_feed 99 = .ok (.ishr, 1) := by decide +kernel
theorem d_M_feed_100 : decode c_M_feed 100 = .ok (.sipush 255, 3) := by decide +kernel
theorem d_M_feed_103 : decode c_M_feed 103 = .ok (.iand, 1) := by decide +kernel
theorem d_M_feed_104 : decode c_M_feed 104 = .ok (.iastore, 1) := by decide +kernel
theorem d_M_feed_105 : decode c_M_feed 105 = .ok (.aload_n 0, 1) := by decide +kernel
theorem d_M_feed_106 : decode c_M_feed 106 = .ok (.dup, 1) := by decide +kernel
theorem d_M_feed_107 : decode c_M_feed 107 = .ok (.getfield 49, 3) := by decide +kernel
theorem d_M_feed_110 : decode c_M_feed 110 = .ok (.iconst 1, 1) := by decide +kernel
theorem d_M_feed_111 : decode c_M_feed 111 = .ok (.iadd, 1) := by decide +kernel
theorem d_M_feed_112 : decode c_M_feed 112 = .ok (.putfield 49, 3) := by decide +kernel
theorem d_M_feed_115 : decode c_M_feed 115 = .ok (.iinc 11 (-1), 3) := by decide +kernel
theorem d_M_feed_118 : decode c_M_feed 118 = .ok (.goto (-39), 3) := by decide +kernel
theorem d_M_feed_121 : decode c_M_feed 121 = .ok (.iinc 9 1, 3) := by decide +kernel
theorem d_M_feed_124 : decode c_M_feed 124 = .ok (.goto (-62), 3) := by decide +kernel
theorem d_M_feed_127 : decode c_M_feed 127 = .ok (.aload_n 0, 1) := by decide +kernel
theorem d_M_feed_128 : decode c_M_feed 128 = .ok (.getfield 49, 3) := by decide +kernel
theorem d_M_feed_131 : decode c_M_feed 131 = .ok (.ireturn, 1) := by decide +kernel
theorem d_M_trim_0 : decode c_M_trim 0 = .ok (.aload_n 0, 1) := by decide +kernel
theorem d_M_trim_1 : decode c_M_trim 1 = .ok (.iconst 0, 1) := by decide +kernel
theorem d_M_trim_2 : decode c_M_trim 2 = .ok (.putfield 45, 3) := by decide +kernel
theorem d_M_trim_5 : decode c_M_trim 5 = .ok (.iload_n 1, 1) := by decide +kernel
theorem d_M_trim_6 : decode c_M_trim 6 = .ok (.iconst 0, 1) := by decide +kernel
theorem d_M_trim_7 : decode c_M_trim 7 = .ok (.aload_n 0, 1) := by decide +kernel
theorem d_M_trim_8 : decode c_M_trim 8 = .ok (.getfield 49, 3) := by decide +kernel
theorem d_M_trim_11 : decode c_M_trim 11 = .ok (.invokestatic 56, 3) := by decide +kernel
theorem d_M_trim_14 : decode c_M_trim 14 = .ok (.ifCond .ne 9, 3) := by decide +kernel
theorem d_M_trim_17 : decode c_M_trim 17 = .ok (.aload_n 0, 1) := by decide +kernel
theorem d_M_trim_18 : decode c_M_trim 18 = .ok (.iconst 1, 1) := by decide +kernel
theorem d_M_trim_19 : decode c_M_trim 19 = .ok (.invokevirtual 52, 3) := by decide +kernel
theorem d_M_trim_22 : decode c_M_trim 22 = .ok (.ireturn, 1) := by decide +kernel
theorem d_M_trim_23 : decode c_M_trim 23 = .ok (.aload_n 0, 1) := by decide +kernel
theorem d_M_trim_24 : decode c_M_trim 24 = .ok (.iload_n 1, 1) := by decide +kernel
theorem d_M_trim_25 : decode c_M_trim 25 = .ok (.putfield 49, 3) := by decide +kernel
theorem d_M_trim_28 : decode c_M_trim 28 = .ok (.iload_n 1, 1) := by decide +kernel
theorem d_M_trim_29 : decode c_M_trim 29 = .ok (.ireturn, 1) := by decide +kernel
theorem d_M_isFigure_0 : decode c_M_isFigure 0 = .ok (.iconst 0, 1) := by decide +kernel
theorem d_M_isFigure_1 : decode c_M_isFigure 1 = .ok (.istore_n 1, 1) := by decide +kernel
theorem d_M_isFigure_2 : decode c_M_isFigure 2 = .ok (.iconst 0, 1) := by decide +kernel
theorem d_M_isFigure_3 : decode c_M_isFigure 3 = .ok (.istore_n 2, 1) := by decide +kernel
theorem d_M_isFigure_4 : decode c_M_isFigure 4 = .ok (.iload_n 2, 1) := by decide +kernel
theorem d_M_isFigure_5 : decode c_M_isFigure 5 = .ok (.bipush 8, 2) := by decide +kernel
theorem d_M_isFigure_7 : decode c_M_isFigure 7 = .ok (.if_icmp .ge 29, 3) := by decide +kernel
theorem d_M_isFigure_10 : decode c_M_isFigure 10 = .ok (.iload_n 1, 1) := by decide +kernel
theorem d_M_isFigure_11 : decode c_M_isFigure 11 = .ok (.ifCond .ne 13, 3) := by decide +kernel
theorem d_M_isFigure_14 : decode c_M_isFigure 14 = .ok (.ldc 60, 2) := by decide +kernel
theorem d_M_isFigure_16 : decode c_M_isFigure 16 = .ok (.iload_n 2, 1) := by decide +kernel
theorem d_M_isFigure_17 : decode c_M_isFigure 17 = .ok (.invokevirtual 41, 3) := by decide +kernel
theorem d_M_isFigure_20 : decode c_M_isFigure 20 = .ok (.iload_n 0, 1) := by decide +kernel
theorem d_M_isFigure_21 : decode c_M_isFigure 21 = .ok (.if_icmp .ne 7, 3) := by decide +kernel
theorem d_M_isFigure_24 : decode c_M_isFigure 24 = .ok (.iconst 1, 1) := by decide +kernel
theorem d_M_isFigure_25 : decode c_M_isFigure 25 = .ok (.goto 4, 3) := by decide +kernel
theorem d_M_isFigure_28 : decode c_M_isFigure 28 = .ok (.iconst 0, 1) := by decide +kernel
theorem d_M_isFigure_29 : decode c_M_isFigure 29 = .ok (.istore_n 1, 1) := by decide +kernel
theorem d_M_isFigure_30 : decode c_M_isFigure 30 = .ok (.iinc 2 1, 3) := by decide +kernel
theorem d_M_isFigure_33 : decode c_M_isFigure 33 = .ok (.goto (-29), 3) := by decide +kernel
theorem d_M_isFigure_36 : decode c_M_isFigure 36 = .ok (.iload_n 1, 1) := by decide +kernel
theorem d_M_isFigure_37 : decode c_M_isFigure 37 = .ok (.ireturn, 1) := by decide +kernel
theorem d_M_learn_0 : decode c_M_learn 0 = .ok (.aload_n 0, 1) := by decide +kernel
theorem d_M_learn_1 : decode c_M_learn 1 = .ok (.iconst 0, 1) := by decide +kernel
theorem d_M_learn_2 : decode c_M_learn 2 = .ok (.putfield 45, 3) := by decide +kernel
theorem d_M_learn_5 : decode c_M_learn 5 = .ok (.iload_n 1, 1) := by decide +kernel
theorem d_M_learn_6 : decode c_M_learn 6 = .ok (.iconst 0, 1) := by decide +kernel
theorem d_M_learn_7 : decode c_M_learn 7 = .ok (.bipush 7, 2) := by decide +kernel
theorem d_M_learn_9 : decode c_M_learn 9 = .ok (.invokestatic 56, 3) := by decide +kernel
theorem d_M_learn_12 : decode c_M_learn 12 = .ok (.ifCond .ne 9, 3) := by decide +kernel
theorem d_M_learn_15 : decode c_M_learn 15 = .ok (.aload_n 0, 1) := by decide +kernel
theorem d_M_learn_16 : decode c_M_learn 16 = .ok (.iconst 1, 1) := by decide +kernel
theorem d_M_learn_17 : decode c_M_learn 17 = .ok (.invokevirtual 52, 3) := by decide +kernel
theorem d_M_learn_20 : decode c_M_learn 20 = .ok (.ireturn, 1) := by decide +kernel
theorem d_M_learn_21 : decode c_M_learn 21 = .ok (.aload_n 0, 1) := by decide +kernel
theorem d_M_learn_22 : decode c_M_learn 22 = .ok (.getfield 49, 3) := by decide +kernel
theorem d_M_learn_25 : decode c_M_learn 25 = .ok (.istore_n 2, 1) := by decide +kernel
theorem d_M_learn_26 : decode c_M_learn 26 = .ok (.aload_n 0, 1) := by decide +kernel
theorem d_M_learn_27 : decode c_M_learn 27 = .ok (.iconst 0, 1) := by decide +kernel
theorem d_M_learn_28 : decode c_M_learn 28 = .ok (.putfield 49, 3) := by decide +kernel
theorem d_M_learn_31 : decode c_M_learn 31 = .ok (.iload_n 2, 1) := by decide +kernel
theorem d_M_learn_32 : decode c_M_learn 32 = .ok (.iconst 1, 1) := by decide +kernel
theorem d_M_learn_33 : decode c_M_learn 33 = .ok (.bipush 24, 2) := by decide +kernel
theorem d_M_learn_35 : decode c_M_learn 35 = .ok (.invokestatic 56, 3) := by decide +kernel
theorem d_M_learn_38 : decode c_M_learn 38 = .ok (.istore_n 3, 1) := by decide +kernel
theorem d_M_learn_39 : decode c_M_learn 39 = .ok (.iconst 0, 1) := by decide +kernel
theorem d_M_learn_40 : decode c_M_learn 40 = .ok (.istore 4, 2) := by decide +kernel
theorem d_M_learn_42 : decode c_M_learn 42 = .ok (.iload 4, 2) := by decide +kernel
theorem d_M_learn_44 : decode c_M_learn 44 = .ok (.iload_n 2, 1) := by decide +kernel
theorem d_M_learn_45 : decode c_M_learn 45 = .ok (.if_icmp .ge 32, 3) := by decide +kernel
theorem d_M_learn_48 : decode c_M_learn 48 = .ok (.iload_n 3, 1) := by decide +kernel
theorem d_M_learn_49 : decode c_M_learn 49 = .ok (.ifCond .eq 20, 3) := by decide +kernel
theorem d_M_learn_52 : decode c_M_learn 52 = .ok (.aload_n 0, 1) := by decide +kernel
theorem d_M_learn_53 : decode c_M_learn 53 = .ok (.getfield 9, 3) := by decide +kernel
theorem d_M_learn_56 : decode c_M_learn 56 = .ok (.iload 4, 2) := by decide +kernel
theorem d_M_learn_58 : decode c_M_learn 58 = .ok (.iaload, 1) := by decide +kernel
theorem d_M_learn_59 : decode c_M_learn 59 = .ok (.invokestatic 62, 3) := by decide +kernel
theorem d_M_learn_62 : decode c_M_learn 62 = .ok (.ifCond .eq 7, 3) := by decide +kernel
theorem d_M_learn_65 : decode c_M_learn 65 = .ok (.iconst 1, 1) := by decide +kernel
theorem d_M_learn_66 : decode c_M_learn 66 = .ok (.goto 4, 3) := by decide +kernel
theorem d_M_learn_69 : decode c_M_learn 69 = .ok (.iconst 0, 1) := by decide +kernel
theorem d_M_learn_70 : decode c_M_learn 70 = .ok (.istore_n 3, 1) := by decide +kernel
theorem d_M_learn_71 : decode c_M_learn 71 = .ok (.iinc 4 1, 3) := by decide +kernel
theorem d_M_learn_74 : decode c_M_learn 74 = .ok (.goto (-32), 3) := by decide +kernel
theorem d_M_learn_77 : decode c_M_learn 77 = .ok (.iload_n 3, 1) := by decide +kernel
theorem d_M_learn_78 : decode c_M_learn 78 = .ok (.ifCond .ne 5, 3) := by decide +kernel
theorem d_M_learn_81 : decode c_M_learn 81 = .ok (.iconst (-1), 1) := by decide +kernel
theorem d_M_learn_82 : decode c_M_learn 82 = .ok (.ireturn, 1) := by decide +kernel
theorem d_M_learn_83 : decode c_M_learn 83 = .ok (.aload_n 0, 1) := by decide +kernel
theorem d_M_learn_84 : decode c_M_learn 84 = .ok (.getfield 16, 3) := by decide +kernel
theorem d_M_learn_87 : decode c_M_learn 87 = .ok (.iload_n 1, 1) := by decide +kernel
theorem d_M_learn_88 : decode c_M_learn 88 = .ok (.iload_n 2, 1) := by decide +kernel
theorem d_M_learn_89 : decode c_M_learn 89 = .ok (.iastore, 1) := by decide +kernel
theorem d_M_learn_90 : decode c_M_learn 90 = .ok (.aload_n 0, 1) := by decide +kernel
theorem d_M_learn_91 : decode c_M_learn 91 = .ok (.getfield 9, 3) := by decide +kernel
theorem d_M_learn_94 : decode c_M_learn 94 = .ok (.iconst 0, 1) := by decide +kernel
theorem d_M_learn_95 : decode c_M_learn 95 = .ok (.aload_n 0, 1) := by decide +kernel
theorem d_M_learn_96 : decode c_M_learn 96 = .ok (.getfield 13, 3) := by decide +kernel
theorem d_M_learn_99 : decode c_M_learn 99 = .ok (.bipush 24, 2) := by decide +kernel
theorem d_M_learn_101 : decode c_M_learn 101 = .ok (.iload_n 1, 1) := by decide +kernel
theorem d_M_learn_102 : decode c_M_learn 102 = .ok (.imul, 1) := by decide +kernel
theorem d_M_learn_103 : decode c_M_learn 103 = .ok (.iload_n 2, 1) := by decide +kernel
theorem d_M_learn_104 : decode c_M_learn 104 = .ok (.invokestatic 66, 3) := by decide +kernel
theorem d_M_learn_107 : decode c_M_learn 107 = .ok (.iconst 0, 1) := by decide +kernel
theorem d_M_learn_108 : decode c_M_learn 108 = .ok (.istore 4, 2) := by decide +kernel
theorem d_M_learn_110 : decode c_M_learn 110 = .ok (.iload 4, 2) := by decide +kernel
theorem d_M_learn_112 : decode c_M_learn 112 = .ok (.aload_n 0, 1) := by decide +kernel
theorem d_M_learn_113 : decode c_M_learn 113 = .ok (.getfield 24, 3) := by decide +kernel
theorem d_M_learn_116 : decode c_M_learn 116 = .ok (.getfield 72, 3) := by decide +kernel
theorem d_M_learn_119 : decode c_M_learn 119 = .ok (.if_icmp .ge 48, 3) := by decide +kernel
theorem d_M_learn_122 : decode c_M_learn 122 = .ok (.aload_n 0, 1) := by decide +kernel
theorem d_M_learn_123 : decode c_M_learn 123 = .ok (.getfield 24, 3) := by decide +kernel
theorem d_M_learn_126 : decode c_M_learn 126 = .ok (.getfield 75, 3) := by decide +kernel
theorem d_M_learn_129 : decode c_M_learn 129 = .ok (.iload 4, 2) := by decide +kernel
theorem d_M_learn_131 : decode c_M_learn 131 = .ok (.iaload, 1) := by decide +kernel
theorem d_M_learn_132 : decode c_M_learn 132 = .ok (.iload_n 1, 1) := by decide +kernel
theorem d_M_learn_133 : decode c_M_learn 133 = .ok (.if_icmp .ne 28, 3) := by decide +kernel
theorem d_M_learn_136 : decode c_M_learn 136 = .ok (.aload_n 0, 1) := by decide +kernel
theorem d_M_learn_137 : decode c_M_learn 137 = .ok (.getfield 24, 3) := by decide +kernel
theorem d_M_learn_140 : decode c_M_learn 140 = .ok (.getfield 78, 3) := by decide +kernel
theorem d_M_learn_143 : decode c_M_learn 143 = .ok (.iload 4, 2) := by decide +kernel
theorem d_M_learn_145 : decode c_M_learn 145 = .ok (.iaload, 1) := by decide +kernel
theorem d_M_learn_146 : decode c_M_learn 146 = .ok (.iload_n 2, 1) := by decide +kernel
theorem d_M_learn_147 : decode c_M_learn 147 = .ok (.if_icmp .lt 14, 3) := by decide +kernel
theorem d_M_learn_150 : decode c_M_learn 150 = .ok (.aload_n 0, 1) := by decide +kernel
theorem d_M_learn_151 : decode c_M_learn 151 = .ok (.getfield 24, 3) := by decide +kernel
theorem d_M_learn_154 : decode c_M_learn 154 = .ok (.getfield 78, 3) := by decide +kernel
theorem d_M_learn_157 : decode c_M_learn 157 = .ok (.iload 4, 2) := by decide +kernel
theorem d_M_learn_159 : decode c_M_learn 159 = .ok (.iconst 0, 1) := by decide +kernel
theorem d_M_learn_160 : decode c_M_learn 160 = .ok (.iastore, 1) := by decide +kernel
theorem d_M_learn_161 : decode c_M_learn 161 = .ok (.iinc 4 1, 3) := by decide +kernel
theorem d_M_learn_164 : decode c_M_learn 164 = .ok (.goto (-54), 3) := by decide +kernel
theorem d_M_learn_167 : decode c_M_learn 167 = .ok (.iload_n 2, 1) := by decide +kernel
theorem d_M_learn_168 : decode c_M_learn 168 = .ok (.ireturn, 1) := by decide +kernel
theorem d_M_figure_0 : decode c_M_figure 0 = .ok (.aload_n 0, 1) := by decide +kernel
theorem d_M_figure_1 : decode c_M_figure 1 = .ok (.iconst 0, 1) := by decide +kernel
theorem d_M_figure_2 : decode c_M_figure 2 = .ok (.putfield 45, 3) := by decide +kernel
theorem d_M_figure_5 : decode c_M_figure 5 = .ok (.iload_n 1, 1) := by decide +kernel
theorem d_M_figure_6 : decode c_M_figure 6 = .ok (.iconst 0, 1) := by decide +kernel
theorem d_M_figure_7 : decode c_M_figure 7 = .ok (.bipush 7, 2) := by decide +kernel
theorem d_M_figure_9 : decode c_M_figure 9 = .ok (.invokestatic 56, 3) := by decide +kernel
theorem d_M_figure_12 : decode c_M_figure 12 = .ok (.ifCond .eq 33, 3) := by decide +kernel
theorem d_M_figure_15 : decode c_M_figure 15 = .ok (.iload_n 2, 1) := by decide +kernel
theorem d_M_figure_16 : decode c_M_figure 16 = .ok (.iconst 0, 1) := by decide +kernel
theorem d_M_figure_17 : decode c_M_figure 17 = .ok (.aload_n 0, 1) := by decide +kernel
theorem d_M_figure_18 : decode c_M_figure 18 = .ok (.getfield 16, 3) := by decide +kernel
theorem d_M_figure_21 : decode c_M_figure 21 = .ok (.iload_n 1, 1) := by decide +kernel
theorem d_M_figure_22 : decode c_M_figure 22 = .ok (.iaload, 1) := by decide +kernel
theorem d_M_figure_23 : decode c_M_figure 23 = .ok (.iconst 1, 1) := by decide +kernel
theorem d_M_figure_24 : decode c_M_figure 24 = .ok (.isub, 1) := by decide +kernel
theorem d_M_figure_25 : decode c_M_figure 25 = .ok (.invokestatic 56, 3) := by decide +kernel
theorem d_M_figure_28 : decode c_M_figure 28 = .ok (.ifCond .eq 17, 3) := by decide +kernel
theorem d_M_figure_31 : decode c_M_figure 31 = .ok (.aload_n 0, 1) := by decide +kernel
theorem d_M_figure_32 : decode c_M_figure 32 = .ok (.getfield 13, 3) := by decide +kernel
theorem d_M_figure_35 : decode c_M_figure 35 = .ok (.bipush 24, 2) := by decide +kernel
theorem d_M_figure_37 : decode c_M_figure 37 = .ok (.iload_n 1, 1) := by decide +kernel
theorem d_M_figure_38 : decode c_M_figure 38 = .ok (.imul, 1) := by decide +kernel
theorem d_M_figure_39 : decode c_M_figure 39 = .ok (.iload_n 2, 1) := by decide +kernel
theorem d_M_figure_40 : decode c_M_figure 40 = .ok (.iadd, 1) := by decide +kernel
theorem d_M_figure_41 : decode c_M_figure 41 = .ok (.iaload, 1) := by decide +kernel
theorem d_M_figure_42 : decode c_M_figure 42 = .ok (.goto 8, 3) := by decide +kernel
theorem d_M_figure_45 : decode c_M_figure 45 = .ok (.aload_n 0, 1) := by decide +kernel
theorem d_M_figure_46 : decode c_M_figure 46 = .ok (.iconst 1, 1) := by decide +kernel
theorem d_M_figure_47 : decode c_M_figure 47 = .ok (.invokevirtual 52, 3) := by decide +kernel
theorem d_M_figure_50 : decode c_M_figure 50 = .ok (.ireturn, 1) := by decide +kernel
theorem d_M_drift_0 : decode c_M_drift 0 = .ok (.aload_n 0, 1) := by decide +kernel
theorem d_M_drift_1 : decode c_M_drift 1 = .ok (.iconst 0, 1) := by decide +kernel
theorem d_M_drift_2 : decode c_M_drift 2 = .ok (.putfield 45, 3) := by decide +kernel
theorem d_M_drift_5 : decode c_M_drift 5 = .ok (.iload_n 1, 1) := by decide +kernel
theorem d_M_drift_6 : decode c_M_drift 6 = .ok (.iconst 0, 1) := by decide +kernel
theorem d_M_drift_7 : decode c_M_drift 7 = .ok (.bipush 7, 2) := by decide +kernel
theorem d_M_drift_9 : decode c_M_drift 9 = .ok (.invokestatic 56, 3) := by decide +kernel
theorem d_M_drift_12 : decode c_M_drift 12 = .ok (.ifCond .eq 12, 3) := by decide +kernel
theorem d_M_drift_15 : decode c_M_drift 15 = .ok (.iload_n 2, 1) := by decide +kernel
theorem d_M_drift_16 : decode c_M_drift 16 = .ok (.iconst 0, 1) := by decide +kernel
theorem d_M_drift_17 : decode c_M_drift 17 = .ok (.iconst 3, 1) := by decide +kernel
theorem d_M_drift_18 : decode c_M_drift 18 = .ok (.invokestatic 56, 3) := by decide +kernel
theorem d_M_drift_21 : decode c_M_drift 21 = .ok (.ifCond .ne 9, 3) := by decide +kernel
theorem d_M_drift_24 : decode c_M_drift 24 = .ok (.aload_n 0, 1) := by decide +kernel
theorem d_M_drift_25 : decode c_M_drift 25 = .ok (.iconst 1, 1) := by decide +kernel
theorem d_M_drift_26 : decode c_M_drift 26 = .ok (.invokevirtual 52, 3) := by decide +kernel
theorem d_M_drift_29 : decode c_M_drift 29 = .ok (.ireturn, 1) := by decide +kernel
theorem d_M_drift_30 : decode c_M_drift 30 = .ok (.iconst 0, 1) := by decide +kernel
theorem d_M_drift_31 : decode c_M_drift 31 = .ok (.istore_n 3, 1) := by decide +kernel
theorem d_M_drift_32 : decode c_M_drift 32 = .ok (.iconst 0, 1) := by decide +kernel
theorem d_M_drift_33 : decode c_M_drift 33 = .ok (.istore 4, 2) := by decide +kernel
theorem d_M_drift_35 : decode c_M_drift 35 = .ok (.iconst 0, 1) := by decide +kernel
theorem d_M_drift_36 : decode c_M_drift 36 = .ok (.istore 5, 2) := by decide +kernel
theorem d_M_drift_38 : decode c_M_drift 38 = .ok (.iconst 0, 1) := by decide +kernel
theorem d_M_drift_39 : decode c_M_drift 39 = .ok (.istore 6, 2) := by decide +kernel
theorem d_M_drift_41 : decode c_M_drift 41 = .ok (.iload 6, 2) := by decide +kernel
theorem d_M_drift_43 : decode c_M_drift 43 = .ok (.aload_n 0, 1) := by decide +kernel
theorem d_M_drift_44 : decode c_M_drift 44 = .ok (.getfield 16, 3) := by decide +kernel
theorem d_M_drift_47 : decode c_M_drift 47 = .ok (.iload_n 1, 1) := by decide +kernel
theorem d_M_drift_48 : decode c_M_drift 48 = .ok (.iaload, 1) := by decide +kernel
theorem d_M_drift_49 : decode c_M_drift 49 = .ok (.if_icmp .ge 136, 3) := by decide +kernel
theorem d_M_drift_52 : decode c_M_drift 52 = .ok (.aload_n 0, 1) := by decide +kernel
theorem d_M_drift_53 : decode c_M_drift 53 = .ok (.getfield 13, 3) := by decide +kernel
theorem d_M_drift_56 : decode c_M_drift 56 = .ok (.bipush 24, 2) := by decide +kernel
theorem d_M_drift_58 : decode c_M_drift 58 = .ok (.iload_n 1, 1) := by decide +kernel
theorem d_M_drift_59 : decode c_M_drift 59 = .ok (.imul, 1) := by decide +kernel
theorem d_M_drift_60 : decode c_M_drift 60 = .ok (.iload 6, 2) := by decide +kernel
theorem d_M_drift_62 : decode c_M_drift 62 = .ok (.iadd, 1) := by decide +kernel
theorem d_M_drift_63 : decode c_M_drift 63 = .ok (.iaload, 1) := by decide +kernel
theorem d_M_drift_64 : decode c_M_drift 64 = .ok (.istore 7, 2) := by decide +kernel
theorem d_M_drift_66 : decode c_M_drift 66 = .ok (.iload 7, 2) := by decide +kernel
theorem d_M_drift_68 : decode c_M_drift 68 = .ok (.bipush 102, 2) := by decide +kernel
theorem d_M_drift_70 : decode c_M_drift 70 = .ok (.if_icmp .ne 7, 3) := by decide +kernel
theorem d_M_drift_73 : decode c_M_drift 73 = .ok (.iconst 0, 1) := by decide +kernel
theorem d_M_drift_74 : decode c_M_drift 74 = .ok (.goto 37, 3) := by decide +kernel
theorem d_M_drift_77 : decode c_M_drift 77 = .ok (.iload 7, 2) := by decide +kernel
theorem d_M_drift_79 : decode c_M_drift 79 = .ok (.bipush 114, 2) := by decide +kernel
theorem d_M_drift_81 : decode c_M_drift 81 = .ok (.if_icmp .ne 7, 3) := by decide +kernel
theorem d_M_drift_84 : decode c_M_drift 84 = .ok (.iconst 1, 1) := by decide +kernel
theorem d_M_drift_85 : decode c_M_drift 85 = .ok (.goto 26, 3) := by decide +kernel
theorem d_M_drift_88 : decode c_M_drift 88 = .ok (.iload 7, 2) := by decide +kernel
theorem d_M_drift_90 : decode c_M_drift 90 = .ok (.bipush 98, 2) := by decide +kernel
theorem d_M_drift_92 : decode c_M_drift 92 = .ok (.if_icmp .ne 7, 3) := by decide +kernel
theorem d_M_drift_95 : decode c_M_drift 95 = .ok (.iconst 2, 1) := by decide +kernel
theorem d_M_drift_96 : decode c_M_drift 96 = .ok (.goto 15, 3) := by decide +kernel
theorem d_M_drift_99 : decode c_M_drift 99 = .ok (.iload 7, 2) := by decide +kernel
theorem d_M_drift_101 : decode c_M_drift 101 = .ok (.bipush 108, 2) := by decide +kernel
theorem d_M_drift_103 : decode c_M_drift 103 = .ok (.if_icmp .ne 7, 3) := by decide +kernel
theorem d_M_drift_106 : decode c_M_drift 106 = .ok (.iconst 3, 1) := by decide +kernel
theorem d_M_drift_107 : decode c_M_drift 107 = .ok (.goto 4, 3) := by decide +kernel
theorem d_M_drift_110 : decode c_M_drift 110 = .ok (.iconst (-1), 1) := by decide +kernel
theorem d_M_drift_111 : decode c_M_drift 111 = .ok (.istore 8, 2) := by decide +kernel
theorem d_M_drift_113 : decode c_M_drift 113 = .ok (.iload 8, 2) := by decide +kernel
theorem d_M_drift_115 : decode c_M_drift 115 = .ok (.iconst (-1), 1) := by decide +kernel
theorem d_M_drift_116 : decode c_M_drift 116 = .ok (.if_icmp .eq 33, 3) := by decide +kernel
theorem d_M_drift_119 : decode c_M_drift 119 = .ok (.iload_n 3, 1) := by decide +kernel
theorem d_M_drift_120 : decode c_M_drift 120 = .ok (.getstatic 81, 3) := by decide +kernel
theorem d_M_drift_123 : decode c_M_drift 123 = .ok (.iload 5, 2) := by decide +kernel
theorem d_M_drift_125 : decode c_M_drift 125 = .ok (.iload 8, 2) := by decide +kernel
theorem d_M_drift_127 : decode c_M_drift 127 = .ok (.iadd, 1) := by decide +kernel
theorem d_M_drift_128 : decode c_M_drift 128 = .ok (.iconst 4, 1) := by decide +kernel
theorem d_M_drift_129 : decode c_M_drift 129 = .ok (.irem, 1) := by decide +kernel
theorem d_M_drift_130 : decode c_M_drift 130 = .ok (.iaload, 1) := by decide +kernel
theorem d_M_drift_131 : decode c_M_drift 131 = .ok (.iadd, 1) := by decide +kernel
theorem d_M_drift_132 : decode c_M_drift 132 = .ok (.istore_n 3, 1) := by decide +kernel
theorem d_M_drift_133 : decode c_M_drift 133 = .ok (.iload 4, 2) := by decide +kernel
theorem d_M_drift_135 : decode c_M_drift 135 = .ok (.getstatic 84, 3) := by decide +kernel
theorem d_M_drift_138 : decode c_M_drift 138 = .ok (.iload 5, 2) := by decide +kernel
theorem d_M_drift_140 : decode c_M_drift 140 = .ok (.iload 8, 2) := by decide +kernel
theorem d_M_drift_142 : decode c_M_drift 142 = .ok (.iadd, 1) := by decide +kernel
theorem d_M_drift_143 : decode c_M_drift 143 = .ok (.iconst 4, 1) := by decide +kernel
theorem d_M_drift_144 : decode c_M_drift 144 = .ok (.irem, 1) := by decide +kernel
theorem d_M_drift_145 : decode c_M_drift 145 = .ok (.iaload, 1) := by decide +kernel
theorem d_M_drift_146 : decode c_M_drift 146 = .ok (.iadd, 1) := by decide +kernel
theorem d_M_drift_147 : decode c_M_drift 147 = .ok (.istore 4, 2) := by decide +kernel
theorem d_M_drift_149 : decode c_M_drift 149 = .ok (.iload 5, 2) := by decide +kernel
theorem d_M_drift_151 : decode c_M_drift 151 = .ok (.iload 7, 2) := by decide +kernel
theorem d_M_drift_153 : decode c_M_drift 153 = .ok (.bipush 116, 2) := by decide +kernel
theorem d_M_drift_155 : decode c_M_drift 155 = .ok (.if_icmp .ne 7, 3) := by decide +kernel
theorem d_M_drift_158 : decode c_M_drift 158 = .ok (.iconst 1, 1) := by decide +kernel
theorem d_M_drift_159 : decode c_M_drift 159 = .ok (.goto 15, 3) := by decide +kernel
theorem d_M_drift_162 : decode c_M_drift 162 = .ok (.iload 7, 2) := by decide +kernel
theorem d_M_drift_164 : decode c_M_drift 164 = .ok (.bipush 117, 2) := by decide +kernel
theorem d_M_drift_166 : decode c_M_drift 166 = .ok (.if_icmp .ne 7, 3) := by decide +kernel
theorem d_M_drift_169 : decode c_M_drift 169 = .ok (.iconst 3, 1) := by decide +kernel
theorem d_M_drift_170 : decode c_M_drift 170 = .ok (.goto 4, 3) := by decide +kernel
theorem d_M_drift_173 : decode c_M_drift 173 = .ok (.iconst 0, 1) := by decide +kernel
theorem d_M_drift_174 : decode c_M_drift 174 = .ok (.iadd, 1) := by decide +kernel
theorem d_M_drift_175 : decode c_M_drift 175 = .ok (.iconst 4, 1) := by decide +kernel
theorem d_M_drift_176 : decode c_M_drift 176 = .ok (.irem, 1) := by decide +kernel
theorem d_M_drift_177 : decode c_M_drift 177 = .ok (.istore 5, 2) := by decide +kernel
theorem d_M_drift_179 : decode c_M_drift 179 = .ok (.iinc 6 1, 3) := by decide +kernel
theorem d_M_drift_182 : decode c_M_drift 182 = .ok (.goto (-141), 3) := by decide +kernel
theorem d_M_drift_185 : decode c_M_drift 185 = .ok (.iload_n 2, 1) := by decide +kernel
theorem d_M_drift_186 : decode c_M_drift 186 = .ok (.iconst 3, 1) := by decide +kernel
theorem d_M_drift_187 : decode c_M_drift 187 = .ok (.if_icmp .ge 24, 3) := by decide +kernel
theorem d_M_drift_190 : decode c_M_drift 190 = .ok (.iload_n 2, 1) := by decide +kernel
theorem d_M_drift_191 : decode c_M_drift 191 = .ok (.ifCond .ne 7, 3) := by decide +kernel
theorem d_M_drift_194 : decode c_M_drift 194 = .ok (.iload_n 3, 1) := by decide +kernel
theorem d_M_drift_195 : decode c_M_drift 195 = .ok (.goto 15, 3) := by decide +kernel
theorem d_M_drift_198 : decode c_M_drift 198 = .ok (.iload_n 2, 1) := by decide +kernel
theorem d_M_drift_199 : decode c_M_drift 199 = .ok (.iconst 1, 1) := by decide +kernel
theorem d_M_drift_200 : decode c_M_drift 200 = .ok (.if_icmp .ne 8, 3) := by decide +kernel
theorem d_M_drift_203 : decode c_M_drift 203 = .ok (.iload 4, 2) := by decide +kernel
theorem d_M_drift_205 : decode c_M_drift 205 = .ok (.goto 5, 3) := by decide +kernel
theorem d_M_drift_208 : decode c_M_drift 208 = .ok (.iload 5, 2) := by decide +kernel
theorem d_M_drift_210 : decode c_M_drift 210 = .ok (.ireturn, 1) := by decide +kernel
theorem d_M_drift_211 : decode c_M_drift 211 = .ok (.iload 5, 2) := by decide +kernel
theorem d_M_drift_213 : decode c_M_drift 213 = .ok (.ifCond .ne 20, 3) := by decide +kernel
theorem d_M_drift_216 : decode c_M_drift 216 = .ok (.iload_n 3, 1) := by decide +kernel
theorem d_M_drift_217 : decode c_M_drift 217 = .ok (.ifCond .ne 12, 3) := by decide +kernel
theorem d_M_drift_220 : decode c_M_drift 220 = .ok (.iload 4, 2) := by decide +kernel
theorem d_M_drift_222 : decode c_M_drift 222 = .ok (.ifCond .ne 7, 3) := by decide +kernel
theorem d_M_drift_225 : decode c_M_drift 225 = .ok (.iconst 1, 1) := by decide +kernel
theorem d_M_drift_226 : decode c_M_drift 226 = .ok (.goto 18, 3) := by decide +kernel
theorem d_M_drift_229 : decode c_M_drift 229 = .ok (.iconst (-1), 1) := by decide +kernel
theorem d_M_drift_230 : decode c_M_drift 230 = .ok (.goto 14, 3) := by decide +kernel
theorem d_M_drift_233 : decode c_M_drift 233 = .ok (.iload 5, 2) := by decide +kernel
theorem d_M_drift_235 : decode c_M_drift 235 = .ok (.iconst 2, 1) := by decide +kernel
theorem d_M_drift_236 : decode c_M_drift 236 = .ok (.if_icmp .ne 7, 3) := by decide +kernel
theorem d_M_drift_239 : decode c_M_drift 239 = .ok (.iconst 2, 1) := by decide +kernel
theorem d_M_drift_240 : decode c_M_drift 240 = .ok (.goto 4, 3) := by decide +kernel
theorem d_M_drift_243 : decode c_M_drift 243 = .ok (.iconst 4, 1) := by decide +kernel
theorem d_M_drift_244 : decode c_M_drift 244 = .ok (.ireturn, 1) := by decide +kernel
theorem d_M_come_0 : decode c_M_come 0 = .ok (.aload_n 0, 1) := by decide +kernel
theorem d_M_come_1 : decode c_M_come 1 = .ok (.iconst 0, 1) := by decide +kernel
theorem d_M_come_2 : decode c_M_come 2 = .ok (.putfield 45, 3) := by decide +kernel
theorem d_M_come_5 : decode c_M_come 5 = .ok (.iload_n 1, 1) := by decide +kernel
theorem d_M_come_6 : decode c_M_come 6 = .ok (.iconst 0, 1) := by decide +kernel
theorem d_M_come_7 : decode c_M_come 7 = .ok (.bipush 15, 2) := by decide +kernel
theorem d_M_come_9 : decode c_M_come 9 = .ok (.invokestatic 56, 3) := by decide +kernel
theorem d_M_come_12 : decode c_M_come 12 = .ok (.ifCond .eq 33, 3) := by decide +kernel
theorem d_M_come_15 : decode c_M_come 15 = .ok (.iload_n 2, 1) := by decide +kernel
theorem d_M_come_16 : decode c_M_come 16 = .ok (.iconst 0, 1) := by decide +kernel
theorem d_M_come_17 : decode c_M_come 17 = .ok (.bipush 15, 2) := by decide +kernel
theorem d_M_come_19 : decode c_M_come 19 = .ok (.invokestatic 56, 3) := by decide +kernel
theorem d_M_come_22 : decode c_M_come 22 = .ok (.ifCond .eq 23, 3) := by decide +kernel
theorem d_M_come_25 : decode c_M_come 25 = .ok (.iload_n 3, 1) := by decide +kernel
theorem d_M_come_26 : decode c_M_come 26 = .ok (.iconst 0, 1) := by decide +kernel
theorem d_M_come_27 : decode c_M_come 27 = .ok (.iconst 3, 1) := by decide +kernel
theorem d_M_come_28 : decode c_M_come 28 = .ok (.invokestatic 56, 3) := by decide +kernel
theorem d_M_come_31 : decode c_M_come 31 = .ok (.ifCond .eq 14, 3) := by decide +kernel
theorem d_M_come_34 : decode c_M_come 34 = .ok (.iload 4, 2) := by decide +kernel
theorem d_M_come_36 : decode c_M_come 36 = .ok (.iconst 1, 1) := by decide +kernel
theorem d_M_come_37 : decode c_M_come 37 = .ok (.bipush 9, 2) := by decide +kernel
theorem d_M_come_39 : decode c_M_come 39 = .ok (.invokestatic 56, 3) := by decide +kernel
theorem d_M_come_42 : decode c_M_come 42 = .ok (.ifCond .ne 9, 3) := by decide +kernel
theorem d_M_come_45 : decode c_M_come 45 = .ok (.aload_n 0, 1) := by decide +kernel
theorem d_M_come_46 : decode c_M_come 46 = .ok (.iconst 1, 1) := by decide +kernel
theorem d_M_come_47 : decode c_M_come 47 = .ok (.invokevirtual 52, 3) := by decide +kernel
theorem d_M_come_50 : decode c_M_come 50 = .ok (.ireturn, 1) := by decide +kernel
theorem d_M_come_51 : decode c_M_come 51 = .ok (.aload_n 0, 1) := by decide +kernel
theorem d_M_come_52 : decode c_M_come 52 = .ok (.getfield 24, 3) := by decide +kernel
theorem d_M_come_55 : decode c_M_come 55 = .ok (.iload_n 1, 1) := by decide +kernel
theorem d_M_come_56 : decode c_M_come 56 = .ok (.iload_n 2, 1) := by decide +kernel
theorem d_M_come_57 : decode c_M_come 57 = .ok (.invokevirtual 87, 3) := by decide +kernel
theorem d_M_come_60 : decode c_M_come 60 = .ok (.iconst (-1), 1) := by decide +kernel
theorem d_M_come_61 : decode c_M_come 61 = .ok (.if_icmp .ne 15, 3) := by decide +kernel
theorem d_M_come_64 : decode c_M_come 64 = .ok (.aload_n 0, 1) := by decide +kernel
theorem d_M_come_65 : decode c_M_come 65 = .ok (.getfield 24, 3) := by decide +kernel
theorem d_M_come_68 : decode c_M_come 68 = .ok (.getfield 72, 3) := by decide +kernel
theorem d_M_come_71 : decode c_M_come 71 = .ok (.bipush 8, 2) := by decide +kernel
theorem d_M_come_73 : decode c_M_come 73 = .ok (.if_icmp .ne 9, 3) := by decide +kernel
theorem d_M_come_76 : decode c_M_come 76 = .ok (.aload_n 0, 1) := by decide +kernel
theorem d_M_come_77 : decode c_M_come 77 = .ok (.iconst 2, 1) := by decide +kernel
theorem d_M_come_78 : decode c_M_come 78 = .ok (.invokevirtual 52, 3) := by decide +kernel
theorem d_M_come_81 : decode c_M_come 81 = .ok (.ireturn, 1) := by decide +kernel
theorem d_M_come_82 : decode c_M_come 82 = .ok (.aload_n 0, 1) := by decide +kernel
theorem d_M_come_83 : decode c_M_come 83 = .ok (.getfield 24, 3) := by decide +kernel
theorem d_M_come_86 : decode c_M_come 86 = .ok (.getfield 72, 3) := by decide +kernel
theorem d_M_come_89 : decode c_M_come 89 = .ok (.istore 5, 2) := by decide +kernel
theorem d_M_come_91 : decode c_M_come 91 = .ok (.aload_n 0, 1) := by decide +kernel
theorem d_M_come_92 : decode c_M_come 92 = .ok (.getfield 24, 3) := by decide +kernel
theorem d_M_come_95 : decode c_M_come 95 = .ok (.getfield 91, 3) := by decide +kernel
theorem d_M_come_98 : decode c_M_come 98 = .ok (.iload 5, 2) := by decide +kernel
theorem d_M_come_100 : decode c_M_come 100 = .ok (.iload_n 1, 1) := by decide +kernel
theorem d_M_come_101 : decode c_M_come 101 = .ok (.iastore, 1) := by decide +kernel
theorem d_M_come_102 : decode c_M_come 102 = .ok (.aload_n 0, 1) := by decide +kernel
theorem d_M_come_103 : decode c_M_come 103 = .ok (.getfield 24, 3) := by decide +kernel
theorem d_M_come_106 : decode c_M_come 106 = .ok (.getfield 94, 3) := by decide +kernel
theorem d_M_come_109 : decode c_M_come 109 = .ok (.iload 5, 2) := by decide +kernel
theorem d_M_come_111 : decode c_M_come 111 = .ok (.iload_n 2, 1) := by decide +kernel
theorem d_M_come_112 : decode c_M_come 112 = .ok (.iastore, 1) := by decide +kernel
theorem d_M_come_113 : decode c_M_come 113 = .ok (.aload_n 0, 1) := by decide +kernel
theorem d_M_come_114 : decode c_M_come 114 = .ok (.getfield 24, 3) := by decide +kernel
theorem d_M_come_117 : decode c_M_come 117 = .ok (.getfield 97, 3) := by decide +kernel
theorem d_M_come_120 : decode c_M_come 120 = .ok (.iload 5, 2) := by decide +kernel
theorem d_M_come_122 : decode c_M_come 122 = .ok (.iload_n 3, 1) := by decide +kernel
theorem d_M_come_123 : decode c_M_come 123 = .ok (.iastore, 1) := by decide +kernel
theorem d_M_come_124 : decode c_M_come 124 = .ok (.aload_n 0, 1) := by decide +kernel
theorem d_M_come_125 : decode c_M_come 125 = .ok (.getfield 24, 3) := by decide +kernel
theorem d_M_come_128 : decode c_M_come 128 = .ok (.getfield 100, 3) := by decide +kernel
theorem d_M_come_131 : decode c_M_come 131 = .ok (.iload 5, 2) := by decide +kernel
theorem d_M_come_133 : decode c_M_come 133 = .ok (.iload 4, 2) := by decide +kernel
theorem d_M_come_135 : decode c_M_come 135 = .ok (.iastore, 1) := by decide +kernel
theorem d_M_come_136 : decode c_M_come 136 = .ok (.aload_n 0, 1) := by decide +kernel
theorem d_M_come_137 : decode c_M_come 137 = .ok (.getfield 24, 3) := by decide +kernel
theorem d_M_come_140 : decode c_M_come 140 = .ok (.getfield 103, 3) := by decide +kernel
theorem d_M_come_143 : decode c_M_come 143 = .ok (.iload 5, 2) := by decide +kernel
theorem d_M_come_145 : decode c_M_come 145 = .ok (.bipush 100, 2) := by decide +kernel
theorem d_M_come_147 : decode c_M_come 147 = .ok (.iastore, 1) := by decide +kernel
theorem d_M_come_148 : decode c_M_come 148 = .ok (.aload_n 0, 1) := by decide +kernel
theorem d_M_come_149 : decode c_M_come 149 = .ok (.getfield 24, 3) := by decide +kernel
theorem d_M_come_152 : decode c_M_come 152 = .ok (.getfield 106, 3) := by decide +kernel
theorem d_M_come_155 : decode c_M_come 155 = .ok (.iload 5, 2) := by decide +kernel
theorem d_M_come_157 : decode c_M_come 157 = .ok (.iconst (-1), 1) := by decide +kernel
theorem d_M_come_158 : decode c_M_come 158 = .ok (.iastore, 1) := by decide +kernel
theorem d_M_come_159 : decode c_M_come 159 = .ok (.aload_n 0, 1) := by decide +kernel
theorem d_M_come_160 : decode c_M_come 160 = .ok (.getfield 24, 3) := by decide +kernel
theorem d_M_come_163 : decode c_M_come 163 = .ok (.dup, 1) := by decide +kernel
theorem d_M_come_164 : decode c_M_come 164 = .ok (.getfield 72, 3) := by decide +kernel
theorem d_M_come_167 : decode c_M_come 167 = .ok (.iconst 1, 1) := by decide +kernel
theorem d_M_come_168 : decode c_M_come 168 = .ok (.iadd, 1) := by decide +kernel
theorem d_M_come_169 : decode c_M_come 169 = .ok (.putfield 72, 3) := by decide +kernel
theorem d_M_come_172 : decode c_M_come 172 = .ok (.iload 5, 2) := by decide +kernel
theorem d_M_come_174 : decode c_M_come 174 = .ok (.ireturn, 1) := by decide +kernel
theorem d_M_isDancer_0 : decode c_M_isDancer 0 = .ok (.iload_n 1, 1) := by decide +kernel
theorem d_M_isDancer_1 : decode c_M_isDancer 1 = .ok (.iconst 0, 1) := by decide +kernel
theorem d_M_isDancer_2 : decode c_M_isDancer 2 = .ok (.aload_n 0, 1) := by decide +kernel
theorem d_M_isDancer_3 : decode c_M_isDancer 3 = .ok (.getfield 24, 3) := by decide +kernel
theorem d_M_isDancer_6 : decode c_M_isDancer 6 = .ok (.getfield 72, 3) := by decide +kernel
theorem d_M_isDancer_9 : decode c_M_isDancer 9 = .ok (.iconst 1, 1) := by decide +kernel
theorem d_M_isDancer_10 : decode c_M_isDancer 10 = .ok (.isub, 1) := by decide +kernel
theorem d_M_isDancer_11 : decode c_M_isDancer 11 = .ok (.invokestatic 56, 3) := by decide +kernel
theorem d_M_isDancer_14 : decode c_M_isDancer 14 = .ok (.ireturn, 1) := by decide +kernel
theorem d_M_dance_0 : decode c_M_dance 0 = .ok (.aload_n 0, 1) := by decide +kernel
theorem d_M_dance_1 : decode c_M_dance 1 = .ok (.iconst 0, 1) := by decide +kernel
theorem d_M_dance_2 : decode c_M_dance 2 = .ok (.putfield 45, 3) := by decide +kernel
theorem d_M_dance_5 : decode c_M_dance 5 = .ok (.aload_n 0, 1) := by decide +kernel
theorem d_M_dance_6 : decode c_M_dance 6 = .ok (.iload_n 1, 1) := by decide +kernel
theorem d_M_dance_7 : decode c_M_dance 7 = .ok (.invokevirtual 109, 3) := by decide +kernel
theorem d_M_dance_10 : decode c_M_dance 10 = .ok (.ifCond .eq 13, 3) := by decide +kernel
theorem d_M_dance_13 : decode c_M_dance 13 = .ok (.iload_n 2, 1) := by decide +kernel
theorem d_M_dance_14 : decode c_M_dance 14 = .ok (.iconst 0, 1) := by decide +kernel
theorem d_M_dance_15 : decode c_M_dance 15 = .ok (.bipush 7, 2) := by decide +kernel
theorem d_M_dance_17 : decode c_M_dance 17 = .ok (.invokestatic 56, 3) := by decide +kernel
theorem d_M_dance_20 : decode c_M_dance 20 = .ok (.ifCond .ne 9, 3) := by decide +kernel
theorem d_M_dance_23 : decode c_M_dance 23 = .ok (.aload_n 0, 1) := by decide +kernel
theorem d_M_dance_24 : decode c_M_dance 24 = .ok (.iconst 1, 1) := by decide +kernel
theorem d_M_dance_25 : decode c_M_dance 25 = .ok (.invokevirtual 52, 3) := by decide +kernel
theorem d_M_dance_28 : decode c_M_dance 28 = .ok (.ireturn, 1) := by decide +kernel
theorem d_M_dance_29 : decode c_M_dance 29 = .ok (.aload_n 0, 1) := by decide +kernel
theorem d_M_dance_30 : decode c_M_dance 30 = .ok (.getfield 24, 3) := by decide +kernel
theorem d_M_dance_33 : decode c_M_dance 33 = .ok (.getfield 75, 3) := by decide +kernel
theorem d_M_dance_36 : decode c_M_dance 36 = .ok (.iload_n 1, 1) := by decide +kernel
theorem d_M_dance_37 : decode c_M_dance 37 = .ok (.iaload, 1) := by decide +kernel
theorem d_M_dance_38 : decode c_M_dance 38 = .ok (.istore_n 3, 1) := by decide +kernel
theorem d_M_dance_39 : decode c_M_dance 39 = .ok (.aload_n 0, 1) := by decide +kernel
theorem d_M_dance_40 : decode c_M_dance 40 = .ok (.getfield 24, 3) := by decide +kernel
theorem d_M_dance_43 : decode c_M_dance 43 = .ok (.getfield 75, 3) := by decide +kernel
theorem d_M_dance_46 : decode c_M_dance 46 = .ok (.iload_n 1, 1) := by decide +kernel
theorem d_M_dance_47 : decode c_M_dance 47 = .ok (.iload_n 2, 1) := by decide +kernel
theorem d_M_dance_48 : decode c_M_dance 48 = .ok (.iastore, 1) := by decide +kernel
theorem d_M_dance_49 : decode c_M_dance 49 = .ok (.aload_n 0, 1) := by decide +kernel
theorem d_M_dance_50 : decode c_M_dance 50 = .ok (.getfield 24, 3) := by decide +kernel
theorem d_M_dance_53 : decode c_M_dance 53 = .ok (.getfield 78, 3) := by decide +kernel
theorem d_M_dance_56 : decode c_M_dance 56 = .ok (.iload_n 1, 1) := by decide +kernel
theorem d_M_dance_57 : decode c_M_dance 57 = .ok (.iconst 0, 1) := by decide +kernel
theorem d_M_dance_58 : decode c_M_dance 58 = .ok (.iastore, 1) := by decide +kernel
theorem d_M_dance_59 : decode c_M_dance 59 = .ok (.iload_n 3, 1) := by decide +kernel
theorem d_M_dance_60 : decode c_M_dance 60 = .ok (.ireturn, 1) := by decide +kernel
theorem d_M_pair_0 : decode c_M_pair 0 = .ok (.aload_n 0, 1) := by decide +kernel
theorem d_M_pair_1 : decode c_M_pair 1 = .ok (.iconst 0, 1) := by decide +kernel
theorem d_M_pair_2 : decode c_M_pair 2 = .ok (.putfield 45, 3) := by decide +kernel
theorem d_M_pair_5 : decode c_M_pair 5 = .ok (.aload_n 0, 1) := by decide +kernel
theorem d_M_pair_6 : decode c_M_pair 6 = .ok (.iload_n 1, 1) := by decide +kernel
theorem d_M_pair_7 : decode c_M_pair 7 = .ok (.invokevirtual 109, 3) := by decide +kernel
theorem d_M_pair_10 : decode c_M_pair 10 = .ok (.ifCond .eq 11, 3) := by decide +kernel
theorem d_M_pair_13 : decode c_M_pair 13 = .ok (.aload_n 0, 1) := by decide +kernel
theorem d_M_pair_14 : decode c_M_pair 14 = .ok (.iload_n 2, 1) := by decide +kernel
theorem d_M_pair_15 : decode c_M_pair 15 = .ok (.invokevirtual 109, 3) := by decide +kernel
theorem d_M_pair_18 : decode c_M_pair 18 = .ok (.ifCond .ne 9, 3) := by decide +kernel
theorem d_M_pair_21 : decode c_M_pair 21 = .ok (.aload_n 0, 1) := by decide +kernel
theorem d_M_pair_22 : decode c_M_pair 22 = .ok (.iconst 1, 1) := by decide +kernel
theorem d_M_pair_23 : decode c_M_pair 23 = .ok (.invokevirtual 52, 3) := by decide +kernel
theorem d_M_pair_26 : decode c_M_pair 26 = .ok (.ireturn, 1) := by decide +kernel
theorem d_M_pair_27 : decode c_M_pair 27 = .ok (.iload_n 1, 1) := by decide +kernel
theorem d_M_pair_28 : decode c_M_pair 28 = .ok (.iload_n 2, 1) := by decide +kernel
theorem d_M_pair_29 : decode c_M_pair 29 = .ok (.if_icmp .ne 9, 3) := by decide +kernel
theorem d_M_pair_32 : decode c_M_pair 32 = .ok (.aload_n 0, 1) := by decide +kernel
theorem d_M_pair_33 : decode c_M_pair 33 = .ok (.iconst 2, 1) := by decide +kernel
theorem d_M_pair_34 : decode c_M_pair 34 = .ok (.invokevirtual 52, 3) := by decide +kernel
theorem d_M_pair_37 : decode c_M_pair 37 = .ok (.ireturn, 1) := by decide +kernel
theorem d_M_pair_38 : decode c_M_pair 38 = .ok (.aload_n 0, 1) := by decide +kernel
theorem d_M_pair_39 : decode c_M_pair 39 = .ok (.getfield 24, 3) := by decide +kernel
theorem d_M_pair_42 : decode c_M_pair 42 = .ok (.getfield 106, 3) := by decide +kernel
theorem d_M_pair_45 : decode c_M_pair 45 = .ok (.iload_n 1, 1) := by decide +kernel
theorem d_M_pair_46 : decode c_M_pair 46 = .ok (.iaload, 1) := by decide +kernel
theorem d_M_pair_47 : decode c_M_pair 47 = .ok (.iconst (-1), 1) := by decide +kernel
theorem d_M_pair_48 : decode c_M_pair 48 = .ok (.if_icmp .ne 28, 3) := by decide +kernel
theorem d_M_pair_51 : decode c_M_pair 51 = .ok (.aload_n 0, 1) := by decide +kernel
theorem d_M_pair_52 : decode c_M_pair 52 = .ok (.getfield 24, 3) := by decide +kernel
theorem d_M_pair_55 : decode c_M_pair 55 = .ok (.getfield 106, 3) := by decide +kernel
theorem d_M_pair_58 : decode c_M_pair 58 = .ok (.iload_n 2, 1) := by decide +kernel
theorem d_M_pair_59 : decode c_M_pair 59 = .ok (.iaload, 1) := by decide +kernel
theorem d_M_pair_60 : decode c_M_pair 60 = .ok (.iconst (-1), 1) := by decide +kernel
theorem d_M_pair_61 : decode c_M_pair 61 = .ok (.if_icmp .ne 15, 3) := by decide +kernel
theorem d_M_pair_64 : decode c_M_pair 64 = .ok (.aload_n 0, 1) := by decide +kernel
theorem d_M_pair_65 : decode c_M_pair 65 = .ok (.getfield 24, 3) := by decide +kernel
theorem d_M_pair_68 : decode c_M_pair 68 = .ok (.iload_n 1, 1) := by decide +kernel
theorem d_M_pair_69 : decode c_M_pair 69 = .ok (.iload_n 2, 1) := by decide +kernel
theorem d_M_pair_70 : decode c_M_pair 70 = .ok (.invokevirtual 112, 3) := by decide +kernel
theorem d_M_pair_73 : decode c_M_pair 73 = .ok (.ifCond .ne 9, 3) := by decide +kernel
theorem d_M_pair_76 : decode c_M_pair 76 = .ok (.aload_n 0, 1) := by decide +kernel
theorem d_M_pair_77 : decode c_M_pair 77 = .ok (.iconst 3, 1) := by decide +kernel
theorem d_M_pair_78 : decode c_M_pair 78 = .ok (.invokevirtual 52, 3) := by decide +kernel
theorem d_M_pair_81 : decode c_M_pair 81 = .ok (.ireturn, 1) := by decide +kernel
theorem d_M_pair_82 : decode c_M_pair 82 = .ok (.aload_n 0, 1) := by decide +kernel
theorem d_M_pair_83 : decode c_M_pair 83 = .ok (.getfield 24, 3) := by decide +kernel
theorem d_M_pair_86 : decode c_M_pair 86 = .ok (.getfield 106, 3) := by decide +kernel
theorem d_M_pair_89 : decode c_M_pair 89 = .ok (.iload_n 1, 1) := by decide +kernel
theorem d_M_pair_90 : decode c_M_pair 90 = .ok (.iload_n 2, 1) := by decide +kernel
theorem d_M_pair_91 : decode c_M_pair 91 = .ok (.iastore, 1) := by decide +kernel
theorem d_M_pair_92 : decode c_M_pair 92 = .ok (.aload_n 0, 1) := by decide +kernel
theorem d_M_pair_93 : decode c_M_pair 93 = .ok (.getfield 24, 3) := by decide +kernel
theorem d_M_pair_96 : decode c_M_pair 96 = .ok (.getfield 106, 3) := by decide +kernel
theorem d_M_pair_99 : decode c_M_pair 99 = .ok (.iload_n 2, 1) := by decide +kernel
theorem d_M_pair_100 : decode c_M_pair 100 = .ok (.iload_n 1, 1) := by decide +kernel
theorem d_M_pair_101 : decode c_M_pair 101 = .ok (.iastore, 1) := by decide +kernel
theorem d_M_pair_102 : decode c_M_pair 102 = .ok (.aload_n 0, 1) := by decide +kernel
theorem d_M_pair_103 : decode c_M_pair 103 = .ok (.getfield 24, 3) := by decide +kernel
theorem d_M_pair_106 : decode c_M_pair 106 = .ok (.getfield 116, 3) := by decide +kernel
theorem d_M_pair_109 : decode c_M_pair 109 = .ok (.iload_n 2, 1) := by decide +kernel
theorem d_M_pair_110 : decode c_M_pair 110 = .ok (.iconst 1, 1) := by decide +kernel
theorem d_M_pair_111 : decode c_M_pair 111 = .ok (.bastore, 1) := by decide +kernel
theorem d_M_pair_112 : decode c_M_pair 112 = .ok (.aload_n 0, 1) := by decide +kernel
theorem d_M_pair_113 : decode c_M_pair 113 = .ok (.getfield 24, 3) := by decide +kernel
theorem d_M_pair_116 : decode c_M_pair 116 = .ok (.iconst 2, 1) := by decide +kernel
theorem d_M_pair_117 : decode c_M_pair 117 = .ok (.invokevirtual 120, 3) := by decide +kernel
theorem d_M_pair_120 : decode c_M_pair 120 = .ok (.ireturn, 1) := by decide +kernel
theorem d_M_part_0 : decode c_M_part 0 = .ok (.aload_n 0, 1) := by decide +kernel
theorem d_M_part_1 : decode c_M_part 1 = .ok (.iconst 0, 1) := by decide +kernel
theorem d_M_part_2 : decode c_M_part 2 = .ok (.putfield 45, 3) := by decide +kernel
theorem d_M_part_5 : decode c_M_part 5 = .ok (.aload_n 0, 1) := by decide +kernel
theorem d_M_part_6 : decode c_M_part 6 = .ok (.iload_n 1, 1) := by decide +kernel
theorem d_M_part_7 : decode c_M_part 7 = .ok (.invokevirtual 109, 3) := by decide +kernel
theorem d_M_part_10 : decode c_M_part 10 = .ok (.ifCond .ne 9, 3) := by decide +kernel
theorem d_M_part_13 : decode c_M_part 13 = .ok (.aload_n 0, 1) := by decide +kernel
theorem d_M_part_14 : decode c_M_part 14 = .ok (.iconst 1, 1) := by decide +kernel
theorem d_M_part_15 : decode c_M_part 15 = .ok (.invokevirtual 52, 3) := by decide +kernel
theorem d_M_part_18 : decode c_M_part 18 = .ok (.ireturn, 1) := by decide +kernel
theorem d_M_part_19 : decode c_M_part 19 = .ok (.aload_n 0, 1) := by decide +kernel
theorem d_M_part_20 : decode c_M_part 20 = .ok (.getfield 24, 3) := by decide +kernel
theorem d_M_part_23 : decode c_M_part 23 = .ok (.getfield 106, 3) := by decide +kernel
theorem d_M_part_26 : decode c_M_part 26 = .ok (.iload_n 1, 1) := by decide +kernel
theorem d_M_part_27 : decode c_M_part 27 = .ok (.iaload, 1) := by decide +kernel
theorem d_M_part_28 : decode c_M_part 28 = .ok (.istore_n 2, 1) := by decide +kernel
theorem d_M_part_29 : decode c_M_part 29 = .ok (.iload_n 2, 1) := by decide +kernel
theorem d_M_part_30 : decode c_M_part 30 = .ok (.iconst (-1), 1) := by decide +kernel
theorem d_M_part_31 : decode c_M_part 31 = .ok (.if_icmp .ne 9, 3) := by decide +kernel
theorem d_M_part_34 : decode c_M_part 34 = .ok (.aload_n 0, 1) := by decide +kernel
theorem d_M_part_35 : decode c_M_part 35 = .ok (.iconst 2, 1) := by decide +kernel
theorem d_M_part_36 : decode c_M_part 36 = .ok (.invokevirtual 52, 3) := by decide +kernel
theorem d_M_part_39 : decode c_M_part 39 = .ok (.ireturn, 1) := by decide +kernel
theorem d_M_part_40 : decode c_M_part 40 = .ok (.iconst 2, 1) := by decide +kernel
theorem d_M_part_41 : decode c_M_part 41 = .ok (.newarray .int, 2) := by decide +kernel
theorem d_M_part_43 : decode c_M_part 43 = .ok (.dup, 1) := by decide +kernel
theorem d_M_part_44 : decode c_M_part 44 = .ok (.iconst 0, 1) := by decide +kernel
theorem d_M_part_45 : decode c_M_part 45 = .ok (.iload_n 1, 1) := by decide +kernel
theorem d_M_part_46 : decode c_M_part 46 = .ok (.iastore, 1) := by decide +kernel
theorem d_M_part_47 : decode c_M_part 47 = .ok (.dup, 1) := by decide +kernel
theorem d_M_part_48 : decode c_M_part 48 = .ok (.iconst 1, 1) := by decide +kernel
theorem d_M_part_49 : decode c_M_part 49 = .ok (.iload_n 2, 1) := by decide +kernel
theorem d_M_part_50 : decode c_M_part 50 = .ok (.iastore, 1) := by decide +kernel
theorem d_M_part_51 : decode c_M_part 51 = .ok (.astore_n 3, 1) := by decide +kernel
theorem d_M_part_52 : decode c_M_part 52 = .ok (.aload_n 3, 1) := by decide +kernel
theorem d_M_part_53 : decode c_M_part 53 = .ok (.astore 4, 2) := by decide +kernel
theorem d_M_part_55 : decode c_M_part 55 = .ok (.aload 4, 2) := by decide +kernel
theorem d_M_part_57 : decode c_M_part 57 = .ok (.arraylength, 1) := by decide +kernel
theorem d_M_part_58 : decode c_M_part 58 = .ok (.istore 5, 2) := by decide +kernel
theorem d_M_part_60 : decode c_M_part 60 = .ok (.iconst 0, 1) := by decide +kernel
theorem d_M_part_61 : decode c_M_part 61 = .ok (.istore 6, 2) := by decide +kernel
theorem d_M_part_63 : decode c_M_part 63 = .ok (.iload 6, 2) := by decide +kernel
theorem d_M_part_65 : decode c_M_part 65 = .ok (.iload 5, 2) := by decide +kernel
theorem d_M_part_67 : decode c_M_part 67 = .ok (.if_icmp .ge 38, 3) := by decide +kernel
theorem d_M_part_70 : decode c_M_part 70 = .ok (.aload 4, 2) := by decide +kernel
theorem d_M_part_72 : decode c_M_part 72 = .ok (.iload 6, 2) := by decide +kernel
theorem d_M_part_74 : decode c_M_part 74 = .ok (.iaload, 1) := by decide +kernel
theorem d_M_part_75 : decode c_M_part 75 = .ok (.istore 7, 2) := by decide +kernel
theorem d_M_part_77 : decode c_M_part 77 = .ok (.aload_n 0, 1) := by decide +kernel
theorem d_M_part_78 : decode c_M_part 78 = .ok (.getfield 24, 3) := by decide +kernel
theorem d_M_part_81 : decode c_M_part 81 = .ok (.getfield 106, 3) := by decide +kernel
theorem d_M_part_84 : decode c_M_part 84 = .ok (.iload 7, 2) := by decide +kernel
theorem d_M_part_86 : decode c_M_part 86 = .ok (.iconst (-1), 1) := by decide +kernel
theorem d_M_part_87 : decode c_M_part 87 = .ok (.iastore, 1) := by decide +kernel
theorem d_M_part_88 : decode c_M_part 88 = .ok (.aload_n 0, 1) := by decide +kernel
theorem d_M_part_89 : decode c_M_part 89 = .ok (.getfield 24, 3) := by decide +kernel
theorem d_M_part_92 : decode c_M_part 92 = .ok (.getfield 116, 3) := by decide +kernel
theorem d_M_part_95 : decode c_M_part 95 = .ok (.iload 7, 2) := by decide +kernel
theorem d_M_part_97 : decode c_M_part 97 = .ok (.iconst 0, 1) := by decide +kernel
theorem d_M_part_98 : decode c_M_part 98 = .ok (.bastore, 1) := by decide +kernel
theorem d_M_part_99 : decode c_M_part 99 = .ok (.iinc 6 1, 3) := by decide +kernel
theorem d_M_part_102 : decode c_M_part 102 = .ok (.goto (-39), 3) := by decide +kernel
theorem d_M_part_105 : decode c_M_part 105 = .ok (.iload_n 2, 1) := by decide +kernel
theorem d_M_part_106 : decode c_M_part 106 = .ok (.ireturn, 1) := by decide +kernel
theorem d_M_wind_0 : decode c_M_wind 0 = .ok (.aload_n 0, 1) := by decide +kernel
theorem d_M_wind_1 : decode c_M_wind 1 = .ok (.iconst 0, 1) := by decide +kernel
theorem d_M_wind_2 : decode c_M_wind 2 = .ok (.putfield 45, 3) := by decide +kernel
theorem d_M_wind_5 : decode c_M_wind 5 = .ok (.aload_n 0, 1) := by decide +kernel
theorem d_M_wind_6 : decode c_M_wind 6 = .ok (.iload_n 1, 1) := by decide +kernel
theorem d_M_wind_7 : decode c_M_wind 7 = .ok (.invokevirtual 109, 3) := by decide +kernel
theorem d_M_wind_10 : decode c_M_wind 10 = .ok (.ifCond .ne 9, 3) := by decide +kernel
theorem d_M_wind_13 : decode c_M_wind 13 = .ok (.aload_n 0, 1) := by decide +kernel
theorem d_M_wind_14 : decode c_M_wind 14 = .ok (.iconst 1, 1) := by decide +kernel
theorem d_M_wind_15 : decode c_M_wind 15 = .ok (.invokevirtual 52, 3) := by decide +kernel
theorem d_M_wind_18 : decode c_M_wind 18 = .ok (.ireturn, 1) := by decide +kernel
theorem d_M_wind_19 : decode c_M_wind 19 = .ok (.iload_n 2, 1) := by decide +kernel
theorem d_M_wind_20 : decode c_M_wind 20 = .ok (.sipush (-200), 3) := by decide +kernel
theorem d_M_wind_23 : decode c_M_wind 23 = .ok (.sipush 200, 3) := by decide +kernel
theorem d_M_wind_26 : decode c_M_wind 26 = .ok (.invokestatic 56, 3) := by decide +kernel
theorem d_M_wind_29 : decode c_M_wind 29 = .ok (.ifCond .ne 9, 3) := by decide +kernel
theorem d_M_wind_32 : decode c_M_wind 32 = .ok (.aload_n 0, 1) := by decide +kernel
theorem d_M_wind_33 : decode c_M_wind 33 = .ok (.iconst 2, 1) := by decide +kernel
theorem d_M_wind_34 : decode c_M_wind 34 = .ok (.invokevirtual 52, 3) := by decide +kernel
theorem d_M_wind_37 : decode c_M_wind 37 = .ok (.ireturn, 1) := by decide +kernel
theorem d_M_wind_38 : decode c_M_wind 38 = .ok (.aload_n 0, 1) := by decide +kernel
theorem d_M_wind_39 : decode c_M_wind 39 = .ok (.getfield 24, 3) := by decide +kernel
theorem d_M_wind_42 : decode c_M_wind 42 = .ok (.getfield 103, 3) := by decide +kernel
theorem d_M_wind_45 : decode c_M_wind 45 = .ok (.iload_n 1, 1) := by decide +kernel
theorem d_M_wind_46 : decode c_M_wind 46 = .ok (.iconst 0, 1) := by decide +kernel
theorem d_M_wind_47 : decode c_M_wind 47 = .ok (.sipush 200, 3) := by decide +kernel
theorem d_M_wind_50 : decode c_M_wind 50 = .ok (.aload_n 0, 1) := by decide +kernel
theorem d_M_wind_51 : decode c_M_wind 51 = .ok (.getfield 24, 3) := by decide +kernel
theorem d_M_wind_54 : decode c_M_wind 54 = .ok (.getfield 103, 3) := by decide +kernel
theorem d_M_wind_57 : decode c_M_wind 57 = .ok (.iload_n 1, 1) := by decide +kernel
theorem d_M_wind_58 : decode c_M_wind 58 = .ok (.iaload, 1) := by decide +kernel
theorem d_M_wind_59 : decode c_M_wind 59 = .ok (.iload_n 2, 1) := by decide +kernel
theorem d_M_wind_60 : decode c_M_wind 60 = .ok (.iadd, 1) := by decide +kernel
theorem d_M_wind_61 : decode c_M_wind 61 = .ok (.invokestatic 123, 3) := by decide +kernel
theorem d_M_wind_64 : decode c_M_wind 64 = .ok (.invokestatic 128, 3) := by decide +kernel
theorem d_M_wind_67 : decode c_M_wind 67 = .ok (.iastore, 1) := by decide +kernel
theorem d_M_wind_68 : decode c_M_wind 68 = .ok (.aload_n 0, 1) := by decide +kernel
theorem d_M_wind_69 : decode c_M_wind 69 = .ok (.getfield 24, 3) := by decide +kernel
theorem d_M_wind_72 : decode c_M_wind 72 = .ok (.getfield 103, 3) := by decide +kernel
theorem d_M_wind_75 : decode c_M_wind 75 = .ok (.iload_n 1, 1) := by decide +kernel
theorem d_M_wind_76 : decode c_M_wind 76 = .ok (.iaload, 1) := by decide +kernel
theorem d_M_wind_77 : decode c_M_wind 77 = .ok (.ireturn, 1) := by decide +kernel
theorem d_M_dancerTold_0 : decode c_M_dancerTold 0 = .ok (.bipush 12, 2) := by decide +kernel
theorem d_M_dancerTold_2 : decode c_M_dancerTold 2 = .ok (.newarray .int, 2) := by decide +kernel
theorem d_M_dancerTold_4 : decode c_M_dancerTold 4 = .ok (.dup, 1) := by decide +kernel
theorem d_M_dancerTold_5 : decode c_M_dancerTold 5 = .ok (.iconst 0, 1) := by decide +kernel
theorem d_M_dancerTold_6 : decode c_M_dancerTold 6 = .ok (.aload_n 0, 1) := by decide +kernel
theorem d_M_dancerTold_7 : decode c_M_dancerTold 7 = .ok (.getfield 24, 3) := by decide +kernel
theorem d_M_dancerTold_10 : decode c_M_dancerTold 10 = .ok (.getfield 91, 3) := by decide +kernel
theorem d_M_dancerTold_13 : decode c_M_dancerTold 13 = .ok (.iload_n 1, 1) := by decide +kernel
theorem d_M_dancerTold_14 : decode c_M_dancerTold 14 = .ok (.iaload, 1) := by decide +kernel
theorem d_M_dancerTold_15 : decode c_M_dancerTold 15 = .ok (.iastore, 1) := by decide +kernel
theorem d_M_dancerTold_16 : decode c_M_dancerTold 16 = .ok (.dup, 1) := by decide +kernel
theorem d_M_dancerTold_17 : decode c_M_dancerTold 17 = .ok (.iconst 1, 1) := by decide +kernel
theorem d_M_dancerTold_18 : decode c_M_dancerTold 18 = .ok (.aload_n 0, 1) := by decide +kernel
theorem d_M_dancerTold_19 : decode c_M_dancerTold 19 = .ok (.getfield 24, 3) := by decide +kernel
theorem d_M_dancerTold_22 : decode c_M_dancerTold 22 = .ok (.getfield 94, 3) := by decide +kernel
theorem d_M_dancerTold_25 : decode c_M_dancerTold 25 = .ok (.iload_n 1, 1) := by decide +kernel
theorem d_M_dancerTold_26 : decode c_M_dancerTold 26 = .ok (.iaload, 1) := by decide +kernel
theorem d_M_dancerTold_27 : decode c_M_dancerTold 27 = .ok (.iastore, 1) := by decide +kernel
theorem d_M_dancerTold_28 : decode c_M_dancerTold 28 = .ok (.dup, 1) := by decide +kernel
theorem d_M_dancerTold_29 : decode c_M_dancerTold 29 = .ok (.iconst 2, 1) := by decide +kernel
theorem d_M_dancerTold_30 : decode c_M_dancerTold 30 = .ok (.aload_n 0, 1) := by decide +kernel
theorem d_M_dancerTold_31 : decode c_M_dancerTold 31 = .ok (.getfield 24, 3) := by decide +kernel
theorem d_M_dancerTold_34 : decode c_M_dancerTold 34 = .ok (.getfield 97, 3) := by decide +kernel
theorem d_M_dancerTold_37 : decode c_M_dancerTold 37 = .ok (.iload_n 1, 1) := by decide +kernel
theorem d_M_dancerTold_38 : decode c_M_dancerTold 38 = .ok (.iaload, 1) := by decide +kernel
theorem d_M_dancerTold_39 : decode c_M_dancerTold 39 = .ok (.iastore, 1) := by decide +kernel
theorem d_M_dancerTold_40 : decode c_M_dancerTold 40 = .ok (.dup, 1) := by decide +kernel
theorem d_M_dancerTold_41 : decode c_M_dancerTold 41 = .ok (.iconst 3, 1) := by decide +kernel
theorem d_M_dancerTold_42 : decode c_M_dancerTold 42 = .ok (.aload_n 0, 1) := by decide +kernel
theorem d_M_dancerTold_43 : decode c_M_dancerTold 43 = .ok (.getfield 24, 3) := by decide +kernel
theorem d_M_dancerTold_46 : decode c_M_dancerTold 46 = .ok (.getfield 103, 3) := by decide +kernel
theorem d_M_dancerTold_49 : decode c_M_dancerTold 49 = .ok (.iload_n 1, 1) := by decide +kernel
theorem d_M_dancerTold_50 : decode c_M_dancerTold 50 = .ok (.iaload, 1) := by decide +kernel
theorem d_M_dancerTold_51 : decode c_M_dancerTold 51 = .ok (.iastore, 1) := by decide +kernel
theorem d_M_dancerTold_52 : decode c_M_dancerTold 52 = .ok (.dup, 1) := by decide +kernel
theorem d_M_dancerTold_53 : decode c_M_dancerTold 53 = .ok (.iconst 4, 1) := by decide +kernel
theorem d_M_dancerTold_54 : decode c_M_dancerTold 54 = .ok (.aload_n 0, 1) := by decide +kernel
theorem d_M_dancerTold_55 : decode c_M_dancerTold 55 = .ok (.getfield 24, 3) := by decide +kernel
theorem d_M_dancerTold_58 : decode c_M_dancerTold 58 = .ok (.getfield 100, 3) := by decide +kernel
theorem d_M_dancerTold_61 : decode c_M_dancerTold 61 = .ok (.iload_n 1, 1) := by decide +kernel
theorem d_M_dancerTold_62 : decode c_M_dancerTold 62 = .ok (.iaload, 1) := by decide +kernel
theorem d_M_dancerTold_63 : decode c_M_dancerTold 63 = .ok (.iastore, 1) := by decide +kernel
theorem d_M_dancerTold_64 : decode c_M_dancerTold 64 = .ok (.dup, 1) := by decide +kernel
theorem d_M_dancerTold_65 : decode c_M_dancerTold 65 = .ok (.iconst 5, 1) := by decide +kernel
theorem d_M_dancerTold_66 : decode c_M_dancerTold 66 = .ok (.aload_n 0, 1) := by decide +kernel
theorem d_M_dancerTold_67 : decode c_M_dancerTold 67 = .ok (.getfield 24, 3) := by decide +kernel
theorem d_M_dancerTold_70 : decode c_M_dancerTold 70 = .ok (.getfield 75, 3) := by decide +kernel
theorem d_M_dancerTold_73 : decode c_M_dancerTold 73 = .ok (.iload_n 1, 1) := by decide +kernel
theorem d_M_dancerTold_74 : decode c_M_dancerTold 74 = .ok (.iaload, 1) := by decide +kernel
theorem d_M_dancerTold_75 : decode c_M_dancerTold 75 = .ok (.iastore, 1) := by decide +kernel
theorem d_M_dancerTold_76 : decode c_M_dancerTold 76 = .ok (.dup, 1) := by decide +kernel
theorem d_M_dancerTold_77 : decode c_M_dancerTold 77 = .ok (.bipush 6, 2) := by decide +kernel
theorem d_M_dancerTold_79 : decode c_M_dancerTold 79 = .ok (.aload_n 0, 1) := by decide +kernel
theorem d_M_dancerTold_80 : decode c_M_dancerTold 80 = .ok (.getfield 24, 3) := by decide +kernel
theorem d_M_dancerTold_83 : decode c_M_dancerTold 83 = .ok (.getfield 78, 3) := by decide +kernel
theorem d_M_dancerTold_86 : decode c_M_dancerTold 86 = .ok (.iload_n 1, 1) := by decide +kernel
theorem d_M_dancerTold_87 : decode c_M_dancerTold 87 = .ok (.iaload, 1) := by decide +kernel
theorem d_M_dancerTold_88 : decode c_M_dancerTold 88 = .ok (.iastore, 1) := by decide +kernel
theorem d_M_dancerTold_89 : decode c_M_dancerTold 89 = .ok (.dup, 1) := by decide +kernel
theorem d_M_dancerTold_90 : decode c_M_dancerTold 90 = .ok (.bipush 7, 2) := by decide +kernel
theorem d_M_dancerTold_92 : decode c_M_dancerTold 92 = .ok (.aload_n 0, 1) := by decide +kernel
theorem d_M_dancerTold_93 : decode c_M_dancerTold 93 = .ok (.getfield 24, 3) := by decide +kernel
theorem d_M_dancerTold_96 : decode c_M_dancerTold 96 = .ok (.getfield 106, 3) := by decide +kernel
theorem d_M_dancerTold_99 : decode c_M_dancerTold 99 = .ok (.iload_n 1, 1) := by decide +kernel
theorem d_M_dancerTold_100 : decode c_M_dancerTold 100 = .ok (.iaload, 1) := by decide +kernel
theorem d_M_dancerTold_101 : decode c_M_dancerTold 101 = .ok (.iastore, 1) := by decide +kernel
theorem d_M_dancerTold_102 : decode c_M_dancerTold 102 = .ok (.dup, 1) := by decide +kernel
theorem d_M_dancerTold_103 : decode c_M_dancerTold 103 = .ok (.bipush 8, 2) := by decide +kernel
theorem d_M_dancerTold_105 : decode c_M_dancerTold 105 = .ok (.aload_n 0, 1) := by decide +kernel
theorem d_M_dancerTold_106 : decode c_M_dancerTold 106 = .ok (.getfield 24, 3) := by decide +kernel
theorem d_M_dancerTold_109 : decode c_M_dancerTold 109 = .ok (.getfield 116, 3) := by decide +kernel
theorem d_M_dancerTold_112 : decode c_M_dancerTold 112 = .ok (.iload_n 1, 1) := by decide +kernel
theorem d_M_dancerTold_113 : decode c_M_dancerTold 113 = .ok (.baload, 1) := by decide +kernel
theorem d_M_dancerTold_114 : decode c_M_dancerTold 114 = .ok (.ifCond .eq 7, 3) := by decide +kernel
theorem d_M_dancerTold_117 : decode c_M_dancerTold 117 = .ok (.iconst 1, 1) := by decide +kernel
theorem d_M_dancerTold_118 : decode c_M_dancerTold 118 = .ok (.goto 4, 3) := by decide +kernel
theorem d_M_dancerTold_121 : decode c_M_dancerTold 121 = .ok (.iconst 0, 1) := by decide +kernel
theorem d_M_dancerTold_122 : decode c_M_dancerTold 122 = .ok (.iastore, 1) := by decide +kernel
theorem d_M_dancerTold_123 : decode c_M_dancerTold 123 = .ok (.dup, 1) := by decide +kernel
theorem d_M_dancerTold_124 : decode c_M_dancerTold 124 = .ok (.bipush 9, 2) := by decide +kernel
theorem d_M_dancerTold_126 : decode c_M_dancerTold 126 = .ok (.aload_n 0, 1) := by decide +kernel
theorem d_M_dancerTold_127 : decode c_M_dancerTold 127 = .ok (.getfield 24, 3) := by decide +kernel
theorem d_M_dancerTold_130 : decode c_M_dancerTold 130 = .ok (.getfield 131, 3) := by decide +kernel
theorem d_M_dancerTold_133 : decode c_M_dancerTold 133 = .ok (.iload_n 1, 1) := by decide +kernel
theorem d_M_dancerTold_134 : decode c_M_dancerTold 134 = .ok (.iaload, 1) := by decide +kernel
theorem d_M_dancerTold_135 : decode c_M_dancerTold 135 = .ok (.iastore, 1) := by decide +kernel
theorem d_M_dancerTold_136 : decode c_M_dancerTold 136 = .ok (.dup, 1) := by decide +kernel
theorem d_M_dancerTold_137 : decode c_M_dancerTold 137 = .ok (.bipush 10, 2) := by decide +kernel
theorem d_M_dancerTold_139 : decode c_M_dancerTold 139 = .ok (.aload_n 0, 1) := by decide +kernel
theorem d_M_dancerTold_140 : decode c_M_dancerTold 140 = .ok (.getfield 24, 3) := by decide +kernel
theorem d_M_dancerTold_143 : decode c_M_dancerTold 143 = .ok (.getfield 134, 3) := by decide +kernel
theorem d_M_dancerTold_146 : decode c_M_dancerTold 146 = .ok (.iload_n 1, 1) := by decide +kernel
theorem d_M_dancerTold_147 : decode c_M_dancerTold 147 = .ok (.iaload, 1) := by decide +kernel
theorem d_M_dancerTold_148 : decode c_M_dancerTold 148 = .ok (.iastore, 1) := by decide +kernel
theorem d_M_dancerTold_149 : decode c_M_dancerTold 149 = .ok (.dup, 1) := by decide +kernel
theorem d_M_dancerTold_150 : decode c_M_dancerTold 150 = .ok (.bipush 11, 2) := by decide +kernel
theorem d_M_dancerTold_152 : decode c_M_dancerTold 152 = .ok (.aload_n 0, 1) := by decide +kernel
theorem d_M_dancerTold_153 : decode c_M_dancerTold 153 = .ok (.getfield 24, 3) := by decide +kernel
theorem d_M_dancerTold_156 : decode c_M_dancerTold 156 = .ok (.getfield 137, 3) := by decide +kernel
theorem d_M_dancerTold_159 : decode c_M_dancerTold 159 = .ok (.iload_n 1, 1) := by decide +kernel
theorem d_M_dancerTold_160 : decode c_M_dancerTold 160 = .ok (.iaload, 1) := by decide +kernel
theorem d_M_dancerTold_161 : decode c_M_dancerTold 161 = .ok (.iastore, 1) := by decide +kernel
theorem d_M_dancerTold_162 : decode c_M_dancerTold 162 = .ok (.astore_n 3, 1) := by decide +kernel
theorem d_M_dancerTold_163 : decode c_M_dancerTold 163 = .ok (.aload_n 3, 1) := by decide +kernel
theorem d_M_dancerTold_164 : decode c_M_dancerTold 164 = .ok (.iload_n 2, 1) := by decide +kernel
theorem d_M_dancerTold_165 : decode c_M_dancerTold 165 = .ok (.iaload, 1) := by decide +kernel
theorem d_M_dancerTold_166 : decode c_M_dancerTold 166 = .ok (.ireturn, 1) := by decide +kernel
theorem d_M_dancer_0 : decode c_M_dancer 0 = .ok (.aload_n 0, 1) := by decide +kernel
theorem d_M_dancer_1 : decode c_M_dancer 1 = .ok (.iconst 0, 1) := by decide +kernel
theorem d_M_dancer_2 : decode c_M_dancer 2 = .ok (.putfield 45, 3) := by decide +kernel
theorem d_M_dancer_5 : decode c_M_dancer 5 = .ok (.aload_n 0, 1) := by decide +kernel
theorem d_M_dancer_6 : decode c_M_dancer 6 = .ok (.iload_n 1, 1) := by decide +kernel
theorem d_M_dancer_7 : decode c_M_dancer 7 = .ok (.invokevirtual 109, 3) := by decide +kernel
theorem d_M_dancer_10 : decode c_M_dancer 10 = .ok (.ifCond .eq 22, 3) := by decide +kernel
theorem d_M_dancer_13 : decode c_M_dancer 13 = .ok (.iload_n 2, 1) := by decide +kernel
theorem d_M_dancer_14 : decode c_M_dancer 14 = .ok (.iconst 0, 1) := by decide +kernel
theorem d_M_dancer_15 : decode c_M_dancer 15 = .ok (.bipush 11, 2) := by decide +kernel
theorem d_M_dancer_17 : decode c_M_dancer 17 = .ok (.invokestatic 56, 3) := by decide +kernel
theorem d_M_dancer_20 : decode c_M_dancer 20 = .ok (.ifCond .eq 12, 3) := by decide +kernel
theorem d_M_dancer_23 : decode c_M_dancer 23 = .ok (.aload_n 0, 1) := by decide +kernel
theorem d_M_dancer_24 : decode c_M_dancer 24 = .ok (.iload_n 1, 1) := by decide +kernel
theorem d_M_dancer_25 : decode c_M_dancer 25 = .ok (.iload_n 2, 1) := by decide +kernel
theorem d_M_dancer_26 : decode c_M_dancer 26 = .ok (.invokevirtual 140, 3) := by decide +kernel
theorem d_M_dancer_29 : decode c_M_dancer 29 = .ok (.goto 8, 3) := by decide +kernel
theorem d_M_dancer_32 : decode c_M_dancer 32 = .ok (.aload_n 0, 1) := by decide +kernel
theorem d_M_dancer_33 : decode c_M_dancer 33 = .ok (.iconst 1, 1) := by decide +kernel
theorem d_M_dancer_34 : decode c_M_dancer 34 = .ok (.invokevirtual 52, 3) := by decide +kernel
theorem d_M_dancer_37 : decode c_M_dancer 37 = .ok (.ireturn, 1) := by decide +kernel
theorem d_M_at_0 : decode c_M_at 0 = .ok (.aload_n 0, 1) := by decide +kernel
theorem d_M_at_1 : decode c_M_at 1 = .ok (.iconst 0, 1) := by decide +kernel
theorem d_M_at_2 : decode c_M_at 2 = .ok (.putfield 45, 3) := by decide +kernel
theorem d_M_at_5 : decode c_M_at 5 = .ok (.iload_n 1, 1) := by decide +kernel
theorem d_M_at_6 : decode c_M_at 6 = .ok (.iconst 0, 1) := by decide +kernel
theorem d_M_at_7 : decode c_M_at 7 = .ok (.bipush 15, 2) := by decide +kernel
theorem d_M_at_9 : decode c_M_at 9 = .ok (.invokestatic 56, 3) := by decide +kernel
theorem d_M_at_12 : decode c_M_at 12 = .ok (.ifCond .eq 25, 3) := by decide +kernel
theorem d_M_at_15 : decode c_M_at 15 = .ok (.iload_n 2, 1) := by decide +kernel
theorem d_M_at_16 : decode c_M_at 16 = .ok (.iconst 0, 1) := by decide +kernel
theorem d_M_at_17 : decode c_M_at 17 = .ok (.bipush 15, 2) := by decide +kernel
theorem d_M_at_19 : decode c_M_at 19 = .ok (.invokestatic 56, 3) := by decide +kernel
theorem d_M_at_22 : decode c_M_at 22 = .ok (.ifCond .eq 15, 3) := by decide +kernel
theorem d_M_at_25 : decode c_M_at 25 = .ok (.aload_n 0, 1) := by decide +kernel
theorem d_M_at_26 : decode c_M_at 26 = .ok (.getfield 24, 3) := by decide +kernel
theorem d_M_at_29 : decode c_M_at 29 = .ok (.iload_n 1, 1) := by decide +kernel
theorem d_M_at_30 : decode c_M_at 30 = .ok (.iload_n 2, 1) := by decide +kernel
theorem d_M_at_31 : decode c_M_at 31 = .ok (.invokevirtual 87, 3) := by decide +kernel
theorem d_M_at_34 : decode c_M_at 34 = .ok (.goto 8, 3) := by decide +kernel
theorem d_M_at_37 : decode c_M_at 37 = .ok (.aload_n 0, 1) := by decide +kernel
theorem d_M_at_38 : decode c_M_at 38 = .ok (.iconst 1, 1) := by decide +kernel
theorem d_M_at_39 : decode c_M_at 39 = .ok (.invokevirtual 52, 3) := by decide +kernel
theorem d_M_at_42 : decode c_M_at 42 = .ok (.ireturn, 1) := by decide +kernel
theorem d_M_addWinder_0 : decode c_M_addWinder 0 = .ok (.aload_n 0, 1) := by decide +kernel
theorem d_M_addWinder_1 : decode c_M_addWinder 1 = .ok (.iconst 0, 1) := by decide +kernel
theorem d_M_addWinder_2 : decode c_M_addWinder 2 = .ok (.putfield 45, 3) := by decide +kernel
theorem d_M_addWinder_5 : decode c_M_addWinder 5 = .ok (.iload_n 1, 1) := by decide +kernel
theorem d_M_addWinder_6 : decode c_M_addWinder 6 = .ok (.iconst 0, 1) := by decide +kernel
theorem d_M_addWinder_7 : decode c_M_addWinder 7 = .ok (.bipush 15, 2) := by decide +kernel
theorem d_M_addWinder_9 : decode c_M_addWinder 9 = .ok (.invokestatic 56, 3) := by decide +kernel
theorem d_M_addWinder_12 : decode c_M_addWinder 12 = .ok (.ifCond .eq 23, 3) := by decide +kernel
theorem d_M_addWinder_15 : decode c_M_addWinder 15 = .ok (.iload_n 2, 1) := by decide +kernel
theorem d_M_addWinder_16 : decode c_M_addWinder 16 = .ok (.iconst 0, 1) := by decide +kernel
theorem d_M_addWinder_17 : decode c_M_addWinder 17 = .ok (.bipush 15, 2) := by decide +kernel
theorem d_M_addWinder_19 : decode c_M_addWinder 19 = .ok (.invokestatic 56, 3) := by decide +kernel
theorem d_M_addWinder_22 : decode c_M_addWinder 22 = .ok (.ifCond .eq 13, 3) := by decide +kernel
theorem d_M_addWinder_25 : decode c_M_addWinder 25 = .ok (.iload_n 3, 1) := by decide +kernel
theorem d_M_addWinder_26 : decode c_M_addWinder 26 = .ok (.iconst 1, 1) := by decide +kernel
theorem d_M_addWinder_27 : decode c_M_addWinder 27 = .ok (.bipush 100, 2) := by decide +kernel
theorem d_M_addWinder_29 : decode c_M_addWinder 29 = .ok (.invokestatic 56, 3) := by decide +kernel
theorem d_M_addWinder_32 : decode c_M_addWinder 32 = .ok (.ifCond .ne 9, 3) := by decide +kernel
theorem d_M_addWinder_35 : decode c_M_addWinder 35 = .ok (.aload_n 0, 1) := by decide +kernel
theorem d_M_addWinder_36 : decode c_M_addWinder 36 = .ok (.iconst 1, 1) := by decide +kernel
theorem d_M_addWinder_37 : decode c_M_addWinder 37 = .ok (.invokevirtual 52, 3) := by decide +kernel
theorem d_M_addWinder_40 : decode c_M_addWinder 40 = .ok (.ireturn, 1) := by decide +kernel
theorem d_M_addWinder_41 : decode c_M_addWinder 41 = .ok (.aload_n 0, 1) := by decide +kernel
theorem d_M_addWinder_42 : decode c_M_addWinder 42 = .ok (.getfield 24, 3) := by decide +kernel
theorem d_M_addWinder_45 : decode c_M_addWinder 45 = .ok (.getfield 143, 3) := by decide +kernel
theorem d_M_addWinder_48 : decode c_M_addWinder 48 = .ok (.iconst 3, 1) := by decide +kernel
theorem d_M_addWinder_49 : decode c_M_addWinder 49 = .ok (.if_icmp .ne 9, 3) := by decide +kernel
theorem d_M_addWinder_52 : decode c_M_addWinder 52 = .ok (.aload_n 0, 1) := by decide +kernel
theorem d_M_addWinder_53 : decode c_M_addWinder 53 = .ok (.iconst 2, 1) := by decide +kernel
theorem d_M_addWinder_54 : decode c_M_addWinder 54 = .ok (.invokevirtual 52, 3) := by decide +kernel
theorem d_M_addWinder_57 : decode c_M_addWinder 57 = .ok (.ireturn, 1) := by decide +kernel
theorem d_M_addWinder_58 : decode c_M_addWinder 58 = .ok (.bipush 6, 2) := by decide +kernel
theorem d_M_addWinder_60 : decode c_M_addWinder 60 = .ok (.newarray .int, 2) := by decide +kernel
theorem d_M_addWinder_62 : decode c_M_addWinder 62 = .ok (.dup, 1) := by decide +kernel
theorem d_M_addWinder_63 : decode c_M_addWinder 63 = .ok (.iconst 0, 1) := by decide +kernel
theorem d_M_addWinder_64 : decode c_M_addWinder 64 = .ok (.iload_n 1, 1) := by decide +kernel
theorem d_M_addWinder_65 : decode c_M_addWinder 65 = .ok (.iastore, 1) := by decide +kernel
theorem d_M_addWinder_66 : decode c_M_addWinder 66 = .ok (.dup, 1) := by decide +kernel
theorem d_M_addWinder_67 : decode c_M_addWinder 67 = .ok (.iconst 1, 1) := by decide +kernel
theorem d_M_addWinder_68 : decode c_M_addWinder 68 = .ok (.iload_n 2, 1) := by decide +kernel
theorem d_M_addWinder_69 : decode c_M_addWinder 69 = .ok (.iastore, 1) := by decide +kernel
theorem d_M_addWinder_70 : decode c_M_addWinder 70 = .ok (.dup, 1) := by decide +kernel
theorem d_M_addWinder_71 : decode c_M_addWinder 71 = .ok (.iconst 2, 1) := by decide +kernel
theorem d_M_addWinder_72 : decode c_M_addWinder 72 = .ok (.iload_n 3, 1) := by decide +kernel
theorem d_M_addWinder_73 : decode c_M_addWinder 73 = .ok (.iastore, 1) := by decide +kernel
theorem d_M_addWinder_74 : decode c_M_addWinder 74 = .ok (.dup, 1) := by decide +kernel
theorem d_M_addWinder_75 : decode c_M_addWinder 75 = .ok (.iconst 3, 1) := by decide +kernel
theorem d_M_addWinder_76 : decode c_M_addWinder 76 = .ok (.iconst 0, 1) := by decide +kernel
theorem d_M_addWinder_77 : decode c_M_addWinder 77 = .ok (.iastore, 1) := by decide +kernel
theorem d_M_addWinder_78 : decode c_M_addWinder 78 = .ok (.dup, 1) := by decide +kernel
theorem d_M_addWinder_79 : decode c_M_addWinder 79 = .ok (.iconst 4, 1) := by decide +kernel
theorem d_M_addWinder_80 : decode c_M_addWinder 80 = .ok (.iconst 0, 1) := by decide +kernel
theorem d_M_addWinder_81 : decode c_M_addWinder 81 = .ok (.iastore, 1) := by decide +kernel
theorem d_M_addWinder_82 : decode c_M_addWinder 82 = .ok (.dup, 1) := by decide +kernel
theorem d_M_addWinder_83 : decode c_M_addWinder 83 = .ok (.iconst 5, 1) := by decide +kernel
theorem d_M_addWinder_84 : decode c_M_addWinder 84 = .ok (.iconst 0, 1) := by decide +kernel
theorem d_M_addWinder_85 : decode c_M_addWinder 85 = .ok (.iastore, 1) := by decide +kernel
theorem d_M_addWinder_86 : decode c_M_addWinder 86 = .ok (.astore 4, 2) := by decide +kernel
theorem d_M_addWinder_88 : decode c_M_addWinder 88 = .ok (.aload 4, 2) := by decide +kernel
theorem d_M_addWinder_90 : decode c_M_addWinder 90 = .ok (.iconst 0, 1) := by decide +kernel
theorem d_M_addWinder_91 : decode c_M_addWinder 91 = .ok (.aload_n 0, 1) := by decide +kernel
theorem d_M_addWinder_92 : decode c_M_addWinder 92 = .ok (.getfield 24, 3) := by decide +kernel
theorem d_M_addWinder_95 : decode c_M_addWinder 95 = .ok (.getfield 146, 3) := by decide +kernel
theorem d_M_addWinder_98 : decode c_M_addWinder 98 = .ok (.bipush 6, 2) := by decide +kernel
theorem d_M_addWinder_100 : decode c_M_addWinder 100 = .ok (.aload_n 0, 1) := by decide +kernel
theorem d_M_addWinder_101 : decode c_M_addWinder 101 = .ok (.getfield 24, 3) := by decide +kernel
theorem d_M_addWinder_104 : decode c_M_addWinder 104 = .ok (.getfield 143, 3) := by decide +kernel
theorem d_M_addWinder_107 : decode c_M_addWinder 107 = .ok (.imul, 1) := by decide +kernel
theorem d_M_addWinder_108 : decode c_M_addWinder 108 = .ok (.bipush 6, 2) := by decide +kernel
theorem d_M_addWinder_110 : decode c_M_addWinder 110 = .ok (.invokestatic 66, 3) := by decide +kernel
theorem d_M_addWinder_113 : decode c_M_addWinder 113 = .ok (.aload_n 0, 1) := by decide +kernel
theorem d_M_addWinder_114 : decode c_M_addWinder 114 = .ok (.getfield 24, 3) := by decide +kernel
theorem d_M_addWinder_117 : decode c_M_addWinder 117 = .ok (.dup, 1) := by decide +kernel
theorem d_M_addWinder_118 : decode c_M_addWinder 118 = .ok (.getfield 143, 3) := by decide +kernel
theorem d_M_addWinder_121 : decode c_M_addWinder 121 = .ok (.iconst 1, 1) := by decide +kernel
theorem d_M_addWinder_122 : decode c_M_addWinder 122 = .ok (.iadd, 1) := by decide +kernel
theorem d_M_addWinder_123 : decode c_M_addWinder 123 = .ok (.putfield 143, 3) := by decide +kernel
theorem d_M_addWinder_126 : decode c_M_addWinder 126 = .ok (.aload_n 0, 1) := by decide +kernel
theorem d_M_addWinder_127 : decode c_M_addWinder 127 = .ok (.getfield 24, 3) := by decide +kernel
theorem d_M_addWinder_130 : decode c_M_addWinder 130 = .ok (.getfield 143, 3) := by decide +kernel
theorem d_M_addWinder_133 : decode c_M_addWinder 133 = .ok (.iconst 1, 1) := by decide +kernel
theorem d_M_addWinder_134 : decode c_M_addWinder 134 = .ok (.isub, 1) := by decide +kernel
theorem d_M_addWinder_135 : decode c_M_addWinder 135 = .ok (.ireturn, 1) := by decide +kernel
theorem d_M_isWinder_0 : decode c_M_isWinder 0 = .ok (.iload_n 1, 1) := by decide +kernel
theorem d_M_isWinder_1 : decode c_M_isWinder 1 = .ok (.iconst 0, 1) := by decide +kernel
theorem d_M_isWinder_2 : decode c_M_isWinder 2 = .ok (.aload_n 0, 1) := by decide +kernel
theorem d_M_isWinder_3 : decode c_M_isWinder 3 = .ok (.getfield 24, 3) := by decide +kernel
theorem d_M_isWinder_6 : decode c_M_isWinder 6 = .ok (.getfield 143, 3) := by decide +kernel
theorem d_M_isWinder_9 : decode c_M_isWinder 9 = .ok (.iconst 1, 1) := by decide +kernel
theorem d_M_isWinder_10 : decode c_M_isWinder 10 = .ok (.isub, 1) := by decide +kernel
theorem d_M_isWinder_11 : decode c_M_isWinder 11 = .ok (.invokestatic 56, 3) := by decide +kernel
theorem d_M_isWinder_14 : decode c_M_isWinder 14 = .ok (.ireturn, 1) := by decide +kernel
theorem d_M_call_0 : decode c_M_call 0 = .ok (.aload_n 0, 1) := by decide +kernel
theorem d_M_call_1 : decode c_M_call 1 = .ok (.iconst 0, 1) := by decide +kernel
theorem d_M_call_2 : decode c_M_call 2 = .ok (.putfield 45, 3) := by decide +kernel
theorem d_M_call_5 : decode c_M_call 5 = .ok (.aload_n 0, 1) := by decide +kernel
theorem d_M_call_6 : decode c_M_call 6 = .ok (.iload_n 1, 1) := by decide +kernel
theorem d_M_call_7 : decode c_M_call 7 = .ok (.invokevirtual 149, 3) := by decide +kernel
theorem d_M_call_10 : decode c_M_call 10 = .ok (.ifCond .eq 11, 3) := by decide +kernel
theorem d_M_call_13 : decode c_M_call 13 = .ok (.aload_n 0, 1) := by decide +kernel
theorem d_M_call_14 : decode c_M_call 14 = .ok (.iload_n 2, 1) := by decide +kernel
theorem d_M_call_15 : decode c_M_call 15 = .ok (.invokevirtual 109, 3) := by decide +kernel
theorem d_M_call_18 : decode c_M_call 18 = .ok (.ifCond .ne 9, 3) := by decide +kernel
theorem d_M_call_21 : decode c_M_call 21 = .ok (.aload_n 0, 1) := by decide +kernel
theorem d_M_call_22 : decode c_M_call 22 = .ok (.iconst 1, 1) := by decide +kernel
theorem d_M_call_23 : decode c_M_call 23 = .ok (.invokevirtual 52, 3) := by decide +kernel
theorem d_M_call_26 : decode c_M_call 26 = .ok (.ireturn, 1) := by decide +kernel
theorem d_M_call_27 : decode c_M_call 27 = .ok (.aload_n 0, 1) := by decide +kernel
theorem d_M_call_28 : decode c_M_call 28 = .ok (.getfield 24, 3) := by decide +kernel
theorem d_M_call_31 : decode c_M_call 31 = .ok (.getfield 146, 3) := by decide +kernel
theorem d_M_call_34 : decode c_M_call 34 = .ok (.bipush 6, 2) := by decide +kernel
theorem d_M_call_36 : decode c_M_call 36 = .ok (.iload_n 1, 1) := by decide +kernel
theorem d_M_call_37 : decode c_M_call 37 = .ok (.imul, 1) := by decide +kernel
theorem d_M_call_38 : decode c_M_call 38 = .ok (.iconst 3, 1) := by decide +kernel
theorem d_M_call_39 : decode c_M_call 39 = .ok (.iadd, 1) := by decide +kernel
theorem d_M_call_40 : decode c_M_call 40 = .ok (.iaload, 1) := by decide +kernel
theorem d_M_call_41 : decode c_M_call 41 = .ok (.istore_n 3, 1) := by decide +kernel
theorem d_M_call_42 : decode c_M_call 42 = .ok (.iload_n 3, 1) := by decide +kernel
theorem d_M_call_43 : decode c_M_call 43 = .ok (.bipush 8, 2) := by decide +kernel
theorem d_M_call_45 : decode c_M_call 45 = .ok (.if_icmp .ne 9, 3) := by decide +kernel
theorem d_M_call_48 : decode c_M_call 48 = .ok (.aload_n 0, 1) := by decide +kernel
theorem d_M_call_49 : decode c_M_call 49 = .ok (.iconst 2, 1) := by decide +kernel
theorem d_M_call_50 : decode c_M_call 50 = .ok (.invokevirtual 52, 3) := by decide +kernel
theorem d_M_call_53 : decode c_M_call 53 = .ok (.ireturn, 1) := by decide +kernel
theorem d_M_call_54 : decode c_M_call 54 = .ok (.aload_n 0, 1) := by decide +kernel
theorem d_M_call_55 : decode c_M_call 55 = .ok (.getfield 24, 3) := by decide +kernel
theorem d_M_call_58 : decode c_M_call 58 = .ok (.getfield 152, 3) := by decide +kernel
theorem d_M_call_61 : decode c_M_call 61 = .ok (.bipush 8, 2) := by decide +kernel
theorem d_M_call_63 : decode c_M_call 63 = .ok (.iload_n 1, 1) := by decide +kernel
theorem d_M_call_64 : decode c_M_call 64 = .ok (.imul, 1) := by decide +kernel
theorem d_M_call_65 : decode c_M_call 65 = .ok (.iload_n 3, 1) := by decide +kernel
theorem d_M_call_66 : decode c_M_call 66 = .ok (.iadd, 1) := by decide +kernel
theorem d_M_call_67 : decode c_M_call 67 = .ok (.iload_n 2, 1) := by decide +kernel
theorem d_M_call_68 : decode c_M_call 68 = .ok (.iastore, 1) := by decide +kernel
theorem d_M_call_69 : decode c_M_call 69 = .ok (.aload_n 0, 1) := by decide +kernel
theorem d_M_call_70 : decode c_M_call 70 = .ok (.getfield 24, 3) := by decide +kernel
theorem d_M_call_73 : decode c_M_call 73 = .ok (.getfield 146, 3) := by decide +kernel
theorem d_M_call_76 : decode c_M_call 76 = .ok (.bipush 6, 2) := by decide +kernel
theorem d_M_call_78 : decode c_M_call 78 = .ok (.iload_n 1, 1) := by decide +kernel
theorem d_M_call_79 : decode c_M_call 79 = .ok (.imul, 1) := by decide +kernel
theorem d_M_call_80 : decode c_M_call 80 = .ok (.iconst 3, 1) := by decide +kernel
theorem d_M_call_81 : decode c_M_call 81 = .ok (.iadd, 1) := by decide +kernel
theorem d_M_call_82 : decode c_M_call 82 = .ok (.dup2, 1) := by decide +kernel
theorem d_M_call_83 : decode c_M_call 83 = .ok (.iaload, 1) := by decide +kernel
theorem d_M_call_84 : decode c_M_call 84 = .ok (.iconst 1, 1) := by decide +kernel
theorem d_M_call_85 : decode c_M_call 85 = .ok (.iadd, 1) := by decide +kernel
theorem d_M_call_86 : decode c_M_call 86 = .ok (.iastore, 1) := by decide +kernel
theorem d_M_call_87 : decode c_M_call 87 = .ok (.iload_n 3, 1) := by decide +kernel
theorem d_M_call_88 : decode c_M_call 88 = .ok (.iconst 1, 1) := by decide +kernel
theorem d_M_call_89 : decode c_M_call 89 = .ok (.iadd, 1) := by decide +kernel
theorem d_M_call_90 : decode c_M_call 90 = .ok (.ireturn, 1) := by decide +kernel
theorem d_M_winderTold_0 : decode c_M_winderTold 0 = .ok (.bipush 6, 2) := by decide +kernel
theorem d_M_winderTold_2 : decode c_M_winderTold 2 = .ok (.iload_n 1, 1) := by decide +kernel
theorem d_M_winderTold_3 : decode c_M_winderTold 3 = .ok (.imul, 1) := by decide +kernel
theorem d_M_winderTold_4 : decode c_M_winderTold 4 = .ok (.istore_n 3, 1) := by decide +kernel
theorem d_M_winderTold_5 : decode c_M_winderTold 5 = .ok (.iload_n 2, 1) := by decide +kernel
theorem d_M_winderTold_6 : decode c_M_winderTold 6 = .ok (.iconst 4, 1) := by decide +kernel
theorem d_M_winderTold_7 : decode c_M_winderTold 7 = .ok (.if_icmp .ne 46, 3) := by decide +kernel
theorem d_M_winderTold_10 : decode c_M_winderTold 10 = .ok (.aload_n 0, 1) := by decide +kernel
theorem d_M_winderTold_11 : decode c_M_winderTold 11 = .ok (.getfield 24, 3) := by decide +kernel
theorem d_M_winderTold_14 : decode c_M_winderTold 14 = .ok (.getfield 146, 3) := by decide +kernel
theorem d_M_winderTold_17 : decode c_M_winderTold 17 = .ok (.iload_n 3, 1) := by decide +kernel
theorem d_M_winderTold_18 : decode c_M_winderTold 18 = .ok (.iconst 3, 1) := by decide +kernel
theorem d_M_winderTold_19 : decode c_M_winderTold 19 = .ok (.iadd, 1) := by decide +kernel
theorem d_M_winderTold_20 : decode c_M_winderTold 20 = .ok (.iaload, 1) := by decide +kernel
theorem d_M_winderTold_21 : decode c_M_winderTold 21 = .ok (.ifCond .ne 7, 3) := by decide +kernel
theorem d_M_winderTold_24 : decode c_M_winderTold 24 = .ok (.iconst (-1), 1) := by decide +kernel
theorem d_M_winderTold_25 : decode c_M_winderTold 25 = .ok (.goto 27, 3) := by decide +kernel
theorem d_M_winderTold_28 : decode c_M_winderTold 28 = .ok (.aload_n 0, 1) := by decide +kernel
theorem d_M_winderTold_29 : decode c_M_winderTold 29 = .ok (.getfield 24, 3) := by decide +kernel
theorem d_M_winderTold_32 : decode c_M_winderTold 32 = .ok (.getfield 152, 3) := by decide +kernel
theorem d_M_winderTold_35 : decode c_M_winderTold 35 = .ok (.bipush 8, 2) := by decide +kernel
theorem d_M_winderTold_37 : decode c_M_winderTold 37 = .ok (.iload_n 1, 1) := by decide +kernel
theorem d_M_winderTold_38 : decode c_M_winderTold 38 = .ok (.imul, 1) := by decide +kernel
theorem d_M_winderTold_39 : decode c_M_winderTold 39 = .ok (.aload_n 0, 1) := by decide +kernel
theorem d_M_winderTold_40 : decode c_M_winderTold 40 = .ok (.getfield 24, 3) := by decide +kernel
theorem d_M_winderTold_43 : decode c_M_winderTold 43 = .ok (.getfield 146, 3) := by decide +kernel
theorem d_M_winderTold_46 : decode c_M_winderTold 46 = .ok (.iload_n 3, 1) := by decide +kernel
theorem d_M_winderTold_47 : decode c_M_winderTold 47 = .ok (.iconst 4, 1) := by decide +kernel
theorem d_M_winderTold_48 : decode c_M_winderTold 48 = .ok (.iadd, 1) := by decide +kernel
theorem d_M_winderTold_49 : decode c_M_winderTold 49 = .ok (.iaload, 1) := by decide +kernel
theorem d_M_winderTold_50 : decode c_M_winderTold 50 = .ok (.iadd, 1) := by decide +kernel
theorem d_M_winderTold_51 : decode c_M_winderTold 51 = .ok (.iaload, 1) := by decide +kernel
theorem d_M_winderTold_52 : decode c_M_winderTold 52 = .ok (.ireturn, 1) := by decide +kernel
theorem d_M_winderTold_53 : decode c_M_winderTold 53 = .ok (.aload_n 0, 1) := by decide +kernel
theorem d_M_winderTold_54 : decode c_M_winderTold 54 = .ok (.getfield 24, 3) := by decide +kernel
theorem d_M_winderTold_57 : decode c_M_winderTold 57 = .ok (.getfield 146, 3) := by decide +kernel
theorem d_M_winderTold_60 : decode c_M_winderTold 60 = .ok (.iload_n 3, 1) := by decide +kernel
theorem d_M_winderTold_61 : decode c_M_winderTold 61 = .ok (.iload_n 2, 1) := by decide +kernel
theorem d_M_winderTold_62 : decode c_M_winderTold 62 = .ok (.iadd, 1) := by decide +kernel
theorem d_M_winderTold_63 : decode c_M_winderTold 63 = .ok (.iaload, 1) := by decide +kernel
theorem d_M_winderTold_64 : decode c_M_winderTold 64 = .ok (.ireturn, 1) := by decide +kernel
theorem d_M_winder_0 : decode c_M_winder 0 = .ok (.aload_n 0, 1) := by decide +kernel
theorem d_M_winder_1 : decode c_M_winder 1 = .ok (.iconst 0, 1) := by decide +kernel
theorem d_M_winder_2 : decode c_M_winder 2 = .ok (.putfield 45, 3) := by decide +kernel
theorem d_M_winder_5 : decode c_M_winder 5 = .ok (.aload_n 0, 1) := by decide +kernel
theorem d_M_winder_6 : decode c_M_winder 6 = .ok (.iload_n 1, 1) := by decide +kernel
theorem d_M_winder_7 : decode c_M_winder 7 = .ok (.invokevirtual 149, 3) := by decide +kernel
theorem d_M_winder_10 : decode c_M_winder 10 = .ok (.ifCond .eq 21, 3) := by decide +kernel
theorem d_M_winder_13 : decode c_M_winder 13 = .ok (.iload_n 2, 1) := by decide +kernel
theorem d_M_winder_14 : decode c_M_winder 14 = .ok (.iconst 0, 1) := by decide +kernel
theorem d_M_winder_15 : decode c_M_winder 15 = .ok (.iconst 5, 1) := by decide +kernel
theorem d_M_winder_16 : decode c_M_winder 16 = .ok (.invokestatic 56, 3) := by decide +kernel
theorem d_M_winder_19 : decode c_M_winder 19 = .ok (.ifCond .eq 12, 3) := by decide +kernel
theorem d_M_winder_22 : decode c_M_winder 22 = .ok (.aload_n 0, 1) := by decide +kernel
theorem d_M_winder_23 : decode c_M_winder 23 = .ok (.iload_n 1, 1) := by decide +kernel
theorem d_M_winder_24 : decode c_M_winder 24 = .ok (.iload_n 2, 1) := by decide +kernel
theorem d_M_winder_25 : decode c_M_winder 25 = .ok (.invokevirtual 155, 3) := by decide +kernel
theorem d_M_winder_28 : decode c_M_winder 28 = .ok (.goto 8, 3) := by decide +kernel
theorem d_M_winder_31 : decode c_M_winder 31 = .ok (.aload_n 0, 1) := by decide +kernel
theorem d_M_winder_32 : decode c_M_winder 32 = .ok (.iconst 1, 1) := by decide +kernel
theorem d_M_winder_33 : decode c_M_winder 33 = .ok (.invokevirtual 52, 3) := by decide +kernel
theorem d_M_winder_36 : decode c_M_winder 36 = .ok (.ireturn, 1) := by decide +kernel
theorem d_M_pass_0 : decode c_M_pass 0 = .ok (.aload_n 0, 1) := by decide +kernel
theorem d_M_pass_1 : decode c_M_pass 1 = .ok (.iconst 0, 1) := by decide +kernel
theorem d_M_pass_2 : decode c_M_pass 2 = .ok (.putfield 45, 3) := by decide +kernel
theorem d_M_pass_5 : decode c_M_pass 5 = .ok (.iload_n 1, 1) := by decide +kernel
theorem d_M_pass_6 : decode c_M_pass 6 = .ok (.iconst 1, 1) := by decide +kernel
theorem d_M_pass_7 : decode c_M_pass 7 = .ok (.sipush 200, 3) := by decide +kernel
theorem d_M_pass_10 : decode c_M_pass 10 = .ok (.invokestatic 56, 3) := by decide +kernel
theorem d_M_pass_13 : decode c_M_pass 13 = .ok (.ifCond .ne 9, 3) := by decide +kernel
theorem d_M_pass_16 : decode c_M_pass 16 = .ok (.aload_n 0, 1) := by decide +kernel
theorem d_M_pass_17 : decode c_M_pass 17 = .ok (.iconst 1, 1) := by decide +kernel
theorem d_M_pass_18 : decode c_M_pass 18 = .ok (.invokevirtual 52, 3) := by decide +kernel
theorem d_M_pass_21 : decode c_M_pass 21 = .ok (.ireturn, 1) := by decide +kernel
theorem d_M_pass_22 : decode c_M_pass 22 = .ok (.iconst 0, 1) := by decide +kernel
theorem d_M_pass_23 : decode c_M_pass 23 = .ok (.istore_n 2, 1) := by decide +kernel
theorem d_M_pass_24 : decode c_M_pass 24 = .ok (.iconst 0, 1) := by decide +kernel
theorem d_M_pass_25 : decode c_M_pass 25 = .ok (.istore_n 3, 1) := by decide +kernel
theorem d_M_pass_26 : decode c_M_pass 26 = .ok (.iload_n 3, 1) := by decide +kernel
theorem d_M_pass_27 : decode c_M_pass 27 = .ok (.iload_n 1, 1) := by decide +kernel
theorem d_M_pass_28 : decode c_M_pass 28 = .ok (.if_icmp .ge 19, 3) := by decide +kernel
theorem d_M_pass_31 : decode c_M_pass 31 = .ok (.iload_n 2, 1) := by decide +kernel
theorem d_M_pass_32 : decode c_M_pass 32 = .ok (.aload_n 0, 1) := by decide +kernel
theorem d_M_pass_33 : decode c_M_pass 33 = .ok (.getfield 24, 3) := by decide +kernel
theorem d_M_pass_36 : decode c_M_pass 36 = .ok (.invokevirtual 158, 3) := by decide +kernel
theorem d_M_pass_39 : decode c_M_pass 39 = .ok (.iadd, 1) := by decide +kernel
theorem d_M_pass_40 : decode c_M_pass 40 = .ok (.istore_n 2, 1) := by decide +kernel
theorem d_M_pass_41 : decode c_M_pass 41 = .ok (.iinc 3 1, 3) := by decide +kernel
theorem d_M_pass_44 : decode c_M_pass 44 = .ok (.goto (-18), 3) := by decide +kernel
theorem d_M_pass_47 : decode c_M_pass 47 = .ok (.iload_n 2, 1) := by decide +kernel
theorem d_M_pass_48 : decode c_M_pass 48 = .ok (.ireturn, 1) := by decide +kernel
theorem d_M_counted_0 : decode c_M_counted 0 = .ok (.iload_n 1, 1) := by decide +kernel
theorem d_M_counted_1 : decode c_M_counted 1 = .ok (.ifCond .ne 13, 3) := by decide +kernel
theorem d_M_counted_4 : decode c_M_counted 4 = .ok (.aload_n 0, 1) := by decide +kernel
theorem d_M_counted_5 : decode c_M_counted 5 = .ok (.getfield 24, 3) := by decide +kernel
theorem d_M_counted_8 : decode c_M_counted 8 = .ok (.getfield 161, 3) := by decide +kernel
theorem d_M_counted_11 : decode c_M_counted 11 = .ok (.goto 41, 3) := by decide +kernel
theorem d_M_counted_14 : decode c_M_counted 14 = .ok (.iload_n 1, 1) := by decide +kernel
theorem d_M_counted_15 : decode c_M_counted 15 = .ok (.iconst 1, 1) := by decide +kernel
theorem d_M_counted_16 : decode c_M_counted 16 = .ok (.if_icmp .ne 13, 3) := by decide +kernel
theorem d_M_counted_19 : decode c_M_counted 19 = .ok (.aload_n 0, 1) := by decide +kernel
theorem d_M_counted_20 : decode c_M_counted 20 = .ok (.getfield 24, 3) := by decide +kernel
theorem d_M_counted_23 : decode c_M_counted 23 = .ok (.getfield 72, 3) := by decide +kernel
theorem d_M_counted_26 : decode c_M_counted 26 = .ok (.goto 26, 3) := by decide +kernel
theorem d_M_counted_29 : decode c_M_counted 29 = .ok (.iload_n 1, 1) := by decide +kernel
theorem d_M_counted_30 : decode c_M_counted 30 = .ok (.iconst 3, 1) := by decide +kernel
theorem d_M_counted_31 : decode c_M_counted 31 = .ok (.if_icmp .ne 13, 3) := by decide +kernel
theorem d_M_counted_34 : decode c_M_counted 34 = .ok (.aload_n 0, 1) := by decide +kernel
theorem d_M_counted_35 : decode c_M_counted 35 = .ok (.getfield 24, 3) := by decide +kernel
theorem d_M_counted_38 : decode c_M_counted 38 = .ok (.getfield 143, 3) := by decide +kernel
theorem d_M_counted_41 : decode c_M_counted 41 = .ok (.goto 11, 3) := by decide +kernel
theorem d_M_counted_44 : decode c_M_counted 44 = .ok (.aload_n 0, 1) := by decide +kernel
theorem d_M_counted_45 : decode c_M_counted 45 = .ok (.getfield 24, 3) := by decide +kernel
theorem d_M_counted_48 : decode c_M_counted 48 = .ok (.iload_n 1, 1) := by decide +kernel
theorem d_M_counted_49 : decode c_M_counted 49 = .ok (.invokevirtual 120, 3) := by decide +kernel
theorem d_M_counted_52 : decode c_M_counted 52 = .ok (.ireturn, 1) := by decide +kernel
theorem d_M_count_0 : decode c_M_count 0 = .ok (.aload_n 0, 1) := by decide +kernel
theorem d_M_count_1 : decode c_M_count 1 = .ok (.iconst 0, 1) := by decide +kernel
theorem d_M_count_2 : decode c_M_count 2 = .ok (.putfield 45, 3) := by decide +kernel
theorem d_M_count_5 : decode c_M_count 5 = .ok (.iload_n 1, 1) := by decide +kernel
theorem d_M_count_6 : decode c_M_count 6 = .ok (.iconst 0, 1) := by decide +kernel
theorem d_M_count_7 : decode c_M_count 7 = .ok (.bipush 8, 2) := by decide +kernel
theorem d_M_count_9 : decode c_M_count 9 = .ok (.invokestatic 56, 3) := by decide +kernel
theorem d_M_count_12 : decode c_M_count 12 = .ok (.ifCond .eq 11, 3) := by decide +kernel
theorem d_M_count_15 : decode c_M_count 15 = .ok (.aload_n 0, 1) := by decide +kernel
theorem d_M_count_16 : decode c_M_count 16 = .ok (.iload_n 1, 1) := by decide +kernel
theorem d_M_count_17 : decode c_M_count 17 = .ok (.invokevirtual 164, 3) := by decide +kernel
theorem d_M_count_20 : decode c_M_count 20 = .ok (.goto 8, 3) := by decide +kernel
theorem d_M_count_23 : decode c_M_count 23 = .ok (.aload_n 0, 1) := by decide +kernel
theorem d_M_count_24 : decode c_M_count 24 = .ok (.iconst 1, 1) := by decide +kernel
theorem d_M_count_25 : decode c_M_count 25 = .ok (.invokevirtual 52, 3) := by decide +kernel
theorem d_M_count_28 : decode c_M_count 28 = .ok (.ireturn, 1) := by decide +kernel
theorem d_M_foresee_0 : decode c_M_foresee 0 = .ok (.aload_n 0, 1) := by decide +kernel
theorem d_M_foresee_1 : decode c_M_foresee 1 = .ok (.iconst 0, 1) := by decide +kernel
theorem d_M_foresee_2 : decode c_M_foresee 2 = .ok (.putfield 45, 3) := by decide +kernel
theorem d_M_foresee_5 : decode c_M_foresee 5 = .ok (.aload_n 0, 1) := by decide +kernel
theorem d_M_foresee_6 : decode c_M_foresee 6 = .ok (.iload_n 1, 1) := by decide +kernel
theorem d_M_foresee_7 : decode c_M_foresee 7 = .ok (.invokevirtual 109, 3) := by decide +kernel
theorem d_M_foresee_10 : decode c_M_foresee 10 = .ok (.ifCond .eq 12, 3) := by decide +kernel
theorem d_M_foresee_13 : decode c_M_foresee 13 = .ok (.iload_n 3, 1) := by decide +kernel
theorem d_M_foresee_14 : decode c_M_foresee 14 = .ok (.iconst 0, 1) := by decide +kernel
theorem d_M_foresee_15 : decode c_M_foresee 15 = .ok (.iconst 4, 1) := by decide +kernel
theorem d_M_foresee_16 : decode c_M_foresee 16 = .ok (.invokestatic 56, 3) := by decide +kernel
theorem d_M_foresee_19 : decode c_M_foresee 19 = .ok (.ifCond .ne 9, 3) := by decide +kernel
theorem d_M_foresee_22 : decode c_M_foresee 22 = .ok (.aload_n 0, 1) := by decide +kernel
theorem d_M_foresee_23 : decode c_M_foresee 23 = .ok (.iconst 1, 1) := by decide +kernel
theorem d_M_foresee_24 : decode c_M_foresee 24 = .ok (.invokevirtual 52, 3) := by decide +kernel
theorem d_M_foresee_27 : decode c_M_foresee 27 = .ok (.ireturn, 1) := by decide +kernel
theorem d_M_foresee_28 : decode c_M_foresee 28 = .ok (.iload_n 2, 1) := by decide +kernel
theorem d_M_foresee_29 : decode c_M_foresee 29 = .ok (.iconst 1, 1) := by decide +kernel
theorem d_M_foresee_30 : decode c_M_foresee 30 = .ok (.sipush 200, 3) := by decide +kernel
theorem d_M_foresee_33 : decode c_M_foresee 33 = .ok (.invokestatic 56, 3) := by decide +kernel
theorem d_M_foresee_36 : decode c_M_foresee 36 = .ok (.ifCond .ne 9, 3) := by decide +kernel
theorem d_M_foresee_39 : decode c_M_foresee 39 = .ok (.aload_n 0, 1) := by decide +kernel
theorem d_M_foresee_40 : decode c_M_foresee 40 = .ok (.iconst 2, 1) := by decide +kernel
theorem d_M_foresee_41 : decode c_M_foresee 41 = .ok (.invokevirtual 52, 3) := by decide +kernel
theorem d_M_foresee_44 : decode c_M_foresee 44 = .ok (.ireturn, 1) := by decide +kernel
theorem d_M_foresee_45 : decode c_M_foresee 45 = .ok (.aload_n 0, 1) := by decide +kernel
theorem d_M_foresee_46 : decode c_M_foresee 46 = .ok (.getfield 28, 3) := by decide +kernel
theorem d_M_foresee_49 : decode c_M_foresee 49 = .ok (.aload_n 0, 1) := by decide +kernel
theorem d_M_foresee_50 : decode c_M_foresee 50 = .ok (.getfield 24, 3) := by decide +kernel
theorem d_M_foresee_53 : decode c_M_foresee 53 = .ok (.invokevirtual 167, 3) := by decide +kernel
theorem d_M_foresee_56 : decode c_M_foresee 56 = .ok (.iconst 0, 1) := by decide +kernel
theorem d_M_foresee_57 : decode c_M_foresee 57 = .ok (.istore 4, 2) := by decide +kernel
theorem d_M_foresee_59 : decode c_M_foresee 59 = .ok (.iload 4, 2) := by decide +kernel
theorem d_M_foresee_61 : decode c_M_foresee 61 = .ok (.iload_n 2, 1) := by decide +kernel
theorem d_M_foresee_62 : decode c_M_foresee 62 = .ok (.if_icmp .ge 17, 3) := by decide +kernel
theorem d_M_foresee_65 : decode c_M_foresee 65 = .ok (.aload_n 0, 1) := by decide +kernel
theorem d_M_foresee_66 : decode c_M_foresee 66 = .ok (.getfield 28, 3) := by decide +kernel
theorem d_M_foresee_69 : decode c_M_foresee 69 = .ok (.invokevirtual 158, 3) := by decide +kernel
theorem d_M_foresee_72 : decode c_M_foresee 72 = .ok (.pop, 1) := by decide +kernel
theorem d_M_foresee_73 : decode c_M_foresee 73 = .ok (.iinc 4 1, 3) := by decide +kernel
theorem d_M_foresee_76 : decode c_M_foresee 76 = .ok (.goto (-17), 3) := by decide +kernel
theorem d_M_foresee_79 : decode c_M_foresee 79 = .ok (.iconst 5, 1) := by decide +kernel
theorem d_M_foresee_80 : decode c_M_foresee 80 = .ok (.newarray .int, 2) := by decide +kernel
theorem d_M_foresee_82 : decode c_M_foresee 82 = .ok (.dup, 1) := by decide +kernel
theorem d_M_foresee_83 : decode c_M_foresee 83 = .ok (.iconst 0, 1) := by decide +kernel
theorem d_M_foresee_84 : decode c_M_foresee 84 = .ok (.aload_n 0, 1) := by decide +kernel
theorem d_M_foresee_85 : decode c_M_foresee 85 = .ok (.getfield 28, 3) := by decide +kernel
theorem d_M_foresee_88 : decode c_M_foresee 88 = .ok (.getfield 91, 3) := by decide +kernel
theorem d_M_foresee_91 : decode c_M_foresee 91 = .ok (.iload_n 1, 1) := by decide +kernel
theorem d_M_foresee_92 : decode c_M_foresee 92 = .ok (.iaload, 1) := by decide +kernel
theorem d_M_foresee_93 : decode c_M_foresee 93 = .ok (.iastore, 1) := by decide +kernel
theorem d_M_foresee_94 : decode c_M_foresee 94 = .ok (.dup, 1) := by decide +kernel
theorem d_M_foresee_95 : decode c_M_foresee 95 = .ok (.iconst 1, 1) := by decide +kernel
theorem d_M_foresee_96 : decode c_M_foresee 96 = .ok (.aload_n 0, 1) := by decide +kernel
theorem d_M_foresee_97 : decode c_M_foresee 97 = .ok (.getfield 28, 3) := by decide +kernel
theorem d_M_foresee_100 : decode c_M_foresee 100 = .ok (.getfield 94, 3) := by decide +kernel
theorem d_M_foresee_103 : decode c_M_foresee 103 = .ok (.iload_n 1, 1) := by decide +kernel
theorem d_M_foresee_104 : decode c_M_foresee 104 = .ok (.iaload, 1) := by decide +kernel
theorem d_M_foresee_105 : decode c_M_foresee 105 = .ok (.iastore, 1) := by decide +kernel
theorem d_M_foresee_106 : decode c_M_foresee 106 = .ok (.dup, 1) := by decide +kernel
theorem d_M_foresee_107 : decode c_M_foresee 107 = .ok (.iconst 2, 1) := by decide +kernel
theorem d_M_foresee_108 : decode c_M_foresee 108 = .ok (.aload_n 0, 1) := by decide +kernel
theorem d_M_foresee_109 : decode c_M_foresee 109 = .ok (.getfield 28, 3) := by decide +kernel
theorem d_M_foresee_112 : decode c_M_foresee 112 = .ok (.getfield 97, 3) := by decide +kernel
theorem d_M_foresee_115 : decode c_M_foresee 115 = .ok (.iload_n 1, 1) := by decide +kernel
theorem d_M_foresee_116 : decode c_M_foresee 116 = .ok (.iaload, 1) := by decide +kernel
theorem d_M_foresee_117 : decode c_M_foresee 117 = .ok (.iastore, 1) := by decide +kernel
theorem d_M_foresee_118 : decode c_M_foresee 118 = .ok (.dup, 1) := by decide +kernel
theorem d_M_foresee_119 : decode c_M_foresee 119 = .ok (.iconst 3, 1) := by decide +kernel
theorem d_M_foresee_120 : decode c_M_foresee 120 = .ok (.aload_n 0, 1) := by decide +kernel
theorem d_M_foresee_121 : decode c_M_foresee 121 = .ok (.getfield 28, 3) := by decide +kernel
theorem d_M_foresee_124 : decode c_M_foresee 124 = .ok (.getfield 103, 3) := by decide +kernel
theorem d_M_foresee_127 : decode c_M_foresee 127 = .ok (.iload_n 1, 1) := by decide +kernel
theorem d_M_foresee_128 : decode c_M_foresee 128 = .ok (.iaload, 1) := by decide +kernel
theorem d_M_foresee_129 : decode c_M_foresee 129 = .ok (.iastore, 1) := by decide +kernel
theorem d_M_foresee_130 : decode c_M_foresee 130 = .ok (.dup, 1) := by decide +kernel
theorem d_M_foresee_131 : decode c_M_foresee 131 = .ok (.iconst 4, 1) := by decide +kernel
theorem d_M_foresee_132 : decode c_M_foresee 132 = .ok (.aload_n 0, 1) := by decide +kernel
theorem d_M_foresee_133 : decode c_M_foresee 133 = .ok (.getfield 28, 3) := by decide +kernel
theorem d_M_foresee_136 : decode c_M_foresee 136 = .ok (.getfield 137, 3) := by decide +kernel
theorem d_M_foresee_139 : decode c_M_foresee 139 = .ok (.iload_n 1, 1) := by decide +kernel
theorem d_M_foresee_140 : decode c_M_foresee 140 = .ok (.iaload, 1) := by decide +kernel
theorem d_M_foresee_141 : decode c_M_foresee 141 = .ok (.aload_n 0, 1) := by decide +kernel
theorem d_M_foresee_142 : decode c_M_foresee 142 = .ok (.getfield 24, 3) := by decide +kernel
theorem d_M_foresee_145 : decode c_M_foresee 145 = .ok (.getfield 137, 3) := by decide +kernel
theorem d_M_foresee_148 : decode c_M_foresee 148 = .ok (.iload_n 1, 1) := by decide +kernel
theorem d_M_foresee_149 : decode c_M_foresee 149 = .ok (.iaload, 1) := by decide +kernel
theorem d_M_foresee_150 : decode c_M_foresee 150 = .ok (.isub, 1) := by decide +kernel
theorem d_M_foresee_151 : decode c_M_foresee 151 = .ok (.iastore, 1) := by decide +kernel
theorem d_M_foresee_152 : decode c_M_foresee 152 = .ok (.astore 4, 2) := by decide +kernel
theorem d_M_foresee_154 : decode c_M_foresee 154 = .ok (.aload 4, 2) := by decide +kernel
theorem d_M_foresee_156 : decode c_M_foresee 156 = .ok (.iload_n 3, 1) := by decide +kernel
theorem d_M_foresee_157 : decode c_M_foresee 157 = .ok (.iaload, 1) := by decide +kernel
theorem d_M_foresee_158 : decode c_M_foresee 158 = .ok (.ireturn, 1) := by decide +kernel
theorem d_M_firstToStop_0 : decode c_M_firstToStop 0 = .ok (.aload_n 0, 1) := by decide +kernel
theorem d_M_firstToStop_1 : decode c_M_firstToStop 1 = .ok (.iconst 0, 1) := by decide +kernel
theorem d_M_firstToStop_2 : decode c_M_firstToStop 2 = .ok (.putfield 45, 3) := by decide +kernel
theorem d_M_firstToStop_5 : decode c_M_firstToStop 5 = .ok (.iload_n 1, 1) := by decide +kernel
theorem d_M_firstToStop_6 : decode c_M_firstToStop 6 = .ok (.iconst 1, 1) := by decide +kernel
theorem d_M_firstToStop_7 : decode c_M_firstToStop 7 = .ok (.sipush 200, 3) := by decide +kernel
theorem d_M_firstToStop_10 : decode c_M_firstToStop 10 = .ok (.invokestatic 56, 3) := by decide +kernel
theorem d_M_firstToStop_13 : decode c_M_firstToStop 13 = .ok (.ifCond .ne 9, 3) := by decide +kernel
theorem d_M_firstToStop_16 : decode c_M_firstToStop 16 = .ok (.aload_n 0, 1) := by decide +kernel
theorem d_M_firstToStop_17 : decode c_M_firstToStop 17 = .ok (.iconst 1, 1) := by decide +kernel
theorem d_M_firstToStop_18 : decode c_M_firstToStop 18 = .ok (.invokevirtual 52, 3) := by decide +kernel
theorem d_M_firstToStop_21 : decode c_M_firstToStop 21 = .ok (.ireturn, 1) := by decide +kernel
theorem d_M_firstToStop_22 : decode c_M_firstToStop 22 = .ok (.aload_n 0, 1) := by decide +kernel
theorem d_M_firstToStop_23 : decode c_M_firstToStop 23 = .ok (.getfield 28, 3) := by decide +kernel
theorem d_M_firstToStop_26 : decode c_M_firstToStop 26 = .ok (.aload_n 0, 1) := by decide +kernel
theorem d_M_firstToStop_27 : decode c_M_firstToStop 27 = .ok (.getfield 24, 3) := by decide +kernel
theorem d_M_firstToStop_30 : decode c_M_firstToStop 30 = .ok (.invokevirtual 167, 3) := by decide +kernel
theorem d_M_firstToStop_33 : decode c_M_firstToStop 33 = .ok (.iconst (-1), 1) := by decide +kernel
theorem d_M_firstToStop_34 : decode c_M_firstToStop 34 = .ok (.istore_n 2, 1) := by decide +kernel
theorem d_M_firstToStop_35 : decode c_M_firstToStop 35 = .ok (.iconst 0, 1) := by decide +kernel
theorem d_M_firstToStop_36 : decode c_M_firstToStop 36 = .ok (.istore_n 3, 1) := by decide +kernel
theorem d_M_firstToStop_37 : decode c_M_firstToStop 37 = .ok (.iload_n 3, 1) := by decide +kernel
theorem d_M_firstToStop_38 : decode c_M_firstToStop 38 = .ok (.iload_n 1, 1) := by decide +kernel
theorem d_M_firstToStop_39 : decode c_M_firstToStop 39 = .ok (.if_icmp .ge 71, 3) := by decide +kernel
theorem d_M_firstToStop_42 : decode c_M_firstToStop 42 = .ok (.iload_n 2, 1) := by decide +kernel
theorem d_M_firstToStop_43 : decode c_M_firstToStop 43 = .ok (.iconst (-1), 1) := by decide +kernel
theorem d_M_firstToStop_44 : decode c_M_firstToStop 44 = .ok (.if_icmp .ne 66, 3) := by decide +kernel
theorem d_M_firstToStop_47 : decode c_M_firstToStop 47 = .ok (.aload_n 0, 1) := by decide +kernel
theorem d_M_firstToStop_48 : decode c_M_firstToStop 48 = .ok (.getfield 28, 3) := by decide +kernel
theorem d_M_firstToStop_51 : decode c_M_firstToStop 51 = .ok (.invokevirtual 158, 3) := by decide +kernel
theorem d_M_firstToStop_54 : decode c_M_firstToStop 54 = .ok (.pop, 1) := by decide +kernel
theorem d_M_firstToStop_55 : decode c_M_firstToStop 55 = .ok (.aload_n 0, 1) := by decide +kernel
theorem d_M_firstToStop_56 : decode c_M_firstToStop 56 = .ok (.getfield 24, 3) := by decide +kernel
theorem d_M_firstToStop_59 : decode c_M_firstToStop 59 = .ok (.getfield 72, 3) := by decide +kernel
theorem d_M_firstToStop_62 : decode c_M_firstToStop 62 = .ok (.iconst 1, 1) := by decide +kernel
theorem d_M_firstToStop_63 : decode c_M_firstToStop 63 = .ok (.isub, 1) := by decide +kernel
theorem d_M_firstToStop_64 : decode c_M_firstToStop 64 = .ok (.istore 4, 2) := by decide +kernel
theorem d_M_firstToStop_66 : decode c_M_firstToStop 66 = .ok (.iload 4, 2) := by decide +kernel
theorem d_M_firstToStop_68 : decode c_M_firstToStop 68 = .ok (.ifCond .lt 36, 3) := by decide +kernel
theorem d_M_firstToStop_71 : decode c_M_firstToStop 71 = .ok (.aload_n 0, 1) := by decide +kernel
theorem d_M_firstToStop_72 : decode c_M_firstToStop 72 = .ok (.getfield 28, 3) := by decide +kernel
theorem d_M_firstToStop_75 : decode c_M_firstToStop 75 = .ok (.iload 4, 2) := by decide +kernel
theorem d_M_firstToStop_77 : decode c_M_firstToStop 77 = .ok (.invokevirtual 171, 3) := by decide +kernel
theorem d_M_firstToStop_80 : decode c_M_firstToStop 80 = .ok (.ifCond .eq 18, 3) := by decide +kernel
theorem d_M_firstToStop_83 : decode c_M_firstToStop 83 = .ok (.aload_n 0, 1) := by decide +kernel
theorem d_M_firstToStop_84 : decode c_M_firstToStop 84 = .ok (.getfield 24, 3) := by decide +kernel
theorem d_M_firstToStop_87 : decode c_M_firstToStop 87 = .ok (.iload 4, 2) := by decide +kernel
theorem d_M_firstToStop_89 : decode c_M_firstToStop 89 = .ok (.invokevirtual 171, 3) := by decide +kernel
theorem d_M_firstToStop_92 : decode c_M_firstToStop 92 = .ok (.ifCond .ne 6, 3) := by decide +kernel
theorem d_M_firstToStop_95 : decode c_M_firstToStop 95 = .ok (.iload 4, 2) := by decide +kernel
theorem d_M_firstToStop_97 : decode c_M_firstToStop 97 = .ok (.istore_n 2, 1) := by decide +kernel
theorem d_M_firstToStop_98 : decode c_M_firstToStop 98 = .ok (.iinc 4 (-1), 3) := by decide +kernel
theorem d_M_firstToStop_101 : decode c_M_firstToStop 101 = .ok (.goto (-35), 3) := by decide +kernel
theorem d_M_firstToStop_104 : decode c_M_firstToStop 104 = .ok (.iinc 3 1, 3) := by decide +kernel
theorem d_M_firstToStop_107 : decode c_M_firstToStop 107 = .ok (.goto (-70), 3) := by decide +kernel
theorem d_M_firstToStop_110 : decode c_M_firstToStop 110 = .ok (.iload_n 2, 1) := by decide +kernel
theorem d_M_firstToStop_111 : decode c_M_firstToStop 111 = .ok (.ireturn, 1) := by decide +kernel
theorem d_M_meet_0 : decode c_M_meet 0 = .ok (.aload_n 0, 1) := by decide +kernel
theorem d_M_meet_1 : decode c_M_meet 1 = .ok (.iconst 0, 1) := by decide +kernel
theorem d_M_meet_2 : decode c_M_meet 2 = .ok (.putfield 45, 3) := by decide +kernel
theorem d_M_meet_5 : decode c_M_meet 5 = .ok (.aload_n 0, 1) := by decide +kernel
theorem d_M_meet_6 : decode c_M_meet 6 = .ok (.iload_n 1, 1) := by decide +kernel
theorem d_M_meet_7 : decode c_M_meet 7 = .ok (.invokevirtual 109, 3) := by decide +kernel
theorem d_M_meet_10 : decode c_M_meet 10 = .ok (.ifCond .eq 11, 3) := by decide +kernel
theorem d_M_meet_13 : decode c_M_meet 13 = .ok (.aload_n 0, 1) := by decide +kernel
theorem d_M_meet_14 : decode c_M_meet 14 = .ok (.iload_n 2, 1) := by decide +kernel
theorem d_M_meet_15 : decode c_M_meet 15 = .ok (.invokevirtual 109, 3) := by decide +kernel
theorem d_M_meet_18 : decode c_M_meet 18 = .ok (.ifCond .ne 9, 3) := by decide +kernel
theorem d_M_meet_21 : decode c_M_meet 21 = .ok (.aload_n 0, 1) := by decide +kernel
theorem d_M_meet_22 : decode c_M_meet 22 = .ok (.iconst 1, 1) := by decide +kernel
theorem d_M_meet_23 : decode c_M_meet 23 = .ok (.invokevirtual 52, 3) := by decide +kernel
theorem d_M_meet_26 : decode c_M_meet 26 = .ok (.ireturn, 1) := by decide +kernel
theorem d_M_meet_27 : decode c_M_meet 27 = .ok (.iload_n 1, 1) := by decide +kernel
theorem d_M_meet_28 : decode c_M_meet 28 = .ok (.iload_n 2, 1) := by decide +kernel
theorem d_M_meet_29 : decode c_M_meet 29 = .ok (.if_icmp .eq 14, 3) := by decide +kernel
theorem d_M_meet_32 : decode c_M_meet 32 = .ok (.iload_n 3, 1) := by decide +kernel
theorem d_M_meet_33 : decode c_M_meet 33 = .ok (.iconst 1, 1) := by decide +kernel
theorem d_M_meet_34 : decode c_M_meet 34 = .ok (.sipush 200, 3) := by decide +kernel
theorem d_M_meet_37 : decode c_M_meet 37 = .ok (.invokestatic 56, 3) := by decide +kernel
theorem d_M_meet_40 : decode c_M_meet 40 = .ok (.ifCond .ne 9, 3) := by decide +kernel
theorem d_M_meet_43 : decode c_M_meet 43 = .ok (.aload_n 0, 1) := by decide +kernel
theorem d_M_meet_44 : decode c_M_meet 44 = .ok (.iconst 2, 1) := by decide +kernel
theorem d_M_meet_45 : decode c_M_meet 45 = .ok (.invokevirtual 52, 3) := by decide +kernel
theorem d_M_meet_48 : decode c_M_meet 48 = .ok (.ireturn, 1) := by decide +kernel
theorem d_M_meet_49 : decode c_M_meet 49 = .ok (.aload_n 0, 1) := by decide +kernel
theorem d_M_meet_50 : decode c_M_meet 50 = .ok (.getfield 28, 3) := by decide +kernel
theorem d_M_meet_53 : decode c_M_meet 53 = .ok (.aload_n 0, 1) := by decide +kernel
theorem d_M_meet_54 : decode c_M_meet 54 = .ok (.getfield 24, 3) := by decide +kernel
theorem d_M_meet_57 : decode c_M_meet 57 = .ok (.invokevirtual 167, 3) := by decide +kernel
theorem d_M_meet_60 : decode c_M_meet 60 = .ok (.iconst 0, 1) := by decide +kernel
theorem d_M_meet_61 : decode c_M_meet 61 = .ok (.istore 4, 2) := by decide +kernel
theorem d_M_meet_63 : decode c_M_meet 63 = .ok (.aload_n 0, 1) := by decide +kernel
theorem d_M_meet_64 : decode c_M_meet 64 = .ok (.getfield 28, 3) := by decide +kernel
theorem d_M_meet_67 : decode c_M_meet 67 = .ok (.iload_n 1, 1) := by decide +kernel
theorem d_M_meet_68 : decode c_M_meet 68 = .ok (.iload_n 2, 1) := by decide +kernel
theorem d_M_meet_69 : decode c_M_meet 69 = .ok (.invokevirtual 112, 3) := by decide +kernel
theorem d_M_meet_72 : decode c_M_meet 72 = .ok (.ifCond .ne 23, 3) := by decide +kernel
theorem d_M_meet_75 : decode c_M_meet 75 = .ok (.iload 4, 2) := by decide +kernel
theorem d_M_meet_77 : decode c_M_meet 77 = .ok (.iload_n 3, 1) := by decide +kernel
theorem d_M_meet_78 : decode c_M_meet 78 = .ok (.if_icmp .ge 17, 3) := by decide +kernel
theorem d_M_meet_81 : decode c_M_meet 81 = .ok (.aload_n 0, 1) := by decide +kernel
theorem d_M_meet_82 : decode c_M_meet 82 = .ok (.getfield 28, 3) := by decide +kernel
theorem d_M_meet_85 : decode c_M_meet 85 = .ok (.invokevirtual 158, 3) := by decide +kernel
theorem d_M_meet_88 : decode c_M_meet 88 = .ok (.pop, 1) := by decide +kernel
theorem d_M_meet_89 : decode c_M_meet 89 = .ok (.iinc 4 1, 3) := by decide +kernel
theorem d_M_meet_92 : decode c_M_meet 92 = .ok (.goto (-29), 3) := by decide +kernel
theorem d_M_meet_95 : decode c_M_meet 95 = .ok (.aload_n 0, 1) := by decide +kernel
theorem d_M_meet_96 : decode c_M_meet 96 = .ok (.getfield 28, 3) := by decide +kernel
theorem d_M_meet_99 : decode c_M_meet 99 = .ok (.iload_n 1, 1) := by decide +kernel
theorem d_M_meet_100 : decode c_M_meet 100 = .ok (.iload_n 2, 1) := by decide +kernel
theorem d_M_meet_101 : decode c_M_meet 101 = .ok (.invokevirtual 112, 3) := by decide +kernel
theorem d_M_meet_104 : decode c_M_meet 104 = .ok (.ifCond .eq 8, 3) := by decide +kernel
theorem d_M_meet_107 : decode c_M_meet 107 = .ok (.iload 4, 2) := by decide +kernel
theorem d_M_meet_109 : decode c_M_meet 109 = .ok (.goto 4, 3) := by decide +kernel
theorem d_M_meet_112 : decode c_M_meet 112 = .ok (.iconst (-1), 1) := by decide +kernel
theorem d_M_meet_113 : decode c_M_meet 113 = .ok (.ireturn, 1) := by decide +kernel
theorem d_M_tension_0 : decode c_M_tension 0 = .ok (.aload_n 0, 1) := by decide +kernel
theorem d_M_tension_1 : decode c_M_tension 1 = .ok (.iconst 0, 1) := by decide +kernel
theorem d_M_tension_2 : decode c_M_tension 2 = .ok (.putfield 45, 3) := by decide +kernel
theorem d_M_tension_5 : decode c_M_tension 5 = .ok (.aload_n 0, 1) := by decide +kernel
theorem d_M_tension_6 : decode c_M_tension 6 = .ok (.getfield 24, 3) := by decide +kernel
theorem d_M_tension_9 : decode c_M_tension 9 = .ok (.getfield 72, 3) := by decide +kernel
theorem d_M_tension_12 : decode c_M_tension 12 = .ok (.ifCond .ne 7, 3) := by decide +kernel
theorem d_M_tension_15 : decode c_M_tension 15 = .ok (.dconst 0, 1) := by decide +kernel
theorem d_M_tension_16 : decode c_M_tension 16 = .ok (.goto 21, 3) := by decide +kernel
theorem d_M_tension_19 : decode c_M_tension 19 = .ok (.aload_n 0, 1) := by decide +kernel
theorem d_M_tension_20 : decode c_M_tension 20 = .ok (.getfield 24, 3) := by decide +kernel
theorem d_M_tension_23 : decode c_M_tension 23 = .ok (.iconst 5, 1) := by decide +kernel
theorem d_M_tension_24 : decode c_M_tension 24 = .ok (.invokevirtual 120, 3) := by decide +kernel
theorem d_M_tension_27 : decode c_M_tension 27 = .ok (.i2d, 1) := by decide +kernel
theorem d_M_tension_28 : decode c_M_tension 28 = .ok (.aload_n 0, 1) := by decide +kernel
theorem d_M_tension_29 : decode c_M_tension 29 = .ok (.getfield 24, 3) := by decide +kernel
theorem d_M_tension_32 : decode c_M_tension 32 = .ok (.getfield 72, 3) := by decide +kernel
theorem d_M_tension_35 : decode c_M_tension 35 = .ok (.i2d, 1) := by decide +kernel
theorem d_M_tension_36 : decode c_M_tension 36 = .ok (.ddiv, 1) := by decide +kernel
theorem d_M_tension_37 : decode c_M_tension 37 = .ok (.dreturn, 1) := by decide +kernel
theorem d_M_digest_0 : decode c_M_digest 0 = .ok (.aload_n 0, 1) := by decide +kernel
theorem d_M_digest_1 : decode c_M_digest 1 = .ok (.iconst 0, 1) := by decide +kernel
theorem d_M_digest_2 : decode c_M_digest 2 = .ok (.putfield 45, 3) := by decide +kernel
theorem d_M_digest_5 : decode c_M_digest 5 = .ok (.ldc2_w 174, 3) := by decide +kernel
theorem d_M_digest_8 : decode c_M_digest 8 = .ok (.lstore_n 1, 1) := by decide +kernel
theorem d_M_digest_9 : decode c_M_digest 9 = .ok (.iconst 0, 1) := by decide +kernel
theorem d_M_digest_10 : decode c_M_digest 10 = .ok (.istore_n 3, 1) := by decide +kernel
theorem d_M_digest_11 : decode c_M_digest 11 = .ok (.iload_n 3, 1) := by decide +kernel
theorem d_M_digest_12 : decode c_M_digest 12 = .ok (.bipush 9, 2) := by decide +kernel
theorem d_M_digest_14 : decode c_M_digest 14 = .ok (.if_icmp .ge 22, 3) := by decide +kernel
theorem d_M_digest_17 : decode c_M_digest 17 = .ok (.lload_n 1, 1) := by decide +kernel
theorem d_M_digest_18 : decode c_M_digest 18 = .ok (.ldc2_w 176, 3) := by decide +kernel
theorem d_M_digest_21 : decode c_M_digest 21 = .ok (.lmul, 1) := by decide +kernel
theorem d_M_digest_22 : decode c_M_digest 22 = .ok (.aload_n 0, 1) := by decide +kernel
theorem d_M_digest_23 : decode c_M_digest 23 = .ok (.iload_n 3, 1) := by decide +kernel
theorem d_M_digest_24 : decode c_M_digest 24 = .ok (.invokevirtual 164, 3) := by decide +kernel
theorem d_M_digest_27 : decode c_M_digest 27 = .ok (.i2l, 1) := by decide +kernel
theorem d_M_digest_28 : decode c_M_digest 28 = .ok (.ladd, 1) := by decide +kernel
theorem d_M_digest_29 : decode c_M_digest 29 = .ok (.lstore_n 1, 1) := by decide +kernel
theorem d_M_digest_30 : decode c_M_digest 30 = .ok (.iinc 3 1, 3) := by decide +kernel
theorem d_M_digest_33 : decode c_M_digest 33 = .ok (.goto (-22), 3) := by decide +kernel
theorem d_M_digest_36 : decode c_M_digest 36 = .ok (.iconst 0, 1) := by decide +kernel
theorem d_M_digest_37 : decode c_M_digest 37 = .ok (.istore_n 3, 1) := by decide +kernel
theorem d_M_digest_38 : decode c_M_digest 38 = .ok (.iload_n 3, 1) := by decide +kernel
theorem d_M_digest_39 : decode c_M_digest 39 = .ok (.bipush 8, 2) := by decide +kernel
theorem d_M_digest_41 : decode c_M_digest 41 = .ok (.if_icmp .ge 63, 3) := by decide +kernel
theorem d_M_digest_44 : decode c_M_digest 44 = .ok (.lload_n 1, 1) := by decide +kernel
theorem d_M_digest_45 : decode c_M_digest 45 = .ok (.ldc2_w 176, 3) := by decide +kernel
theorem d_M_digest_48 : decode c_M_digest 48 = .ok (.lmul, 1) := by decide +kernel
theorem d_M_digest_49 : decode c_M_digest 49 = .ok (.aload_n 0, 1) := by decide +kernel
theorem d_M_digest_50 : decode c_M_digest 50 = .ok (.getfield 16, 3) := by decide +kernel
theorem d_M_digest_53 : decode c_M_digest 53 = .ok (.iload_n 3, 1) := by decide +kernel
theorem d_M_digest_54 : decode c_M_digest 54 = .ok (.iaload, 1) := by decide +kernel
theorem d_M_digest_55 : decode c_M_digest 55 = .ok (.i2l, 1) := by decide +kernel
theorem d_M_digest_56 : decode c_M_digest 56 = .ok (.ladd, 1) := by decide +kernel
theorem d_M_digest_57 : decode c_M_digest 57 = .ok (.lstore_n 1, 1) := by decide +kernel
theorem d_M_digest_58 : decode c_M_digest 58 = .ok (.iconst 0, 1) := by decide +kernel
theorem d_M_digest_59 : decode c_M_digest 59 = .ok (.istore 4, 2) := by decide +kernel
theorem d_M_digest_61 : decode c_M_digest 61 = .ok (.iload 4, 2) := by decide +kernel
theorem d_M_digest_63 : decode c_M_digest 63 = .ok (.aload_n 0, 1) := by decide +kernel
theorem d_M_digest_64 : decode c_M_digest 64 = .ok (.getfield 16, 3) := by decide +kernel
theorem d_M_digest_67 : decode c_M_digest 67 = .ok (.iload_n 3, 1) := by decide +kernel
theorem d_M_digest_68 : decode c_M_digest 68 = .ok (.iaload, 1) := by decide +kernel
theorem d_M_digest_69 : decode c_M_digest 69 = .ok (.if_icmp .ge 29, 3) := by decide +kernel
theorem d_M_digest_72 : decode c_M_digest 72 = .ok (.lload_n 1, 1) := by decide +kernel
theorem d_M_digest_73 : decode c_M_digest 73 = .ok (.ldc2_w 176, 3) := by decide +kernel
theorem d_M_digest_76 : decode c_M_digest 76 = .ok (.lmul, 1) := by decide +kernel
theorem d_M_digest_77 : decode c_M_digest 77 = .ok (.aload_n 0, 1) := by decide +kernel
theorem d_M_digest_78 : decode c_M_digest 78 = .ok (.getfield 13, 3) := by decide +kernel
theorem d_M_digest_81 : decode c_M_digest 81 = .ok (.bipush 24, 2) := by decide +kernel
theorem d_M_digest_83 : decode c_M_digest 83 = .ok (.iload_n 3, 1) := by decide +kernel
theorem d_M_digest_84 : decode c_M_digest 84 = .ok (.imul, 1) := by decide +kernel
theorem d_M_digest_85 : decode c_M_digest 85 = .ok (.iload 4, 2) := by decide +kernel
theorem d_M_digest_87 : decode c_M_digest 87 = .ok (.iadd, 1) := by decide +kernel
theorem d_M_digest_88 : decode c_M_digest 88 = .ok (.iaload, 1) := by decide +kernel
theorem d_M_digest_89 : decode c_M_digest 89 = .ok (.i2l, 1) := by decide +kernel
theorem d_M_digest_90 : decode c_M_digest 90 = .ok (.ladd, 1) := by decide +kernel
theorem d_M_digest_91 : decode c_M_digest 91 = .ok (.lstore_n 1, 1) := by decide +kernel
theorem d_M_digest_92 : decode c_M_digest 92 = .ok (.iinc 4 1, 3) := by decide +kernel
theorem d_M_digest_95 : decode c_M_digest 95 = .ok (.goto (-34), 3) := by decide +kernel
theorem d_M_digest_98 : decode c_M_digest 98 = .ok (.iinc 3 1, 3) := by decide +kernel
theorem d_M_digest_101 : decode c_M_digest 101 = .ok (.goto (-63), 3) := by decide +kernel
theorem d_M_digest_104 : decode c_M_digest 104 = .ok (.iconst 0, 1) := by decide +kernel
theorem d_M_digest_105 : decode c_M_digest 105 = .ok (.istore_n 3, 1) := by decide +kernel
theorem d_M_digest_106 : decode c_M_digest 106 = .ok (.iload_n 3, 1) := by decide +kernel
theorem d_M_digest_107 : decode c_M_digest 107 = .ok (.aload_n 0, 1) := by decide +kernel
theorem d_M_digest_108 : decode c_M_digest 108 = .ok (.getfield 24, 3) := by decide +kernel
theorem d_M_digest_111 : decode c_M_digest 111 = .ok (.getfield 72, 3) := by decide +kernel
theorem d_M_digest_114 : decode c_M_digest 114 = .ok (.if_icmp .ge 40, 3) := by decide +kernel
theorem d_M_digest_117 : decode c_M_digest 117 = .ok (.iconst 0, 1) := by decide +kernel
theorem d_M_digest_118 : decode c_M_digest 118 = .ok (.istore 4, 2) := by decide +kernel
theorem d_M_digest_120 : decode c_M_digest 120 = .ok (.iload 4, 2) := by decide +kernel
theorem d_M_digest_122 : decode c_M_digest 122 = .ok (.bipush 12, 2) := by decide +kernel
theorem d_M_digest_124 : decode c_M_digest 124 = .ok (.if_icmp .ge 24, 3) := by decide +kernel
theorem d_M_digest_127 : decode c_M_digest 127 = .ok (.lload_n 1, 1) := by decide +kernel
theorem d_M_digest_128 : decode c_M_digest 128 = .ok (.ldc2_w 176, 3) := by decide +kernel
theorem d_M_digest_131 : decode c_M_digest 131 = .ok (.lmul, 1) := by decide +kernel
theorem d_M_digest_132 : decode c_M_digest 132 = .ok (.aload_n 0, 1) := by decide +kernel
theorem d_M_digest_133 : decode c_M_digest 133 = .ok (.iload_n 3, 1) := by decide +kernel
theorem d_M_digest_134 : decode c_M_digest 134 = .ok (.iload 4, 2) := by decide +kernel
theorem d_M_digest_136 : decode c_M_digest 136 = .ok (.invokevirtual 140, 3) := by decide +kernel
theorem d_M_digest_139 : decode c_M_digest 139 = .ok (.i2l, 1) := by decide +kernel
theorem d_M_digest_140 : decode c_M_digest 140 = .ok (.ladd, 1) := by decide +kernel
theorem d_M_digest_141 : decode c_M_digest 141 = .ok (.lstore_n 1, 1) := by decide +kernel
theorem d_M_digest_142 : decode c_M_digest 142 = .ok (.iinc 4 1, 3) := by decide +kernel
theorem d_M_digest_145 : decode c_M_digest 145 = .ok (.goto (-25), 3) := by decide +kernel
theorem d_M_digest_148 : decode c_M_digest 148 = .ok (.iinc 3 1, 3) := by decide +kernel
theorem d_M_digest_151 : decode c_M_digest 151 = .ok (.goto (-45), 3) := by decide +kernel
theorem d_M_digest_154 : decode c_M_digest 154 = .ok (.iconst 0, 1) := by decide +kernel
theorem d_M_digest_155 : decode c_M_digest 155 = .ok (.istore_n 3, 1) := by decide +kernel
theorem d_M_digest_156 : decode c_M_digest 156 = .ok (.iload_n 3, 1) := by decide +kernel
theorem d_M_digest_157 : decode c_M_digest 157 = .ok (.aload_n 0, 1) := by decide +kernel
theorem d_M_digest_158 : decode c_M_digest 158 = .ok (.getfield 24, 3) := by decide +kernel
theorem d_M_digest_161 : decode c_M_digest 161 = .ok (.getfield 143, 3) := by decide +kernel
theorem d_M_digest_164 : decode c_M_digest 164 = .ok (.if_icmp .ge 40, 3) := by decide +kernel
theorem d_M_digest_167 : decode c_M_digest 167 = .ok (.iconst 0, 1) := by decide +kernel
theorem d_M_digest_168 : decode c_M_digest 168 = .ok (.istore 4, 2) := by decide +kernel
theorem d_M_digest_170 : decode c_M_digest 170 = .ok (.iload 4, 2) := by decide +kernel
theorem d_M_digest_172 : decode c_M_digest 172 = .ok (.bipush 6, 2) := by decide +kernel
theorem d_M_digest_174 : decode c_M_digest 174 = .ok (.if_icmp .ge 24, 3) := by decide +kernel
theorem d_M_digest_177 : decode c_M_digest 177 = .ok (.lload_n 1, 1) := by decide +kernel
theorem d_M_digest_178 : decode c_M_digest 178 = .ok (.ldc2_w 176, 3) := by decide +kernel
theorem d_M_digest_181 : decode c_M_digest 181 = .ok (.lmul, 1) := by decide +kernel
theorem d_M_digest_182 : decode c_M_digest 182 = .ok (.aload_n 0, 1) := by decide +kernel
theorem d_M_digest_183 : decode c_M_digest 183 = .ok (.iload_n 3, 1) := by decide +kernel
theorem d_M_digest_184 : decode c_M_digest 184 = .ok (.iload 4, 2) := by decide +kernel
theorem d_M_digest_186 : decode c_M_digest 186 = .ok (.invokevirtual 155, 3) := by decide +kernel
theorem d_M_digest_189 : decode c_M_digest 189 = .ok (.i2l, 1) := by decide +kernel
theorem d_M_digest_190 : decode c_M_digest 190 = .ok (.ladd, 1) := by decide +kernel
theorem d_M_digest_191 : decode c_M_digest 191 = .ok (.lstore_n 1, 1) := by decide +kernel
theorem d_M_digest_192 : decode c_M_digest 192 = .ok (.iinc 4 1, 3) := by decide +kernel
theorem d_M_digest_195 : decode c_M_digest 195 = .ok (.goto (-25), 3) := by decide +kernel
theorem d_M_digest_198 : decode c_M_digest 198 = .ok (.iinc 3 1, 3) := by decide +kernel
theorem d_M_digest_201 : decode c_M_digest 201 = .ok (.goto (-45), 3) := by decide +kernel
theorem d_M_digest_204 : decode c_M_digest 204 = .ok (.lload_n 1, 1) := by decide +kernel
theorem d_M_digest_205 : decode c_M_digest 205 = .ok (.lreturn, 1) := by decide +kernel
end
section
theorem d_AL_init_0 : decode c_AL_init 0 = .ok (.aload_n 0, 1) := by decide +kernel
theorem d_AL_init_1 : decode c_AL_init 1 = .ok (.invokespecial 1, 3) := by decide +kernel
theorem d_AL_init_4 : decode c_AL_init 4 = .ok (.aload_n 0, 1) := by decide +kernel
theorem d_AL_init_5 : decode c_AL_init 5 = .ok (.getstatic 39, 3) := by decide +kernel
theorem d_AL_init_8 : decode c_AL_init 8 = .ok (.putfield 9, 3) := by decide +kernel
theorem d_AL_init_11 : decode c_AL_init 11 = .ok (.return_, 1) := by decide +kernel
theorem d_AL_grow1_0 : decode c_AL_grow1 0 = .ok (.aload_n 0, 1) := by decide +kernel
theorem d_AL_grow1_1 : decode c_AL_grow1 1 = .ok (.getfield 9, 3) := by decide +kernel
theorem d_AL_grow1_4 : decode c_AL_grow1 4 = .ok (.arraylength, 1) := by decide +kernel
theorem d_AL_grow1_5 : decode c_AL_grow1 5 = .ok (.istore_n 2, 1) := by decide +kernel
theorem d_AL_grow1_6 : decode c_AL_grow1 6 = .ok (.iload_n 2, 1) := by decide +kernel
theorem d_AL_grow1_7 : decode c_AL_grow1 7 = .ok (.ifCond .gt 13, 3) := by decide +kernel
theorem d_AL_grow1_10 : decode c_AL_grow1 10 = .ok (.aload_n 0, 1) := by decide +kernel
theorem d_AL_grow1_11 : decode c_AL_grow1 11 = .ok (.getfield 9, 3) := by decide +kernel
theorem d_AL_grow1_14 : decode c_AL_grow1 14 = .ok (.getstatic 39, 3) := by decide +kernel
theorem d_AL_grow1_17 : decode c_AL_grow1 17 = .ok (.if_acmp .eq 28, 3) := by decide +kernel
theorem d_AL_grow1_20 : decode c_AL_grow1 20 = .ok (.iload_n 2, 1) := by decide +kernel
theorem d_AL_grow1_21 : decode c_AL_grow1 21 = .ok (.iload_n 1, 1) := by decide +kernel
theorem d_AL_grow1_22 : decode c_AL_grow1 22 = .ok (.iload_n 2, 1) := by decide +kernel
theorem d_AL_grow1_23 : decode c_AL_grow1 23 = .ok (.isub, 1) := by decide +kernel
theorem d_AL_grow1_24 : decode c_AL_grow1 24 = .ok (.iload_n 2, 1) := by decide +kernel
theorem d_AL_grow1_25 : decode c_AL_grow1 25 = .ok (.iconst 1, 1) := by decide +kernel
theorem d_AL_grow1_26 : decode c_AL_grow1 26 = .ok (.ishr, 1) := by decide +kernel
theorem d_AL_grow1_27 : decode c_AL_grow1 27 = .ok (.invokestatic 73, 3) := by decide +kernel
theorem d_AL_grow1_30 : decode c_AL_grow1 30 = .ok (.istore_n 3, 1) := by decide +kernel
theorem d_AL_grow1_31 : decode c_AL_grow1 31 = .ok (.aload_n 0, 1) := by decide +kernel
theorem d_AL_grow1_32 : decode c_AL_grow1 32 = .ok (.aload_n 0, 1) := by decide +kernel
theorem d_AL_grow1_33 : decode c_AL_grow1 33 = .ok (.getfield 9, 3) := by decide +kernel
theorem d_AL_grow1_36 : decode c_AL_grow1 36 = .ok (.iload_n 3, 1) := by decide +kernel
theorem d_AL_grow1_37 : decode c_AL_grow1 37 = .ok (.invokestatic 66, 3) := by decide +kernel
theorem d_AL_grow1_40 : decode c_AL_grow1 40 = .ok (.dup_x1, 1) := by decide +kernel
theorem d_AL_grow1_41 : decode c_AL_grow1 41 = .ok (.putfield 9, 3) := by decide +kernel
theorem d_AL_grow1_44 : decode c_AL_grow1 44 = .ok (.areturn, 1) := by decide +kernel
theorem d_AL_grow1_45 : decode c_AL_grow1 45 = .ok (.aload_n 0, 1) := by decide +kernel
theorem d_AL_grow1_46 : decode c_AL_grow1 46 = .ok (.bipush 10, 2) := by decide +kernel
theorem d_AL_grow1_48 : decode c_AL_grow1 48 = .ok (.iload_n 1, 1) := by decide +kernel
theorem d_AL_grow1_49 : decode c_AL_grow1 49 = .ok (.invokestatic 79, 3) := by decide +kernel
theorem d_AL_grow1_52 : decode c_AL_grow1 52 = .ok (.anewarray 7, 3) := by decide +kernel
theorem d_AL_grow1_55 : decode c_AL_grow1 55 = .ok (.dup_x1, 1) := by decide +kernel
theorem d_AL_grow1_56 : decode c_AL_grow1 56 = .ok (.putfield 9, 3) := by decide +kernel
theorem d_AL_grow1_59 : decode c_AL_grow1 59 = .ok (.areturn, 1) := by decide +kernel
theorem d_AL_grow0_0 : decode c_AL_grow0 0 = .ok (.aload_n 0, 1) := by decide +kernel
theorem d_AL_grow0_1 : decode c_AL_grow0 1 = .ok (.aload_n 0, 1) := by decide +kernel
theorem d_AL_grow0_2 : decode c_AL_grow0 2 = .ok (.getfield 48, 3) := by decide +kernel
theorem d_AL_grow0_5 : decode c_AL_grow0 5 = .ok (.iconst 1, 1) := by decide +kernel
theorem d_AL_grow0_6 : decode c_AL_grow0 6 = .ok (.iadd, 1) := by decide +kernel
theorem d_AL_grow0_7 : decode c_AL_grow0 7 = .ok (.invokevirtual 69, 3) := by decide +kernel
theorem d_AL_grow0_10 : decode c_AL_grow0 10 = .ok (.areturn, 1) := by decide +kernel
theorem d_AL_size_0 : decode c_AL_size 0 = .ok (.aload_n 0, 1) := by decide +kernel
theorem d_AL_size_1 : decode c_AL_size 1 = .ok (.getfield 48, 3) := by decide +kernel
theorem d_AL_size_4 : decode c_AL_size 4 = .ok (.ireturn, 1) := by decide +kernel
theorem d_AL_elementData_0 : decode c_AL_elementData 0 = .ok (.aload_n 0, 1) := by decide +kernel
theorem d_AL_elementData_1 : decode c_AL_elementData 1 = .ok (.getfield 9, 3) := by decide +kernel
theorem d_AL_elementData_4 : decode c_AL_elementData 4 = .ok (.iload_n 1, 1) := by decide +kernel
theorem d_AL_elementData_5 : decode c_AL_elementData 5 = .ok (.aaload, 1) := by decide +kernel
theorem d_AL_elementData_6 : decode c_AL_elementData 6 = .ok (.areturn, 1) := by decide +kernel
theorem d_AL_get_0 : decode c_AL_get 0 = .ok (.iload_n 1, 1) := by decide +kernel
theorem d_AL_get_1 : decode c_AL_get 1 = .ok (.aload_n 0, 1) := by decide +kernel
theorem d_AL_get_2 : decode c_AL_get 2 = .ok (.getfield 48, 3) := by decide +kernel
theorem d_AL_get_5 : decode c_AL_get 5 = .ok (.invokestatic 118, 3) := by decide +kernel
theorem d_AL_get_8 : decode c_AL_get 8 = .ok (.pop, 1) := by decide +kernel
theorem d_AL_get_9 : decode c_AL_get 9 = .ok (.aload_n 0, 1) := by decide +kernel
theorem d_AL_get_10 : decode c_AL_get 10 = .ok (.iload_n 1, 1) := by decide +kernel
theorem d_AL_get_11 : decode c_AL_get 11 = .ok (.invokevirtual 123, 3) := by decide +kernel
theorem d_AL_get_14 : decode c_AL_get 14 = .ok (.areturn, 1) := by decide +kernel
theorem d_AL_add3_0 : decode c_AL_add3 0 = .ok (.iload_n 3, 1) := by decide +kernel
theorem d_AL_add3_1 : decode c_AL_add3 1 = .ok (.aload_n 2, 1) := by decide +kernel
theorem d_AL_add3_2 : decode c_AL_add3 2 = .ok (.arraylength, 1) := by decide +kernel
theorem d_AL_add3_3 : decode c_AL_add3 3 = .ok (.if_icmp .ne 8, 3) := by decide +kernel
theorem d_AL_add3_6 : decode c_AL_add3 6 = .ok (.aload_n 0, 1) := by decide +kernel
theorem d_AL_add3_7 : decode c_AL_add3 7 = .ok (.invokevirtual 129, 3) := by decide +kernel
theorem d_AL_add3_10 : decode c_AL_add3 10 = .ok (.astore_n 2, 1) := by decide +kernel
theorem d_AL_add3_11 : decode c_AL_add3 11 = .ok (.aload_n 2, 1) := by decide +kernel
theorem d_AL_add3_12 : decode c_AL_add3 12 = .ok (.iload_n 3, 1) := by decide +kernel
theorem d_AL_add3_13 : decode c_AL_add3 13 = .ok (.aload_n 1, 1) := by decide +kernel
theorem d_AL_add3_14 : decode c_AL_add3 14 = .ok (.aastore, 1) := by decide +kernel
theorem d_AL_add3_15 : decode c_AL_add3 15 = .ok (.aload_n 0, 1) := by decide +kernel
theorem d_AL_add3_16 : decode c_AL_add3 16 = .ok (.iload_n 3, 1) := by decide +kernel
theorem d_AL_add3_17 : decode c_AL_add3 17 = .ok (.iconst 1, 1) := by decide +kernel
theorem d_AL_add3_18 : decode c_AL_add3 18 = .ok (.iadd, 1) := by decide +kernel
theorem d_AL_add3_19 : decode c_AL_add3 19 = .ok (.putfield 48, 3) := by decide +kernel
theorem d_AL_add3_22 : decode c_AL_add3 22 = .ok (.return_, 1) := by decide +kernel
theorem d_AL_add1_0 : decode c_AL_add1 0 = .ok (.aload_n 0, 1) := by decide +kernel
theorem d_AL_add1_1 : decode c_AL_add1 1 = .ok (.dup, 1) := by decide +kernel
theorem d_AL_add1_2 : decode c_AL_add1 2 = .ok (.getfield 63, 3) := by decide +kernel
theorem d_AL_add1_5 : decode c_AL_add1 5 = .ok (.iconst 1, 1) := by decide +kernel
theorem d_AL_add1_6 : decode c_AL_add1 6 = .ok (.iadd, 1) := by decide +kernel
theorem d_AL_add1_7 : decode c_AL_add1 7 = .ok (.putfield 63, 3) := by decide +kernel
theorem d_AL_add1_10 : decode c_AL_add1 10 = .ok (.aload_n 0, 1) := by decide +kernel
theorem d_AL_add1_11 : decode c_AL_add1 11 = .ok (.aload_n 1, 1) := by decide +kernel
theorem d_AL_add1_12 : decode c_AL_add1 12 = .ok (.aload_n 0, 1) := by decide +kernel
theorem d_AL_add1_13 : decode c_AL_add1 13 = .ok (.getfield 9, 3) := by decide +kernel
theorem d_AL_add1_16 : decode c_AL_add1 16 = .ok (.aload_n 0, 1) := by decide +kernel
theorem d_AL_add1_17 : decode c_AL_add1 17 = .ok (.getfield 48, 3) := by decide +kernel
theorem d_AL_add1_20 : decode c_AL_add1 20 = .ok (.invokevirtual 131, 3) := by decide +kernel
theorem d_AL_add1_23 : decode c_AL_add1 23 = .ok (.iconst 1, 1) := by decide +kernel
theorem d_AL_add1_24 : decode c_AL_add1 24 = .ok (.ireturn, 1) := by decide +kernel
theorem d_AB_init_0 : decode c_AB_init 0 = .ok (.aload_n 0, 1) := by decide +kernel
theorem d_AB_init_1 : decode c_AB_init 1 = .ok (.invokespecial 1, 3) := by decide +kernel
theorem d_AB_init_4 : decode c_AB_init 4 = .ok (.aload_n 0, 1) := by decide +kernel
theorem d_AB_init_5 : decode c_AB_init 5 = .ok (.iconst 0, 1) := by decide +kernel
theorem d_AB_init_6 : decode c_AB_init 6 = .ok (.putfield 7, 3) := by decide +kernel
theorem d_AB_init_9 : decode c_AB_init 9 = .ok (.return_, 1) := by decide +kernel
theorem d_AC_init_0 : decode c_AC_init 0 = .ok (.aload_n 0, 1) := by decide +kernel
theorem d_AC_init_1 : decode c_AC_init 1 = .ok (.invokespecial 1, 3) := by decide +kernel
theorem d_AC_init_4 : decode c_AC_init 4 = .ok (.return_, 1) := by decide +kernel
theorem d_ST_length_0 : decode c_ST_length 0 = .ok (.aload_n 0, 1) := by decide +kernel
theorem d_ST_length_1 : decode c_ST_length 1 = .ok (.getfield 9, 3) := by decide +kernel
theorem d_ST_length_4 : decode c_ST_length 4 = .ok (.arraylength, 1) := by decide +kernel
theorem d_ST_length_5 : decode c_ST_length 5 = .ok (.aload_n 0, 1) := by decide +kernel
theorem d_ST_length_6 : decode c_ST_length 6 = .ok (.invokevirtual 335, 3) := by decide +kernel
theorem d_ST_length_9 : decode c_ST_length 9 = .ok (.ishr, 1) := by decide +kernel
theorem d_ST_length_10 : decode c_ST_length 10 = .ok (.ireturn, 1) := by decide +kernel
theorem d_ST_charAt_0 : decode c_ST_charAt 0 = .ok (.aload_n 0, 1) := by decide +kernel
theorem d_ST_charAt_1 : decode c_ST_charAt 1 = .ok (.invokevirtual 492, 3) := by decide +kernel
theorem d_ST_charAt_4 : decode c_ST_charAt 4 = .ok (.ifCond .eq 12, 3) := by decide +kernel
theorem d_ST_charAt_7 : decode c_ST_charAt 7 = .ok (.aload_n 0, 1) := by decide +kernel
theorem d_ST_charAt_8 : decode c_ST_charAt 8 = .ok (.getfield 9, 3) := by decide +kernel
theorem d_ST_charAt_11 : decode c_ST_charAt 11 = .ok (.iload_n 1, 1) := by decide +kernel
theorem d_ST_charAt_12 : decode c_ST_charAt 12 = .ok (.invokestatic 495, 3) := by decide +kernel
theorem d_ST_charAt_15 : decode c_ST_charAt 15 = .ok (.ireturn, 1) := by decide +kernel
theorem d_ST_charAt_16 : decode c_ST_charAt 16 = .ok (.aload_n 0, 1) := by decide +kernel
theorem d_ST_charAt_17 : decode c_ST_charAt 17 = .ok (.getfield 9, 3) := by decide +kernel
theorem d_ST_charAt_20 : decode c_ST_charAt 20 = .ok (.iload_n 1, 1) := by decide +kernel
theorem d_ST_charAt_21 : decode c_ST_charAt 21 = .ok (.invokestatic 498, 3) := by decide +kernel
theorem d_ST_charAt_24 : decode c_ST_charAt 24 = .ok (.ireturn, 1) := by decide +kernel
theorem d_ST_coder_0 : decode c_ST_coder 0 = .ok (.getstatic 38, 3) := by decide +kernel
theorem d_ST_coder_3 : decode c_ST_coder 3 = .ok (.ifCond .eq 10, 3) := by decide +kernel
theorem d_ST_coder_6 : decode c_ST_coder 6 = .ok (.aload_n 0, 1) := by decide +kernel
theorem d_ST_coder_7 : decode c_ST_coder 7 = .ok (.getfield 15, 3) := by decide +kernel
theorem d_ST_coder_10 : decode c_ST_coder 10 = .ok (.goto 4, 3) := by decide +kernel
theorem d_ST_coder_13 : decode c_ST_coder 13 = .ok (.iconst 1, 1) := by decide +kernel
theorem d_ST_coder_14 : decode c_ST_coder 14 = .ok (.ireturn, 1) := by decide +kernel
theorem d_ST_isLatin1_0 : decode c_ST_isLatin1 0 = .ok (.getstatic 38, 3) := by decide +kernel
theorem d_ST_isLatin1_3 : decode c_ST_isLatin1 3 = .ok (.ifCond .eq 14, 3) := by decide +kernel
theorem d_ST_isLatin1_6 : decode c_ST_isLatin1 6 = .ok (.aload_n 0, 1) := by decide +kernel
theorem d_ST_isLatin1_7 : decode c_ST_isLatin1 7 = .ok (.getfield 15, 3) := by decide +kernel
theorem d_ST_isLatin1_10 : decode c_ST_isLatin1 10 = .ok (.ifCond .ne 7, 3) := by decide +kernel
theorem d_ST_isLatin1_13 : decode c_ST_isLatin1 13 = .ok (.iconst 1, 1) := by decide +kernel
theorem d_ST_isLatin1_14 : decode c_ST_isLatin1 14 = .ok (.goto 4, 3) := by decide +kernel
theorem d_ST_isLatin1_17 : decode c_ST_isLatin1 17 = .ok (.iconst 0, 1) := by decide +kernel
theorem d_ST_isLatin1_18 : decode c_ST_isLatin1 18 = .ok (.ireturn, 1) := by decide +kernel
theorem d_ST_checkIndex_0 : decode c_ST_checkIndex 0 = .ok (.iload_n 0, 1) := by decide +kernel
theorem d_ST_checkIndex_1 : decode c_ST_checkIndex 1 = .ok (.iload_n 1, 1) := by decide +kernel
theorem d_ST_checkIndex_2 : decode c_ST_checkIndex 2 = .ok (.getstatic 1053, 3) := by decide +kernel
theorem d_ST_checkIndex_5 : decode c_ST_checkIndex 5 = .ok (.invokestatic 1059, 3) := by decide +kernel
theorem d_ST_checkIndex_8 : decode c_ST_checkIndex 8 = .ok (.pop, 1) := by decide +kernel
theorem d_ST_checkIndex_9 : decode c_ST_checkIndex 9 = .ok (.return_, 1) := by decide +kernel
theorem d_SL_charAt_0 : decode c_SL_charAt 0 = .ok (.iload_n 1, 1) := by decide +kernel
theorem d_SL_charAt_1 : decode c_SL_charAt 1 = .ok (.aload_n 0, 1) := by decide +kernel
theorem d_SL_charAt_2 : decode c_SL_charAt 2 = .ok (.arraylength, 1) := by decide +kernel
theorem d_SL_charAt_3 : decode c_SL_charAt 3 = .ok (.invokestatic 9, 3) := by decide +kernel
theorem d_SL_charAt_6 : decode c_SL_charAt 6 = .ok (.aload_n 0, 1) := by decide +kernel
theorem d_SL_charAt_7 : decode c_SL_charAt 7 = .ok (.iload_n 1, 1) := by decide +kernel
theorem d_SL_charAt_8 : decode c_SL_charAt 8 = .ok (.baload, 1) := by decide +kernel
theorem d_SL_charAt_9 : decode c_SL_charAt 9 = .ok (.sipush 255, 3) := by decide +kernel
theorem d_SL_charAt_12 : decode c_SL_charAt 12 = .ok (.iand, 1) := by decide +kernel
theorem d_SL_charAt_13 : decode c_SL_charAt 13 = .ok (.i2c, 1) := by decide +kernel
theorem d_SL_charAt_14 : decode c_SL_charAt 14 = .ok (.ireturn, 1) := by decide +kernel
theorem d_OB_checkIndex_0 : decode c_OB_checkIndex 0 = .ok (.iload_n 0, 1) := by decide +kernel
theorem d_OB_checkIndex_1 : decode c_OB_checkIndex 1 = .ok (.iload_n 1, 1) := by decide +kernel
theorem d_OB_checkIndex_2 : decode c_OB_checkIndex 2 = .ok (.aconst_null, 1) := by decide +kernel
theorem d_OB_checkIndex_3 : decode c_OB_checkIndex 3 = .ok (.invokestatic 105, 3) := by decide +kernel
theorem d_OB_checkIndex_6 : decode c_OB_checkIndex 6 = .ok (.ireturn, 1) := by decide +kernel
theorem d_PC_checkIndex_0 : decode c_PC_checkIndex 0 = .ok (.iload_n 0, 1) := by decide +kernel
theorem d_PC_checkIndex_1 : decode c_PC_checkIndex 1 = .ok (.ifCond .lt 8, 3) := by decide +kernel
theorem d_PC_checkIndex_4 : decode c_PC_checkIndex 4 = .ok (.iload_n 0, 1) := by decide +kernel
theorem d_PC_checkIndex_5 : decode c_PC_checkIndex 5 = .ok (.iload_n 1, 1) := by decide +kernel
theorem d_PC_checkIndex_6 : decode c_PC_checkIndex 6 = .ok (.if_icmp .lt 10, 3) := by decide +kernel
theorem d_PC_checkIndex_9 : decode c_PC_checkIndex 9 = .ok (.aload_n 2, 1) := by decide +kernel
theorem d_PC_checkIndex_10 : decode c_PC_checkIndex 10 = .ok (.iload_n 0, 1) := by decide +kernel
theorem d_PC_checkIndex_11 : decode c_PC_checkIndex 11 = .ok (.iload_n 1, 1) := by decide +kernel
theorem d_PC_checkIndex_12 : decode c_PC_checkIndex 12 = .ok (.invokestatic 95, 3) := by decide +kernel
theorem d_PC_checkIndex_15 : decode c_PC_checkIndex 15 = .ok (.athrow, 1) := by decide +kernel
theorem d_PC_checkIndex_16 : decode c_PC_checkIndex 16 = .ok (.iload_n 0, 1) := by decide +kernel
theorem d_PC_checkIndex_17 : decode c_PC_checkIndex 17 = .ok (.ireturn, 1) := by decide +kernel
theorem d_MA_floorMod_0 : decode c_MA_floorMod 0 = .ok (.iload_n 0, 1) := by decide +kernel
theorem d_MA_floorMod_1 : decode c_MA_floorMod 1 = .ok (.iload_n 1, 1) := by decide +kernel
theorem d_MA_floorMod_2 : decode c_MA_floorMod 2 = .ok (.irem, 1) := by decide +kernel
theorem d_MA_floorMod_3 : decode c_MA_floorMod 3 = .ok (.istore_n 2, 1) := by decide +kernel
theorem d_MA_floorMod_4 : decode c_MA_floorMod 4 = .ok (.iload_n 0, 1) := by decide +kernel
theorem d_MA_floorMod_5 : decode c_MA_floorMod 5 = .ok (.iload_n 1, 1) := by decide +kernel
theorem d_MA_floorMod_6 : decode c_MA_floorMod 6 = .ok (.ixor, 1) := by decide +kernel
theorem d_MA_floorMod_7 : decode c_MA_floorMod 7 = .ok (.ifCond .ge 11, 3) := by decide +kernel
theorem d_MA_floorMod_10 : decode c_MA_floorMod 10 = .ok (.iload_n 2, 1) := by decide +kernel
theorem d_MA_floorMod_11 : decode c_MA_floorMod 11 = .ok (.ifCond .eq 7, 3) := by decide +kernel
theorem d_MA_floorMod_14 : decode c_MA_floorMod 14 = .ok (.iload_n 2, 1) := by decide +kernel
theorem d_MA_floorMod_15 : decode c_MA_floorMod 15 = .ok (.iload_n 1, 1) := by decide +kernel
theorem d_MA_floorMod_16 : decode c_MA_floorMod 16 = .ok (.iadd, 1) := by decide +kernel
theorem d_MA_floorMod_17 : decode c_MA_floorMod 17 = .ok (.ireturn, 1) := by decide +kernel
theorem d_MA_floorMod_18 : decode c_MA_floorMod 18 = .ok (.iload_n 2, 1) := by decide +kernel
theorem d_MA_floorMod_19 : decode c_MA_floorMod 19 = .ok (.ireturn, 1) := by decide +kernel
theorem d_MA_abs_0 : decode c_MA_abs 0 = .ok (.iload_n 0, 1) := by decide +kernel
theorem d_MA_abs_1 : decode c_MA_abs 1 = .ok (.ifCond .ge 8, 3) := by decide +kernel
theorem d_MA_abs_4 : decode c_MA_abs 4 = .ok (.iload_n 0, 1) := by decide +kernel
theorem d_MA_abs_5 : decode c_MA_abs 5 = .ok (.ineg, 1) := by decide +kernel
theorem d_MA_abs_6 : decode c_MA_abs 6 = .ok (.goto 4, 3) := by decide +kernel
theorem d_MA_abs_9 : decode c_MA_abs 9 = .ok (.iload_n 0, 1) := by decide +kernel
theorem d_MA_abs_10 : decode c_MA_abs 10 = .ok (.ireturn, 1) := by decide +kernel
theorem d_MA_max_0 : decode c_MA_max 0 = .ok (.iload_n 0, 1) := by decide +kernel
theorem d_MA_max_1 : decode c_MA_max 1 = .ok (.iload_n 1, 1) := by decide +kernel
theorem d_MA_max_2 : decode c_MA_max 2 = .ok (.if_icmp .lt 7, 3) := by decide +kernel
theorem d_MA_max_5 : decode c_MA_max 5 = .ok (.iload_n 0, 1) := by decide +kernel
theorem d_MA_max_6 : decode c_MA_max 6 = .ok (.goto 4, 3) := by decide +kernel
theorem d_MA_max_9 : decode c_MA_max 9 = .ok (.iload_n 1, 1) := by decide +kernel
theorem d_MA_max_10 : decode c_MA_max 10 = .ok (.ireturn, 1) := by decide +kernel
theorem d_MA_min_0 : decode c_MA_min 0 = .ok (.iload_n 0, 1) := by decide +kernel
theorem d_MA_min_1 : decode c_MA_min 1 = .ok (.iload_n 1, 1) := by decide +kernel
theorem d_MA_min_2 : decode c_MA_min 2 = .ok (.if_icmp .gt 7, 3) := by decide +kernel
theorem d_MA_min_5 : decode c_MA_min 5 = .ok (.iload_n 0, 1) := by decide +kernel
theorem d_MA_min_6 : decode c_MA_min 6 = .ok (.goto 4, 3) := by decide +kernel
theorem d_MA_min_9 : decode c_MA_min 9 = .ok (.iload_n 1, 1) := by decide +kernel
theorem d_MA_min_10 : decode c_MA_min 10 = .ok (.ireturn, 1) := by decide +kernel
theorem d_IN_signum_0 : decode c_IN_signum 0 = .ok (.iload_n 0, 1) := by decide +kernel
theorem d_IN_signum_1 : decode c_IN_signum 1 = .ok (.bipush 31, 2) := by decide +kernel
theorem d_IN_signum_3 : decode c_IN_signum 3 = .ok (.ishr, 1) := by decide +kernel
theorem d_IN_signum_4 : decode c_IN_signum 4 = .ok (.iload_n 0, 1) := by decide +kernel
theorem d_IN_signum_5 : decode c_IN_signum 5 = .ok (.ineg, 1) := by decide +kernel
theorem d_IN_signum_6 : decode c_IN_signum 6 = .ok (.bipush 31, 2) := by decide +kernel
theorem d_IN_signum_8 : decode c_IN_signum 8 = .ok (.iushr, 1) := by decide +kernel
theorem d_IN_signum_9 : decode c_IN_signum 9 = .ok (.ior, 1) := by decide +kernel
theorem d_IN_signum_10 : decode c_IN_signum 10 = .ok (.ireturn, 1) := by decide +kernel
end
section
theorem d_L_feed_0 : decode c_L_feed 0 = .ok (.aload 6, 2) := by decide +kernel
theorem d_L_feed_2 : decode c_L_feed 2 = .ok (.iconst 0, 1) := by decide +kernel
theorem d_L_feed_3 : decode c_L_feed 3 = .ok (.aload_n 0, 1) := by decide +kernel
theorem d_L_feed_4 : decode c_L_feed 4 = .ok (.iload_n 1, 1) := by decide +kernel
theorem d_L_feed_5 : decode c_L_feed 5 = .ok (.iload_n 2, 1) := by decide +kernel
theorem d_L_feed_6 : decode c_L_feed 6 = .ok (.iload_n 3, 1) := by decide +kernel
theorem d_L_feed_7 : decode c_L_feed 7 = .ok (.iload 4, 2) := by decide +kernel
theorem d_L_feed_9 : decode c_L_feed 9 = .ok (.iload 5, 2) := by decide +kernel
theorem d_L_feed_11 : decode c_L_feed 11 = .ok (.invokevirtual 7, 3) := by decide +kernel
theorem d_L_feed_14 : decode c_L_feed 14 = .ok (.i2l, 1) := by decide +kernel
theorem d_L_feed_15 : decode c_L_feed 15 = .ok (.lastore, 1) := by decide +kernel
theorem d_L_feed_16 : decode c_L_feed 16 = .ok (.goto 7, 3) := by decide +kernel
theorem d_L_feed_19 : decode c_L_feed 19 = .ok (.astore 7, 2) := by decide +kernel
theorem d_L_feed_21 : decode c_L_feed 21 = .ok (.iconst 1, 1) := by decide +kernel
theorem d_L_feed_22 : decode c_L_feed 22 = .ok (.ireturn, 1) := by decide +kernel
theorem d_L_feed_23 : decode c_L_feed 23 = .ok (.iconst 0, 1) := by decide +kernel
theorem d_L_feed_24 : decode c_L_feed 24 = .ok (.ireturn, 1) := by decide +kernel
theorem d_L_trim_0 : decode c_L_trim 0 = .ok (.aload_n 2, 1) := by decide +kernel
theorem d_L_trim_1 : decode c_L_trim 1 = .ok (.iconst 0, 1) := by decide +kernel
theorem d_L_trim_2 : decode c_L_trim 2 = .ok (.aload_n 0, 1) := by decide +kernel
theorem d_L_trim_3 : decode c_L_trim 3 = .ok (.iload_n 1, 1) := by decide +kernel
theorem d_L_trim_4 : decode c_L_trim 4 = .ok (.invokevirtual 15, 3) := by decide +kernel
theorem d_L_trim_7 : decode c_L_trim 7 = .ok (.i2l, 1) := by decide +kernel
theorem d_L_trim_8 : decode c_L_trim 8 = .ok (.lastore, 1) := by decide +kernel
theorem d_L_trim_9 : decode c_L_trim 9 = .ok (.goto 6, 3) := by decide +kernel
theorem d_L_trim_12 : decode c_L_trim 12 = .ok (.astore_n 3, 1) := by decide +kernel
theorem d_L_trim_13 : decode c_L_trim 13 = .ok (.iconst 1, 1) := by decide +kernel
theorem d_L_trim_14 : decode c_L_trim 14 = .ok (.ireturn, 1) := by decide +kernel
theorem d_L_trim_15 : decode c_L_trim 15 = .ok (.iconst 0, 1) := by decide +kernel
theorem d_L_trim_16 : decode c_L_trim 16 = .ok (.ireturn, 1) := by decide +kernel
theorem d_L_learn_0 : decode c_L_learn 0 = .ok (.aload_n 2, 1) := by decide +kernel
theorem d_L_learn_1 : decode c_L_learn 1 = .ok (.iconst 0, 1) := by decide +kernel
theorem d_L_learn_2 : decode c_L_learn 2 = .ok (.aload_n 0, 1) := by decide +kernel
theorem d_L_learn_3 : decode c_L_learn 3 = .ok (.iload_n 1, 1) := by decide +kernel
theorem d_L_learn_4 : decode c_L_learn 4 = .ok (.invokevirtual 21, 3) := by decide +kernel
theorem d_L_learn_7 : decode c_L_learn 7 = .ok (.i2l, 1) := by decide +kernel
theorem d_L_learn_8 : decode c_L_learn 8 = .ok (.lastore, 1) := by decide +kernel
theorem d_L_learn_9 : decode c_L_learn 9 = .ok (.goto 6, 3) := by decide +kernel
theorem d_L_learn_12 : decode c_L_learn 12 = .ok (.astore_n 3, 1) := by decide +kernel
theorem d_L_learn_13 : decode c_L_learn 13 = .ok (.iconst 1, 1) := by decide +kernel
theorem d_L_learn_14 : decode c_L_learn 14 = .ok (.ireturn, 1) := by decide +kernel
theorem d_L_learn_15 : decode c_L_learn 15 = .ok (.iconst 0, 1) := by decide +kernel
theorem d_L_learn_16 : decode c_L_learn 16 = .ok (.ireturn, 1) := by decide +kernel
theorem d_L_figure_0 : decode c_L_figure 0 = .ok (.aload_n 3, 1) := by decide +kernel
theorem d_L_figure_1 : decode c_L_figure 1 = .ok (.iconst 0, 1) := by decide +kernel
theorem d_L_figure_2 : decode c_L_figure 2 = .ok (.aload_n 0, 1) := by decide +kernel
theorem d_L_figure_3 : decode c_L_figure 3 = .ok (.iload_n 1, 1) := by decide +kernel
theorem d_L_figure_4 : decode c_L_figure 4 = .ok (.iload_n 2, 1) := by decide +kernel
theorem d_L_figure_5 : decode c_L_figure 5 = .ok (.invokevirtual 26, 3) := by decide +kernel
theorem d_L_figure_8 : decode c_L_figure 8 = .ok (.i2l, 1) := by decide +kernel
theorem d_L_figure_9 : decode c_L_figure 9 = .ok (.lastore, 1) := by decide +kernel
theorem d_L_figure_10 : decode c_L_figure 10 = .ok (.goto 7, 3) := by decide +kernel
theorem d_L_figure_13 : decode c_L_figure 13 = .ok (.astore 4, 2) := by decide +kernel
theorem d_L_figure_15 : decode c_L_figure 15 = .ok (.iconst 1, 1) := by decide +kernel
theorem d_L_figure_16 : decode c_L_figure 16 = .ok (.ireturn, 1) := by decide +kernel
theorem d_L_figure_17 : decode c_L_figure 17 = .ok (.iconst 0, 1) := by decide +kernel
theorem d_L_figure_18 : decode c_L_figure 18 = .ok (.ireturn, 1) := by decide +kernel
theorem d_L_drift_0 : decode c_L_drift 0 = .ok (.aload_n 3, 1) := by decide +kernel
theorem d_L_drift_1 : decode c_L_drift 1 = .ok (.iconst 0, 1) := by decide +kernel
theorem d_L_drift_2 : decode c_L_drift 2 = .ok (.aload_n 0, 1) := by decide +kernel
theorem d_L_drift_3 : decode c_L_drift 3 = .ok (.iload_n 1, 1) := by decide +kernel
theorem d_L_drift_4 : decode c_L_drift 4 = .ok (.iload_n 2, 1) := by decide +kernel
theorem d_L_drift_5 : decode c_L_drift 5 = .ok (.invokevirtual 30, 3) := by decide +kernel
theorem d_L_drift_8 : decode c_L_drift 8 = .ok (.i2l, 1) := by decide +kernel
theorem d_L_drift_9 : decode c_L_drift 9 = .ok (.lastore, 1) := by decide +kernel
theorem d_L_drift_10 : decode c_L_drift 10 = .ok (.goto 7, 3) := by decide +kernel
theorem d_L_drift_13 : decode c_L_drift 13 = .ok (.astore 4, 2) := by decide +kernel
theorem d_L_drift_15 : decode c_L_drift 15 = .ok (.iconst 1, 1) := by decide +kernel
theorem d_L_drift_16 : decode c_L_drift 16 = .ok (.ireturn, 1) := by decide +kernel
theorem d_L_drift_17 : decode c_L_drift 17 = .ok (.iconst 0, 1) := by decide +kernel
theorem d_L_drift_18 : decode c_L_drift 18 = .ok (.ireturn, 1) := by decide +kernel
theorem d_L_come_0 : decode c_L_come 0 = .ok (.aload 5, 2) := by decide +kernel
theorem d_L_come_2 : decode c_L_come 2 = .ok (.iconst 0, 1) := by decide +kernel
theorem d_L_come_3 : decode c_L_come 3 = .ok (.aload_n 0, 1) := by decide +kernel
theorem d_L_come_4 : decode c_L_come 4 = .ok (.iload_n 1, 1) := by decide +kernel
theorem d_L_come_5 : decode c_L_come 5 = .ok (.iload_n 2, 1) := by decide +kernel
theorem d_L_come_6 : decode c_L_come 6 = .ok (.iload_n 3, 1) := by decide +kernel
theorem d_L_come_7 : decode c_L_come 7 = .ok (.iload 4, 2) := by decide +kernel
theorem d_L_come_9 : decode c_L_come 9 = .ok (.invokevirtual 33, 3) := by decide +kernel
theorem d_L_come_12 : decode c_L_come 12 = .ok (.i2l, 1) := by decide +kernel
theorem d_L_come_13 : decode c_L_come 13 = .ok (.lastore, 1) := by decide +kernel
theorem d_L_come_14 : decode c_L_come 14 = .ok (.goto 11, 3) := by decide +kernel
theorem d_L_come_17 : decode c_L_come 17 = .ok (.astore 6, 2) := by decide +kernel
theorem d_L_come_19 : decode c_L_come 19 = .ok (.iconst 1, 1) := by decide +kernel
theorem d_L_come_20 : decode c_L_come 20 = .ok (.ireturn, 1) := by decide +kernel
theorem d_L_come_21 : decode c_L_come 21 = .ok (.astore 6, 2) := by decide +kernel
theorem d_L_come_23 : decode c_L_come 23 = .ok (.iconst 2, 1) := by decide +kernel
theorem d_L_come_24 : decode c_L_come 24 = .ok (.ireturn, 1) := by decide +kernel
theorem d_L_come_25 : decode c_L_come 25 = .ok (.iconst 0, 1) := by decide +kernel
theorem d_L_come_26 : decode c_L_come 26 = .ok (.ireturn, 1) := by decide +kernel
theorem d_L_dance_0 : decode c_L_dance 0 = .ok (.aload_n 3, 1) := by decide +kernel
theorem d_L_dance_1 : decode c_L_dance 1 = .ok (.iconst 0, 1) := by decide +kernel
theorem d_L_dance_2 : decode c_L_dance 2 = .ok (.aload_n 0, 1) := by decide +kernel
theorem d_L_dance_3 : decode c_L_dance 3 = .ok (.iload_n 1, 1) := by decide +kernel
theorem d_L_dance_4 : decode c_L_dance 4 = .ok (.iload_n 2, 1) := by decide +kernel
theorem d_L_dance_5 : decode c_L_dance 5 = .ok (.invokevirtual 37, 3) := by decide +kernel
theorem d_L_dance_8 : decode c_L_dance 8 = .ok (.i2l, 1) := by decide +kernel
theorem d_L_dance_9 : decode c_L_dance 9 = .ok (.lastore, 1) := by decide +kernel
theorem d_L_dance_10 : decode c_L_dance 10 = .ok (.goto 7, 3) := by decide +kernel
theorem d_L_dance_13 : decode c_L_dance 13 = .ok (.astore 4, 2) := by decide +kernel
theorem d_L_dance_15 : decode c_L_dance 15 = .ok (.iconst 1, 1) := by decide +kernel
theorem d_L_dance_16 : decode c_L_dance 16 = .ok (.ireturn, 1) := by decide +kernel
theorem d_L_dance_17 : decode c_L_dance 17 = .ok (.iconst 0, 1) := by decide +kernel
theorem d_L_dance_18 : decode c_L_dance 18 = .ok (.ireturn, 1) := by decide +kernel
theorem d_L_pair_0 : decode c_L_pair 0 = .ok (.aload_n 3, 1) := by decide +kernel
theorem d_L_pair_1 : decode c_L_pair 1 = .ok (.iconst 0, 1) := by decide +kernel
theorem d_L_pair_2 : decode c_L_pair 2 = .ok (.aload_n 0, 1) := by decide +kernel
theorem d_L_pair_3 : decode c_L_pair 3 = .ok (.iload_n 1, 1) := by decide +kernel
theorem d_L_pair_4 : decode c_L_pair 4 = .ok (.iload_n 2, 1) := by decide +kernel
theorem d_L_pair_5 : decode c_L_pair 5 = .ok (.invokevirtual 40, 3) := by decide +kernel
theorem d_L_pair_8 : decode c_L_pair 8 = .ok (.i2l, 1) := by decide +kernel
theorem d_L_pair_9 : decode c_L_pair 9 = .ok (.lastore, 1) := by decide +kernel
theorem d_L_pair_10 : decode c_L_pair 10 = .ok (.goto 15, 3) := by decide +kernel
theorem d_L_pair_13 : decode c_L_pair 13 = .ok (.astore 4, 2) := by decide +kernel
theorem d_L_pair_15 : decode c_L_pair 15 = .ok (.iconst 1, 1) := by decide +kernel
theorem d_L_pair_16 : decode c_L_pair 16 = .ok (.ireturn, 1) := by decide +kernel
theorem d_L_pair_17 : decode c_L_pair 17 = .ok (.astore 4, 2) := by decide +kernel
theorem d_L_pair_19 : decode c_L_pair 19 = .ok (.iconst 2, 1) := by decide +kernel
theorem d_L_pair_20 : decode c_L_pair 20 = .ok (.ireturn, 1) := by decide +kernel
theorem d_L_pair_21 : decode c_L_pair 21 = .ok (.astore 4, 2) := by decide +kernel
theorem d_L_pair_23 : decode c_L_pair 23 = .ok (.iconst 3, 1) := by decide +kernel
theorem d_L_pair_24 : decode c_L_pair 24 = .ok (.ireturn, 1) := by decide +kernel
theorem d_L_pair_25 : decode c_L_pair 25 = .ok (.iconst 0, 1) := by decide +kernel
theorem d_L_pair_26 : decode c_L_pair 26 = .ok (.ireturn, 1) := by decide +kernel
theorem d_L_part_0 : decode c_L_part 0 = .ok (.aload_n 2, 1) := by decide +kernel
theorem d_L_part_1 : decode c_L_part 1 = .ok (.iconst 0, 1) := by decide +kernel
theorem d_L_part_2 : decode c_L_part 2 = .ok (.aload_n 0, 1) := by decide +kernel
theorem d_L_part_3 : decode c_L_part 3 = .ok (.iload_n 1, 1) := by decide +kernel
theorem d_L_part_4 : decode c_L_part 4 = .ok (.invokevirtual 43, 3) := by decide +kernel
theorem d_L_part_7 : decode c_L_part 7 = .ok (.i2l, 1) := by decide +kernel
theorem d_L_part_8 : decode c_L_part 8 = .ok (.lastore, 1) := by decide +kernel
theorem d_L_part_9 : decode c_L_part 9 = .ok (.goto 9, 3) := by decide +kernel
theorem d_L_part_12 : decode c_L_part 12 = .ok (.astore_n 3, 1) := by decide +kernel
theorem d_L_part_13 : decode c_L_part 13 = .ok (.iconst 1, 1) := by decide +kernel
theorem d_L_part_14 : decode c_L_part 14 = .ok (.ireturn, 1) := by decide +kernel
theorem d_L_part_15 : decode c_L_part 15 = .ok (.astore_n 3, 1) := by decide +kernel
theorem d_L_part_16 : decode c_L_part 16 = .ok (.iconst 2, 1) := by decide +kernel
theorem d_L_part_17 : decode c_L_part 17 = .ok (.ireturn, 1) := by decide +kernel
theorem d_L_part_18 : decode c_L_part 18 = .ok (.iconst 0, 1) := by decide +kernel
theorem d_L_part_19 : decode c_L_part 19 = .ok (.ireturn, 1) := by decide +kernel
theorem d_L_wind_0 : decode c_L_wind 0 = .ok (.aload_n 3, 1) := by decide +kernel
theorem d_L_wind_1 : decode c_L_wind 1 = .ok (.iconst 0, 1) := by decide +kernel
theorem d_L_wind_2 : decode c_L_wind 2 = .ok (.aload_n 0, 1) := by decide +kernel
theorem d_L_wind_3 : decode c_L_wind 3 = .ok (.iload_n 1, 1) := by decide +kernel
theorem d_L_wind_4 : decode c_L_wind 4 = .ok (.iload_n 2, 1) := by decide +kernel
theorem d_L_wind_5 : decode c_L_wind 5 = .ok (.invokevirtual 46, 3) := by decide +kernel
theorem d_L_wind_8 : decode c_L_wind 8 = .ok (.i2l, 1) := by decide +kernel
theorem d_L_wind_9 : decode c_L_wind 9 = .ok (.lastore, 1) := by decide +kernel
theorem d_L_wind_10 : decode c_L_wind 10 = .ok (.goto 11, 3) := by decide +kernel
theorem d_L_wind_13 : decode c_L_wind 13 = .ok (.astore 4, 2) := by decide +kernel
theorem d_L_wind_15 : decode c_L_wind 15 = .ok (.iconst 1, 1) := by decide +kernel
theorem d_L_wind_16 : decode c_L_wind 16 = .ok (.ireturn, 1) := by decide +kernel
theorem d_L_wind_17 : decode c_L_wind 17 = .ok (.astore 4, 2) := by decide +kernel
theorem d_L_wind_19 : decode c_L_wind 19 = .ok (.iconst 2, 1) := by decide +kernel
theorem d_L_wind_20 : decode c_L_wind 20 = .ok (.ireturn, 1) := by decide +kernel
theorem d_L_wind_21 : decode c_L_wind 21 = .ok (.iconst 0, 1) := by decide +kernel
theorem d_L_wind_22 : decode c_L_wind 22 = .ok (.ireturn, 1) := by decide +kernel
theorem d_L_dancer_0 : decode c_L_dancer 0 = .ok (.aload_n 3, 1) := by decide +kernel
theorem d_L_dancer_1 : decode c_L_dancer 1 = .ok (.iconst 0, 1) := by decide +kernel
theorem d_L_dancer_2 : decode c_L_dancer 2 = .ok (.aload_n 0, 1) := by decide +kernel
theorem d_L_dancer_3 : decode c_L_dancer 3 = .ok (.iload_n 1, 1) := by decide +kernel
theorem d_L_dancer_4 : decode c_L_dancer 4 = .ok (.iload_n 2, 1) := by decide +kernel
theorem d_L_dancer_5 : decode c_L_dancer 5 = .ok (.invokevirtual 49, 3) := by decide +kernel
theorem d_L_dancer_8 : decode c_L_dancer 8 = .ok (.i2l, 1) := by decide +kernel
theorem d_L_dancer_9 : decode c_L_dancer 9 = .ok (.lastore, 1) := by decide +kernel
theorem d_L_dancer_10 : decode c_L_dancer 10 = .ok (.goto 7, 3) := by decide +kernel
theorem d_L_dancer_13 : decode c_L_dancer 13 = .ok (.astore 4, 2) := by decide +kernel
theorem d_L_dancer_15 : decode c_L_dancer 15 = .ok (.iconst 1, 1) := by decide +kernel
theorem d_L_dancer_16 : decode c_L_dancer 16 = .ok (.ireturn, 1) := by decide +kernel
theorem d_L_dancer_17 : decode c_L_dancer 17 = .ok (.iconst 0, 1) := by decide +kernel
theorem d_L_dancer_18 : decode c_L_dancer 18 = .ok (.ireturn, 1) := by decide +kernel
theorem d_L_at_0 : decode c_L_at 0 = .ok (.aload_n 3, 1) := by decide +kernel
theorem d_L_at_1 : decode c_L_at 1 = .ok (.iconst 0, 1) := by decide +kernel
theorem d_L_at_2 : decode c_L_at 2 = .ok (.aload_n 0, 1) := by decide +kernel
theorem d_L_at_3 : decode c_L_at 3 = .ok (.iload_n 1, 1) := by decide +kernel
theorem d_L_at_4 : decode c_L_at 4 = .ok (.iload_n 2, 1) := by decide +kernel
theorem d_L_at_5 : decode c_L_at 5 = .ok (.invokevirtual 52, 3) := by decide +kernel
theorem d_L_at_8 : decode c_L_at 8 = .ok (.i2l, 1) := by decide +kernel
theorem d_L_at_9 : decode c_L_at 9 = .ok (.lastore, 1) := by decide +kernel
theorem d_L_at_10 : decode c_L_at 10 = .ok (.goto 7, 3) := by decide +kernel
theorem d_L_at_13 : decode c_L_at 13 = .ok (.astore 4, 2) := by decide +kernel
theorem d_L_at_15 : decode c_L_at 15 = .ok (.iconst 1, 1) := by decide +kernel
theorem d_L_at_16 : decode c_L_at 16 = .ok (.ireturn, 1) := by decide +kernel
theorem d_L_at_17 : decode c_L_at 17 = .ok (.iconst 0, 1) := by decide +kernel
theorem d_L_at_18 : decode c_L_at 18 = .ok (.ireturn, 1) := by decide +kernel
theorem d_L_addWinder_0 : decode c_L_addWinder 0 = .ok (.aload 4, 2) := by decide +kernel
theorem d_L_addWinder_2 : decode c_L_addWinder 2 = .ok (.iconst 0, 1) := by decide +kernel
theorem d_L_addWinder_3 : decode c_L_addWinder 3 = .ok (.aload_n 0, 1) := by decide +kernel
theorem d_L_addWinder_4 : decode c_L_addWinder 4 = .ok (.iload_n 1, 1) := by decide +kernel
theorem d_L_addWinder_5 : decode c_L_addWinder 5 = .ok (.iload_n 2, 1) := by decide +kernel
theorem d_L_addWinder_6 : decode c_L_addWinder 6 = .ok (.iload_n 3, 1) := by decide +kernel
theorem d_L_addWinder_7 : decode c_L_addWinder 7 = .ok (.invokevirtual 55, 3) := by decide +kernel
theorem d_L_addWinder_10 : decode c_L_addWinder 10 = .ok (.i2l, 1) := by decide +kernel
theorem d_L_addWinder_11 : decode c_L_addWinder 11 = .ok (.lastore, 1) := by decide +kernel
theorem d_L_addWinder_12 : decode c_L_addWinder 12 = .ok (.goto 11, 3) := by decide +kernel
theorem d_L_addWinder_15 : decode c_L_addWinder 15 = .ok (.astore 5, 2) := by decide +kernel
theorem d_L_addWinder_17 : decode c_L_addWinder 17 = .ok (.iconst 1, 1) := by decide +kernel
theorem d_L_addWinder_18 : decode c_L_addWinder 18 = .ok (.ireturn, 1) := by decide +kernel
theorem d_L_addWinder_19 : decode c_L_addWinder 19 = .ok (.astore 5, 2) := by decide +kernel
theorem d_L_addWinder_21 : decode c_L_addWinder 21 = .ok (.iconst 2, 1) := by decide +kernel
theorem d_L_addWinder_22 : decode c_L_addWinder 22 = .ok (.ireturn, 1) := by decide +kernel
theorem d_L_addWinder_23 : decode c_L_addWinder 23 = .ok (.iconst 0, 1) := by decide +kernel
theorem d_L_addWinder_24 : decode c_L_addWinder 24 = .ok (.ireturn, 1) := by decide +kernel
theorem d_L_call_0 : decode c_L_call 0 = .ok (.aload_n 3, 1) := by decide +kernel
theorem d_L_call_1 : decode c_L_call 1 = .ok (.iconst 0, 1) := by decide +kernel
theorem d_L_call_2 : decode c_L_call 2 = .ok (.aload_n 0, 1) := by decide +kernel
theorem d_L_call_3 : decode c_L_call 3 = .ok (.iload_n 1, 1) := by decide +kernel
theorem d_L_call_4 : decode c_L_call 4 = .ok (.iload_n 2, 1) := by decide +kernel
theorem d_L_call_5 : decode c_L_call 5 = .ok (.invokevirtual 59, 3) := by decide +kernel
theorem d_L_call_8 : decode c_L_call 8 = .ok (.i2l, 1) := by decide +kernel
theorem d_L_call_9 : decode c_L_call 9 = .ok (.lastore, 1) := by decide +kernel
theorem d_L_call_10 : decode c_L_call 10 = .ok (.goto 11, 3) := by decide +kernel
theorem d_L_call_13 : decode c_L_call 13 = .ok (.astore 4, 2) := by decide +kernel
theorem d_L_call_15 : decode c_L_call 15 = .ok (.iconst 1, 1) := by decide +kernel
theorem d_L_call_16 : decode c_L_call 16 = .ok (.ireturn, 1) := by decide +kernel
theorem d_L_call_17 : decode c_L_call 17 = .ok (.astore 4, 2) := by decide +kernel
theorem d_L_call_19 : decode c_L_call 19 = .ok (.iconst 2, 1) := by decide +kernel
theorem d_L_call_20 : decode c_L_call 20 = .ok (.ireturn, 1) := by decide +kernel
theorem d_L_call_21 : decode c_L_call 21 = .ok (.iconst 0, 1) := by decide +kernel
theorem d_L_call_22 : decode c_L_call 22 = .ok (.ireturn, 1) := by decide +kernel
theorem d_L_winder_0 : decode c_L_winder 0 = .ok (.aload_n 3, 1) := by decide +kernel
theorem d_L_winder_1 : decode c_L_winder 1 = .ok (.iconst 0, 1) := by decide +kernel
theorem d_L_winder_2 : decode c_L_winder 2 = .ok (.aload_n 0, 1) := by decide +kernel
theorem d_L_winder_3 : decode c_L_winder 3 = .ok (.iload_n 1, 1) := by decide +kernel
theorem d_L_winder_4 : decode c_L_winder 4 = .ok (.iload_n 2, 1) := by decide +kernel
theorem d_L_winder_5 : decode c_L_winder 5 = .ok (.invokevirtual 62, 3) := by decide +kernel
theorem d_L_winder_8 : decode c_L_winder 8 = .ok (.i2l, 1) := by decide +kernel
theorem d_L_winder_9 : decode c_L_winder 9 = .ok (.lastore, 1) := by decide +kernel
theorem d_L_winder_10 : decode c_L_winder 10 = .ok (.goto 7, 3) := by decide +kernel
theorem d_L_winder_13 : decode c_L_winder 13 = .ok (.astore 4, 2) := by decide +kernel
theorem d_L_winder_15 : decode c_L_winder 15 = .ok (.iconst 1, 1) := by decide +kernel
theorem d_L_winder_16 : decode c_L_winder 16 = .ok (.ireturn, 1) := by decide +kernel
theorem d_L_winder_17 : decode c_L_winder 17 = .ok (.iconst 0, 1) := by decide +kernel
theorem d_L_winder_18 : decode c_L_winder 18 = .ok (.ireturn, 1) := by decide +kernel
theorem d_L_pass_0 : decode c_L_pass 0 = .ok (.aload_n 2, 1) := by decide +kernel
theorem d_L_pass_1 : decode c_L_pass 1 = .ok (.iconst 0, 1) := by decide +kernel
theorem d_L_pass_2 : decode c_L_pass 2 = .ok (.aload_n 0, 1) := by decide +kernel
theorem d_L_pass_3 : decode c_L_pass 3 = .ok (.iload_n 1, 1) := by decide +kernel
theorem d_L_pass_4 : decode c_L_pass 4 = .ok (.invokevirtual 65, 3) := by decide +kernel
theorem d_L_pass_7 : decode c_L_pass 7 = .ok (.i2l, 1) := by decide +kernel
theorem d_L_pass_8 : decode c_L_pass 8 = .ok (.lastore, 1) := by decide +kernel
theorem d_L_pass_9 : decode c_L_pass 9 = .ok (.goto 6, 3) := by decide +kernel
theorem d_L_pass_12 : decode c_L_pass 12 = .ok (.astore_n 3, 1) := by decide +kernel
theorem d_L_pass_13 : decode c_L_pass 13 = .ok (.iconst 1, 1) := by decide +kernel
theorem d_L_pass_14 : decode c_L_pass 14 = .ok (.ireturn, 1) := by decide +kernel
theorem d_L_pass_15 : decode c_L_pass 15 = .ok (.iconst 0, 1) := by decide +kernel
theorem d_L_pass_16 : decode c_L_pass 16 = .ok (.ireturn, 1) := by decide +kernel
theorem d_L_count_0 : decode c_L_count 0 = .ok (.aload_n 2, 1) := by decide +kernel
theorem d_L_count_1 : decode c_L_count 1 = .ok (.iconst 0, 1) := by decide +kernel
theorem d_L_count_2 : decode c_L_count 2 = .ok (.aload_n 0, 1) := by decide +kernel
theorem d_L_count_3 : decode c_L_count 3 = .ok (.iload_n 1, 1) := by decide +kernel
theorem d_L_count_4 : decode c_L_count 4 = .ok (.invokevirtual 68, 3) := by decide +kernel
theorem d_L_count_7 : decode c_L_count 7 = .ok (.i2l, 1) := by decide +kernel
theorem d_L_count_8 : decode c_L_count 8 = .ok (.lastore, 1) := by decide +kernel
theorem d_L_count_9 : decode c_L_count 9 = .ok (.goto 6, 3) := by decide +kernel
theorem d_L_count_12 : decode c_L_count 12 = .ok (.astore_n 3, 1) := by decide +kernel
theorem d_L_count_13 : decode c_L_count 13 = .ok (.iconst 1, 1) := by decide +kernel
theorem d_L_count_14 : decode c_L_count 14 = .ok (.ireturn, 1) := by decide +kernel
theorem d_L_count_15 : decode c_L_count 15 = .ok (.iconst 0, 1) := by decide +kernel
theorem d_L_count_16 : decode c_L_count 16 = .ok (.ireturn, 1) := by decide +kernel
theorem d_L_foresee_0 : decode c_L_foresee 0 = .ok (.aload 4, 2) := by decide +kernel
theorem d_L_foresee_2 : decode c_L_foresee 2 = .ok (.iconst 0, 1) := by decide +kernel
theorem d_L_foresee_3 : decode c_L_foresee 3 = .ok (.aload_n 0, 1) := by decide +kernel
theorem d_L_foresee_4 : decode c_L_foresee 4 = .ok (.iload_n 1, 1) := by decide +kernel
theorem d_L_foresee_5 : decode c_L_foresee 5 = .ok (.iload_n 2, 1) := by decide +kernel
theorem d_L_foresee_6 : decode c_L_foresee 6 = .ok (.iload_n 3, 1) := by decide +kernel
theorem d_L_foresee_7 : decode c_L_foresee 7 = .ok (.invokevirtual 71, 3) := by decide +kernel
theorem d_L_foresee_10 : decode c_L_foresee 10 = .ok (.i2l, 1) := by decide +kernel
theorem d_L_foresee_11 : decode c_L_foresee 11 = .ok (.lastore, 1) := by decide +kernel
theorem d_L_foresee_12 : decode c_L_foresee 12 = .ok (.goto 11, 3) := by decide +kernel
theorem d_L_foresee_15 : decode c_L_foresee 15 = .ok (.astore 5, 2) := by decide +kernel
theorem d_L_foresee_17 : decode c_L_foresee 17 = .ok (.iconst 1, 1) := by decide +kernel
theorem d_L_foresee_18 : decode c_L_foresee 18 = .ok (.ireturn, 1) := by decide +kernel
theorem d_L_foresee_19 : decode c_L_foresee 19 = .ok (.astore 5, 2) := by decide +kernel
theorem d_L_foresee_21 : decode c_L_foresee 21 = .ok (.iconst 2, 1) := by decide +kernel
theorem d_L_foresee_22 : decode c_L_foresee 22 = .ok (.ireturn, 1) := by decide +kernel
theorem d_L_foresee_23 : decode c_L_foresee 23 = .ok (.iconst 0, 1) := by decide +kernel
theorem d_L_foresee_24 : decode c_L_foresee 24 = .ok (.ireturn, 1) := by decide +kernel
theorem d_L_firstToStop_0 : decode c_L_firstToStop 0 = .ok (.aload_n 2, 1) := by decide +kernel
theorem d_L_firstToStop_1 : decode c_L_firstToStop 1 = .ok (.iconst 0, 1) := by decide +kernel
theorem d_L_firstToStop_2 : decode c_L_firstToStop 2 = .ok (.aload_n 0, 1) := by decide +kernel
theorem d_L_firstToStop_3 : decode c_L_firstToStop 3 = .ok (.iload_n 1, 1) := by decide +kernel
theorem d_L_firstToStop_4 : decode c_L_firstToStop 4 = .ok (.invokevirtual 74, 3) := by decide +kernel
theorem d_L_firstToStop_7 : decode c_L_firstToStop 7 = .ok (.i2l, 1) := by decide +kernel
theorem d_L_firstToStop_8 : decode c_L_firstToStop 8 = .ok (.lastore, 1) := by decide +kernel
theorem d_L_firstToStop_9 : decode c_L_firstToStop 9 = .ok (.goto 6, 3) := by decide +kernel
theorem d_L_firstToStop_12 : decode c_L_firstToStop 12 = .ok (.astore_n 3, 1) := by decide +kernel
theorem d_L_firstToStop_13 : decode c_L_firstToStop 13 = .ok (.iconst 1, 1) := by decide +kernel
theorem d_L_firstToStop_14 : decode c_L_firstToStop 14 = .ok (.ireturn, 1) := by decide +kernel
theorem d_L_firstToStop_15 : decode c_L_firstToStop 15 = .ok (.iconst 0, 1) := by decide +kernel
theorem d_L_firstToStop_16 : decode c_L_firstToStop 16 = .ok (.ireturn, 1) := by decide +kernel
theorem d_L_meet_0 : decode c_L_meet 0 = .ok (.aload 4, 2) := by decide +kernel
theorem d_L_meet_2 : decode c_L_meet 2 = .ok (.iconst 0, 1) := by decide +kernel
theorem d_L_meet_3 : decode c_L_meet 3 = .ok (.aload_n 0, 1) := by decide +kernel
theorem d_L_meet_4 : decode c_L_meet 4 = .ok (.iload_n 1, 1) := by decide +kernel
theorem d_L_meet_5 : decode c_L_meet 5 = .ok (.iload_n 2, 1) := by decide +kernel
theorem d_L_meet_6 : decode c_L_meet 6 = .ok (.iload_n 3, 1) := by decide +kernel
theorem d_L_meet_7 : decode c_L_meet 7 = .ok (.invokevirtual 77, 3) := by decide +kernel
theorem d_L_meet_10 : decode c_L_meet 10 = .ok (.i2l, 1) := by decide +kernel
theorem d_L_meet_11 : decode c_L_meet 11 = .ok (.lastore, 1) := by decide +kernel
theorem d_L_meet_12 : decode c_L_meet 12 = .ok (.goto 11, 3) := by decide +kernel
theorem d_L_meet_15 : decode c_L_meet 15 = .ok (.astore 5, 2) := by decide +kernel
theorem d_L_meet_17 : decode c_L_meet 17 = .ok (.iconst 1, 1) := by decide +kernel
theorem d_L_meet_18 : decode c_L_meet 18 = .ok (.ireturn, 1) := by decide +kernel
theorem d_L_meet_19 : decode c_L_meet 19 = .ok (.astore 5, 2) := by decide +kernel
theorem d_L_meet_21 : decode c_L_meet 21 = .ok (.iconst 2, 1) := by decide +kernel
theorem d_L_meet_22 : decode c_L_meet 22 = .ok (.ireturn, 1) := by decide +kernel
theorem d_L_meet_23 : decode c_L_meet 23 = .ok (.iconst 0, 1) := by decide +kernel
theorem d_L_meet_24 : decode c_L_meet 24 = .ok (.ireturn, 1) := by decide +kernel
theorem d_L_law_0 : decode code 0 = .ok (.new 8, 3) := by decide +kernel
theorem d_L_law_3 : decode code 3 = .ok (.dup, 1) := by decide +kernel
theorem d_L_law_4 : decode code 4 = .ok (.invokespecial 80, 3) := by decide +kernel
theorem d_L_law_7 : decode code 7 = .ok (.astore_n 1, 1) := by decide +kernel
theorem d_L_law_8 : decode code 8 = .ok (.new 81, 3) := by decide +kernel
theorem d_L_law_11 : decode code 11 = .ok (.dup, 1) := by decide +kernel
theorem d_L_law_12 : decode code 12 = .ok (.invokespecial 83, 3) := by decide +kernel
theorem d_L_law_15 : decode code 15 = .ok (.astore_n 2, 1) := by decide +kernel
theorem d_L_law_16 : decode code 16 = .ok (.iconst 1, 1) := by decide +kernel
theorem d_L_law_17 : decode code 17 = .ok (.newarray .long, 2) := by decide +kernel
theorem d_L_law_19 : decode code 19 = .ok (.astore_n 3, 1) := by decide +kernel
theorem d_L_law_20 : decode code 20 = .ok (.iconst 0, 1) := by decide +kernel
theorem d_L_law_21 : decode code 21 = .ok (.istore 4, 2) := by decide +kernel
theorem d_L_law_23 : decode code 23 = .ok (.iload 4, 2) := by decide +kernel
theorem d_L_law_25 : decode code 25 = .ok (.aload_n 0, 1) := by decide +kernel
theorem d_L_law_26 : decode code 26 = .ok (.arraylength, 1) := by decide +kernel
theorem d_L_law_27 : decode code 27 = .ok (.bipush 6, 2) := by decide +kernel
theorem d_L_law_29 : decode code 29 = .ok (.isub, 1) := by decide +kernel
theorem d_L_law_30 : decode code 30 = .ok (.if_icmp .gt 1559, 3) := by decide +kernel
theorem d_L_law_33 : decode code 33 = .ok (.aload_n 0, 1) := by decide +kernel
theorem d_L_law_34 : decode code 34 = .ok (.iload 4, 2) := by decide +kernel
theorem d_L_law_36 : decode code 36 = .ok (.iaload, 1) := by decide +kernel
theorem d_L_law_37 : decode code 37 = .ok (.bipush 31, 2) := by decide +kernel
theorem d_L_law_39 : decode code 39 = .ok (.iand, 1) := by decide +kernel
theorem d_L_law_40 : decode code 40 = .ok (.tableswitch 1543 0 21 #[104, 208, 264, 320, 388, 456, 548, 616, 684, 740, 808, 876, 944, 1024, 1092, 1160, 1216, 1272, 1352, 1408, 1488, 1529], 104) := by decide +kernel
theorem d_L_law_144 : decode code 144 = .ok (.aload_n 1, 1) := by decide +kernel
theorem d_L_law_145 : decode code 145 = .ok (.aload_n 0, 1) := by decide +kernel
theorem d_L_law_146 : decode code 146 = .ok (.iload 4, 2) := by decide +kernel
theorem d_L_law_148 : decode code 148 = .ok (.iconst 1, 1) := by decide +kernel
theorem d_L_law_149 : decode code 149 = .ok (.iadd, 1) := by decide +kernel
theorem d_L_law_150 : decode code 150 = .ok (.iaload, 1) := by decide +kernel
theorem d_L_law_151 : decode code 151 = .ok (.aload_n 0, 1) := by decide +kernel
theorem d_L_law_152 : decode code 152 = .ok (.iload 4, 2) := by decide +kernel
theorem d_L_law_154 : decode code 154 = .ok (.iconst 2, 1) := by decide +kernel
theorem d_L_law_155 : decode code 155 = .ok (.iadd, 1) := by decide +kernel
theorem d_L_law_156 : decode code 156 = .ok (.iaload, 1) := by decide +kernel
theorem d_L_law_157 : decode code 157 = .ok (.aload_n 0, 1) := by decide +kernel
theorem d_L_law_158 : decode code 158 = .ok (.iload 4, 2) := by decide +kernel
theorem d_L_law_160 : decode code 160 = .ok (.iconst 3, 1) := by decide +kernel
theorem d_L_law_161 : decode code 161 = .ok (.iadd, 1) := by decide +kernel
theorem d_L_law_162 : decode code 162 = .ok (.iaload, 1) := by decide +kernel
theorem d_L_law_163 : decode code 163 = .ok (.aload_n 0, 1) := by decide +kernel
theorem d_L_law_164 : decode code 164 = .ok (.iload 4, 2) := by decide +kernel
theorem d_L_law_166 : decode code 166 = .ok (.iconst 4, 1) := by decide +kernel
theorem d_L_law_167 : decode code 167 = .ok (.iadd, 1) := by decide +kernel
theorem d_L_law_168 : decode code 168 = .ok (.iaload, 1) := by decide +kernel
theorem d_L_law_169 : decode code 169 = .ok (.aload_n 0, 1) := by decide +kernel
theorem d_L_law_170 : decode code 170 = .ok (.iload 4, 2) := by decide +kernel
theorem d_L_law_172 : decode code 172 = .ok (.iconst 5, 1) := by decide +kernel
theorem d_L_law_173 : decode code 173 = .ok (.iadd, 1) := by decide +kernel
theorem d_L_law_174 : decode code 174 = .ok (.iaload, 1) := by decide +kernel
theorem d_L_law_175 : decode code 175 = .ok (.aload_n 3, 1) := by decide +kernel
theorem d_L_law_176 : decode code 176 = .ok (.invokestatic 84, 3) := by decide +kernel
theorem d_L_law_179 : decode code 179 = .ok (.istore 5, 2) := by decide +kernel
theorem d_L_law_181 : decode code 181 = .ok (.aload_n 2, 1) := by decide +kernel
theorem d_L_law_182 : decode code 182 = .ok (.aload_n 0, 1) := by decide +kernel
theorem d_L_law_183 : decode code 183 = .ok (.iload 4, 2) := by decide +kernel
theorem d_L_law_185 : decode code 185 = .ok (.iconst 1, 1) := by decide +kernel
theorem d_L_law_186 : decode code 186 = .ok (.iadd, 1) := by decide +kernel
theorem d_L_law_187 : decode code 187 = .ok (.iaload, 1) := by decide +kernel
theorem d_L_law_188 : decode code 188 = .ok (.aload_n 0, 1) := by decide +kernel
theorem d_L_law_189 : decode code 189 = .ok (.iload 4, 2) := by decide +kernel
theorem d_L_law_191 : decode code 191 = .ok (.iconst 2, 1) := by decide +kernel
theorem d_L_law_192 : decode code 192 = .ok (.iadd, 1) := by decide +kernel
theorem d_L_law_193 : decode code 193 = .ok (.iaload, 1) := by decide +kernel
theorem d_L_law_194 : decode code 194 = .ok (.aload_n 0, 1) := by decide +kernel
theorem d_L_law_195 : decode code 195 = .ok (.iload 4, 2) := by decide +kernel
theorem d_L_law_197 : decode code 197 = .ok (.iconst 3, 1) := by decide +kernel
theorem d_L_law_198 : decode code 198 = .ok (.iadd, 1) := by decide +kernel
theorem d_L_law_199 : decode code 199 = .ok (.iaload, 1) := by decide +kernel
theorem d_L_law_200 : decode code 200 = .ok (.aload_n 0, 1) := by decide +kernel
theorem d_L_law_201 : decode code 201 = .ok (.iload 4, 2) := by decide +kernel
theorem d_L_law_203 : decode code 203 = .ok (.iconst 4, 1) := by decide +kernel
theorem d_L_law_204 : decode code 204 = .ok (.iadd, 1) := by decide +kernel
theorem d_L_law_205 : decode code 205 = .ok (.iaload, 1) := by decide +kernel
theorem d_L_law_206 : decode code 206 = .ok (.aload_n 0, 1) := by decide +kernel
theorem d_L_law_207 : decode code 207 = .ok (.iload 4, 2) := by decide +kernel
theorem d_L_law_209 : decode code 209 = .ok (.iconst 5, 1) := by decide +kernel
theorem d_L_law_210 : decode code 210 = .ok (.iadd, 1) := by decide +kernel
theorem d_L_law_211 : decode code 211 = .ok (.iaload, 1) := by decide +kernel
theorem d_L_law_212 : decode code 212 = .ok (.invokevirtual 89, 3) := by decide +kernel
theorem d_L_law_215 : decode code 215 = .ok (.istore 6, 2) := by decide +kernel
theorem d_L_law_217 : decode code 217 = .ok (.aload_n 2, 1) := by decide +kernel
theorem d_L_law_218 : decode code 218 = .ok (.invokevirtual 90, 3) := by decide +kernel
theorem d_L_law_221 : decode code 221 = .ok (.iload 5, 2) := by decide +kernel
theorem d_L_law_223 : decode code 223 = .ok (.if_icmp .eq 5, 3) := by decide +kernel
theorem d_L_law_226 : decode code 226 = .ok (.iconst 0, 1) := by decide +kernel
theorem d_L_law_227 : decode code 227 = .ok (.ireturn, 1) := by decide +kernel
theorem d_L_law_228 : decode code 228 = .ok (.iload 5, 2) := by decide +kernel
theorem d_L_law_230 : decode code 230 = .ok (.ifCond .ne 15, 3) := by decide +kernel
theorem d_L_law_233 : decode code 233 = .ok (.aload_n 3, 1) := by decide +kernel
theorem d_L_law_234 : decode code 234 = .ok (.iconst 0, 1) := by decide +kernel
theorem d_L_law_235 : decode code 235 = .ok (.laload, 1) := by decide +kernel
theorem d_L_law_236 : decode code 236 = .ok (.iload 6, 2) := by decide +kernel
theorem d_L_law_238 : decode code 238 = .ok (.i2l, 1) := by decide +kernel
theorem d_L_law_239 : decode code 239 = .ok (.lcmp, 1) := by decide +kernel
theorem d_L_law_240 : decode code 240 = .ok (.ifCond .eq 5, 3) := by decide +kernel
theorem d_L_law_243 : decode code 243 = .ok (.iconst 0, 1) := by decide +kernel
theorem d_L_law_244 : decode code 244 = .ok (.ireturn, 1) := by decide +kernel
theorem d_L_law_245 : decode code 245 = .ok (.goto 1338, 3) := by decide +kernel
theorem d_L_law_248 : decode code 248 = .ok (.aload_n 1, 1) := by decide +kernel
theorem d_L_law_249 : decode code 249 = .ok (.aload_n 0, 1) := by decide +kernel
theorem d_L_law_250 : decode code 250 = .ok (.iload 4, 2) := by decide +kernel
theorem d_L_law_252 : decode code 252 = .ok (.iconst 1, 1) := by decide +kernel
theorem d_L_law_253 : decode code 253 = .ok (.iadd, 1) := by decide +kernel
theorem d_L_law_254 : decode code 254 = .ok (.iaload, 1) := by decide +kernel
theorem d_L_law_255 : decode code 255 = .ok (.aload_n 3, 1) := by decide +kernel
theorem d_L_law_256 : decode code 256 = .ok (.invokestatic 94, 3) := by decide +kernel
theorem d_L_law_259 : decode code 259 = .ok (.istore 5, 2) := by decide +kernel
theorem d_L_law_261 : decode code 261 = .ok (.aload_n 2, 1) := by decide +kernel
theorem d_L_law_262 : decode code 262 = .ok (.aload_n 0, 1) := by decide +kernel
theorem d_L_law_263 : decode code 263 = .ok (.iload 4, 2) := by decide +kernel
theorem d_L_law_265 : decode code 265 = .ok (.iconst 1, 1) := by decide +kernel
theorem d_L_law_266 : decode code 266 = .ok (.iadd, 1) := by decide +kernel
theorem d_L_law_267 : decode code 267 = .ok (.iaload, 1) := by decide +kernel
theorem d_L_law_268 : decode code 268 = .ok (.invokevirtual 97, 3) := by decide +kernel
theorem d_L_law_271 : decode code 271 = .ok (.istore 6, 2) := by decide +kernel
theorem d_L_law_273 : decode code 273 = .ok (.aload_n 2, 1) := by decide +kernel
theorem d_L_law_274 : decode code 274 = .ok (.invokevirtual 90, 3) := by decide +kernel
theorem d_L_law_277 : decode code 277 = .ok (.iload 5, 2) := by decide +kernel
theorem d_L_law_279 : decode code 279 = .ok (.if_icmp .eq 5, 3) := by decide +kernel
theorem d_L_law_282 : decode code 282 = .ok (.iconst 0, 1) := by decide +kernel
theorem d_L_law_283 : decode code 283 = .ok (.ireturn, 1) := by decide +kernel
theorem d_L_law_284 : decode code 284 = .ok (.iload 5, 2) := by decide +kernel
theorem d_L_law_286 : decode code 286 = .ok (.ifCond .ne 15, 3) := by decide +kernel
theorem d_L_law_289 : decode code 289 = .ok (.aload_n 3, 1) := by decide +kernel
theorem d_L_law_290 : decode code 290 = .ok (.iconst 0, 1) := by decide +kernel
theorem d_L_law_291 : decode code 291 = .ok (.laload, 1) := by decide +kernel
theorem d_L_law_292 : decode code 292 = .ok (.iload 6, 2) := by decide +kernel
theorem d_L_law_294 : decode code 294 = .ok (.i2l, 1) := by decide +kernel
theorem d_L_law_295 : decode code 295 = .ok (.lcmp, 1) := by decide +kernel
theorem d_L_law_296 : decode code 296 = .ok (.ifCond .eq 5, 3) := by decide +kernel
theorem d_L_law_299 : decode code 299 = .ok (.iconst 0, 1) := by decide +kernel
theorem d_L_law_300 : decode code 300 = .ok (.ireturn, 1) := by decide +kernel
theorem d_L_law_301 : decode code 301 = .ok (.goto 1282, 3) := by decide +kernel
theorem d_L_law_304 : decode code 304 = .ok (.aload_n 1, 1) := by decide +kernel
theorem d_L_law_305 : decode code 305 = .ok (.aload_n 0, 1) := by decide +kernel
theorem d_L_law_306 : decode code 306 = .ok (.iload 4, 2) := by decide +kernel
theorem d_L_law_308 : decode code 308 = .ok (.iconst 1, 1) := by decide +kernel
theorem d_L_law_309 : decode code 309 = .ok (.iadd, 1) := by decide +kernel
theorem d_L_law_310 : decode code 310 = .ok (.iaload, 1) := by decide +kernel
theorem d_L_law_311 : decode code 311 = .ok (.aload_n 3, 1) := by decide +kernel
theorem d_L_law_312 : decode code 312 = .ok (.invokestatic 98, 3) := by decide +kernel
theorem d_L_law_315 : decode code 315 = .ok (.istore 5, 2) := by decide +kernel
theorem d_L_law_317 : decode code 317 = .ok (.aload_n 2, 1) := by decide +kernel
theorem d_L_law_318 : decode code 318 = .ok (.aload_n 0, 1) := by decide +kernel
theorem d_L_law_319 : decode code 319 = .ok (.iload 4, 2) := by decide +kernel
theorem d_L_law_321 : decode code 321 = .ok (.iconst 1, 1) := by decide +kernel
theorem d_L_law_322 : decode code 322 = .ok (.iadd, 1) := by decide +kernel
theorem d_L_law_323 : decode code 323 = .ok (.iaload, 1) := by decide +kernel
theorem d_L_law_324 : decode code 324 = .ok (.invokevirtual 100, 3) := by decide +kernel
theorem d_L_law_327 : decode code 327 = .ok (.istore 6, 2) := by decide +kernel
theorem d_L_law_329 : decode code 329 = .ok (.aload_n 2, 1) := by decide +kernel
theorem d_L_law_330 : decode code 330 = .ok (.invokevirtual 90, 3) := by decide +kernel
theorem d_L_law_333 : decode code 333 = .ok (.iload 5, 2) := by decide +kernel
theorem d_L_law_335 : decode code 335 = .ok (.if_icmp .eq 5, 3) := by decide +kernel
theorem d_L_law_338 : decode code 338 = .ok (.iconst 0, 1) := by decide +kernel
theorem d_L_law_339 : decode code 339 = .ok (.ireturn, 1) := by decide +kernel
theorem d_L_law_340 : decode code 340 = .ok (.iload 5, 2) := by decide +kernel
theorem d_L_law_342 : decode code 342 = .ok (.ifCond .ne 15, 3) := by decide +kernel
theorem d_L_law_345 : decode code 345 = .ok (.aload_n 3, 1) := by decide +kernel
theorem d_L_law_346 : decode code 346 = .ok (.iconst 0, 1) := by decide +kernel
theorem d_L_law_347 : decode code 347 = .ok (.laload, 1) := by decide +kernel
theorem d_L_law_348 : decode code 348 = .ok (.iload 6, 2) := by decide +kernel
theorem d_L_law_350 : decode code 350 = .ok (.i2l, 1) := by decide +kernel
theorem d_L_law_351 : decode code 351 = .ok (.lcmp, 1) := by decide +kernel
theorem d_L_law_352 : decode code 352 = .ok (.ifCond .eq 5, 3) := by decide +kernel
theorem d_L_law_355 : decode code 355 = .ok (.iconst 0, 1) := by decide +kernel
theorem d_L_law_356 : decode code 356 = .ok (.ireturn, 1) := by decide +kernel
theorem d_L_law_357 : decode code 357 = .ok (.goto 1226, 3) := by decide +kernel
theorem d_L_law_360 : decode code 360 = .ok (.aload_n 1, 1) := by decide +kernel
theorem d_L_law_361 : decode code 361 = .ok (.aload_n 0, 1) := by decide +kernel
theorem d_L_law_362 : decode code 362 = .ok (.iload 4, 2) := by decide +kernel
theorem d_L_law_364 : decode code 364 = .ok (.iconst 1, 1) := by decide +kernel
theorem d_L_law_365 : decode code 365 = .ok (.iadd, 1) := by decide +kernel
theorem d_L_law_366 : decode code 366 = .ok (.iaload, 1) := by decide +kernel
theorem d_L_law_367 : decode code 367 = .ok (.aload_n 0, 1) := by decide +kernel
theorem d_L_law_368 : decode code 368 = .ok (.iload 4, 2) := by decide +kernel
theorem d_L_law_370 : decode code 370 = .ok (.iconst 2, 1) := by decide +kernel
theorem d_L_law_371 : decode code 371 = .ok (.iadd, 1) := by decide +kernel
theorem d_L_law_372 : decode code 372 = .ok (.iaload, 1) := by decide +kernel
theorem d_L_law_373 : decode code 373 = .ok (.aload_n 3, 1) := by decide +kernel
theorem d_L_law_374 : decode code 374 = .ok (.invokestatic 101, 3) := by decide +kernel
theorem d_L_law_377 : decode code 377 = .ok (.istore 5, 2) := by decide +kernel
theorem d_L_law_379 : decode code 379 = .ok (.aload_n 2, 1) := by decide +kernel
theorem d_L_law_380 : decode code 380 = .ok (.aload_n 0, 1) := by decide +kernel
theorem d_L_law_381 : decode code 381 = .ok (.iload 4, 2) := by decide +kernel
theorem d_L_law_383 : decode code 383 = .ok (.iconst 1, 1) := by decide +kernel
theorem d_L_law_384 : decode code 384 = .ok (.iadd, 1) := by decide +kernel
theorem d_L_law_385 : decode code 385 = .ok (.iaload, 1) := by decide +kernel
theorem d_L_law_386 : decode code 386 = .ok (.aload_n 0, 1) := by decide +kernel
theorem d_L_law_387 : decode code 387 = .ok (.iload 4, 2) := by decide +kernel
theorem d_L_law_389 : decode code 389 = .ok (.iconst 2, 1) := by decide +kernel
theorem d_L_law_390 : decode code 390 = .ok (.iadd, 1) := by decide +kernel
theorem d_L_law_391 : decode code 391 = .ok (.iaload, 1) := by decide +kernel
theorem d_L_law_392 : decode code 392 = .ok (.invokevirtual 104, 3) := by decide +kernel
theorem d_L_law_395 : decode code 395 = .ok (.istore 6, 2) := by decide +kernel
theorem d_L_law_397 : decode code 397 = .ok (.aload_n 2, 1) := by decide +kernel
theorem d_L_law_398 : decode code 398 = .ok (.invokevirtual 90, 3) := by decide +kernel
theorem d_L_law_401 : decode code 401 = .ok (.iload 5, 2) := by decide +kernel
theorem d_L_law_403 : decode code 403 = .ok (.if_icmp .eq 5, 3) := by decide +kernel
theorem d_L_law_406 : decode code 406 = .ok (.iconst 0, 1) := by decide +kernel
theorem d_L_law_407 : decode code 407 = .ok (.ireturn, 1) := by decide +kernel
theorem d_L_law_408 : decode code 408 = .ok (.iload 5, 2) := by decide +kernel
theorem d_L_law_410 : decode code 410 = .ok (.ifCond .ne 15, 3) := by decide +kernel
theorem d_L_law_413 : decode code 413 = .ok (.aload_n 3, 1) := by decide +kernel
theorem d_L_law_414 : decode code 414 = .ok (.iconst 0, 1) := by decide +kernel
theorem d_L_law_415 : decode code 415 = .ok (.laload, 1) := by decide +kernel
theorem d_L_law_416 : decode code 416 = .ok (.iload 6, 2) := by decide +kernel
theorem d_L_law_418 : decode code 418 = .ok (.i2l, 1) := by decide +kernel
theorem d_L_law_419 : decode code 419 = .ok (.lcmp, 1) := by decide +kernel
theorem d_L_law_420 : decode code 420 = .ok (.ifCond .eq 5, 3) := by decide +kernel
theorem d_L_law_423 : decode code 423 = .ok (.iconst 0, 1) := by decide +kernel
theorem d_L_law_424 : decode code 424 = .ok (.ireturn, 1) := by decide +kernel
theorem d_L_law_425 : decode code 425 = .ok (.goto 1158, 3) := by decide +kernel
theorem d_L_law_428 : decode code 428 = .ok (.aload_n 1, 1) := by decide +kernel
theorem d_L_law_429 : decode code 429 = .ok (.aload_n 0, 1) := by decide +kernel
theorem d_L_law_430 : decode code 430 = .ok (.iload 4, 2) := by decide +kernel
theorem d_L_law_432 : decode code 432 = .ok (.iconst 1, 1) := by decide +kernel
theorem d_L_law_433 : decode code 433 = .ok (.iadd, 1) := by decide +kernel
theorem d_L_law_434 : decode code 434 = .ok (.iaload, 1) := by decide +kernel
theorem d_L_law_435 : decode code 435 = .ok (.aload_n 0, 1) := by decide +kernel
theorem d_L_law_436 : decode code 436 = .ok (.iload 4, 2) := by decide +kernel
theorem d_L_law_438 : decode code 438 = .ok (.iconst 2, 1) := by decide +kernel
theorem d_L_law_439 : decode code 439 = .ok (.iadd, 1) := by decide +kernel
theorem d_L_law_440 : decode code 440 = .ok (.iaload, 1) := by decide +kernel
theorem d_L_law_441 : decode code 441 = .ok (.aload_n 3, 1) := by decide +kernel
theorem d_L_law_442 : decode code 442 = .ok (.invokestatic 105, 3) := by decide +kernel
theorem d_L_law_445 : decode code 445 = .ok (.istore 5, 2) := by decide +kernel
theorem d_L_law_447 : decode code 447 = .ok (.aload_n 2, 1) := by decide +kernel
theorem d_L_law_448 : decode code 448 = .ok (.aload_n 0, 1) := by decide +kernel
theorem d_L_law_449 : decode code 449 = .ok (.iload 4, 2) := by decide +kernel
theorem d_L_law_451 : decode code 451 = .ok (.iconst 1, 1) := by decide +kernel
theorem d_L_law_452 : decode code 452 = .ok (.iadd, 1) := by decide +kernel
theorem d_L_law_453 : decode code 453 = .ok (.iaload, 1) := by decide +kernel
theorem d_L_law_454 : decode code 454 = .ok (.aload_n 0, 1) := by decide +kernel
theorem d_L_law_455 : decode code 455 = .ok (.iload 4, 2) := by decide +kernel
theorem d_L_law_457 : decode code 457 = .ok (.iconst 2, 1) := by decide +kernel
theorem d_L_law_458 : decode code 458 = .ok (.iadd, 1) := by decide +kernel
theorem d_L_law_459 : decode code 459 = .ok (.iaload, 1) := by decide +kernel
theorem d_L_law_460 : decode code 460 = .ok (.invokevirtual 107, 3) := by decide +kernel
theorem d_L_law_463 : decode code 463 = .ok (.istore 6, 2) := by decide +kernel
theorem d_L_law_465 : decode code 465 = .ok (.aload_n 2, 1) := by decide +kernel
theorem d_L_law_466 : decode code 466 = .ok (.invokevirtual 90, 3) := by decide +kernel
theorem d_L_law_469 : decode code 469 = .ok (.iload 5, 2) := by decide +kernel
theorem d_L_law_471 : decode code 471 = .ok (.if_icmp .eq 5, 3) := by decide +kernel
theorem d_L_law_474 : decode code 474 = .ok (.iconst 0, 1) := by decide +kernel
theorem d_L_law_475 : decode code 475 = .ok (.ireturn, 1) := by decide +kernel
theorem d_L_law_476 : decode code 476 = .ok (.iload 5, 2) := by decide +kernel
theorem d_L_law_478 : decode code 478 = .ok (.ifCond .ne 15, 3) := by decide +kernel
theorem d_L_law_481 : decode code 481 = .ok (.aload_n 3, 1) := by decide +kernel
theorem d_L_law_482 : decode code 482 = .ok (.iconst 0, 1) := by decide +kernel
theorem d_L_law_483 : decode code 483 = .ok (.laload, 1) := by decide +kernel
theorem d_L_law_484 : decode code 484 = .ok (.iload 6, 2) := by decide +kernel
theorem d_L_law_486 : decode code 486 = .ok (.i2l, 1) := by decide +kernel
theorem d_L_law_487 : decode code 487 = .ok (.lcmp, 1) := by decide +kernel
theorem d_L_law_488 : decode code 488 = .ok (.ifCond .eq 5, 3) := by decide +kernel
theorem d_L_law_491 : decode code 491 = .ok (.iconst 0, 1) := by decide +kernel
theorem d_L_law_492 : decode code 492 = .ok (.ireturn, 1) := by decide +kernel
theorem d_L_law_493 : decode code 493 = .ok (.goto 1090, 3) := by decide +kernel
theorem d_L_law_496 : decode code 496 = .ok (.aload_n 1, 1) := by decide +kernel
theorem d_L_law_497 : decode code 497 = .ok (.aload_n 0, 1) := by decide +kernel
theorem d_L_law_498 : decode code 498 = .ok (.iload 4, 2) := by decide +kernel
theorem d_L_law_500 : decode code 500 = .ok (.iconst 1, 1) := by decide +kernel
theorem d_L_law_501 : decode code 501 = .ok (.iadd, 1) := by decide +kernel
theorem d_L_law_502 : decode code 502 = .ok (.iaload, 1) := by decide +kernel
theorem d_L_law_503 : decode code 503 = .ok (.aload_n 0, 1) := by decide +kernel
theorem d_L_law_504 : decode code 504 = .ok (.iload 4, 2) := by decide +kernel
theorem d_L_law_506 : decode code 506 = .ok (.iconst 2, 1) := by decide +kernel
theorem d_L_law_507 : decode code 507 = .ok (.iadd, 1) := by decide +kernel
theorem d_L_law_508 : decode code 508 = .ok (.iaload, 1) := by decide +kernel
theorem d_L_law_509 : decode code 509 = .ok (.aload_n 0, 1) := by decide +kernel
theorem d_L_law_510 : decode code 510 = .ok (.iload 4, 2) := by decide +kernel
theorem d_L_law_512 : decode code 512 = .ok (.iconst 3, 1) := by decide +kernel
theorem d_L_law_513 : decode code 513 = .ok (.iadd, 1) := by decide +kernel
theorem d_L_law_514 : decode code 514 = .ok (.iaload, 1) := by decide +kernel
theorem d_L_law_515 : decode code 515 = .ok (.aload_n 0, 1) := by decide +kernel
theorem d_L_law_516 : decode code 516 = .ok (.iload 4, 2) := by decide +kernel
theorem d_L_law_518 : decode code 518 = .ok (.iconst 4, 1) := by decide +kernel
theorem d_L_law_519 : decode code 519 = .ok (.iadd, 1) := by decide +kernel
theorem d_L_law_520 : decode code 520 = .ok (.iaload, 1) := by decide +kernel
theorem d_L_law_521 : decode code 521 = .ok (.aload_n 3, 1) := by decide +kernel
theorem d_L_law_522 : decode code 522 = .ok (.invokestatic 108, 3) := by decide +kernel
theorem d_L_law_525 : decode code 525 = .ok (.istore 5, 2) := by decide +kernel
theorem d_L_law_527 : decode code 527 = .ok (.aload_n 2, 1) := by decide +kernel
theorem d_L_law_528 : decode code 528 = .ok (.aload_n 0, 1) := by decide +kernel
theorem d_L_law_529 : decode code 529 = .ok (.iload 4, 2) := by decide +kernel
theorem d_L_law_531 : decode code 531 = .ok (.iconst 1, 1) := by decide +kernel
theorem d_L_law_532 : decode code 532 = .ok (.iadd, 1) := by decide +kernel
theorem d_L_law_533 : decode code 533 = .ok (.iaload, 1) := by decide +kernel
theorem d_L_law_534 : decode code 534 = .ok (.aload_n 0, 1) := by decide +kernel
theorem d_L_law_535 : decode code 535 = .ok (.iload 4, 2) := by decide +kernel
theorem d_L_law_537 : decode code 537 = .ok (.iconst 2, 1) := by decide +kernel
theorem d_L_law_538 : decode code 538 = .ok (.iadd, 1) := by decide +kernel
theorem d_L_law_539 : decode code 539 = .ok (.iaload, 1) := by decide +kernel
theorem d_L_law_540 : decode code 540 = .ok (.aload_n 0, 1) := by decide +kernel
theorem d_L_law_541 : decode code 541 = .ok (.iload 4, 2) := by decide +kernel
theorem d_L_law_543 : decode code 543 = .ok (.iconst 3, 1) := by decide +kernel
theorem d_L_law_544 : decode code 544 = .ok (.iadd, 1) := by decide +kernel
theorem d_L_law_545 : decode code 545 = .ok (.iaload, 1) := by decide +kernel
theorem d_L_law_546 : decode code 546 = .ok (.aload_n 0, 1) := by decide +kernel
theorem d_L_law_547 : decode code 547 = .ok (.iload 4, 2) := by decide +kernel
theorem d_L_law_549 : decode code 549 = .ok (.iconst 4, 1) := by decide +kernel
theorem d_L_law_550 : decode code 550 = .ok (.iadd, 1) := by decide +kernel
theorem d_L_law_551 : decode code 551 = .ok (.iaload, 1) := by decide +kernel
theorem d_L_law_552 : decode code 552 = .ok (.invokevirtual 111, 3) := by decide +kernel
theorem d_L_law_555 : decode code 555 = .ok (.istore 6, 2) := by decide +kernel
theorem d_L_law_557 : decode code 557 = .ok (.aload_n 2, 1) := by decide +kernel
theorem d_L_law_558 : decode code 558 = .ok (.invokevirtual 90, 3) := by decide +kernel
theorem d_L_law_561 : decode code 561 = .ok (.iload 5, 2) := by decide +kernel
theorem d_L_law_563 : decode code 563 = .ok (.if_icmp .eq 5, 3) := by decide +kernel
theorem d_L_law_566 : decode code 566 = .ok (.iconst 0, 1) := by decide +kernel
theorem d_L_law_567 : decode code 567 = .ok (.ireturn, 1) := by decide +kernel
theorem d_L_law_568 : decode code 568 = .ok (.iload 5, 2) := by decide +kernel
theorem d_L_law_570 : decode code 570 = .ok (.ifCond .ne 15, 3) := by decide +kernel
theorem d_L_law_573 : decode code 573 = .ok (.aload_n 3, 1) := by decide +kernel
theorem d_L_law_574 : decode code 574 = .ok (.iconst 0, 1) := by decide +kernel
theorem d_L_law_575 : decode code 575 = .ok (.laload, 1) := by decide +kernel
theorem d_L_law_576 : decode code 576 = .ok (.iload 6, 2) := by decide +kernel
theorem d_L_law_578 : decode code 578 = .ok (.i2l, 1) := by decide +kernel
theorem d_L_law_579 : decode code 579 = .ok (.lcmp, 1) := by decide +kernel
theorem d_L_law_580 : decode code 580 = .ok (.ifCond .eq 5, 3) := by decide +kernel
theorem d_L_law_583 : decode code 583 = .ok (.iconst 0, 1) := by decide +kernel
theorem d_L_law_584 : decode code 584 = .ok (.ireturn, 1) := by decide +kernel
theorem d_L_law_585 : decode code 585 = .ok (.goto 998, 3) := by decide +kernel
theorem d_L_law_588 : decode code 588 = .ok (.aload_n 1, 1) := by decide +kernel
theorem d_L_law_589 : decode code 589 = .ok (.aload_n 0, 1) := by decide +kernel
theorem d_L_law_590 : decode code 590 = .ok (.iload 4, 2) := by decide +kernel
theorem d_L_law_592 : decode code 592 = .ok (.iconst 1, 1) := by decide +kernel
theorem d_L_law_593 : decode code 593 = .ok (.iadd, 1) := by decide +kernel
theorem d_L_law_594 : decode code 594 = .ok (.iaload, 1) := by decide +kernel
theorem d_L_law_595 : decode code 595 = .ok (.aload_n 0, 1) := by decide +kernel
theorem d_L_law_596 : decode code 596 = .ok (.iload 4, 2) := by decide +kernel
theorem d_L_law_598 : decode code 598 = .ok (.iconst 2, 1) := by decide +kernel
theorem d_L_law_599 : decode code 599 = .ok (.iadd, 1) := by decide +kernel
theorem d_L_law_600 : decode code 600 = .ok (.iaload, 1) := by decide +kernel
theorem d_L_law_601 : decode code 601 = .ok (.aload_n 3, 1) := by decide +kernel
theorem d_L_law_602 : decode code 602 = .ok (.invokestatic 112, 3) := by decide +kernel
theorem d_L_law_605 : decode code 605 = .ok (.istore 5, 2) := by decide +kernel
theorem d_L_law_607 : decode code 607 = .ok (.aload_n 2, 1) := by decide +kernel
theorem d_L_law_608 : decode code 608 = .ok (.aload_n 0, 1) := by decide +kernel
theorem d_L_law_609 : decode code 609 = .ok (.iload 4, 2) := by decide +kernel
theorem d_L_law_611 : decode code 611 = .ok (.iconst 1, 1) := by decide +kernel
theorem d_L_law_612 : decode code 612 = .ok (.iadd, 1) := by decide +kernel
theorem d_L_law_613 : decode code 613 = .ok (.iaload, 1) := by decide +kernel
theorem d_L_law_614 : decode code 614 = .ok (.aload_n 0, 1) := by decide +kernel
theorem d_L_law_615 : decode code 615 = .ok (.iload 4, 2) := by decide +kernel
theorem d_L_law_617 : decode code 617 = .ok (.iconst 2, 1) := by decide +kernel
theorem d_L_law_618 : decode code 618 = .ok (.iadd, 1) := by decide +kernel
theorem d_L_law_619 : decode code 619 = .ok (.iaload, 1) := by decide +kernel
theorem d_L_law_620 : decode code 620 = .ok (.invokevirtual 114, 3) := by decide +kernel
theorem d_L_law_623 : decode code 623 = .ok (.istore 6, 2) := by decide +kernel
theorem d_L_law_625 : decode code 625 = .ok (.aload_n 2, 1) := by decide +kernel
theorem d_L_law_626 : decode code 626 = .ok (.invokevirtual 90, 3) := by decide +kernel
theorem d_L_law_629 : decode code 629 = .ok (.iload 5, 2) := by decide +kernel
theorem d_L_law_631 : decode code 631 = .ok (.if_icmp .eq 5, 3) := by decide +kernel
theorem d_L_law_634 : decode code 634 = .ok (.iconst 0, 1) := by decide +kernel
theorem d_L_law_635 : decode code 635 = .ok (.ireturn, 1) := by decide +kernel
theorem d_L_law_636 : decode code 636 = .ok (.iload 5, 2) := by decide +kernel
theorem d_L_law_638 : decode code 638 = .ok (.ifCond .ne 15, 3) := by decide +kernel
theorem d_L_law_641 : decode code 641 = .ok (.aload_n 3, 1) := by decide +kernel
theorem d_L_law_642 : decode code 642 = .ok (.iconst 0, 1) := by decide +kernel
theorem d_L_law_643 : decode code 643 = .ok (.laload, 1) := by decide +kernel
theorem d_L_law_644 : decode code 644 = .ok (.iload 6, 2) := by decide +kernel
theorem d_L_law_646 : decode code 646 = .ok (.i2l, 1) := by decide +kernel
theorem d_L_law_647 : decode code 647 = .ok (.lcmp, 1) := by decide +kernel
theorem d_L_law_648 : decode code 648 = .ok (.ifCond .eq 5, 3) := by decide +kernel
theorem d_L_law_651 : decode code 651 = .ok (.iconst 0, 1) := by decide +kernel
theorem d_L_law_652 : decode code 652 = .ok (.ireturn, 1) := by decide +kernel
theorem d_L_law_653 : decode code 653 = .ok (.goto 930, 3) := by decide +kernel
theorem d_L_law_656 : decode code 656 = .ok (.aload_n 1, 1) := by decide +kernel
theorem d_L_law_657 : decode code 657 = .ok (.aload_n 0, 1) := by decide +kernel
theorem d_L_law_658 : decode code 658 = .ok (.iload 4, 2) := by decide +kernel
theorem d_L_law_660 : decode code 660 = .ok (.iconst 1, 1) := by decide +kernel
theorem d_L_law_661 : decode code 661 = .ok (.iadd, 1) := by decide +kernel
theorem d_L_law_662 : decode code 662 = .ok (.iaload, 1) := by decide +kernel
theorem d_L_law_663 : decode code 663 = .ok (.aload_n 0, 1) := by decide +kernel
theorem d_L_law_664 : decode code 664 = .ok (.iload 4, 2) := by decide +kernel
theorem d_L_law_666 : decode code 666 = .ok (.iconst 2, 1) := by decide +kernel
theorem d_L_law_667 : decode code 667 = .ok (.iadd, 1) := by decide +kernel
theorem d_L_law_668 : decode code 668 = .ok (.iaload, 1) := by decide +kernel
theorem d_L_law_669 : decode code 669 = .ok (.aload_n 3, 1) := by decide +kernel
theorem d_L_law_670 : decode code 670 = .ok (.invokestatic 115, 3) := by decide +kernel
theorem d_L_law_673 : decode code 673 = .ok (.istore 5, 2) := by decide +kernel
theorem d_L_law_675 : decode code 675 = .ok (.aload_n 2, 1) := by decide +kernel
theorem d_L_law_676 : decode code 676 = .ok (.aload_n 0, 1) := by decide +kernel
theorem d_L_law_677 : decode code 677 = .ok (.iload 4, 2) := by decide +kernel
theorem d_L_law_679 : decode code 679 = .ok (.iconst 1, 1) := by decide +kernel
theorem d_L_law_680 : decode code 680 = .ok (.iadd, 1) := by decide +kernel
theorem d_L_law_681 : decode code 681 = .ok (.iaload, 1) := by decide +kernel
theorem d_L_law_682 : decode code 682 = .ok (.aload_n 0, 1) := by decide +kernel
theorem d_L_law_683 : decode code 683 = .ok (.iload 4, 2) := by decide +kernel
theorem d_L_law_685 : decode code 685 = .ok (.iconst 2, 1) := by decide +kernel
theorem d_L_law_686 : decode code 686 = .ok (.iadd, 1) := by decide +kernel
theorem d_L_law_687 : decode code 687 = .ok (.iaload, 1) := by decide +kernel
theorem d_L_law_688 : decode code 688 = .ok (.invokevirtual 117, 3) := by decide +kernel
theorem d_L_law_691 : decode code 691 = .ok (.istore 6, 2) := by decide +kernel
theorem d_L_law_693 : decode code 693 = .ok (.aload_n 2, 1) := by decide +kernel
theorem d_L_law_694 : decode code 694 = .ok (.invokevirtual 90, 3) := by decide +kernel
theorem d_L_law_697 : decode code 697 = .ok (.iload 5, 2) := by decide +kernel
theorem d_L_law_699 : decode code 699 = .ok (.if_icmp .eq 5, 3) := by decide +kernel
theorem d_L_law_702 : decode code 702 = .ok (.iconst 0, 1) := by decide +kernel
theorem d_L_law_703 : decode code 703 = .ok (.ireturn, 1) := by decide +kernel
theorem d_L_law_704 : decode code 704 = .ok (.iload 5, 2) := by decide +kernel
theorem d_L_law_706 : decode code 706 = .ok (.ifCond .ne 15, 3) := by decide +kernel
theorem d_L_law_709 : decode code 709 = .ok (.aload_n 3, 1) := by decide +kernel
theorem d_L_law_710 : decode code 710 = .ok (.iconst 0, 1) := by decide +kernel
theorem d_L_law_711 : decode code 711 = .ok (.laload, 1) := by decide +kernel
theorem d_L_law_712 : decode code 712 = .ok (.iload 6, 2) := by decide +kernel
theorem d_L_law_714 : decode code 714 = .ok (.i2l, 1) := by decide +kernel
theorem d_L_law_715 : decode code 715 = .ok (.lcmp, 1) := by decide +kernel
theorem d_L_law_716 : decode code 716 = .ok (.ifCond .eq 5, 3) := by decide +kernel
theorem d_L_law_719 : decode code 719 = .ok (.iconst 0, 1) := by decide +kernel
theorem d_L_law_720 : decode code 720 = .ok (.ireturn, 1) := by decide +kernel
theorem d_L_law_721 : decode code 721 = .ok (.goto 862, 3) := by decide +kernel
theorem d_L_law_724 : decode code 724 = .ok (.aload_n 1, 1) := by decide +kernel
theorem d_L_law_725 : decode code 725 = .ok (.aload_n 0, 1) := by decide +kernel
theorem d_L_law_726 : decode code 726 = .ok (.iload 4, 2) := by decide +kernel
theorem d_L_law_728 : decode code 728 = .ok (.iconst 1, 1) := by decide +kernel
theorem d_L_law_729 : decode code 729 = .ok (.iadd, 1) := by decide +kernel
theorem d_L_law_730 : decode code 730 = .ok (.iaload, 1) := by decide +kernel
theorem d_L_law_731 : decode code 731 = .ok (.aload_n 3, 1) := by decide +kernel
theorem d_L_law_732 : decode code 732 = .ok (.invokestatic 118, 3) := by decide +kernel
theorem d_L_law_735 : decode code 735 = .ok (.istore 5, 2) := by decide +kernel
theorem d_L_law_737 : decode code 737 = .ok (.aload_n 2, 1) := by decide +kernel
theorem d_L_law_738 : decode code 738 = .ok (.aload_n 0, 1) := by decide +kernel
theorem d_L_law_739 : decode code 739 = .ok (.iload 4, 2) := by decide +kernel
theorem d_L_law_741 : decode code 741 = .ok (.iconst 1, 1) := by decide +kernel
theorem d_L_law_742 : decode code 742 = .ok (.iadd, 1) := by decide +kernel
theorem d_L_law_743 : decode code 743 = .ok (.iaload, 1) := by decide +kernel
theorem d_L_law_744 : decode code 744 = .ok (.invokevirtual 120, 3) := by decide +kernel
theorem d_L_law_747 : decode code 747 = .ok (.istore 6, 2) := by decide +kernel
theorem d_L_law_749 : decode code 749 = .ok (.aload_n 2, 1) := by decide +kernel
theorem d_L_law_750 : decode code 750 = .ok (.invokevirtual 90, 3) := by decide +kernel
theorem d_L_law_753 : decode code 753 = .ok (.iload 5, 2) := by decide +kernel
theorem d_L_law_755 : decode code 755 = .ok (.if_icmp .eq 5, 3) := by decide +kernel
theorem d_L_law_758 : decode code 758 = .ok (.iconst 0, 1) := by decide +kernel
theorem d_L_law_759 : decode code 759 = .ok (.ireturn, 1) := by decide +kernel
theorem d_L_law_760 : decode code 760 = .ok (.iload 5, 2) := by decide +kernel
theorem d_L_law_762 : decode code 762 = .ok (.ifCond .ne 15, 3) := by decide +kernel
theorem d_L_law_765 : decode code 765 = .ok (.aload_n 3, 1) := by decide +kernel
theorem d_L_law_766 : decode code 766 = .ok (.iconst 0, 1) := by decide +kernel
theorem d_L_law_767 : decode code 767 = .ok (.laload, 1) := by decide +kernel
theorem d_L_law_768 : decode code 768 = .ok (.iload 6, 2) := by decide +kernel
theorem d_L_law_770 : decode code 770 = .ok (.i2l, 1) := by decide +kernel
theorem d_L_law_771 : decode code 771 = .ok (.lcmp, 1) := by decide +kernel
theorem d_L_law_772 : decode code 772 = .ok (.ifCond .eq 5, 3) := by decide +kernel
theorem d_L_law_775 : decode code 775 = .ok (.iconst 0, 1) := by decide +kernel
theorem d_L_law_776 : decode code 776 = .ok (.ireturn, 1) := by decide +kernel
theorem d_L_law_777 : decode code 777 = .ok (.goto 806, 3) := by decide +kernel
theorem d_L_law_780 : decode code 780 = .ok (.aload_n 1, 1) := by decide +kernel
theorem d_L_law_781 : decode code 781 = .ok (.aload_n 0, 1) := by decide +kernel
theorem d_L_law_782 : decode code 782 = .ok (.iload 4, 2) := by decide +kernel
theorem d_L_law_784 : decode code 784 = .ok (.iconst 1, 1) := by decide +kernel
theorem d_L_law_785 : decode code 785 = .ok (.iadd, 1) := by decide +kernel
theorem d_L_law_786 : decode code 786 = .ok (.iaload, 1) := by decide +kernel
theorem d_L_law_787 : decode code 787 = .ok (.aload_n 0, 1) := by decide +kernel
theorem d_L_law_788 : decode code 788 = .ok (.iload 4, 2) := by decide +kernel
theorem d_L_law_790 : decode code 790 = .ok (.iconst 2, 1) := by decide +kernel
theorem d_L_law_791 : decode code 791 = .ok (.iadd, 1) := by decide +kernel
theorem d_L_law_792 : decode code 792 = .ok (.iaload, 1) := by decide +kernel
theorem d_L_law_793 : decode code 793 = .ok (.aload_n 3, 1) := by decide +kernel
theorem d_L_law_794 : decode code 794 = .ok (.invokestatic 121, 3) := by decide +kernel
theorem d_L_law_797 : decode code 797 = .ok (.istore 5, 2) := by decide +kernel
theorem d_L_law_799 : decode code 799 = .ok (.aload_n 2, 1) := by decide +kernel
theorem d_L_law_800 : decode code 800 = .ok (.aload_n 0, 1) := by decide +kernel
theorem d_L_law_801 : decode code 801 = .ok (.iload 4, 2) := by decide +kernel
theorem d_L_law_803 : decode code 803 = .ok (.iconst 1, 1) := by decide +kernel
theorem d_L_law_804 : decode code 804 = .ok (.iadd, 1) := by decide +kernel
theorem d_L_law_805 : decode code 805 = .ok (.iaload, 1) := by decide +kernel
theorem d_L_law_806 : decode code 806 = .ok (.aload_n 0, 1) := by decide +kernel
theorem d_L_law_807 : decode code 807 = .ok (.iload 4, 2) := by decide +kernel
theorem d_L_law_809 : decode code 809 = .ok (.iconst 2, 1) := by decide +kernel
theorem d_L_law_810 : decode code 810 = .ok (.iadd, 1) := by decide +kernel
theorem d_L_law_811 : decode code 811 = .ok (.iaload, 1) := by decide +kernel
theorem d_L_law_812 : decode code 812 = .ok (.invokevirtual 123, 3) := by decide +kernel
theorem d_L_law_815 : decode code 815 = .ok (.istore 6, 2) := by decide +kernel
theorem d_L_law_817 : decode code 817 = .ok (.aload_n 2, 1) := by decide +kernel
theorem d_L_law_818 : decode code 818 = .ok (.invokevirtual 90, 3) := by decide +kernel
theorem d_L_law_821 : decode code 821 = .ok (.iload 5, 2) := by decide +kernel
theorem d_L_law_823 : decode code 823 = .ok (.if_icmp .eq 5, 3) := by decide +kernel
theorem d_L_law_826 : decode code 826 = .ok (.iconst 0, 1) := by decide +kernel
theorem d_L_law_827 : decode code 827 = .ok (.ireturn, 1) := by decide +kernel
theorem d_L_law_828 : decode code 828 = .ok (.iload 5, 2) := by decide +kernel
theorem d_L_law_830 : decode code 830 = .ok (.ifCond .ne 15, 3) := by decide +kernel
theorem d_L_law_833 : decode code 833 = .ok (.aload_n 3, 1) := by decide +kernel
theorem d_L_law_834 : decode code 834 = .ok (.iconst 0, 1) := by decide +kernel
theorem d_L_law_835 : decode code 835 = .ok (.laload, 1) := by decide +kernel
theorem d_L_law_836 : decode code 836 = .ok (.iload 6, 2) := by decide +kernel
theorem d_L_law_838 : decode code 838 = .ok (.i2l, 1) := by decide +kernel
theorem d_L_law_839 : decode code 839 = .ok (.lcmp, 1) := by decide +kernel
theorem d_L_law_840 : decode code 840 = .ok (.ifCond .eq 5, 3) := by decide +kernel
theorem d_L_law_843 : decode code 843 = .ok (.iconst 0, 1) := by decide +kernel
theorem d_L_law_844 : decode code 844 = .ok (.ireturn, 1) := by decide +kernel
theorem d_L_law_845 : decode code 845 = .ok (.goto 738, 3) := by decide +kernel
theorem d_L_law_848 : decode code 848 = .ok (.aload_n 1, 1) := by decide +kernel
theorem d_L_law_849 : decode code 849 = .ok (.aload_n 0, 1) := by decide +kernel
theorem d_L_law_850 : decode code 850 = .ok (.iload 4, 2) := by decide +kernel
theorem d_L_law_852 : decode code 852 = .ok (.iconst 1, 1) := by decide +kernel
theorem d_L_law_853 : decode code 853 = .ok (.iadd, 1) := by decide +kernel
theorem d_L_law_854 : decode code 854 = .ok (.iaload, 1) := by decide +kernel
theorem d_L_law_855 : decode code 855 = .ok (.aload_n 0, 1) := by decide +kernel
theorem d_L_law_856 : decode code 856 = .ok (.iload 4, 2) := by decide +kernel
theorem d_L_law_858 : decode code 858 = .ok (.iconst 2, 1) := by decide +kernel
theorem d_L_law_859 : decode code 859 = .ok (.iadd, 1) := by decide +kernel
theorem d_L_law_860 : decode code 860 = .ok (.iaload, 1) := by decide +kernel
theorem d_L_law_861 : decode code 861 = .ok (.aload_n 3, 1) := by decide +kernel
theorem d_L_law_862 : decode code 862 = .ok (.invokestatic 124, 3) := by decide +kernel
theorem d_L_law_865 : decode code 865 = .ok (.istore 5, 2) := by decide +kernel
theorem d_L_law_867 : decode code 867 = .ok (.aload_n 2, 1) := by decide +kernel
theorem d_L_law_868 : decode code 868 = .ok (.aload_n 0, 1) := by decide +kernel
theorem d_L_law_869 : decode code 869 = .ok (.iload 4, 2) := by decide +kernel
theorem d_L_law_871 : decode code 871 = .ok (.iconst 1, 1) := by decide +kernel
theorem d_L_law_872 : decode code 872 = .ok (.iadd, 1) := by decide +kernel
theorem d_L_law_873 : decode code 873 = .ok (.iaload, 1) := by decide +kernel
theorem d_L_law_874 : decode code 874 = .ok (.aload_n 0, 1) := by decide +kernel
theorem d_L_law_875 : decode code 875 = .ok (.iload 4, 2) := by decide +kernel
theorem d_L_law_877 : decode code 877 = .ok (.iconst 2, 1) := by decide +kernel
theorem d_L_law_878 : decode code 878 = .ok (.iadd, 1) := by decide +kernel
theorem d_L_law_879 : decode code 879 = .ok (.iaload, 1) := by decide +kernel
theorem d_L_law_880 : decode code 880 = .ok (.invokevirtual 126, 3) := by decide +kernel
theorem d_L_law_883 : decode code 883 = .ok (.istore 6, 2) := by decide +kernel
theorem d_L_law_885 : decode code 885 = .ok (.aload_n 2, 1) := by decide +kernel
theorem d_L_law_886 : decode code 886 = .ok (.invokevirtual 90, 3) := by decide +kernel
theorem d_L_law_889 : decode code 889 = .ok (.iload 5, 2) := by decide +kernel
theorem d_L_law_891 : decode code 891 = .ok (.if_icmp .eq 5, 3) := by decide +kernel
theorem d_L_law_894 : decode code 894 = .ok (.iconst 0, 1) := by decide +kernel
theorem d_L_law_895 : decode code 895 = .ok (.ireturn, 1) := by decide +kernel
theorem d_L_law_896 : decode code 896 = .ok (.iload 5, 2) := by decide +kernel
theorem d_L_law_898 : decode code 898 = .ok (.ifCond .ne 15, 3) := by decide +kernel
theorem d_L_law_901 : decode code 901 = .ok (.aload_n 3, 1) := by decide +kernel
theorem d_L_law_902 : decode code 902 = .ok (.iconst 0, 1) := by decide +kernel
theorem d_L_law_903 : decode code 903 = .ok (.laload, 1) := by decide +kernel
theorem d_L_law_904 : decode code 904 = .ok (.iload 6, 2) := by decide +kernel
theorem d_L_law_906 : decode code 906 = .ok (.i2l, 1) := by decide +kernel
theorem d_L_law_907 : decode code 907 = .ok (.lcmp, 1) := by decide +kernel
theorem d_L_law_908 : decode code 908 = .ok (.ifCond .eq 5, 3) := by decide +kernel
theorem d_L_law_911 : decode code 911 = .ok (.iconst 0, 1) := by decide +kernel
theorem d_L_law_912 : decode code 912 = .ok (.ireturn, 1) := by decide +kernel
theorem d_L_law_913 : decode code 913 = .ok (.goto 670, 3) := by decide +kernel
theorem d_L_law_916 : decode code 916 = .ok (.aload_n 1, 1) := by decide +kernel
theorem d_L_law_917 : decode code 917 = .ok (.aload_n 0, 1) := by decide +kernel
theorem d_L_law_918 : decode code 918 = .ok (.iload 4, 2) := by decide +kernel
theorem d_L_law_920 : decode code 920 = .ok (.iconst 1, 1) := by decide +kernel
theorem d_L_law_921 : decode code 921 = .ok (.iadd, 1) := by decide +kernel
theorem d_L_law_922 : decode code 922 = .ok (.iaload, 1) := by decide +kernel
theorem d_L_law_923 : decode code 923 = .ok (.aload_n 0, 1) := by decide +kernel
theorem d_L_law_924 : decode code 924 = .ok (.iload 4, 2) := by decide +kernel
theorem d_L_law_926 : decode code 926 = .ok (.iconst 2, 1) := by decide +kernel
theorem d_L_law_927 : decode code 927 = .ok (.iadd, 1) := by decide +kernel
theorem d_L_law_928 : decode code 928 = .ok (.iaload, 1) := by decide +kernel
theorem d_L_law_929 : decode code 929 = .ok (.aload_n 3, 1) := by decide +kernel
theorem d_L_law_930 : decode code 930 = .ok (.invokestatic 127, 3) := by decide +kernel
theorem d_L_law_933 : decode code 933 = .ok (.istore 5, 2) := by decide +kernel
theorem d_L_law_935 : decode code 935 = .ok (.aload_n 2, 1) := by decide +kernel
theorem d_L_law_936 : decode code 936 = .ok (.aload_n 0, 1) := by decide +kernel
theorem d_L_law_937 : decode code 937 = .ok (.iload 4, 2) := by decide +kernel
theorem d_L_law_939 : decode code 939 = .ok (.iconst 1, 1) := by decide +kernel
theorem d_L_law_940 : decode code 940 = .ok (.iadd, 1) := by decide +kernel
theorem d_L_law_941 : decode code 941 = .ok (.iaload, 1) := by decide +kernel
theorem d_L_law_942 : decode code 942 = .ok (.aload_n 0, 1) := by decide +kernel
theorem d_L_law_943 : decode code 943 = .ok (.iload 4, 2) := by decide +kernel
theorem d_L_law_945 : decode code 945 = .ok (.iconst 2, 1) := by decide +kernel
theorem d_L_law_946 : decode code 946 = .ok (.iadd, 1) := by decide +kernel
theorem d_L_law_947 : decode code 947 = .ok (.iaload, 1) := by decide +kernel
theorem d_L_law_948 : decode code 948 = .ok (.invokevirtual 129, 3) := by decide +kernel
theorem d_L_law_951 : decode code 951 = .ok (.istore 6, 2) := by decide +kernel
theorem d_L_law_953 : decode code 953 = .ok (.aload_n 2, 1) := by decide +kernel
theorem d_L_law_954 : decode code 954 = .ok (.invokevirtual 90, 3) := by decide +kernel
theorem d_L_law_957 : decode code 957 = .ok (.iload 5, 2) := by decide +kernel
theorem d_L_law_959 : decode code 959 = .ok (.if_icmp .eq 5, 3) := by decide +kernel
theorem d_L_law_962 : decode code 962 = .ok (.iconst 0, 1) := by decide +kernel
theorem d_L_law_963 : decode code 963 = .ok (.ireturn, 1) := by decide +kernel
theorem d_L_law_964 : decode code 964 = .ok (.iload 5, 2) := by decide +kernel
theorem d_L_law_966 : decode code 966 = .ok (.ifCond .ne 15, 3) := by decide +kernel
theorem d_L_law_969 : decode code 969 = .ok (.aload_n 3, 1) := by decide +kernel
theorem d_L_law_970 : decode code 970 = .ok (.iconst 0, 1) := by decide +kernel
theorem d_L_law_971 : decode code 971 = .ok (.laload, 1) := by decide +kernel
theorem d_L_law_972 : decode code 972 = .ok (.iload 6, 2) := by decide +kernel
theorem d_L_law_974 : decode code 974 = .ok (.i2l, 1) := by decide +kernel
theorem d_L_law_975 : decode code 975 = .ok (.lcmp, 1) := by decide +kernel
theorem d_L_law_976 : decode code 976 = .ok (.ifCond .eq 5, 3) := by decide +kernel
theorem d_L_law_979 : decode code 979 = .ok (.iconst 0, 1) := by decide +kernel
theorem d_L_law_980 : decode code 980 = .ok (.ireturn, 1) := by decide +kernel
theorem d_L_law_981 : decode code 981 = .ok (.goto 602, 3) := by decide +kernel
theorem d_L_law_984 : decode code 984 = .ok (.aload_n 1, 1) := by decide +kernel
theorem d_L_law_985 : decode code 985 = .ok (.aload_n 0, 1) := by decide +kernel
theorem d_L_law_986 : decode code 986 = .ok (.iload 4, 2) := by decide +kernel
theorem d_L_law_988 : decode code 988 = .ok (.iconst 1, 1) := by decide +kernel
theorem d_L_law_989 : decode code 989 = .ok (.iadd, 1) := by decide +kernel
theorem d_L_law_990 : decode code 990 = .ok (.iaload, 1) := by decide +kernel
theorem d_L_law_991 : decode code 991 = .ok (.aload_n 0, 1) := by decide +kernel
theorem d_L_law_992 : decode code 992 = .ok (.iload 4, 2) := by decide +kernel
theorem d_L_law_994 : decode code 994 = .ok (.iconst 2, 1) := by decide +kernel
theorem d_L_law_995 : decode code 995 = .ok (.iadd, 1) := by decide +kernel
theorem d_L_law_996 : decode code 996 = .ok (.iaload, 1) := by decide +kernel
theorem d_L_law_997 : decode code 997 = .ok (.aload_n 0, 1) := by decide +kernel
theorem d_L_law_998 : decode code 998 = .ok (.iload 4, 2) := by decide +kernel
theorem d_L_law_1000 : decode code 1000 = .ok (.iconst 3, 1) := by decide +kernel
theorem d_L_law_1001 : decode code 1001 = .ok (.iadd, 1) := by decide +kernel
theorem d_L_law_1002 : decode code 1002 = .ok (.iaload, 1) := by decide +kernel
theorem d_L_law_1003 : decode code 1003 = .ok (.aload_n 3, 1) := by decide +kernel
theorem d_L_law_1004 : decode code 1004 = .ok (.invokestatic 130, 3) := by decide +kernel
theorem d_L_law_1007 : decode code 1007 = .ok (.istore 5, 2) := by decide +kernel
theorem d_L_law_1009 : decode code 1009 = .ok (.aload_n 2, 1) := by decide +kernel
theorem d_L_law_1010 : decode code 1010 = .ok (.aload_n 0, 1) := by decide +kernel
theorem d_L_law_1011 : decode code 1011 = .ok (.iload 4, 2) := by decide +kernel
theorem d_L_law_1013 : decode code 1013 = .ok (.iconst 1, 1) := by decide +kernel
theorem d_L_law_1014 : decode code 1014 = .ok (.iadd, 1) := by decide +kernel
theorem d_L_law_1015 : decode code 1015 = .ok (.iaload, 1) := by decide +kernel
theorem d_L_law_1016 : decode code 1016 = .ok (.aload_n 0, 1) := by decide +kernel
theorem d_L_law_1017 : decode code 1017 = .ok (.iload 4, 2) := by decide +kernel
theorem d_L_law_1019 : decode code 1019 = .ok (.iconst 2, 1) := by decide +kernel
theorem d_L_law_1020 : decode code 1020 = .ok (.iadd, 1) := by decide +kernel
theorem d_L_law_1021 : decode code 1021 = .ok (.iaload, 1) := by decide +kernel
theorem d_L_law_1022 : decode code 1022 = .ok (.aload_n 0, 1) := by decide +kernel
theorem d_L_law_1023 : decode code 1023 = .ok (.iload 4, 2) := by decide +kernel
theorem d_L_law_1025 : decode code 1025 = .ok (.iconst 3, 1) := by decide +kernel
theorem d_L_law_1026 : decode code 1026 = .ok (.iadd, 1) := by decide +kernel
theorem d_L_law_1027 : decode code 1027 = .ok (.iaload, 1) := by decide +kernel
theorem d_L_law_1028 : decode code 1028 = .ok (.invokevirtual 133, 3) := by decide +kernel
theorem d_L_law_1031 : decode code 1031 = .ok (.istore 6, 2) := by decide +kernel
theorem d_L_law_1033 : decode code 1033 = .ok (.aload_n 2, 1) := by decide +kernel
theorem d_L_law_1034 : decode code 1034 = .ok (.invokevirtual 90, 3) := by decide +kernel
theorem d_L_law_1037 : decode code 1037 = .ok (.iload 5, 2) := by decide +kernel
theorem d_L_law_1039 : decode code 1039 = .ok (.if_icmp .eq 5, 3) := by decide +kernel
theorem d_L_law_1042 : decode code 1042 = .ok (.iconst 0, 1) := by decide +kernel
theorem d_L_law_1043 : decode code 1043 = .ok (.ireturn, 1) := by decide +kernel
theorem d_L_law_1044 : decode code 1044 = .ok (.iload 5, 2) := by decide +kernel
theorem d_L_law_1046 : decode code 1046 = .ok (.ifCond .ne 15, 3) := by decide +kernel
theorem d_L_law_1049 : decode code 1049 = .ok (.aload_n 3, 1) := by decide +kernel
theorem d_L_law_1050 : decode code 1050 = .ok (.iconst 0, 1) := by decide +kernel
theorem d_L_law_1051 : decode code 1051 = .ok (.laload, 1) := by decide +kernel
theorem d_L_law_1052 : decode code 1052 = .ok (.iload 6, 2) := by decide +kernel
theorem d_L_law_1054 : decode code 1054 = .ok (.i2l, 1) := by decide +kernel
theorem d_L_law_1055 : decode code 1055 = .ok (.lcmp, 1) := by decide +kernel
theorem d_L_law_1056 : decode code 1056 = .ok (.ifCond .eq 5, 3) := by decide +kernel
theorem d_L_law_1059 : decode code 1059 = .ok (.iconst 0, 1) := by decide +kernel
theorem d_L_law_1060 : decode code 1060 = .ok (.ireturn, 1) := by decide +kernel
theorem d_L_law_1061 : decode code 1061 = .ok (.goto 522, 3) := by decide +kernel
theorem d_L_law_1064 : decode code 1064 = .ok (.aload_n 1, 1) := by decide +kernel
theorem d_L_law_1065 : decode code 1065 = .ok (.aload_n 0, 1) := by decide +kernel
theorem d_L_law_1066 : decode code 1066 = .ok (.iload 4, 2) := by decide +kernel
theorem d_L_law_1068 : decode code 1068 = .ok (.iconst 1, 1) := by decide +kernel
theorem d_L_law_1069 : decode code 1069 = .ok (.iadd, 1) := by decide +kernel
theorem d_L_law_1070 : decode code 1070 = .ok (.iaload, 1) := by decide +kernel
theorem d_L_law_1071 : decode code 1071 = .ok (.aload_n 0, 1) := by decide +kernel
theorem d_L_law_1072 : decode code 1072 = .ok (.iload 4, 2) := by decide +kernel
theorem d_L_law_1074 : decode code 1074 = .ok (.iconst 2, 1) := by decide +kernel
theorem d_L_law_1075 : decode code 1075 = .ok (.iadd, 1) := by decide +kernel
theorem d_L_law_1076 : decode code 1076 = .ok (.iaload, 1) := by decide +kernel
theorem d_L_law_1077 : decode code 1077 = .ok (.aload_n 3, 1) := by decide +kernel
theorem d_L_law_1078 : decode code 1078 = .ok (.invokestatic 134, 3) := by decide +kernel
theorem d_L_law_1081 : decode code 1081 = .ok (.istore 5, 2) := by decide +kernel
theorem d_L_law_1083 : decode code 1083 = .ok (.aload_n 2, 1) := by decide +kernel
theorem d_L_law_1084 : decode code 1084 = .ok (.aload_n 0, 1) := by decide +kernel
theorem d_L_law_1085 : decode code 1085 = .ok (.iload 4, 2) := by decide +kernel
theorem d_L_law_1087 : decode code 1087 = .ok (.iconst 1, 1) := by decide +kernel
theorem d_L_law_1088 : decode code 1088 = .ok (.iadd, 1) := by decide +kernel
theorem d_L_law_1089 : decode code 1089 = .ok (.iaload, 1) := by decide +kernel
theorem d_L_law_1090 : decode code 1090 = .ok (.aload_n 0, 1) := by decide +kernel
theorem d_L_law_1091 : decode code 1091 = .ok (.iload 4, 2) := by decide +kernel
theorem d_L_law_1093 : decode code 1093 = .ok (.iconst 2, 1) := by decide +kernel
theorem d_L_law_1094 : decode code 1094 = .ok (.iadd, 1) := by decide +kernel
theorem d_L_law_1095 : decode code 1095 = .ok (.iaload, 1) := by decide +kernel
theorem d_L_law_1096 : decode code 1096 = .ok (.invokevirtual 136, 3) := by decide +kernel
theorem d_L_law_1099 : decode code 1099 = .ok (.istore 6, 2) := by decide +kernel
theorem d_L_law_1101 : decode code 1101 = .ok (.aload_n 2, 1) := by decide +kernel
theorem d_L_law_1102 : decode code 1102 = .ok (.invokevirtual 90, 3) := by decide +kernel
theorem d_L_law_1105 : decode code 1105 = .ok (.iload 5, 2) := by decide +kernel
theorem d_L_law_1107 : decode code 1107 = .ok (.if_icmp .eq 5, 3) := by decide +kernel
theorem d_L_law_1110 : decode code 1110 = .ok (.iconst 0, 1) := by decide +kernel
theorem d_L_law_1111 : decode code 1111 = .ok (.ireturn, 1) := by decide +kernel
theorem d_L_law_1112 : decode code 1112 = .ok (.iload 5, 2) := by decide +kernel
theorem d_L_law_1114 : decode code 1114 = .ok (.ifCond .ne 15, 3) := by decide +kernel
theorem d_L_law_1117 : decode code 1117 = .ok (.aload_n 3, 1) := by decide +kernel
theorem d_L_law_1118 : decode code 1118 = .ok (.iconst 0, 1) := by decide +kernel
theorem d_L_law_1119 : decode code 1119 = .ok (.laload, 1) := by decide +kernel
theorem d_L_law_1120 : decode code 1120 = .ok (.iload 6, 2) := by decide +kernel
theorem d_L_law_1122 : decode code 1122 = .ok (.i2l, 1) := by decide +kernel
theorem d_L_law_1123 : decode code 1123 = .ok (.lcmp, 1) := by decide +kernel
theorem d_L_law_1124 : decode code 1124 = .ok (.ifCond .eq 5, 3) := by decide +kernel
theorem d_L_law_1127 : decode code 1127 = .ok (.iconst 0, 1) := by decide +kernel
theorem d_L_law_1128 : decode code 1128 = .ok (.ireturn, 1) := by decide +kernel
theorem d_L_law_1129 : decode code 1129 = .ok (.goto 454, 3) := by decide +kernel
theorem d_L_law_1132 : decode code 1132 = .ok (.aload_n 1, 1) := by decide +kernel
theorem d_L_law_1133 : decode code 1133 = .ok (.aload_n 0, 1) := by decide +kernel
theorem d_L_law_1134 : decode code 1134 = .ok (.iload 4, 2) := by decide +kernel
theorem d_L_law_1136 : decode code 1136 = .ok (.iconst 1, 1) := by decide +kernel
theorem d_L_law_1137 : decode code 1137 = .ok (.iadd, 1) := by decide +kernel
theorem d_L_law_1138 : decode code 1138 = .ok (.iaload, 1) := by decide +kernel
theorem d_L_law_1139 : decode code 1139 = .ok (.aload_n 0, 1) := by decide +kernel
theorem d_L_law_1140 : decode code 1140 = .ok (.iload 4, 2) := by decide +kernel
theorem d_L_law_1142 : decode code 1142 = .ok (.iconst 2, 1) := by decide +kernel
theorem d_L_law_1143 : decode code 1143 = .ok (.iadd, 1) := by decide +kernel
theorem d_L_law_1144 : decode code 1144 = .ok (.iaload, 1) := by decide +kernel
theorem d_L_law_1145 : decode code 1145 = .ok (.aload_n 3, 1) := by decide +kernel
theorem d_L_law_1146 : decode code 1146 = .ok (.invokestatic 137, 3) := by decide +kernel
theorem d_L_law_1149 : decode code 1149 = .ok (.istore 5, 2) := by decide +kernel
theorem d_L_law_1151 : decode code 1151 = .ok (.aload_n 2, 1) := by decide +kernel
theorem d_L_law_1152 : decode code 1152 = .ok (.aload_n 0, 1) := by decide +kernel
theorem d_L_law_1153 : decode code 1153 = .ok (.iload 4, 2) := by decide +kernel
theorem d_L_law_1155 : decode code 1155 = .ok (.iconst 1, 1) := by decide +kernel
theorem d_L_law_1156 : decode code 1156 = .ok (.iadd, 1) := by decide +kernel
theorem d_L_law_1157 : decode code 1157 = .ok (.iaload, 1) := by decide +kernel
theorem d_L_law_1158 : decode code 1158 = .ok (.aload_n 0, 1) := by decide +kernel
theorem d_L_law_1159 : decode code 1159 = .ok (.iload 4, 2) := by decide +kernel
theorem d_L_law_1161 : decode code 1161 = .ok (.iconst 2, 1) := by decide +kernel
theorem d_L_law_1162 : decode code 1162 = .ok (.iadd, 1) := by decide +kernel
theorem d_L_law_1163 : decode code 1163 = .ok (.iaload, 1) := by decide +kernel
theorem d_L_law_1164 : decode code 1164 = .ok (.invokevirtual 139, 3) := by decide +kernel
theorem d_L_law_1167 : decode code 1167 = .ok (.istore 6, 2) := by decide +kernel
theorem d_L_law_1169 : decode code 1169 = .ok (.aload_n 2, 1) := by decide +kernel
theorem d_L_law_1170 : decode code 1170 = .ok (.invokevirtual 90, 3) := by decide +kernel
theorem d_L_law_1173 : decode code 1173 = .ok (.iload 5, 2) := by decide +kernel
theorem d_L_law_1175 : decode code 1175 = .ok (.if_icmp .eq 5, 3) := by decide +kernel
theorem d_L_law_1178 : decode code 1178 = .ok (.iconst 0, 1) := by decide +kernel
theorem d_L_law_1179 : decode code 1179 = .ok (.ireturn, 1) := by decide +kernel
theorem d_L_law_1180 : decode code 1180 = .ok (.iload 5, 2) := by decide +kernel
theorem d_L_law_1182 : decode code 1182 = .ok (.ifCond .ne 15, 3) := by decide +kernel
theorem d_L_law_1185 : decode code 1185 = .ok (.aload_n 3, 1) := by decide +kernel
theorem d_L_law_1186 : decode code 1186 = .ok (.iconst 0, 1) := by decide +kernel
theorem d_L_law_1187 : decode code 1187 = .ok (.laload, 1) := by decide +kernel
theorem d_L_law_1188 : decode code 1188 = .ok (.iload 6, 2) := by decide +kernel
theorem d_L_law_1190 : decode code 1190 = .ok (.i2l, 1) := by decide +kernel
theorem d_L_law_1191 : decode code 1191 = .ok (.lcmp, 1) := by decide +kernel
theorem d_L_law_1192 : decode code 1192 = .ok (.ifCond .eq 5, 3) := by decide +kernel
theorem d_L_law_1195 : decode code 1195 = .ok (.iconst 0, 1) := by decide +kernel
theorem d_L_law_1196 : decode code 1196 = .ok (.ireturn, 1) := by decide +kernel
theorem d_L_law_1197 : decode code 1197 = .ok (.goto 386, 3) := by decide +kernel
theorem d_L_law_1200 : decode code 1200 = .ok (.aload_n 1, 1) := by decide +kernel
theorem d_L_law_1201 : decode code 1201 = .ok (.aload_n 0, 1) := by decide +kernel
theorem d_L_law_1202 : decode code 1202 = .ok (.iload 4, 2) := by decide +kernel
theorem d_L_law_1204 : decode code 1204 = .ok (.iconst 1, 1) := by decide +kernel
theorem d_L_law_1205 : decode code 1205 = .ok (.iadd, 1) := by decide +kernel
theorem d_L_law_1206 : decode code 1206 = .ok (.iaload, 1) := by decide +kernel
theorem d_L_law_1207 : decode code 1207 = .ok (.aload_n 3, 1) := by decide +kernel
theorem d_L_law_1208 : decode code 1208 = .ok (.invokestatic 140, 3) := by decide +kernel
theorem d_L_law_1211 : decode code 1211 = .ok (.istore 5, 2) := by decide +kernel
theorem d_L_law_1213 : decode code 1213 = .ok (.aload_n 2, 1) := by decide +kernel
theorem d_L_law_1214 : decode code 1214 = .ok (.aload_n 0, 1) := by decide +kernel
theorem d_L_law_1215 : decode code 1215 = .ok (.iload 4, 2) := by decide +kernel
theorem d_L_law_1217 : decode code 1217 = .ok (.iconst 1, 1) := by decide +kernel
theorem d_L_law_1218 : decode code 1218 = .ok (.iadd, 1) := by decide +kernel
theorem d_L_law_1219 : decode code 1219 = .ok (.iaload, 1) := by decide +kernel
theorem d_L_law_1220 : decode code 1220 = .ok (.invokevirtual 142, 3) := by decide +kernel
theorem d_L_law_1223 : decode code 1223 = .ok (.istore 6, 2) := by decide +kernel
theorem d_L_law_1225 : decode code 1225 = .ok (.aload_n 2, 1) := by decide +kernel
theorem d_L_law_1226 : decode code 1226 = .ok (.invokevirtual 90, 3) := by decide +kernel
theorem d_L_law_1229 : decode code 1229 = .ok (.iload 5, 2) := by decide +kernel
theorem d_L_law_1231 : decode code 1231 = .ok (.if_icmp .eq 5, 3) := by decide +kernel
theorem d_L_law_1234 : decode code 1234 = .ok (.iconst 0, 1) := by decide +kernel
theorem d_L_law_1235 : decode code 1235 = .ok (.ireturn, 1) := by decide +kernel
theorem d_L_law_1236 : decode code 1236 = .ok (.iload 5, 2) := by decide +kernel
theorem d_L_law_1238 : decode code 1238 = .ok (.ifCond .ne 15, 3) := by decide +kernel
theorem d_L_law_1241 : decode code 1241 = .ok (.aload_n 3, 1) := by decide +kernel
theorem d_L_law_1242 : decode code 1242 = .ok (.iconst 0, 1) := by decide +kernel
theorem d_L_law_1243 : decode code 1243 = .ok (.laload, 1) := by decide +kernel
theorem d_L_law_1244 : decode code 1244 = .ok (.iload 6, 2) := by decide +kernel
theorem d_L_law_1246 : decode code 1246 = .ok (.i2l, 1) := by decide +kernel
theorem d_L_law_1247 : decode code 1247 = .ok (.lcmp, 1) := by decide +kernel
theorem d_L_law_1248 : decode code 1248 = .ok (.ifCond .eq 5, 3) := by decide +kernel
theorem d_L_law_1251 : decode code 1251 = .ok (.iconst 0, 1) := by decide +kernel
theorem d_L_law_1252 : decode code 1252 = .ok (.ireturn, 1) := by decide +kernel
theorem d_L_law_1253 : decode code 1253 = .ok (.goto 330, 3) := by decide +kernel
theorem d_L_law_1256 : decode code 1256 = .ok (.aload_n 1, 1) := by decide +kernel
theorem d_L_law_1257 : decode code 1257 = .ok (.aload_n 0, 1) := by decide +kernel
theorem d_L_law_1258 : decode code 1258 = .ok (.iload 4, 2) := by decide +kernel
theorem d_L_law_1260 : decode code 1260 = .ok (.iconst 1, 1) := by decide +kernel
theorem d_L_law_1261 : decode code 1261 = .ok (.iadd, 1) := by decide +kernel
theorem d_L_law_1262 : decode code 1262 = .ok (.iaload, 1) := by decide +kernel
theorem d_L_law_1263 : decode code 1263 = .ok (.aload_n 3, 1) := by decide +kernel
theorem d_L_law_1264 : decode code 1264 = .ok (.invokestatic 143, 3) := by decide +kernel
theorem d_L_law_1267 : decode code 1267 = .ok (.istore 5, 2) := by decide +kernel
theorem d_L_law_1269 : decode code 1269 = .ok (.aload_n 2, 1) := by decide +kernel
theorem d_L_law_1270 : decode code 1270 = .ok (.aload_n 0, 1) := by decide +kernel
theorem d_L_law_1271 : decode code 1271 = .ok (.iload 4, 2) := by decide +kernel
theorem d_L_law_1273 : decode code 1273 = .ok (.iconst 1, 1) := by decide +kernel
theorem d_L_law_1274 : decode code 1274 = .ok (.iadd, 1) := by decide +kernel
theorem d_L_law_1275 : decode code 1275 = .ok (.iaload, 1) := by decide +kernel
theorem d_L_law_1276 : decode code 1276 = .ok (.invokevirtual 145, 3) := by decide +kernel
theorem d_L_law_1279 : decode code 1279 = .ok (.istore 6, 2) := by decide +kernel
theorem d_L_law_1281 : decode code 1281 = .ok (.aload_n 2, 1) := by decide +kernel
theorem d_L_law_1282 : decode code 1282 = .ok (.invokevirtual 90, 3) := by decide +kernel
theorem d_L_law_1285 : decode code 1285 = .ok (.iload 5, 2) := by decide +kernel
theorem d_L_law_1287 : decode code 1287 = .ok (.if_icmp .eq 5, 3) := by decide +kernel
theorem d_L_law_1290 : decode code 1290 = .ok (.iconst 0, 1) := by decide +kernel
theorem d_L_law_1291 : decode code 1291 = .ok (.ireturn, 1) := by decide +kernel
theorem d_L_law_1292 : decode code 1292 = .ok (.iload 5, 2) := by decide +kernel
theorem d_L_law_1294 : decode code 1294 = .ok (.ifCond .ne 15, 3) := by decide +kernel
theorem d_L_law_1297 : decode code 1297 = .ok (.aload_n 3, 1) := by decide +kernel
theorem d_L_law_1298 : decode code 1298 = .ok (.iconst 0, 1) := by decide +kernel
theorem d_L_law_1299 : decode code 1299 = .ok (.laload, 1) := by decide +kernel
theorem d_L_law_1300 : decode code 1300 = .ok (.iload 6, 2) := by decide +kernel
theorem d_L_law_1302 : decode code 1302 = .ok (.i2l, 1) := by decide +kernel
theorem d_L_law_1303 : decode code 1303 = .ok (.lcmp, 1) := by decide +kernel
theorem d_L_law_1304 : decode code 1304 = .ok (.ifCond .eq 5, 3) := by decide +kernel
theorem d_L_law_1307 : decode code 1307 = .ok (.iconst 0, 1) := by decide +kernel
theorem d_L_law_1308 : decode code 1308 = .ok (.ireturn, 1) := by decide +kernel
theorem d_L_law_1309 : decode code 1309 = .ok (.goto 274, 3) := by decide +kernel
theorem d_L_law_1312 : decode code 1312 = .ok (.aload_n 1, 1) := by decide +kernel
theorem d_L_law_1313 : decode code 1313 = .ok (.aload_n 0, 1) := by decide +kernel
theorem d_L_law_1314 : decode code 1314 = .ok (.iload 4, 2) := by decide +kernel
theorem d_L_law_1316 : decode code 1316 = .ok (.iconst 1, 1) := by decide +kernel
theorem d_L_law_1317 : decode code 1317 = .ok (.iadd, 1) := by decide +kernel
theorem d_L_law_1318 : decode code 1318 = .ok (.iaload, 1) := by decide +kernel
theorem d_L_law_1319 : decode code 1319 = .ok (.aload_n 0, 1) := by decide +kernel
theorem d_L_law_1320 : decode code 1320 = .ok (.iload 4, 2) := by decide +kernel
theorem d_L_law_1322 : decode code 1322 = .ok (.iconst 2, 1) := by decide +kernel
theorem d_L_law_1323 : decode code 1323 = .ok (.iadd, 1) := by decide +kernel
theorem d_L_law_1324 : decode code 1324 = .ok (.iaload, 1) := by decide +kernel
theorem d_L_law_1325 : decode code 1325 = .ok (.aload_n 0, 1) := by decide +kernel
theorem d_L_law_1326 : decode code 1326 = .ok (.iload 4, 2) := by decide +kernel
theorem d_L_law_1328 : decode code 1328 = .ok (.iconst 3, 1) := by decide +kernel
theorem d_L_law_1329 : decode code 1329 = .ok (.iadd, 1) := by decide +kernel
theorem d_L_law_1330 : decode code 1330 = .ok (.iaload, 1) := by decide +kernel
theorem d_L_law_1331 : decode code 1331 = .ok (.aload_n 3, 1) := by decide +kernel
theorem d_L_law_1332 : decode code 1332 = .ok (.invokestatic 146, 3) := by decide +kernel
theorem d_L_law_1335 : decode code 1335 = .ok (.istore 5, 2) := by decide +kernel
theorem d_L_law_1337 : decode code 1337 = .ok (.aload_n 2, 1) := by decide +kernel
theorem d_L_law_1338 : decode code 1338 = .ok (.aload_n 0, 1) := by decide +kernel
theorem d_L_law_1339 : decode code 1339 = .ok (.iload 4, 2) := by decide +kernel
theorem d_L_law_1341 : decode code 1341 = .ok (.iconst 1, 1) := by decide +kernel
theorem d_L_law_1342 : decode code 1342 = .ok (.iadd, 1) := by decide +kernel
theorem d_L_law_1343 : decode code 1343 = .ok (.iaload, 1) := by decide +kernel
theorem d_L_law_1344 : decode code 1344 = .ok (.aload_n 0, 1) := by decide +kernel
theorem d_L_law_1345 : decode code 1345 = .ok (.iload 4, 2) := by decide +kernel
theorem d_L_law_1347 : decode code 1347 = .ok (.iconst 2, 1) := by decide +kernel
theorem d_L_law_1348 : decode code 1348 = .ok (.iadd, 1) := by decide +kernel
theorem d_L_law_1349 : decode code 1349 = .ok (.iaload, 1) := by decide +kernel
theorem d_L_law_1350 : decode code 1350 = .ok (.aload_n 0, 1) := by decide +kernel
theorem d_L_law_1351 : decode code 1351 = .ok (.iload 4, 2) := by decide +kernel
theorem d_L_law_1353 : decode code 1353 = .ok (.iconst 3, 1) := by decide +kernel
theorem d_L_law_1354 : decode code 1354 = .ok (.iadd, 1) := by decide +kernel
theorem d_L_law_1355 : decode code 1355 = .ok (.iaload, 1) := by decide +kernel
theorem d_L_law_1356 : decode code 1356 = .ok (.invokevirtual 148, 3) := by decide +kernel
theorem d_L_law_1359 : decode code 1359 = .ok (.istore 6, 2) := by decide +kernel
theorem d_L_law_1361 : decode code 1361 = .ok (.aload_n 2, 1) := by decide +kernel
theorem d_L_law_1362 : decode code 1362 = .ok (.invokevirtual 90, 3) := by decide +kernel
theorem d_L_law_1365 : decode code 1365 = .ok (.iload 5, 2) := by decide +kernel
theorem d_L_law_1367 : decode code 1367 = .ok (.if_icmp .eq 5, 3) := by decide +kernel
theorem d_L_law_1370 : decode code 1370 = .ok (.iconst 0, 1) := by decide +kernel
theorem d_L_law_1371 : decode code 1371 = .ok (.ireturn, 1) := by decide +kernel
theorem d_L_law_1372 : decode code 1372 = .ok (.iload 5, 2) := by decide +kernel
theorem d_L_law_1374 : decode code 1374 = .ok (.ifCond .ne 15, 3) := by decide +kernel
theorem d_L_law_1377 : decode code 1377 = .ok (.aload_n 3, 1) := by decide +kernel
theorem d_L_law_1378 : decode code 1378 = .ok (.iconst 0, 1) := by decide +kernel
theorem d_L_law_1379 : decode code 1379 = .ok (.laload, 1) := by decide +kernel
theorem d_L_law_1380 : decode code 1380 = .ok (.iload 6, 2) := by decide +kernel
theorem d_L_law_1382 : decode code 1382 = .ok (.i2l, 1) := by decide +kernel
theorem d_L_law_1383 : decode code 1383 = .ok (.lcmp, 1) := by decide +kernel
theorem d_L_law_1384 : decode code 1384 = .ok (.ifCond .eq 5, 3) := by decide +kernel
theorem d_L_law_1387 : decode code 1387 = .ok (.iconst 0, 1) := by decide +kernel
theorem d_L_law_1388 : decode code 1388 = .ok (.ireturn, 1) := by decide +kernel
theorem d_L_law_1389 : decode code 1389 = .ok (.goto 194, 3) := by decide +kernel
theorem d_L_law_1392 : decode code 1392 = .ok (.aload_n 1, 1) := by decide +kernel
theorem d_L_law_1393 : decode code 1393 = .ok (.aload_n 0, 1) := by decide +kernel
theorem d_L_law_1394 : decode code 1394 = .ok (.iload 4, 2) := by decide +kernel
theorem d_L_law_1396 : decode code 1396 = .ok (.iconst 1, 1) := by decide +kernel
theorem d_L_law_1397 : decode code 1397 = .ok (.iadd, 1) := by decide +kernel
theorem d_L_law_1398 : decode code 1398 = .ok (.iaload, 1) := by decide +kernel
theorem d_L_law_1399 : decode code 1399 = .ok (.aload_n 3, 1) := by decide +kernel
theorem d_L_law_1400 : decode code 1400 = .ok (.invokestatic 149, 3) := by decide +kernel
theorem d_L_law_1403 : decode code 1403 = .ok (.istore 5, 2) := by decide +kernel
theorem d_L_law_1405 : decode code 1405 = .ok (.aload_n 2, 1) := by decide +kernel
theorem d_L_law_1406 : decode code 1406 = .ok (.aload_n 0, 1) := by decide +kernel
theorem d_L_law_1407 : decode code 1407 = .ok (.iload 4, 2) := by decide +kernel
theorem d_L_law_1409 : decode code 1409 = .ok (.iconst 1, 1) := by decide +kernel
theorem d_L_law_1410 : decode code 1410 = .ok (.iadd, 1) := by decide +kernel
theorem d_L_law_1411 : decode code 1411 = .ok (.iaload, 1) := by decide +kernel
theorem d_L_law_1412 : decode code 1412 = .ok (.invokevirtual 151, 3) := by decide +kernel
theorem d_L_law_1415 : decode code 1415 = .ok (.istore 6, 2) := by decide +kernel
theorem d_L_law_1417 : decode code 1417 = .ok (.aload_n 2, 1) := by decide +kernel
theorem d_L_law_1418 : decode code 1418 = .ok (.invokevirtual 90, 3) := by decide +kernel
theorem d_L_law_1421 : decode code 1421 = .ok (.iload 5, 2) := by decide +kernel
theorem d_L_law_1423 : decode code 1423 = .ok (.if_icmp .eq 5, 3) := by decide +kernel
theorem d_L_law_1426 : decode code 1426 = .ok (.iconst 0, 1) := by decide +kernel
theorem d_L_law_1427 : decode code 1427 = .ok (.ireturn, 1) := by decide +kernel
theorem d_L_law_1428 : decode code 1428 = .ok (.iload 5, 2) := by decide +kernel
theorem d_L_law_1430 : decode code 1430 = .ok (.ifCond .ne 15, 3) := by decide +kernel
theorem d_L_law_1433 : decode code 1433 = .ok (.aload_n 3, 1) := by decide +kernel
theorem d_L_law_1434 : decode code 1434 = .ok (.iconst 0, 1) := by decide +kernel
theorem d_L_law_1435 : decode code 1435 = .ok (.laload, 1) := by decide +kernel
theorem d_L_law_1436 : decode code 1436 = .ok (.iload 6, 2) := by decide +kernel
theorem d_L_law_1438 : decode code 1438 = .ok (.i2l, 1) := by decide +kernel
theorem d_L_law_1439 : decode code 1439 = .ok (.lcmp, 1) := by decide +kernel
theorem d_L_law_1440 : decode code 1440 = .ok (.ifCond .eq 5, 3) := by decide +kernel
theorem d_L_law_1443 : decode code 1443 = .ok (.iconst 0, 1) := by decide +kernel
theorem d_L_law_1444 : decode code 1444 = .ok (.ireturn, 1) := by decide +kernel
theorem d_L_law_1445 : decode code 1445 = .ok (.goto 138, 3) := by decide +kernel
theorem d_L_law_1448 : decode code 1448 = .ok (.aload_n 1, 1) := by decide +kernel
theorem d_L_law_1449 : decode code 1449 = .ok (.aload_n 0, 1) := by decide +kernel
theorem d_L_law_1450 : decode code 1450 = .ok (.iload 4, 2) := by decide +kernel
theorem d_L_law_1452 : decode code 1452 = .ok (.iconst 1, 1) := by decide +kernel
theorem d_L_law_1453 : decode code 1453 = .ok (.iadd, 1) := by decide +kernel
theorem d_L_law_1454 : decode code 1454 = .ok (.iaload, 1) := by decide +kernel
theorem d_L_law_1455 : decode code 1455 = .ok (.aload_n 0, 1) := by decide +kernel
theorem d_L_law_1456 : decode code 1456 = .ok (.iload 4, 2) := by decide +kernel
theorem d_L_law_1458 : decode code 1458 = .ok (.iconst 2, 1) := by decide +kernel
theorem d_L_law_1459 : decode code 1459 = .ok (.iadd, 1) := by decide +kernel
theorem d_L_law_1460 : decode code 1460 = .ok (.iaload, 1) := by decide +kernel
theorem d_L_law_1461 : decode code 1461 = .ok (.aload_n 0, 1) := by decide +kernel
theorem d_L_law_1462 : decode code 1462 = .ok (.iload 4, 2) := by decide +kernel
theorem d_L_law_1464 : decode code 1464 = .ok (.iconst 3, 1) := by decide +kernel
theorem d_L_law_1465 : decode code 1465 = .ok (.iadd, 1) := by decide +kernel
theorem d_L_law_1466 : decode code 1466 = .ok (.iaload, 1) := by decide +kernel
theorem d_L_law_1467 : decode code 1467 = .ok (.aload_n 3, 1) := by decide +kernel
theorem d_L_law_1468 : decode code 1468 = .ok (.invokestatic 152, 3) := by decide +kernel
theorem d_L_law_1471 : decode code 1471 = .ok (.istore 5, 2) := by decide +kernel
theorem d_L_law_1473 : decode code 1473 = .ok (.aload_n 2, 1) := by decide +kernel
theorem d_L_law_1474 : decode code 1474 = .ok (.aload_n 0, 1) := by decide +kernel
theorem d_L_law_1475 : decode code 1475 = .ok (.iload 4, 2) := by decide +kernel
theorem d_L_law_1477 : decode code 1477 = .ok (.iconst 1, 1) := by decide +kernel
theorem d_L_law_1478 : decode code 1478 = .ok (.iadd, 1) := by decide +kernel
theorem d_L_law_1479 : decode code 1479 = .ok (.iaload, 1) := by decide +kernel
theorem d_L_law_1480 : decode code 1480 = .ok (.aload_n 0, 1) := by decide +kernel
theorem d_L_law_1481 : decode code 1481 = .ok (.iload 4, 2) := by decide +kernel
theorem d_L_law_1483 : decode code 1483 = .ok (.iconst 2, 1) := by decide +kernel
theorem d_L_law_1484 : decode code 1484 = .ok (.iadd, 1) := by decide +kernel
theorem d_L_law_1485 : decode code 1485 = .ok (.iaload, 1) := by decide +kernel
theorem d_L_law_1486 : decode code 1486 = .ok (.aload_n 0, 1) := by decide +kernel
theorem d_L_law_1487 : decode code 1487 = .ok (.iload 4, 2) := by decide +kernel
theorem d_L_law_1489 : decode code 1489 = .ok (.iconst 3, 1) := by decide +kernel
theorem d_L_law_1490 : decode code 1490 = .ok (.iadd, 1) := by decide +kernel
theorem d_L_law_1491 : decode code 1491 = .ok (.iaload, 1) := by decide +kernel
theorem d_L_law_1492 : decode code 1492 = .ok (.invokevirtual 154, 3) := by decide +kernel
theorem d_L_law_1495 : decode code 1495 = .ok (.istore 6, 2) := by decide +kernel
theorem d_L_law_1497 : decode code 1497 = .ok (.aload_n 2, 1) := by decide +kernel
theorem d_L_law_1498 : decode code 1498 = .ok (.invokevirtual 90, 3) := by decide +kernel
theorem d_L_law_1501 : decode code 1501 = .ok (.iload 5, 2) := by decide +kernel
theorem d_L_law_1503 : decode code 1503 = .ok (.if_icmp .eq 5, 3) := by decide +kernel
theorem d_L_law_1506 : decode code 1506 = .ok (.iconst 0, 1) := by decide +kernel
theorem d_L_law_1507 : decode code 1507 = .ok (.ireturn, 1) := by decide +kernel
theorem d_L_law_1508 : decode code 1508 = .ok (.iload 5, 2) := by decide +kernel
theorem d_L_law_1510 : decode code 1510 = .ok (.ifCond .ne 15, 3) := by decide +kernel
theorem d_L_law_1513 : decode code 1513 = .ok (.aload_n 3, 1) := by decide +kernel
theorem d_L_law_1514 : decode code 1514 = .ok (.iconst 0, 1) := by decide +kernel
theorem d_L_law_1515 : decode code 1515 = .ok (.laload, 1) := by decide +kernel
theorem d_L_law_1516 : decode code 1516 = .ok (.iload 6, 2) := by decide +kernel
theorem d_L_law_1518 : decode code 1518 = .ok (.i2l, 1) := by decide +kernel
theorem d_L_law_1519 : decode code 1519 = .ok (.lcmp, 1) := by decide +kernel
theorem d_L_law_1520 : decode code 1520 = .ok (.ifCond .eq 5, 3) := by decide +kernel
theorem d_L_law_1523 : decode code 1523 = .ok (.iconst 0, 1) := by decide +kernel
theorem d_L_law_1524 : decode code 1524 = .ok (.ireturn, 1) := by decide +kernel
theorem d_L_law_1525 : decode code 1525 = .ok (.goto 58, 3) := by decide +kernel
theorem d_L_law_1528 : decode code 1528 = .ok (.aload_n 1, 1) := by decide +kernel
theorem d_L_law_1529 : decode code 1529 = .ok (.invokevirtual 155, 3) := by decide +kernel
theorem d_L_law_1532 : decode code 1532 = .ok (.dstore 5, 2) := by decide +kernel
theorem d_L_law_1534 : decode code 1534 = .ok (.aload_n 2, 1) := by decide +kernel
theorem d_L_law_1535 : decode code 1535 = .ok (.invokevirtual 159, 3) := by decide +kernel
theorem d_L_law_1538 : decode code 1538 = .ok (.dstore 7, 2) := by decide +kernel
theorem d_L_law_1540 : decode code 1540 = .ok (.dload 5, 2) := by decide +kernel
theorem d_L_law_1542 : decode code 1542 = .ok (.dload 7, 2) := by decide +kernel
theorem d_L_law_1544 : decode code 1544 = .ok (.dcmp .l, 1) := by decide +kernel
theorem d_L_law_1545 : decode code 1545 = .ok (.ifCond .eq 21, 3) := by decide +kernel
theorem d_L_law_1548 : decode code 1548 = .ok (.dload 5, 2) := by decide +kernel
theorem d_L_law_1550 : decode code 1550 = .ok (.dload 5, 2) := by decide +kernel
theorem d_L_law_1552 : decode code 1552 = .ok (.dcmp .l, 1) := by decide +kernel
theorem d_L_law_1553 : decode code 1553 = .ok (.ifCond .eq 11, 3) := by decide +kernel
theorem d_L_law_1556 : decode code 1556 = .ok (.dload 7, 2) := by decide +kernel
theorem d_L_law_1558 : decode code 1558 = .ok (.dload 7, 2) := by decide +kernel
theorem d_L_law_1560 : decode code 1560 = .ok (.dcmp .l, 1) := by decide +kernel
theorem d_L_law_1561 : decode code 1561 = .ok (.ifCond .ne 5, 3) := by decide +kernel
theorem d_L_law_1564 : decode code 1564 = .ok (.iconst 0, 1) := by decide +kernel
theorem d_L_law_1565 : decode code 1565 = .ok (.ireturn, 1) := by decide +kernel
theorem d_L_law_1566 : decode code 1566 = .ok (.goto 17, 3) := by decide +kernel
theorem d_L_law_1569 : decode code 1569 = .ok (.aload_n 1, 1) := by decide +kernel
theorem d_L_law_1570 : decode code 1570 = .ok (.invokevirtual 160, 3) := by decide +kernel
theorem d_L_law_1573 : decode code 1573 = .ok (.aload_n 2, 1) := by decide +kernel
theorem d_L_law_1574 : decode code 1574 = .ok (.invokevirtual 164, 3) := by decide +kernel
theorem d_L_law_1577 : decode code 1577 = .ok (.lcmp, 1) := by decide +kernel
theorem d_L_law_1578 : decode code 1578 = .ok (.ifCond .eq 5, 3) := by decide +kernel
theorem d_L_law_1581 : decode code 1581 = .ok (.iconst 0, 1) := by decide +kernel
theorem d_L_law_1582 : decode code 1582 = .ok (.ireturn, 1) := by decide +kernel
theorem d_L_law_1583 : decode code 1583 = .ok (.iinc 4 6, 3) := by decide +kernel
theorem d_L_law_1586 : decode code 1586 = .ok (.goto (-1563), 3) := by decide +kernel
theorem d_L_law_1589 : decode code 1589 = .ok (.iconst 1, 1) := by decide +kernel
theorem d_L_law_1590 : decode code 1590 = .ok (.ireturn, 1) := by decide +kernel
end
section
/-! THE POOL: every object and array that the program makes, by its address; written by hand -/
abbrev St : Type := List Nat × (Nat → Nat) × (Nat → Nat) × (Nat → Nat → Int32) × (Nat → Nat → Option Nat) × (Nat → Nat → Int32) × (Nat → Nat → Option Nat) × (Nat → Nat → Int64) × Nat
def mS (L : List Nat) (K N : Nat → Nat) (I : Nat → Nat → Int32) (Q : Nat → Nat → Option Nat) (R : Nat → Nat → Int32) (P : Nat → Nat → Option Nat) (J : Nat → Nat → Int64) (X : Nat) : St := (L, K, N, I, Q, R, P, J, X)
/-- addresses -/
def sL (S : St) : List Nat := S.1
/-- kinds -/
def sK (S : St) : Nat → Nat := S.2.1
/-- lengths of arrays -/
def sN (S : St) : Nat → Nat := S.2.2.1
/-- int fields: field, address -/
def sI (S : St) : Nat → Nat → Int32 := S.2.2.2.1
/-- reference fields -/
def sQ (S : St) : Nat → Nat → Option Nat := S.2.2.2.2.1
/-- int, byte and boolean arrays: address, place -/
def sR (S : St) : Nat → Nat → Int32 := S.2.2.2.2.2.1
/-- arrays of references -/
def sP (S : St) : Nat → Nat → Option Nat := S.2.2.2.2.2.2.1
/-- long arrays -/
def sJ (S : St) : Nat → Nat → Int64 := S.2.2.2.2.2.2.2.1
/-- the shared empty array of ArrayList -/
def sX (S : St) : Nat := S.2.2.2.2.2.2.2.2
def up2 {α : Type} (f : Nat → Nat → α) (i j : Nat) (v : α) : Nat → Nat → α := fun i' j' => if i' = i ∧ j' = j then v else f i' j'
def pI (S : St) (f a : Nat) (v : Int32) : St := mS (sL S) (sK S) (sN S) (up2 (sI S) f a v) (sQ S) (sR S) (sP S) (sJ S) (sX S)
def pQ (S : St) (f a : Nat) (v : Option Nat) : St := mS (sL S) (sK S) (sN S) (sI S) (up2 (sQ S) f a v) (sR S) (sP S) (sJ S) (sX S)
def pR (S : St) (a j : Nat) (v : Int32) : St := mS (sL S) (sK S) (sN S) (sI S) (sQ S) (up2 (sR S) a j v) (sP S) (sJ S) (sX S)
def pP (S : St) (a j : Nat) (v : Option Nat) : St := mS (sL S) (sK S) (sN S) (sI S) (sQ S) (sR S) (up2 (sP S) a j v) (sJ S) (sX S)
def pJ (S : St) (a j : Nat) (v : Int64) : St := mS (sL S) (sK S) (sN S) (sI S) (sQ S) (sR S) (sP S) (up2 (sJ S) a j v) (sX S)
/-- a whole row new -/
def pRow (S : St) (a : Nat) (f : Nat → Int32) : St := mS (sL S) (sK S) (sN S) (sI S) (sQ S) (va_up (sR S) a f) (sP S) (sJ S) (sX S)
/-- a new object or array of kind k, n places long, all zero -/
def pNew (S : St) (a k n : Nat) : St := mS (sL S ++ [a]) (va_up (sK S) a k) (va_up (sN S) a n) (fun f b => if b = a then 0 else sI S f b) (fun f b => if b = a then none else sQ S f b) (va_up (sR S) a (fun _ => 0)) (va_up (sP S) a (fun _ => none)) (va_up (sJ S) a (fun _ => 0)) (sX S)
def isA (S : St) (k a : Nat) : Prop := a ∈ sL S ∧ sK S a = k
def gle (S S' : St) : Prop := (∀ a, a ∈ sL S → a ∈ sL S' ∧ sK S' a = sK S a ∧ sN S' a = sN S a) ∧ sX S' = sX S
theorem gle.rf {S : St} : gle S S := ⟨fun _ h => ⟨h, rfl, rfl⟩, rfl⟩
theorem gle.tr {S T U : St} (h : gle S T) (h2 : gle T U) : gle S U := ⟨fun a ha => by
  obtain ⟨h3, h4, h5⟩ := h.1 a ha
  obtain ⟨h6, h7, h8⟩ := h2.1 a h3
  exact ⟨h6, h7.trans h4, h8.trans h5⟩, h2.2.trans h.2⟩
theorem gle_isA {S T : St} {k a : Nat} (h : gle S T) (ha : isA S k a) : isA T k a := ⟨(h.1 a ha.1).1, (h.1 a ha.1).2.1.trans ha.2⟩
theorem gle_len {S T : St} {k a : Nat} (h : gle S T) (ha : isA S k a) : sN T a = sN S a := (h.1 a ha.1).2.2
theorem gle_new {S : St} {a k n : Nat} (h : a ∉ sL S) : gle S (pNew S a k n) := ⟨fun b hb => by
  have hne : b ≠ a := fun e => h (e ▸ hb)
  exact ⟨List.mem_append_left _ hb, va_up_ne _ _ hne, va_up_ne _ _ hne⟩, rfl⟩
theorem isA_new {S : St} {a k n : Nat} : isA (pNew S a k n) k a := ⟨List.mem_append_right _ List.mem_cons_self, va_up_self _ _ _⟩
theorem len_new {S : St} {a k n : Nat} : sN (pNew S a k n) a = n := va_up_self _ _ _
/-- a boolean -/
def gBo (v : Int32) : Prop := v = 0 ∨ v = 1
theorem gBo_n {v : Int32} (h : gBo v) : narrow .boolean (.int v) = .int v := by rcases h with rfl | rfl <;> rfl
theorem gBo_f {v : Int32} (h : gBo v) : fits .boolean (.int v) = true := by rcases h with rfl | rfl <;> rfl
theorem up2_col {α : Type} (I : Nat → Nat → α) (F a : Nat) (v : α) : (fun f => up2 I F a v f a) = va_up (fun f => I f a) F v := by
  funext f
  by_cases h : f = F <;> simp [up2, va_up, h]
theorem up2_coln {α : Type} (I : Nat → Nat → α) (F : Nat) {a b : Nat} (v : α) (h : b ≠ a) : (fun f => up2 I F a v f b) = (fun f => I f b) := by
  funext f
  simp [up2, h]
theorem up2_row (I : Nat → Nat → Int32) (a j : Nat) (v : Int32) : up2 I a j v a = upd (I a) j v := by
  funext q
  by_cases h : q = j <;> simp [up2, upd, h]
theorem up2_rowP (I : Nat → Nat → Option Nat) (a j : Nat) (v : Option Nat) : up2 I a j v a = va_up (I a) j v := by
  funext q
  by_cases h : q = j <;> simp [up2, va_up, h]
theorem up2_rowJ (I : Nat → Nat → Int64) (a j : Nat) (v : Int64) : up2 I a j v a = vp_updL (I a) j v := by
  funext q
  by_cases h : q = j <;> simp [up2, vp_updL, h]
theorem up2_rown {α : Type} (I : Nat → Nat → α) (j : Nat) {a b : Nat} (v : α) (h : b ≠ a) : up2 I a j v b = I b := by
  funext q
  simp [up2, h]
/-- what the rows are told once and for all: classes, arrays' classes, what may be written, the statics' addresses, the texts' -/
abbrev Cx : Type := va_G × ClassId × ClassId × ClassId × ClassId × ClassId × (Nat → Prop) × Nat × Nat × Nat × Nat × (Nat → Nat) × (Nat → Nat)
def xD (x : Cx) : va_G := x.1
def xB (x : Cx) : ClassId := x.2.1
def xI (x : Cx) : ClassId := x.2.2.1
def xZ (x : Cx) : ClassId := x.2.2.2.1
def xO (x : Cx) : ClassId := x.2.2.2.2.1
def xJ (x : Cx) : ClassId := x.2.2.2.2.2.1
def xA (x : Cx) : Nat → Prop := x.2.2.2.2.2.2.1
def xDx (x : Cx) : Nat := x.2.2.2.2.2.2.2.1
def xDy (x : Cx) : Nat := x.2.2.2.2.2.2.2.2.1
def xEm (x : Cx) : Nat := x.2.2.2.2.2.2.2.2.2.1
def xFs (x : Cx) : Nat := x.2.2.2.2.2.2.2.2.2.2.1
def xKa (x : Cx) : Nat → Nat := x.2.2.2.2.2.2.2.2.2.2.2.1
def xVa (x : Cx) : Nat → Nat := x.2.2.2.2.2.2.2.2.2.2.2.2
def gTy (x : Cx) : List (ClassId × FieldType) := [(xB x, .byte), (xI x, .int), (xZ x, .boolean), (xO x, .object "java/lang/Object"), (xJ x, .long)]
def gC (x : Cx) (k n : Nat) (I : Nat → Int32) (Q : Nat → Option Nat) (R : Nat → Int32) (P : Nat → Option Nat) (J : Nat → Int64) : va_E := match k with
  | 0 => .inr (0, [.int (I 0), va_rf (Q 1), .int (I 2)])
  | 1 => .inr (1, [.int (I 3), va_rf (Q 4), .int (I 5)])
  | 2 => .inr (2, [.int (I 6), .int (I 7), .int (I 8), .int (I 9), .int (I 10), .int (I 11), va_rf (Q 12), .int (I 13), va_rf (Q 14), .int (I 15), .int (I 16), .int (I 17), .int (I 18), .int (I 19), .int (I 20)])
  | 3 => .inr (3, [va_rf (Q 21), va_rf (Q 22), .int (I 23)])
  | 4 => .inr (4, [va_rf (Q 24), .int (I 25)])
  | 5 => .inr (5, [.int (I 26), .int (I 27), .int (I 28), va_rf (Q 29), .int (I 30), .int (I 31), .int (I 32)])
  | 6 => .inr (6, [va_rf (Q 33), va_rf (Q 34), va_rf (Q 35), va_rf (Q 36), va_rf (Q 37)])
  | 7 => .inr (7, [.int (I 38), .int (I 39), va_rf (Q 40), va_rf (Q 41), va_rf (Q 42), va_rf (Q 43), va_rf (Q 44), va_rf (Q 45), va_rf (Q 46), va_rf (Q 47), va_rf (Q 48), va_rf (Q 49), va_rf (Q 50), va_rf (Q 51), .int (I 52), va_rf (Q 53), va_rf (Q 54), va_rf (Q 55)])
  | 8 => .inr (8, [.int (I 56), va_rf (Q 57), .int (I 58), va_rf (Q 59), va_rf (Q 60), va_rf (Q 61), va_rf (Q 62)])
  | 9 => .inl (xB x, n, .inl R)
  | 10 => .inl (xI x, n, .inl R)
  | 11 => .inl (xZ x, n, .inl R)
  | 12 => .inl (xO x, n, .inr (.inr (.inr (.inr P))))
  | _ => .inl (xJ x, n, .inr (.inl J))
def gE (x : Cx) (S : St) (a : Nat) : va_E := gC x (sK S a) (sN S a) (fun f => sI S f a) (fun f => sQ S f a) (sR S a) (sP S a) (sJ S a)
def gWs (x : Cx) (S : St) : va_W := va_pl (sL S) (gE x S)
theorem gE_at {x : Cx} {S : St} {k a : Nat} {e : va_E} (h : isA S k a) (he : gC x k (sN S a) (fun f => sI S f a) (fun f => sQ S f a) (sR S a) (sP S a) (sJ S a) = e) : gE x S a = e := by
  unfold gE
  rw [h.2]
  exact he
theorem gplace {x : Cx} {S : St} {a : Nat} {e : va_E} (h : a ∈ sL S) (he : gE x S a = e) : ∃ k : Nat, (gWs x S)[k]? = some (a, e) ∧ (gWs x S)[k]? = some (a, gE x S a) := by
  obtain ⟨k, hk⟩ := va_pl_get (X := []) (f := gE x S) h
  have hk : (gWs x S)[k]? = some (a, gE x S a) := hk
  exact ⟨k, he ▸ hk, hk⟩
theorem gset {A : Nat → Prop} {x : Cx} {S S' : St} {a k0 : Nat} {e : va_E} (hD : va_D A (gWs x S)) (haL : a ∈ sL S) (hk : (gWs x S)[k0]? = some (a, gE x S a)) (hL : sL S' = sL S) (hne : ∀ b, b ≠ a → gE x S' b = gE x S b) (he : gE x S' a = e) : (gWs x S).set k0 (a, e) = gWs x S' := by
  refine (va_pl_set (X := []) hD haL hk (e := e)).trans ?_
  show va_pl (sL S) (va_up (gE x S) a e) = va_pl (sL S') (gE x S')
  rw [hL]
  refine va_pl_congr fun b => ?_
  by_cases hb : b = a
  · subst hb
    rw [va_up_self, he]
  · rw [va_up_ne _ _ hb, hne b hb]
/-- the words of the tables that stay true while the machine runs -/
def wOq (w : Cond) : Bool := match w with
  | .arrayClass _ => true
  | .arrayOver (.object _) => true
  | .fieldLinkNest _ _ _ _ _ _ => true
  | .methodLinkNest _ _ _ _ => true
  | .castable _ _ => true
  | .declares _ => true
  | w => w.onTables && w.keeps
def gG : List Cond := lw_tbl.filter wOq
theorem gmm {w : Cond} (i : Nat) (h : lw_tbl[i]? = some w) (hok : wOq w = true) : w ∈ gG := List.mem_filter.mpr ⟨List.mem_of_getElem? h, hok⟩
def gWd (U : State) : Prop := ∀ w ∈ gG, w.before #[] U = true
theorem gOk {w : Cond} (h : w ∈ gG) : wOq w = true := (List.mem_filter.mp h).2
theorem gWd.use {U : State} (h : gWd U) (args : Array Value) : ∀ w ∈ gG, w.before args U = true := by
  intro w hw
  have h1 := h w hw
  have h2 := gOk hw
  unfold wOq at h2
  split at h2
  · exact h1
  · exact h1
  · exact va_tabs rfl rfl h1
  · exact va_tabs rfl rfl h1
  · exact va_tabs rfl rfl h1
  · exact va_tabs rfl rfl h1
  · simp only [Bool.and_eq_true] at h2
    exact va_tabs h2.1 rfl h1
theorem gWd.of {U : State} {args : Array Value} (h : ∀ w ∈ lw_tbl, w.before args U = true) : gWd U := by
  intro w hw
  have h1 := h w (List.mem_filter.mp hw).1
  have h2 := gOk hw
  unfold wOq at h2
  split at h2
  · exact h1
  · exact h1
  · exact va_tabs rfl rfl h1
  · exact va_tabs rfl rfl h1
  · exact va_tabs rfl rfl h1
  · exact va_tabs rfl rfl h1
  · simp only [Bool.and_eq_true] at h2
    exact va_tabs h2.1 rfl h1
theorem gWd.warm {s U : State} (hW : s.WarmedH U.vm) (h : gWd s) : gWd U := by
  intro w hw
  have h1 := h w hw
  have h2 := gOk hw
  unfold wOq at h2
  split at h2
  · exact word_at hW (Or.inr ⟨_, rfl⟩) h1
  · exact va_AO.moved hW.alike h1
  · exact va_Nw.warmF hW h1
  · exact va_Nw.warmM hW h1
  · exact va_Nw.warmC hW h1
  · exact va_Nw.warmD hW h1
  · exact word_at hW (Or.inl h2) h1
/-- what the static rows hold -/
def dxT (j : Nat) : Int32 := match j with
  | 1 => 1
  | 3 => -1
  | _ => 0
def dyT (j : Nat) : Int32 := match j with
  | 0 => -1
  | 2 => 1
  | _ => 0
/-- the texts whose letters are read: length, bytes -/
def txL (i : Nat) : Nat := ([4, 8, 4, 1, 5, 6, 4, 4, 8, 4, 8, 4, 1, 5, 6, 4, 4] : List Nat).getD i 0
def txB (i : Nat) : List Int32 := ([[102, 114, 98, 108], [102, 116, 102, 116, 102, 116, 102, 116], [115, 115, 119, 108], [119], [102, 98, 102, 98, 116], [114, 114, 108, 108, 117, 117], [102, 108, 98, 114], [116, 117, 116, 117], [102, 98, 108, 114, 116, 117, 115, 119], [102, 114, 98, 108], [102, 116, 102, 116, 102, 116, 102, 116], [115, 115, 119, 108], [119], [102, 98, 102, 98, 116], [114, 114, 108, 108, 117, 117], [102, 108, 98, 114], [116, 117, 116, 117]] : List (List Int32)).getD i []
def txR : List (String × Nat × String × Nat) := [("WaltzHall", 25, "frbl", 0), ("WaltzHall", 48, "ftftftft", 1), ("WaltzHall", 50, "sswl", 2), ("WaltzHall", 52, "w", 3), ("WaltzHall", 54, "fbfbt", 4), ("WaltzHall", 56, "rrlluu", 5), ("WaltzHall", 58, "flbr", 6), ("WaltzHall", 60, "tutu", 7), ("WaltzHallModel", 60, "fblrtusw", 8), ("WaltzHallModel", 178, "frbl", 9), ("WaltzHallModel", 180, "ftftftft", 10), ("WaltzHallModel", 182, "sswl", 11), ("WaltzHallModel", 184, "w", 12), ("WaltzHallModel", 186, "fbfbt", 13), ("WaltzHallModel", 188, "rrlluu", 14), ("WaltzHallModel", 190, "flbr", 15), ("WaltzHallModel", 192, "tutu", 16)]
def txM : List (String × Nat × String) := [("WaltzHall", 68, "the tape is too full"), ("WaltzHall", 83, "the tape has not so many bytes"), ("WaltzHall", 101, "the dance has no such place"), ("WaltzHall", 119, "no such tile, face or cost"), ("WaltzHall", 131, "the tile is taken, or the hall is full"), ("WaltzHall", 164, "nobody is a couple alone"), ("WaltzHall", 174, "one is in a couple, or they are not beside each other"), ("WaltzHall", 183, "there is no couple"), ("WaltzHall", 188, "nobody winds so much"), ("WaltzHall", 199, "no such tile"), ("WaltzHall", 201, "no such tile or strength"), ("WaltzHall", 206, "there are enough winders"), ("WaltzHall", 223, "the round is full"), ("WaltzHall", 250, "nobody meets itself"), ("WaltzHall", 267, "no such dance"), ("WaltzHall", 269, "no such dancer"), ("WaltzHall", 271, "no such winder"), ("WaltzHall", 273, "nothing of that kind is told"), ("WaltzHall", 275, "beats are 1 to 200")]
def gStr (x : Cx) (U : State) (H : Heap) : Prop := ∀ i : Nat, i < 17 → vk_S 1 [txL i] [txB i] (fun _ => xKa x i) (fun _ => xVa x i) (xA x) U H
def gSt (x : Cx) (U : State) (H : Heap) : Prop :=
  (va_Z "WaltzHallModel" "DX" "[I" (.ref (xDx x)) (xA x) U H ∧ va_T .int (xDx x) 4 (fun j => .int (dxT j)) (xA x) U H) ∧
  (va_Z "WaltzHallModel" "DY" "[I" (.ref (xDy x)) (xA x) U H ∧ va_T .int (xDy x) 4 (fun j => .int (dyT j)) (xA x) U H) ∧
  (va_Z "WaltzHallModel" "FIRST" "[Ljava/lang/String;" (.ref (xFs x)) (xA x) U H ∧ va_T (.object "java/lang/String") (xFs x) 8 (fun j => .ref (xKa x (9 + j))) (xA x) U H) ∧
  (va_Z "java/util/ArrayList" "DEFAULTCAPACITY_EMPTY_ELEMENTDATA" "[Ljava/lang/Object;" (.ref (xEm x)) (xA x) U H ∧ va_T (.object "java/lang/Object") (xEm x) 0 (fun _ => .null) (xA x) U H) ∧
  va_Z "java/lang/String" "COMPACT_STRINGS" "Z" (.int 1) (xA x) U H ∧
  va_Zq "jdk/internal/util/Preconditions" "SIOOBE_FORMATTER" "Ljava/util/function/BiFunction;" (xA x) U H ∧
  vx_Zq Bundle.tN "UNASSIGNED_STACK" Bundle.steD (xA x) U H ∧ vx_Zq Bundle.tN "SUPPRESSED_SENTINEL" Bundle.listD (xA x) U H ∧ gStr x U H
theorem gSt.moved {x : Cx} {u U : State} {H : Heap} (hvm : u.vm.Alike U.vm) (h : gSt x u H) : gSt x U H := by
  obtain ⟨⟨a1, a2⟩, ⟨b1, b2⟩, ⟨c1, c2⟩, ⟨d1, d2⟩, e1, f1, g1, i1, j1⟩ := h
  exact ⟨⟨a1.moved hvm, a2.moved hvm⟩, ⟨b1.moved hvm, b2.moved hvm⟩, ⟨c1.moved hvm, c2.moved hvm⟩, ⟨d1.moved hvm, d2.moved hvm⟩, e1.moved hvm, f1.moved hvm, g1.moved hvm, i1.moved hvm, fun i hi => (j1 i hi).moved hvm⟩
theorem gSt.kept {x : Cx} {U : State} {H H1 : Heap} (h : gSt x U H) (hq : ∀ a : Nat, a < H.size → ¬ xA x a → H1[a]? = H[a]?) : gSt x U H1 := by
  obtain ⟨⟨a1, a2⟩, ⟨b1, b2⟩, ⟨c1, c2⟩, ⟨d1, d2⟩, e1, f1, g1, i1, j1⟩ := h
  exact ⟨⟨a1.kept hq, a2.kept hq⟩, ⟨b1.kept hq, b2.kept hq⟩, ⟨c1.kept hq, c2.kept hq⟩, ⟨d1.kept hq, d2.kept hq⟩, e1.kept hq, f1.kept hq, g1.kept hq, i1.kept hq, fun i hi => (j1 i hi).kept hq⟩
theorem gSt.narrow {x y : Cx} {U : State} {H : Heap} (h : gSt x U H) (hAB : ∀ q, xA y q → xA x q) (e1 : xDx y = xDx x) (e2 : xDy y = xDy x) (e3 : xEm y = xEm x) (e4 : xFs y = xFs x) (e5 : xKa y = xKa x) (e6 : xVa y = xVa x) : gSt y U H := by
  obtain ⟨⟨a1, a2⟩, ⟨b1, b2⟩, ⟨c1, c2⟩, ⟨d1, d2⟩, f1, f2, g1, i1, j1⟩ := h
  unfold gSt gStr
  rw [e1, e2, e3, e4, e5, e6]
  exact ⟨⟨a1.narrow hAB, a2.narrow hAB⟩, ⟨b1.narrow hAB, b2.narrow hAB⟩, ⟨c1.narrow hAB, c2.narrow hAB⟩, ⟨d1.narrow hAB, d2.narrow hAB⟩, f1.narrow hAB, f2.narrow hAB, g1.narrow hAB, i1.narrow hAB, fun i hi => (j1 i hi).narrow hAB⟩
/-- the texts of the class files, by class and place -/
def gRs (x : Cx) (U : State) : Prop := (∀ q ∈ txR, vk_R q.1 q.2.1 q.2.2.1 (xKa x q.2.2.2) U) ∧ ∀ q ∈ txM, ∃ a, vk_R q.1 q.2.1 q.2.2 a U
theorem gRs.warm {x : Cx} {s U : State} (hW : s.WarmedH U.vm) (h : gRs x s) : gRs x U := ⟨fun q hq => (h.1 q hq).warm hW, fun q hq => by
  obtain ⟨a, ha⟩ := h.2 q hq
  exact ⟨a, ha.warm hW⟩⟩
theorem gRs.same {x : Cx} {s U : State} (hv : U.vm = s.vm) (h : gRs x s) : gRs x U := ⟨fun q hq => (h.1 q hq).same hv, fun q hq => by
  obtain ⟨a, ha⟩ := h.2 q hq
  exact ⟨a, ha.same hv⟩⟩
theorem gWd.same {s U : State} (hv : U.vm = s.vm) (h : gWd s) : gWd U := fun w hw => by
  have h1 := h w hw
  have h2 := gOk hw
  unfold wOq at h2
  split at h2
  · rename_i ty
    have h3 : (Cond.arrayClass ty).before #[] (s.setVm U.vm) = true := by rw [hv, State.setVm_self]; exact h1
    exact h3
  · rename_i C
    have h3 : (Cond.arrayOver (.object C)).before #[] (s.setVm U.vm) = true := by rw [hv, State.setVm_self]; exact h1
    exact h3
  · exact va_tabs rfl hv.symm h1
  · exact va_tabs rfl hv.symm h1
  · exact va_tabs rfl hv.symm h1
  · exact va_tabs rfl hv.symm h1
  · simp only [Bool.and_eq_true] at h2
    exact va_tabs h2.1 hv.symm h1
/-- what the tables and the statics say, in the state U -/
def GK (x : Cx) (U : State) : Prop := va_K (xD x) gCl (gTy x) U ∧ (∀ q, U.heap.size ≤ q → xA x q) ∧ gWd U ∧ gRs x U ∧ gSt x U U.heap
/-- the heap holds the pool S -/
def GH (x : Cx) (S : St) (s : State) (H : Heap) (locs : List Loc) : Prop := va_P (xD x) gCl (gWs x S) H ∧ va_D (xA x) (gWs x S) ∧ va_S (xA x) s.heap H locs ∧ sX S = xEm x
/-- .. at a method's start and end -/
def GW (x : Cx) (S : St) (U : State) : Prop := va_P (xD x) gCl (gWs x S) U.heap ∧ va_D (xA x) (gWs x S) ∧ sX S = xEm x ∧ GK x U
def gB (x : Cx) (S : St) : St → State → Prop := fun S' t => GW x S' t ∧ gle S S'
theorem GK.same {x : Cx} {s U : State} (hv : U.vm = s.vm) (hh : U.heap = s.heap) (h : GK x s) : GK x U := by
  obtain ⟨h1, h2, h3, h4, h5⟩ := h
  have ha : s.vm.Alike U.vm := by rw [hv]; exact Vm.Alike.refl _
  exact ⟨h1.moved ha, by rw [hh]; exact h2, h3.same hv, h4.same hv, by rw [hh]; exact h5.moved ha⟩
theorem GW.same {x : Cx} {S : St} {s U : State} (hv : U.vm = s.vm) (hh : U.heap = s.heap) (h : GW x S s) : GW x S U := by
  obtain ⟨h1, h2, h3, h4⟩ := h
  exact ⟨by rw [hh]; exact h1, h2, h3, h4.same hv hh⟩
/-- the callee's start -/
theorem GW.at {x : Cx} {S : St} {s U : State} {H : Heap} {locs : List Loc} (hK : GK x s) (hG : GH x S s H locs) (hU : U.heap = H) (hW : s.WarmedH U.vm) : GW x S U := by
  obtain ⟨h1, h2, h3, h4, h5⟩ := hK
  obtain ⟨g1, g2, g3, g4⟩ := hG
  exact ⟨by rw [hU]; exact g1, g2, g4, h1.moved hW.alike, by rw [hU]; exact fun q hq => h2 q (Nat.le_trans g3.1 hq), h3.warm hW, h4.warm hW, by rw [hU]; exact (h5.kept g3.2.1).moved hW.alike⟩
theorem GW.blind {x : Cx} {S : St} {As : List Value} : FrameBlind (va_Pc As (GW x S)) := fun a U g mk q => ⟨q.1, GW.same (s := U) (U := U.calling g mk a) rfl rfl q.2⟩
/-- behind the callee -/
theorem GH.back {x : Cx} {S' : St} {s t : State} {H1 : Heap} {locs : List Loc} (ht : t.heap = H1) (hB : GW x S' t) (hS : va_S (xA x) s.heap H1 locs) : GH x S' s H1 locs := by
  obtain ⟨g1, g2, g3, -⟩ := hB
  rw [ht] at g1
  exact ⟨g1, g2, hS, g3⟩
theorem GW.end {x : Cx} {S : St} {s t : State} {H : Heap} {locs : List Loc} (hK : GK x s) (hG : GH x S s H locs) (ht : t.heap = H) (hW : s.WarmedH t.vm) : GW x S t := GW.at hK hG ht hW
/-- a class of the pool: its fields' words stand among ours -/
def gKd (ci : Nat) (C : String) (T : u_T) (N : Nat) (ty : Nat → FieldType) : Prop := (∀ w ∈ u_ws C T N, w ∈ gG) ∧ gCl[ci]? = some (C, T, N) ∧ (∀ k, k < N → parseFieldDescriptor (T k).2.2.1 = some (ty k)) ∧ ∀ a, a < N → ∀ b, b < N → a ≠ b → (T a).2.1 ≠ (T b).2.1
theorem gMet {l : Launch} {y : MethodName} {cc : ByteArray} {maxL : Nat} {ret : Option FieldType} {rm : Room} {x : Cx} {S : St} {As : List Value} {Qc : Array Value → State → Outcome → State → Prop} {mc ms : Nat} (hy : plainFor y = true) (hlen : (lg_sl As).length ≤ maxL)
    (body : ∀ (p : Program) (e : Env) (s : State) (m : MethodId) (args : Array Value) (below : List Frame) (meth : Method) (c : Code), p.tables.exec = Jvm.exec → c.code = cc → meth.sig.returnType = ret → s.vm.findClass y.cls = some m.cls → meth.locks = false → meth.name = y.name → (∀ w ∈ gG, w.before args s = true) → GK x s → ∀ (H : Heap) (locs : List Loc), GH x S s H locs → ∀ ls : Array Slot, lv_has ls maxL (lv_args 0 As) → c.maxLocals = maxL →
      W p l e rm s m args below meth c H locs 0 0 (MQ below Qc args s mc ms (xA x)) (F0 m 0 ls [])) : Met l y [.code y cc maxL ret] rm (va_Pc As (GW x S)) Qc mc ms (xA x) := by
  refine va_MetF (cc := cc) (maxL := maxL) (ret := ret) hy rfl ?_
  intro p e s m args below meth c s₁ B hml hv
  obtain ⟨rfl, h1, h2, h3, h4⟩ := hv
  rw [lg_entry_eq]
  exact body p e s m _ below meth c B.exec B.bytes B.returns (findClass_of_methodNamed B.named) B.notSynchronized (name_of_methodNamed B.named B.method).1 (h4.2.2.1.use _) h4 _ _ ⟨h1, h2, va_S.rf, h3⟩ _ (lv_entry As hlen) hml
theorem gMetX {l : Launch} {y : MethodName} {cc : ByteArray} {maxL : Nat} {ret : Option FieldType} {rm : Room} {x : Cx} {S : St} {As : List Value} {Qc : Array Value → State → Outcome → State → Prop} {XC : String → State → State → Prop} {mc ms : Nat} (hy : plainName y.cls = true) (hlen : (lg_sl As).length ≤ maxL)
    (body : ∀ (p : Program) (e : Env) (s : State) (m : MethodId) (args : Array Value) (below : List Frame) (meth : Method) (c : Code), p.tables.exec = Jvm.exec → c.code = cc → meth.sig.returnType = ret → s.vm.findClass y.cls = some m.cls → meth.locks = false → meth.name = y.name → (∀ w ∈ gG, w.before args s = true) → GK x s → ∀ (H : Heap) (locs : List Loc), GH x S s H locs → ∀ ls : Array Slot, lv_has ls maxL (lv_args 0 As) → c.maxLocals = maxL → (∀ z ∈ c.exceptionTable.toList, False) →
      W p l e rm s m args below meth c H locs 0 0 (vx_MQ below Qc XC args s mc ms (xA x)) (F0 m 0 ls [])) : vx_Met l y [.code y cc maxL ret] rm (va_Pc As (GW x S)) Qc XC mc ms (xA x) := by
  refine vx_ofW (cc := cc) (maxL := maxL) (ret := ret) hy rfl ?_
  intro p e s m args below meth c s₁ B hml htab hv
  obtain ⟨rfl, h1, h2, h3, h4⟩ := hv
  rw [lg_entry_eq]
  exact body p e s m _ below meth c B.exec B.bytes B.returns (findClass_of_methodNamed B.named) B.notSynchronized (name_of_methodNamed B.named B.method).1 (h4.2.2.1.use _) h4 _ _ ⟨h1, h2, va_S.rf, h3⟩ _ (lv_entry As hlen) hml htab
theorem gKw {ws : List Cond} (is : List Nat) (h : is.map (fun i => lw_tbl[i]?) = ws.map some) (hok : ws.all wOq = true) : ∀ w ∈ ws, w ∈ gG := by
  intro w hw
  have h1 : some w ∈ is.map (fun i => lw_tbl[i]?) := by rw [h]; exact List.mem_map.mpr ⟨w, hw, rfl⟩
  obtain ⟨i, -, hi⟩ := List.mem_map.mp h1
  exact gmm i hi (List.all_eq_true.mp hok w hw)
theorem kw_AL : ∀ w ∈ u_ws "java/util/ArrayList" T_AL 3, w ∈ gG := gKw [103, 99, 101] (by decide +kernel) (by decide +kernel)
theorem kd_AL : gKd 0 "java/util/ArrayList" T_AL 3 ty_AL := ⟨kw_AL, rfl, tk_AL, nm_AL⟩
theorem kw_D : ∀ w ∈ u_ws "WaltzHall$Dance" T_D 3, w ∈ gG := gKw [168, 170, 172] (by decide +kernel) (by decide +kernel)
theorem kd_D : gKd 1 "WaltzHall$Dance" T_D 3 ty_D := ⟨kw_D, rfl, tk_D, nm_D⟩
theorem kw_R : ∀ w ∈ u_ws "WaltzHall$Dancer" T_R 15, w ∈ gG := gKw [613, 615, 617, 619, 621, 623, 625, 627, 629, 631, 633, 635, 637, 639, 641] (by decide +kernel) (by decide +kernel)
theorem kd_R : gKd 2 "WaltzHall$Dancer" T_R 15 ty_R := ⟨kw_R, rfl, tk_R, nm_R⟩
theorem kw_F : ∀ w ∈ u_ws "WaltzHall$Floor" T_F 3, w ∈ gG := gKw [188, 190, 192] (by decide +kernel) (by decide +kernel)
theorem kd_F : gKd 3 "WaltzHall$Floor" T_F 3 ty_F := ⟨kw_F, rfl, tk_F, nm_F⟩
theorem kw_T : ∀ w ∈ u_ws "WaltzHall$Tape" T_T 2, w ∈ gG := gKw [74, 76] (by decide +kernel) (by decide +kernel)
theorem kd_T : gKd 4 "WaltzHall$Tape" T_T 2 ty_T := ⟨kw_T, rfl, tk_T, nm_T⟩
theorem kw_N : ∀ w ∈ u_ws "WaltzHall$Winder" T_N 7, w ∈ gG := gKw [745, 747, 749, 751, 753, 755, 757] (by decide +kernel) (by decide +kernel)
theorem kd_N : gKd 5 "WaltzHall$Winder" T_N 7 ty_N := ⟨kw_N, rfl, tk_N, nm_N⟩
theorem kw_H : ∀ w ∈ u_ws "WaltzHall" T_H 5, w ∈ gG := gKw [266, 268, 270, 272, 274] (by decide +kernel) (by decide +kernel)
theorem kd_H : gKd 6 "WaltzHall" T_H 5 ty_H := ⟨kw_H, rfl, tk_H, nm_H⟩
theorem kw_S : ∀ w ∈ u_ws "WaltzHallModel$State" T_S 18, w ∈ gG := gKw [975, 977, 979, 981, 983, 985, 987, 989, 991, 993, 995, 997, 999, 1001, 1003, 1005, 1007, 1009] (by decide +kernel) (by decide +kernel)
theorem kd_S : gKd 7 "WaltzHallModel$State" T_S 18 ty_S := ⟨kw_S, rfl, tk_S, nm_S⟩
theorem kw_M : ∀ w ∈ u_ws "WaltzHallModel" T_M 7, w ∈ gG := gKw [1026, 1028, 1030, 1032, 1034, 1036, 1038] (by decide +kernel) (by decide +kernel)
theorem kd_M : gKd 8 "WaltzHallModel" T_M 7 ty_M := ⟨kw_M, rfl, tk_M, nm_M⟩
/-- the cell at a is e in the pool S', all others are as in S -/
def gCh (x : Cx) (S S' : St) (a : Nat) (e : va_E) : Prop := sL S' = sL S ∧ gle S S' ∧ (∀ b, b ≠ a → gE x S' b = gE x S b) ∧ gE x S' a = e
theorem gChI {x : Cx} {S : St} {k a F : Nat} {v : Int32} {e : va_E} (ha : isA S k a) (h : gC x k (sN S a) (va_up (fun f => sI S f a) F v) (fun f => sQ S f a) (sR S a) (sP S a) (sJ S a) = e) : gCh x S (pI S F a v) a e := by
  refine ⟨rfl, ⟨fun _ h => ⟨h, rfl, rfl⟩, rfl⟩, fun b hb => ?_, ?_⟩
  · show gC x (sK S b) (sN S b) (fun f => up2 (sI S) F a v f b) _ _ _ _ = _
    rw [up2_coln _ _ _ hb]
    rfl
  · show gC x (sK S a) (sN S a) (fun f => up2 (sI S) F a v f a) _ _ _ _ = _
    rw [up2_col, ha.2]
    exact h
theorem gChQ {x : Cx} {S : St} {k a F : Nat} {v : Option Nat} {e : va_E} (ha : isA S k a) (h : gC x k (sN S a) (fun f => sI S f a) (va_up (fun f => sQ S f a) F v) (sR S a) (sP S a) (sJ S a) = e) : gCh x S (pQ S F a v) a e := by
  refine ⟨rfl, ⟨fun _ h => ⟨h, rfl, rfl⟩, rfl⟩, fun b hb => ?_, ?_⟩
  · show gC x (sK S b) (sN S b) _ (fun f => up2 (sQ S) F a v f b) _ _ _ = _
    rw [up2_coln _ _ _ hb]
    rfl
  · show gC x (sK S a) (sN S a) _ (fun f => up2 (sQ S) F a v f a) _ _ _ = _
    rw [up2_col, ha.2]
    exact h
theorem gChR {x : Cx} {S : St} {k a j : Nat} {v : Int32} {e : va_E} (ha : isA S k a) (h : gC x k (sN S a) (fun f => sI S f a) (fun f => sQ S f a) (upd (sR S a) j v) (sP S a) (sJ S a) = e) : gCh x S (pR S a j v) a e := by
  refine ⟨rfl, ⟨fun _ h => ⟨h, rfl, rfl⟩, rfl⟩, fun b hb => ?_, ?_⟩
  · show gC x (sK S b) (sN S b) _ _ (up2 (sR S) a j v b) _ _ = _
    rw [up2_rown _ _ _ hb]
    rfl
  · show gC x (sK S a) (sN S a) _ _ (up2 (sR S) a j v a) _ _ = _
    rw [up2_row, ha.2]
    exact h
theorem gChP {x : Cx} {S : St} {k a j : Nat} {v : Option Nat} {e : va_E} (ha : isA S k a) (h : gC x k (sN S a) (fun f => sI S f a) (fun f => sQ S f a) (sR S a) (va_up (sP S a) j v) (sJ S a) = e) : gCh x S (pP S a j v) a e := by
  refine ⟨rfl, ⟨fun _ h => ⟨h, rfl, rfl⟩, rfl⟩, fun b hb => ?_, ?_⟩
  · show gC x (sK S b) (sN S b) _ _ _ (up2 (sP S) a j v b) _ = _
    rw [up2_rown _ _ _ hb]
    rfl
  · show gC x (sK S a) (sN S a) _ _ _ (up2 (sP S) a j v a) _ = _
    rw [up2_rowP, ha.2]
    exact h
theorem gChJ {x : Cx} {S : St} {k a j : Nat} {v : Int64} {e : va_E} (ha : isA S k a) (h : gC x k (sN S a) (fun f => sI S f a) (fun f => sQ S f a) (sR S a) (sP S a) (vp_updL (sJ S a) j v) = e) : gCh x S (pJ S a j v) a e := by
  refine ⟨rfl, ⟨fun _ h => ⟨h, rfl, rfl⟩, rfl⟩, fun b hb => ?_, ?_⟩
  · show gC x (sK S b) (sN S b) _ _ _ _ (up2 (sJ S) a j v b) = _
    rw [up2_rown _ _ _ hb]
    rfl
  · show gC x (sK S a) (sN S a) _ _ _ _ (up2 (sJ S) a j v a) = _
    rw [up2_rowJ, ha.2]
    exact h
theorem gChRow {x : Cx} {S : St} {k a : Nat} {f : Nat → Int32} {e : va_E} (ha : isA S k a) (h : gC x k (sN S a) (fun f => sI S f a) (fun f => sQ S f a) f (sP S a) (sJ S a) = e) : gCh x S (pRow S a f) a e := by
  refine ⟨rfl, ⟨fun _ h => ⟨h, rfl, rfl⟩, rfl⟩, fun b hb => ?_, ?_⟩
  · show gC x (sK S b) (sN S b) _ _ (va_up (sR S) a f b) _ _ = _
    rw [va_up_ne _ _ hb]
    rfl
  · show gC x (sK S a) (sN S a) _ _ (va_up (sR S) a f a) _ _ = _
    rw [va_up_self, ha.2]
    exact h
theorem gback {x : Cx} {S S' : St} {s : State} {H H1 : Heap} {locs locs1 : List Loc} {a k0 : Nat} {e : va_E} (hG : GH x S s H locs) (haL : a ∈ sL S) (hk : (gWs x S)[k0]? = some (a, gE x S a)) (hc : gCh x S S' a e)
    (h1 : va_P (xD x) gCl ((gWs x S).set k0 (a, e)) H1) (h2 : va_D (xA x) ((gWs x S).set k0 (a, e))) (h3 : va_S (xA x) s.heap H1 locs1) : GH x S' s H1 locs1 := by
  rw [gset hG.2.1 haL hk hc.1 hc.2.2.1 hc.2.2.2] at h1 h2
  exact ⟨h1, h2, h3, hc.2.1.2.trans hG.2.2.2⟩
theorem gpush {x : Cx} {S : St} {q k n : Nat} {e : va_E} (hq : q ∉ sL S) (he : gC x k n (fun _ => 0) (fun _ => none) (fun _ => 0) (fun _ => none) (fun _ => 0) = e) : gWs x S ++ [(q, e)] = gWs x (pNew S q k n) := by
  show va_pl (sL S) (gE x S) ++ [(q, e)] = va_pl (sL S ++ [q]) (gE x (pNew S q k n))
  rw [va_pl_push hq]
  refine va_pl_congr fun b => ?_
  by_cases hb : b = q
  · subst hb
    rw [va_up_self, ← he]
    show _ = gC x (va_up (sK S) b k b) (va_up (sN S) b n b) (fun f => if b = b then 0 else sI S f b) (fun f => if b = b then none else sQ S f b) (va_up (sR S) b (fun _ => 0) b) (va_up (sP S) b (fun _ => none) b) (va_up (sJ S) b (fun _ => 0) b)
    simp only [va_up_self, if_true]
  · rw [va_up_ne _ _ hb]
    show _ = gC x (va_up (sK S) q k b) (va_up (sN S) q n b) (fun f => if b = q then 0 else sI S f b) (fun f => if b = q then none else sQ S f b) (va_up (sR S) q (fun _ => 0) b) (va_up (sP S) q (fun _ => none) b) (va_up (sJ S) q (fun _ => 0) b)
    simp only [va_up_ne _ _ hb, if_neg hb]
    rfl
theorem gNo (o : Option Nat) (C : String) : narrow (.object C) (va_rf o) = va_rf o := by cases o <;> rfl
theorem gFo (o : Option Nat) (C : String) : fits (.object C) (va_rf o) = true := by cases o <;> rfl
theorem gNa (o : Option Nat) (t : FieldType) : narrow (.array t) (va_rf o) = va_rf o := by cases o <;> rfl
theorem gFa (o : Option Nat) (t : FieldType) : fits (.array t) (va_rf o) = true := by cases o <;> rfl
theorem gCat (o : Option Nat) : (va_rf o).category = 1 := by cases o <;> rfl
section GR
variable {p : Program} {l : Launch} {e : Env} {R : Room} {s : State} {m : MethodId} {args : Array Value} {below : List Frame} {meth : Method} {c : Code} {H : Heap} {locs : List Loc} {cells slots : Nat} {Q : State → Prop}
variable {cc : ByteArray} {pc : Nat} {ls : Array Slot} {rest : List Value} {x : Cx} {S S' : St} {own C ref : String} {index a ci k N : Nat} {T : u_T} {ty : Nat → FieldType} {fs : List Value}
theorem gget (hx : p.tables.exec = Jvm.exec) (hb : c.code = cc) (hw : ∀ w ∈ gG, w.before args s = true) (hown : s.vm.findClass own = some m.cls) (hK : GK x s) (hG : GH x S s H locs) (kd : gKd ci C T N ty) (ha : isA S k a) (he : gC x k (sN S a) (fun f => sI S f a) (fun f => sQ S f a) (sR S a) (sP S a) (sJ S a) = .inr (ci, fs)) (j : Nat) (hj : j < N) {v : Value} (hv : fs[j]? = some v)
    (hlink : (Cond.fieldLink own index ref (T j).2.1 (T j).2.2.1) ∈ gG) (hsame : ∀ y, s.fieldFound? (T j).1 (T j).2.1 (T j).2.2.1 = some y → s.fieldFound? ref (T j).2.1 (T j).2.2.1 = some y) (hdg : decode cc pc = .ok (.getfield index, 3))
    (kk : W p l e R s m args below meth c H locs cells slots Q (F0 m (pc + 3) ls (v :: rest))) : W p l e R s m args below meth c H locs cells slots Q (F0 m pc ls (.ref a :: rest)) := by
  obtain ⟨k0, h1, -⟩ := gplace ha.1 (gE_at ha he)
  exact va_get hx hb hw kd.1 hown hK.1 hG.1 k0 h1 kd.2.1 j hj (hw _ hlink) hsame hv hdg kk
theorem ggetN {host : String} (hx : p.tables.exec = Jvm.exec) (hb : c.code = cc) (hw : ∀ w ∈ gG, w.before args s = true) (hown : s.vm.findClass own = some m.cls) (hK : GK x s) (hG : GH x S s H locs) (kd : gKd ci C T N ty) (ha : isA S k a) (he : gC x k (sN S a) (fun f => sI S f a) (fun f => sQ S f a) (sR S a) (sP S a) (sJ S a) = .inr (ci, fs)) (j : Nat) (hj : j < N) {v : Value} (hv : fs[j]? = some v)
    (hlink : (Cond.fieldLinkNest own index ref (T j).2.1 (T j).2.2.1 host) ∈ gG) (hsame : ∀ y, s.fieldFound? (T j).1 (T j).2.1 (T j).2.2.1 = some y → s.fieldFound? ref (T j).2.1 (T j).2.2.1 = some y) (hdg : decode cc pc = .ok (.getfield index, 3))
    (kk : W p l e R s m args below meth c H locs cells slots Q (F0 m (pc + 3) ls (v :: rest))) : W p l e R s m args below meth c H locs cells slots Q (F0 m pc ls (.ref a :: rest)) := by
  obtain ⟨k0, h1, -⟩ := gplace ha.1 (gE_at ha he)
  exact va_getN hx hb hw kd.1 hown hK.1 hG.1 k0 h1 kd.2.1 j hj (hw _ hlink) hsame hv hdg kk
theorem gput (hx : p.tables.exec = Jvm.exec) (hb : c.code = cc) (hw : ∀ w ∈ gG, w.before args s = true) (hown : s.vm.findClass own = some m.cls) (hK : GK x s) (hG : GH x S s H locs) (kd : gKd ci C T N ty) (ha : isA S k a) (he : gC x k (sN S a) (fun f => sI S f a) (fun f => sQ S f a) (sR S a) (sP S a) (sJ S a) = .inr (ci, fs)) (j : Nat) (hj : j < N) {v : Value} (hc : gCh x S S' a (.inr (ci, fs.set j v)))
    (hlink : (Cond.fieldLink own index ref (T j).2.1 (T j).2.2.1) ∈ gG) (hsame : ∀ y, s.fieldFound? (T j).1 (T j).2.1 (T j).2.2.1 = some y → s.fieldFound? ref (T j).2.1 (T j).2.2.1 = some y) (hfin : (T j).2.2.2 = false) {t1 : FieldType} (hd : parseFieldDescriptor (T j).2.2.1 = some t1) (hn : narrow t1 v = v) (hfit : fits t1 v = true) (hl : j < fs.length) (hdg : decode cc pc = .ok (.putfield index, 3))
    (kk : ∀ (S2 : St) (H1 : Heap) (locs1 : List Loc), S2 = S' → gle S S2 → GH x S2 s H1 locs1 → W p l e R s m args below meth c H1 locs1 cells slots Q (F0 m (pc + 3) ls rest)) : W p l e R s m args below meth c H locs cells slots Q (F0 m pc ls (v :: .ref a :: rest)) := by
  obtain ⟨k0, h1, h2⟩ := gplace ha.1 (gE_at ha he)
  exact va_put hx hb hw kd.1 ty kd.2.2.1 kd.2.2.2 hown hK.1 hG.1 hG.2.1 hG.2.2.1 k0 h1 kd.2.1 j hj (hw _ hlink) hsame hfin hd hn hfit hl hdg (fun H1 locs1 g1 g2 g3 => kk _ H1 locs1 rfl hc.2.1 (gback hG ha.1 h2 hc g1 g2 g3))
theorem gputN {host : String} (hx : p.tables.exec = Jvm.exec) (hb : c.code = cc) (hw : ∀ w ∈ gG, w.before args s = true) (hown : s.vm.findClass own = some m.cls) (hK : GK x s) (hG : GH x S s H locs) (kd : gKd ci C T N ty) (ha : isA S k a) (he : gC x k (sN S a) (fun f => sI S f a) (fun f => sQ S f a) (sR S a) (sP S a) (sJ S a) = .inr (ci, fs)) (j : Nat) (hj : j < N) {v : Value} (hc : gCh x S S' a (.inr (ci, fs.set j v)))
    (hlink : (Cond.fieldLinkNest own index ref (T j).2.1 (T j).2.2.1 host) ∈ gG) (hsame : ∀ y, s.fieldFound? (T j).1 (T j).2.1 (T j).2.2.1 = some y → s.fieldFound? ref (T j).2.1 (T j).2.2.1 = some y) (hfin : (T j).2.2.2 = false) {t1 : FieldType} (hd : parseFieldDescriptor (T j).2.2.1 = some t1) (hn : narrow t1 v = v) (hfit : fits t1 v = true) (hl : j < fs.length) (hdg : decode cc pc = .ok (.putfield index, 3))
    (kk : ∀ (S2 : St) (H1 : Heap) (locs1 : List Loc), S2 = S' → gle S S2 → GH x S2 s H1 locs1 → W p l e R s m args below meth c H1 locs1 cells slots Q (F0 m (pc + 3) ls rest)) : W p l e R s m args below meth c H locs cells slots Q (F0 m pc ls (v :: .ref a :: rest)) := by
  obtain ⟨k0, h1, h2⟩ := gplace ha.1 (gE_at ha he)
  exact va_putN hx hb hw kd.1 ty kd.2.2.1 kd.2.2.2 hown hK.1 hG.1 hG.2.1 hG.2.2.1 k0 h1 kd.2.1 j hj (hw _ hlink) hsame hfin hd hn hfit hl hdg (fun H1 locs1 g1 g2 g3 => kk _ H1 locs1 rfl hc.2.1 (gback hG ha.1 h2 hc g1 g2 g3))
theorem gputF (hx : p.tables.exec = Jvm.exec) (hb : c.code = cc) (hw : ∀ w ∈ gG, w.before args s = true) (hown : s.vm.findClass own = some m.cls) (hK : GK x s) (hG : GH x S s H locs) (kd : gKd ci C T N ty) (ha : isA S k a) (he : gC x k (sN S a) (fun f => sI S f a) (fun f => sQ S f a) (sR S a) (sP S a) (sJ S a) = .inr (ci, fs)) (j : Nat) (hj : j < N) {v : Value} (hc : gCh x S S' a (.inr (ci, fs.set j v)))
    (hlink : (Cond.fieldLink own index ref (T j).2.1 (T j).2.2.1) ∈ gG) (hsame : ∀ y, s.fieldFound? (T j).1 (T j).2.1 (T j).2.2.1 = some y → s.fieldFound? ref (T j).2.1 (T j).2.2.1 = some y) (hfin : (T j).2.2.2 = true) (hin2 : meth.name = "<init>") (hdecl : (T j).1 = own) {t1 : FieldType} (hd : parseFieldDescriptor (T j).2.2.1 = some t1) (hn : narrow t1 v = v) (hfit : fits t1 v = true) (hl : j < fs.length) (hdg : decode cc pc = .ok (.putfield index, 3))
    (kk : ∀ (S2 : St) (H1 : Heap) (locs1 : List Loc), S2 = S' → gle S S2 → GH x S2 s H1 locs1 → W p l e R s m args below meth c H1 locs1 cells slots Q (F0 m (pc + 3) ls rest)) : W p l e R s m args below meth c H locs cells slots Q (F0 m pc ls (v :: .ref a :: rest)) := by
  obtain ⟨k0, h1, h2⟩ := gplace ha.1 (gE_at ha he)
  exact va_putF hx hb hw kd.1 ty kd.2.2.1 kd.2.2.2 hown hK.1 hG.1 hG.2.1 hG.2.2.1 k0 h1 kd.2.1 j hj (hw _ hlink) hsame hfin hin2 hdecl hd hn hfit hl hdg (fun H1 locs1 g1 g2 g3 => kk _ H1 locs1 rfl hc.2.1 (gback hG ha.1 h2 hc g1 g2 g3))
-- arrays
theorem giald (hx : p.tables.exec = Jvm.exec) (hb : c.code = cc) (hK : GK x s) (hG : GH x S s H locs) (ha : isA S 10 a) {i : Int32} (hin : vp_in i (sN S a)) (hdg : decode cc pc = .ok (.iaload, 1))
    (kk : W p l e R s m args below meth c H locs cells slots Q (F0 m (pc + 1) ls (.int (sR S a i.toNatClampNeg) :: rest))) : W p l e R s m args below meth c H locs cells slots Q (F0 m pc ls (.int i :: .ref a :: rest)) := by
  obtain ⟨k0, h1, -⟩ := gplace ha.1 (gE_at (x := x) ha rfl)
  exact va_iald hx hb hK.1 hG.1 k0 1 h1 rfl hin hdg kk
theorem gbald (hx : p.tables.exec = Jvm.exec) (hb : c.code = cc) (hK : GK x s) (hG : GH x S s H locs) (ha : isA S 9 a) {i : Int32} (hin : vp_in i (sN S a)) (hdg : decode cc pc = .ok (.baload, 1))
    (kk : W p l e R s m args below meth c H locs cells slots Q (F0 m (pc + 1) ls (.int (sR S a i.toNatClampNeg) :: rest))) : W p l e R s m args below meth c H locs cells slots Q (F0 m pc ls (.int i :: .ref a :: rest)) := by
  obtain ⟨k0, h1, -⟩ := gplace ha.1 (gE_at (x := x) ha rfl)
  exact va_bald hx hb hK.1 hG.1 k0 0 h1 rfl hin hdg kk
theorem gzald (hx : p.tables.exec = Jvm.exec) (hb : c.code = cc) (hK : GK x s) (hG : GH x S s H locs) (ha : isA S 11 a) {i : Int32} (hin : vp_in i (sN S a)) (hdg : decode cc pc = .ok (.baload, 1))
    (kk : W p l e R s m args below meth c H locs cells slots Q (F0 m (pc + 1) ls (.int (sR S a i.toNatClampNeg) :: rest))) : W p l e R s m args below meth c H locs cells slots Q (F0 m pc ls (.int i :: .ref a :: rest)) := by
  obtain ⟨k0, h1, -⟩ := gplace ha.1 (gE_at (x := x) ha rfl)
  exact va_zald hx hb hK.1 hG.1 k0 2 h1 rfl hin hdg kk
theorem glald (hx : p.tables.exec = Jvm.exec) (hb : c.code = cc) (hK : GK x s) (hG : GH x S s H locs) (ha : isA S 13 a) {i : Int32} (hin : vp_in i (sN S a)) (hdg : decode cc pc = .ok (.laload, 1))
    (kk : W p l e R s m args below meth c H locs cells slots Q (F0 m (pc + 1) ls (.long (sJ S a i.toNatClampNeg) :: rest))) : W p l e R s m args below meth c H locs cells slots Q (F0 m pc ls (.int i :: .ref a :: rest)) := by
  obtain ⟨k0, h1, -⟩ := gplace ha.1 (gE_at (x := x) ha rfl)
  exact va_lald hx hb hK.1 hG.1 k0 4 h1 rfl hin hdg kk
theorem gaald (hx : p.tables.exec = Jvm.exec) (hb : c.code = cc) (hK : GK x s) (hG : GH x S s H locs) (ha : isA S 12 a) {i : Int32} (hin : vp_in i (sN S a)) (hdg : decode cc pc = .ok (.aaload, 1))
    (kk : W p l e R s m args below meth c H locs cells slots Q (F0 m (pc + 1) ls (va_rf (sP S a i.toNatClampNeg) :: rest))) : W p l e R s m args below meth c H locs cells slots Q (F0 m pc ls (.int i :: .ref a :: rest)) := by
  obtain ⟨k0, h1, -⟩ := gplace ha.1 (gE_at (x := x) ha rfl)
  exact va_aldq hx hb hK.1 hG.1 k0 3 h1 rfl hin hdg kk
theorem giast (hx : p.tables.exec = Jvm.exec) (hb : c.code = cc) (hK : GK x s) (hG : GH x S s H locs) (ha : isA S 10 a) {i v : Int32} (hin : vp_in i (sN S a)) (hdg : decode cc pc = .ok (.iastore, 1))
    (kk : ∀ (S2 : St) (H1 : Heap) (locs1 : List Loc), S2 = pR S a i.toNatClampNeg v → gle S S2 → GH x S2 s H1 locs1 → W p l e R s m args below meth c H1 locs1 cells slots Q (F0 m (pc + 1) ls rest)) : W p l e R s m args below meth c H locs cells slots Q (F0 m pc ls (.int v :: .int i :: .ref a :: rest)) := by
  obtain ⟨k0, h1, h2⟩ := gplace ha.1 (gE_at (x := x) ha rfl)
  exact va_iast hx hb hK.1 hG.1 hG.2.1 hG.2.2.1 k0 1 h1 rfl hin hdg (fun H1 locs1 g1 g2 g3 => kk _ H1 locs1 rfl (gChR (x := x) ha rfl).2.1 (gback hG ha.1 h2 (gChR ha rfl) g1 g2 g3))
theorem gbast (hx : p.tables.exec = Jvm.exec) (hb : c.code = cc) (hK : GK x s) (hG : GH x S s H locs) (ha : isA S 9 a) {i v : Int32} (hin : vp_in i (sN S a)) (hdg : decode cc pc = .ok (.bastore, 1))
    (kk : ∀ (S2 : St) (H1 : Heap) (locs1 : List Loc), S2 = pR S a i.toNatClampNeg (vp_nar .byte v) → gle S S2 → GH x S2 s H1 locs1 → W p l e R s m args below meth c H1 locs1 cells slots Q (F0 m (pc + 1) ls rest)) : W p l e R s m args below meth c H locs cells slots Q (F0 m pc ls (.int v :: .int i :: .ref a :: rest)) := by
  obtain ⟨k0, h1, h2⟩ := gplace ha.1 (gE_at (x := x) ha rfl)
  exact va_bast hx hb hK.1 hG.1 hG.2.1 hG.2.2.1 k0 0 h1 rfl hin hdg (fun H1 locs1 g1 g2 g3 => kk _ H1 locs1 rfl (gChR (x := x) ha rfl).2.1 (gback hG ha.1 h2 (gChR ha rfl) g1 g2 g3))
theorem gzast (hx : p.tables.exec = Jvm.exec) (hb : c.code = cc) (hK : GK x s) (hG : GH x S s H locs) (ha : isA S 11 a) {i v : Int32} (hin : vp_in i (sN S a)) (hdg : decode cc pc = .ok (.bastore, 1))
    (kk : ∀ (S2 : St) (H1 : Heap) (locs1 : List Loc), S2 = pR S a i.toNatClampNeg (vp_nar .boolean v) → gle S S2 → GH x S2 s H1 locs1 → W p l e R s m args below meth c H1 locs1 cells slots Q (F0 m (pc + 1) ls rest)) : W p l e R s m args below meth c H locs cells slots Q (F0 m pc ls (.int v :: .int i :: .ref a :: rest)) := by
  obtain ⟨k0, h1, h2⟩ := gplace ha.1 (gE_at (x := x) ha rfl)
  exact va_zast hx hb hK.1 hG.1 hG.2.1 hG.2.2.1 k0 2 h1 rfl hin hdg (fun H1 locs1 g1 g2 g3 => kk _ H1 locs1 rfl (gChR (x := x) ha rfl).2.1 (gback hG ha.1 h2 (gChR ha rfl) g1 g2 g3))
theorem glast (hx : p.tables.exec = Jvm.exec) (hb : c.code = cc) (hK : GK x s) (hG : GH x S s H locs) (ha : isA S 13 a) {i : Int32} {v : Int64} (hin : vp_in i (sN S a)) (hdg : decode cc pc = .ok (.lastore, 1))
    (kk : ∀ (S2 : St) (H1 : Heap) (locs1 : List Loc), S2 = pJ S a i.toNatClampNeg v → gle S S2 → GH x S2 s H1 locs1 → W p l e R s m args below meth c H1 locs1 cells slots Q (F0 m (pc + 1) ls rest)) : W p l e R s m args below meth c H locs cells slots Q (F0 m pc ls (.long v :: .int i :: .ref a :: rest)) := by
  obtain ⟨k0, h1, h2⟩ := gplace ha.1 (gE_at (x := x) ha rfl)
  exact va_last hx hb hK.1 hG.1 hG.2.1 hG.2.2.1 k0 4 h1 rfl hin hdg (fun H1 locs1 g1 g2 g3 => kk _ H1 locs1 rfl (gChJ (x := x) ha rfl).2.1 (gback hG ha.1 h2 (gChJ ha rfl) g1 g2 g3))
theorem gaast {b : Nat} (hx : p.tables.exec = Jvm.exec) (hb : c.code = cc) (hw : ∀ w ∈ gG, w.before args s = true) (hK : GK x s) (hG : GH x S s H locs) (kd : gKd ci C T N ty) (hca : Cond.castable C "java/lang/Object" ∈ gG) (ha : isA S 12 a) (hv : isA S k b) (he : gC x k (sN S b) (fun f => sI S f b) (fun f => sQ S f b) (sR S b) (sP S b) (sJ S b) = .inr (ci, fs)) {i : Int32} (hin : vp_in i (sN S a)) (hdg : decode cc pc = .ok (.aastore, 1))
    (kk : ∀ (S2 : St) (H1 : Heap) (locs1 : List Loc), S2 = pP S a i.toNatClampNeg (some b) → gle S S2 → GH x S2 s H1 locs1 → W p l e R s m args below meth c H1 locs1 cells slots Q (F0 m (pc + 1) ls rest)) : W p l e R s m args below meth c H locs cells slots Q (F0 m pc ls (.ref b :: .int i :: .ref a :: rest)) := by
  obtain ⟨k0, h1, h2⟩ := gplace ha.1 (gE_at (x := x) ha rfl)
  obtain ⟨k1, h3, -⟩ := gplace hv.1 (gE_at hv he)
  exact va_astqO hx hb hK.1 hG.1 hG.2.1 hG.2.2.1 k0 3 k1 ci (r := (C, T, N)) h1 rfl (hK.2.2.1 _ hca) h3 kd.2.1 hin hdg (fun H1 locs1 g1 g2 g3 => kk _ H1 locs1 rfl (gChP (x := x) ha rfl).2.1 (gback hG ha.1 h2 (gChP ha rfl) g1 g2 g3))
theorem galen (hx : p.tables.exec = Jvm.exec) (hb : c.code = cc) (hK : GK x s) (hG : GH x S s H locs) (ha : isA S k a) {cA : ClassId} {y : vp_A} (he : gC x k (sN S a) (fun f => sI S f a) (fun f => sQ S f a) (sR S a) (sP S a) (sJ S a) = .inl (cA, y)) (t0 : Nat) {t : FieldType} (ht : (gTy x)[t0]? = some (cA, t)) (hn : y.1 = sN S a) (hdg : decode cc pc = .ok (.arraylength, 1))
    (kk : W p l e R s m args below meth c H locs cells slots Q (F0 m (pc + 1) ls (.int (nI (sN S a)) :: rest))) : W p l e R s m args below meth c H locs cells slots Q (F0 m pc ls (.ref a :: rest)) := by
  obtain ⟨k0, h1, -⟩ := gplace ha.1 (gE_at (x := x) ha he)
  exact va_alen hx hb hK.1 hG.1 k0 t0 h1 ht (by rw [hn]; rfl) hdg kk
/-- the shared empty row -/
theorem galenX (hx : p.tables.exec = Jvm.exec) (hb : c.code = cc) (hK : GK x s) (hG : GH x S s H locs) (ha : a = sX S) (hdg : decode cc pc = .ok (.arraylength, 1))
    (kk : W p l e R s m args below meth c H locs cells slots Q (F0 m (pc + 1) ls (.int 0 :: rest))) : W p l e R s m args below meth c H locs cells slots Q (F0 m pc ls (.ref a :: rest)) := by
  rw [ha, hG.2.2.2]
  exact va_tlen hx hb hK.2.2.2.2.2.2.2.1.2 hG.2.2.1 rfl hdg kk
/-- a static row of ints -/
theorem gdx (hx : p.tables.exec = Jvm.exec) (hb : c.code = cc) (hK : GK x s) (hG : GH x S s H locs) {i : Int32} (hin : vp_in i 4) (hdg : decode cc pc = .ok (.iaload, 1))
    (kk : W p l e R s m args below meth c H locs cells slots Q (F0 m (pc + 1) ls (.int (dxT i.toNatClampNeg) :: rest))) : W p l e R s m args below meth c H locs cells slots Q (F0 m pc ls (.int i :: .ref (xDx x) :: rest)) := va_ti hx hb hK.2.2.2.2.1.2 hG.2.2.1 hin rfl hdg kk
theorem gdy (hx : p.tables.exec = Jvm.exec) (hb : c.code = cc) (hK : GK x s) (hG : GH x S s H locs) {i : Int32} (hin : vp_in i 4) (hdg : decode cc pc = .ok (.iaload, 1))
    (kk : W p l e R s m args below meth c H locs cells slots Q (F0 m (pc + 1) ls (.int (dyT i.toNatClampNeg) :: rest))) : W p l e R s m args below meth c H locs cells slots Q (F0 m pc ls (.int i :: .ref (xDy x) :: rest)) := va_ti hx hb hK.2.2.2.2.2.1.2 hG.2.2.1 hin rfl hdg kk
theorem gsDx (hx : p.tables.exec = Jvm.exec) (hb : c.code = cc) (hw : ∀ w ∈ gG, w.before args s = true) (hown : s.vm.findClass own = some m.cls) (hK : GK x s) (hG : GH x S s H locs) (hlink : (Cond.fieldLink own index "WaltzHallModel" "DX" "[I") ∈ gG) (hdg : decode cc pc = .ok (.getstatic index, 3))
    (kk : W p l e R s m args below meth c H locs cells slots Q (F0 m (pc + 3) ls (.ref (xDx x) :: rest))) : W p l e R s m args below meth c H locs cells slots Q (F0 m pc ls rest) := va_gets hx hb hK.2.2.2.2.1.1 hG.2.2.1 hown (hw _ hlink) (fun _ h => h) hdg kk
theorem gsDy (hx : p.tables.exec = Jvm.exec) (hb : c.code = cc) (hw : ∀ w ∈ gG, w.before args s = true) (hown : s.vm.findClass own = some m.cls) (hK : GK x s) (hG : GH x S s H locs) (hlink : (Cond.fieldLink own index "WaltzHallModel" "DY" "[I") ∈ gG) (hdg : decode cc pc = .ok (.getstatic index, 3))
    (kk : W p l e R s m args below meth c H locs cells slots Q (F0 m (pc + 3) ls (.ref (xDy x) :: rest))) : W p l e R s m args below meth c H locs cells slots Q (F0 m pc ls rest) := va_gets hx hb hK.2.2.2.2.2.1.1 hG.2.2.1 hown (hw _ hlink) (fun _ h => h) hdg kk
theorem gsFs (hx : p.tables.exec = Jvm.exec) (hb : c.code = cc) (hw : ∀ w ∈ gG, w.before args s = true) (hown : s.vm.findClass own = some m.cls) (hK : GK x s) (hG : GH x S s H locs) (hlink : (Cond.fieldLink own index "WaltzHallModel" "FIRST" "[Ljava/lang/String;") ∈ gG) (hdg : decode cc pc = .ok (.getstatic index, 3))
    (kk : W p l e R s m args below meth c H locs cells slots Q (F0 m (pc + 3) ls (.ref (xFs x) :: rest))) : W p l e R s m args below meth c H locs cells slots Q (F0 m pc ls rest) := va_gets hx hb hK.2.2.2.2.2.2.1.1 hG.2.2.1 hown (hw _ hlink) (fun _ h => h) hdg kk
theorem gsEm (hx : p.tables.exec = Jvm.exec) (hb : c.code = cc) (hw : ∀ w ∈ gG, w.before args s = true) (hown : s.vm.findClass own = some m.cls) (hK : GK x s) (hG : GH x S s H locs) (hlink : (Cond.fieldLink own index "java/util/ArrayList" "DEFAULTCAPACITY_EMPTY_ELEMENTDATA" "[Ljava/lang/Object;") ∈ gG) (hdg : decode cc pc = .ok (.getstatic index, 3))
    (kk : W p l e R s m args below meth c H locs cells slots Q (F0 m (pc + 3) ls (.ref (sX S) :: rest))) : W p l e R s m args below meth c H locs cells slots Q (F0 m pc ls rest) := by
  rw [hG.2.2.2] at kk
  exact va_gets hx hb hK.2.2.2.2.2.2.2.1.1 hG.2.2.1 hown (hw _ hlink) (fun _ h => h) hdg kk
-- new
theorem gnew (hx : p.tables.exec = Jvm.exec) (hb : c.code = cc) (hw : ∀ w ∈ gG, w.before args s = true) (hown : s.vm.findClass own = some m.cls) (hK : GK x s) (hG : GH x S s H locs) (kd : gKd ci C T N ty) (hcl : Cond.classLink own index C ∈ gG) (hins : Cond.instantiable C N ∈ gG) (hini : Cond.initialized C ∈ gG) (he : gC x k 0 (fun _ => 0) (fun _ => none) (fun _ => 0) (fun _ => none) (fun _ => 0) = .inr (ci, fs)) (hfs : ∀ j, j < N → defaultValue (ty j) = vp_V fs j) (hc : cells + 1 ≤ R.cells) (hs : slots + N ≤ R.slots) (hdg : decode cc pc = .ok (.new index, 3))
    (kk : ∀ (q : Nat) (S2 : St) (H1 : Heap), q ∉ sL S → S2 = pNew S q k 0 → gle S S2 → GH x S2 s H1 locs → W p l e R s m args below meth c H1 locs (cells + 1) (slots + N) Q (F0 m (pc + 3) ls (.ref q :: rest))) : W p l e R s m args below meth c H locs cells slots Q (F0 m pc ls rest) := by
  refine va_new hx hb hw kd.1 ty kd.2.2.1 hown (hw _ hcl) (hw _ hins) (hw _ hini) hK.1 hG.1 hG.2.1 hG.2.2.1 hK.2.1 kd.2.1 hfs hc hs hdg (fun q H1 g1 g2 g3 => ?_)
  have hq : q ∉ sL S := va_pl_fresh2 (X := []) (f := gE x S) g2
  rw [gpush hq he] at g1 g2
  exact kk q _ H1 hq rfl (gle_new hq) ⟨g1, g2, g3, hG.2.2.2⟩
theorem gnewa {atype : ArrayType} {t : FieldType} {cA : ClassId} {n : Int32} {N' : Nat} (hN : n.toNatClampNeg = N') (t0 : Nat) (hx : p.tables.exec = Jvm.exec) (hb : c.code = cc) (hw : ∀ w ∈ gG, w.before args s = true) (hK : GK x s) (hG : GH x S s H locs) (harr : Cond.arrayClass (newarray.typeOf atype) ∈ gG) (ht : newarray.typeOf atype = t) (hR : ∀ (U : State) (c1 : ClassId), va_RA U c1 t = (U.vm.findClass ("[" ++ t.toString) = some c1)) (htc : (gTy x)[t0]? = some (cA, t)) {a0 : vp_A} (he : gC x k N' (fun _ => 0) (fun _ => none) (fun _ => 0) (fun _ => none) (fun _ => 0) = .inl (cA, a0)) (hcell : ∀ c1 : ClassId, vp_cell c1 a0 = arrV c1 N' (fun _ => defaultValue t))
    (hn : ¬ n < 0) (hby : N' * componentBytes t ≤ 536870912) (hc : cells + 1 ≤ R.cells) (hs : slots + N' ≤ R.slots) (hdg : decode cc pc = .ok (.newarray atype, 2))
    (kk : ∀ (q : Nat) (S2 : St) (H1 : Heap), q ∉ sL S → S2 = pNew S q k N' → gle S S2 → GH x S2 s H1 locs → W p l e R s m args below meth c H1 locs (cells + 1) (slots + N') Q (F0 m (pc + 2) ls (.ref q :: rest))) : W p l e R s m args below meth c H locs cells slots Q (F0 m pc ls (.int n :: rest)) := by
  refine va_newa (a0 := a0) hx hb (hw _ harr) ht hK.1 hG.1 hG.2.1 hG.2.2.1 hK.2.1 hcell hn hN hby hc hs hdg (fun q c1 H1 g0 g1 g2 g3 => ?_)
  have hq : q ∉ sL S := va_pl_fresh2 (X := []) (f := gE x S) g2
  have r1 := (g0.2 (gTy x).length (c1, t) (by rw [List.getElem?_append_right (Nat.le_refl _), Nat.sub_self]; rfl)).2
  have r2 := (hK.1.2 t0 (cA, t) htc).2
  rw [hR] at r1 r2
  have e1 : c1 = cA := Option.some.inj (r1.symm.trans r2)
  subst e1
  rw [gpush hq he] at g1 g2
  exact kk q _ H1 hq rfl (gle_new hq) ⟨g1, g2, g3, hG.2.2.2⟩
theorem gnewq {n : Int32} (hx : p.tables.exec = Jvm.exec) (hb : c.code = cc) (hw : ∀ w ∈ gG, w.before args s = true) (hown : s.vm.findClass own = some m.cls) (hK : GK x s) (hG : GH x S s H locs) (hcl : Cond.classLink own index "java/lang/Object" ∈ gG) (hov : Cond.arrayOver (.object "java/lang/Object") ∈ gG) (hn : ¬ n < 0) (hby : n.toNatClampNeg * 4 ≤ 536870912) (hc : cells + 1 ≤ R.cells) (hs : slots + n.toNatClampNeg ≤ R.slots) (hdg : decode cc pc = .ok (.anewarray index, 3))
    (kk : ∀ (q : Nat) (S2 : St) (H1 : Heap), q ∉ sL S → S2 = pNew S q 12 n.toNatClampNeg → gle S S2 → GH x S2 s H1 locs → W p l e R s m args below meth c H1 locs (cells + 1) (slots + n.toNatClampNeg) Q (F0 m (pc + 3) ls (.ref q :: rest))) : W p l e R s m args below meth c H locs cells slots Q (F0 m pc ls (.int n :: rest)) := by
  refine va_newq hx hb hown (hw _ hcl) (hK.2.2.1 _ hov) hK.1 hG.1 hG.2.1 hG.2.2.1 hK.2.1 hn rfl hby hc hs hdg (fun q c1 H1 g0 g1 g2 g3 => ?_)
  have hq : q ∉ sL S := va_pl_fresh2 (X := []) (f := gE x S) g2
  obtain ⟨-, -, -, -, -, r1⟩ := (g0.2 (gTy x).length (c1, .object "java/lang/Object") (by rw [List.getElem?_append_right (Nat.le_refl _), Nat.sub_self]; rfl)).2
  obtain ⟨-, -, -, -, -, r2⟩ := (hK.1.2 3 (xO x, .object "java/lang/Object") rfl).2
  have e1 : c1 = xO x := Option.some.inj (r1.symm.trans r2)
  subst e1
  rw [gpush (x := x) (k := 12) (n := n.toNatClampNeg) (e := .inl (xO x, n.toNatClampNeg, .inr (.inr (.inr (.inr (fun _ => none)))))) hq rfl] at g1 g2
  exact kk q _ H1 hq rfl (gle_new hq) ⟨g1, g2, g3, hG.2.2.2⟩
-- references that may be null
theorem gaload_n {i : Nat} {o : Option Nat} {z : Fin 4} (hx : p.tables.exec = Jvm.exec) (hb : c.code = cc) (hdg : decode cc pc = .ok (.aload_n z, 1)) (hi : (z : Nat) = i) (hl : ls[i]? = some (.val (va_rf o)))
    (k : W p l e R s m args below meth c H locs cells slots Q (F0 m (pc + 1) ls (va_rf o :: rest))) : W p l e R s m args below meth c H locs cells slots Q (F0 m pc ls rest) := by
  cases o with
  | none => exact lv_aload_nN hx hb hdg hi hl k
  | some b => exact lv_aload_n hx hb hdg hi hl k
theorem gaload {i : Nat} {o : Option Nat} (hx : p.tables.exec = Jvm.exec) (hb : c.code = cc) (hdg : decode cc pc = .ok (.aload i, 2)) (hl : ls[i]? = some (.val (va_rf o)))
    (k : W p l e R s m args below meth c H locs cells slots Q (F0 m (pc + 2) ls (va_rf o :: rest))) : W p l e R s m args below meth c H locs cells slots Q (F0 m pc ls rest) := by
  cases o with
  | none => exact lv_aloadN hx hb hdg hl k
  | some b => exact lv_aload hx hb hdg hl k
theorem gastore_n {i nL : Nat} {o : Option Nat} {z : Fin 4} {lv lv' : List (Nat × Value)} (hx : p.tables.exec = Jvm.exec) (hb : c.code = cc) (hdg : decode cc pc = .ok (.astore_n z, 1)) (hi : (z : Nat) = i) (h : lv_has ls nL lv) (hn : i < nL) (hl : (i, va_rf o) :: lv.filter (fun q => !(q.1 == i) && !(q.1 + 1 == i && q.2.category == 2)) = lv')
    (kk : ∀ ls' : Array Slot, lv_has ls' nL lv' → W p l e R s m args below meth c H locs cells slots Q (F0 m (pc + 1) ls' rest)) : W p l e R s m args below meth c H locs cells slots Q (F0 m pc ls (va_rf o :: rest)) := by
  cases o with
  | none => exact lv_astore_nN hx hb hdg hi h hn hl kk
  | some b => exact lv_astore_n hx hb hdg hi h hn hl kk
theorem gastore {i nL : Nat} {o : Option Nat} {lv lv' : List (Nat × Value)} (hx : p.tables.exec = Jvm.exec) (hb : c.code = cc) (hdg : decode cc pc = .ok (.astore i, 2)) (h : lv_has ls nL lv) (hn : i < nL) (hl : (i, va_rf o) :: lv.filter (fun q => !(q.1 == i) && !(q.1 + 1 == i && q.2.category == 2)) = lv')
    (kk : ∀ ls' : Array Slot, lv_has ls' nL lv' → W p l e R s m args below meth c H locs cells slots Q (F0 m (pc + 2) ls' rest)) : W p l e R s m args below meth c H locs cells slots Q (F0 m pc ls (va_rf o :: rest)) := by
  cases o with
  | none => exact lv_astoreN hx hb hdg h hn hl kk
  | some b => exact lv_astore hx hb hdg h hn hl kk
theorem gifnull {o : Option Nat} {off : Int} {tgt : Nat} (hx : p.tables.exec = Jvm.exec) (hb : c.code = cc) (hdg : decode cc pc = .ok (.ifnull off, 3)) (ht : (pc : Int) + off = (tgt : Int))
    (kt : o = none → W p l e R s m args below meth c H locs cells slots Q (F0 m tgt ls rest)) (kf : ∀ b, o = some b → W p l e R s m args below meth c H locs cells slots Q (F0 m (pc + 3) ls rest)) : W p l e R s m args below meth c H locs cells slots Q (F0 m pc ls (va_rf o :: rest)) := by
  cases o with
  | none => exact lv_ifnullN hx hb hdg ht (kt rfl)
  | some b => exact lv_ifnull hx hb hdg (kf b rfl)
theorem gifnonnull {o : Option Nat} {off : Int} {tgt : Nat} (hx : p.tables.exec = Jvm.exec) (hb : c.code = cc) (hdg : decode cc pc = .ok (.ifnonnull off, 3)) (ht : (pc : Int) + off = (tgt : Int))
    (kt : ∀ b, o = some b → W p l e R s m args below meth c H locs cells slots Q (F0 m tgt ls rest)) (kf : o = none → W p l e R s m args below meth c H locs cells slots Q (F0 m (pc + 3) ls rest)) : W p l e R s m args below meth c H locs cells slots Q (F0 m pc ls (va_rf o :: rest)) := by
  cases o with
  | none => exact lv_ifnonnullN hx hb hdg (kf rfl)
  | some b => exact lv_ifnonnull hx hb hdg ht (kt b rfl)
theorem gcast (hx : p.tables.exec = Jvm.exec) (hb : c.code = cc) (hw : ∀ w ∈ gG, w.before args s = true) (hown : s.vm.findClass own = some m.cls) (hK : GK x s) (hG : GH x S s H locs) (kd : gKd ci C T N ty) (hlink : Cond.classLink own index C ∈ gG) (ha : isA S k a) (he : gC x k (sN S a) (fun f => sI S f a) (fun f => sQ S f a) (sR S a) (sP S a) (sJ S a) = .inr (ci, fs)) (hdg : decode cc pc = .ok (.checkcast index, 3))
    (kk : W p l e R s m args below meth c H locs cells slots Q (F0 m (pc + 3) ls (.ref a :: rest))) : W p l e R s m args below meth c H locs cells slots Q (F0 m pc ls (.ref a :: rest)) := by
  obtain ⟨k0, h1, -⟩ := gplace ha.1 (gE_at ha he)
  exact va_castS hx hb hown (hw _ hlink) (hK.1.1 ci _ kd.2.1).2 (va_recv hK.1 hG.1 kd.2.1 h1) hdg kk
-- calls
theorem gpS {As : List Value} (hK : GK x s) (hG : GH x S s H locs) : PreS s H (va_Pc As (GW x S)) As := ⟨GW.blind, fun _ hU hW => ⟨rfl, GW.at hK hG hU hW⟩⟩
theorem gpV {As : List Value} (hK : GK x s) (hG : GH x S s H locs) (kd : gKd ci C T N ty) (ha : isA S k a) (he : gC x k (sN S a) (fun f => sI S f a) (fun f => sQ S f a) (sR S a) (sP S a) (sJ S a) = .inr (ci, fs)) : PreV s H C a (va_Pc (.ref a :: As) (GW x S)) As := by
  obtain ⟨k0, h1, -⟩ := gplace ha.1 (gE_at ha he)
  exact ⟨GW.blind, va_recv hK.1 hG.1 kd.2.1 h1, fun _ hU hW => ⟨rfl, GW.at hK hG hU hW⟩⟩
theorem gcb {y : MethodName} {bytes : ByteArray} {maxL mc ms n : Nat} {ret : Option FieldType} {rm : Room} (hw : ∀ w ∈ gG, w.before args s = true) (h1 : Cond.code y bytes maxL ret ∈ gG) (h2 : Cond.initialized y.cls ∈ gG) (h3 : Cond.methodLink own index y ∈ gG) (hd : y.cls ≠ "java/lang/invoke/MethodHandle" ∧ y.cls ≠ "java/lang/invoke/VarHandle" ∧ (parseMethodDescriptor y.desc).map (fun d => d.parameters.length) = some n) (hrc : rm.cells = mc) (hrs : rm.slots = ms) (hR : rm.frames + 1 ≤ R.frames ∧ 8 + (maxL + 11) + rm.locals ≤ R.locals) :
    CallB R s args own index y bytes maxL ret [.code y bytes maxL ret] rm mc ms n := by
  refine ⟨hrc, hrs, hR.1, hR.2, fun w hw' a' U hW => ?_, List.mem_cons_self, hw _ h1, hw _ h2, ⟨hd.1, hd.2.1⟩, fun sig h => ?_, hw _ h3⟩
  · cases List.mem_singleton.mp hw'
    exact word_at hW (Or.inl rfl) (hw _ h1)
  · have h4 := hd.2.2
    rw [h] at h4
    exact (Option.some.inj h4).symm
theorem gcn {y : MethodName} {host : String} {bytes : ByteArray} {maxL mc ms n : Nat} {ret : Option FieldType} {rm : Room} (hw : ∀ w ∈ gG, w.before args s = true) (h1 : Cond.code y bytes maxL ret ∈ gG) (h2 : Cond.initialized y.cls ∈ gG) (h3 : Cond.methodLinkNest own index y host ∈ gG) (hd : y.cls ≠ "java/lang/invoke/MethodHandle" ∧ y.cls ≠ "java/lang/invoke/VarHandle" ∧ (parseMethodDescriptor y.desc).map (fun d => d.parameters.length) = some n) (hrc : rm.cells = mc) (hrs : rm.slots = ms) (hR : rm.frames + 1 ≤ R.frames ∧ 8 + (maxL + 11) + rm.locals ≤ R.locals) :
    va_CN R s args own index y host bytes maxL ret [.code y bytes maxL ret] rm mc ms n := by
  refine ⟨⟨hrc, hrs, hR.1, hR.2, fun w hw' a' U hW => ?_, List.mem_cons_self⟩, hw _ h1, hw _ h2, ⟨hd.1, hd.2.1⟩, fun sig h => ?_, hw _ h3⟩
  · cases List.mem_singleton.mp hw'
    exact word_at hW (Or.inl rfl) (hw _ h1)
  · have h4 := hd.2.2
    rw [h] at h4
    exact (Option.some.inj h4).symm
variable {mc ms : Nat} {st0 : List Value} {va : Array Value}
theorem gci {post : Int32 → St → Prop} (hK : GK x s) (hG : GH x S s H locs) (hr : va_Run p l e R s m args below meth c H locs cells slots mc ms (F0 m pc ls st0) rest (va_Qi post (gB x S) (xA x) va) (xA x))
    (kk : ∀ (r : Int32) (S1 : St) (H1 : Heap) (locs1 : List Loc), post r S1 → gle S S1 → GH x S1 s H1 locs1 → W p l e R s m args below meth c H1 locs1 (cells + mc) (slots + ms) Q (F0 m (pc + 3) ls (.int r :: rest))) : W p l e R s m args below meth c H locs cells slots Q (F0 m pc ls st0) :=
  va_calli hr hG.2.2.1 (fun _ _ h => h) (fun _ h => h) (fun r u t H1 locs1 ht _ hp hB _ _ hS => kk r u H1 locs1 hp hB.2 (GH.back ht hB.1 hS))
theorem gcl {post : Int64 → St → Prop} (hK : GK x s) (hG : GH x S s H locs) (hr : va_Run p l e R s m args below meth c H locs cells slots mc ms (F0 m pc ls st0) rest (va_Ql post (gB x S) (xA x) va) (xA x))
    (kk : ∀ (r : Int64) (S1 : St) (H1 : Heap) (locs1 : List Loc), post r S1 → gle S S1 → GH x S1 s H1 locs1 → W p l e R s m args below meth c H1 locs1 (cells + mc) (slots + ms) Q (F0 m (pc + 3) ls (.long r :: rest))) : W p l e R s m args below meth c H locs cells slots Q (F0 m pc ls st0) :=
  va_calll hr hG.2.2.1 (fun _ _ h => h) (fun _ h => h) (fun r u t H1 locs1 ht _ hp hB _ _ hS => kk r u H1 locs1 hp hB.2 (GH.back ht hB.1 hS))
theorem gcq {post : Option Nat → St → Prop} (hK : GK x s) (hG : GH x S s H locs) (hr : va_Run p l e R s m args below meth c H locs cells slots mc ms (F0 m pc ls st0) rest (va_Qq post (gB x S) (xA x) va) (xA x))
    (kk : ∀ (r : Option Nat) (S1 : St) (H1 : Heap) (locs1 : List Loc), post r S1 → gle S S1 → GH x S1 s H1 locs1 → W p l e R s m args below meth c H1 locs1 (cells + mc) (slots + ms) Q (F0 m (pc + 3) ls (va_rf r :: rest))) : W p l e R s m args below meth c H locs cells slots Q (F0 m pc ls st0) :=
  va_callq hr hG.2.2.1 (fun _ _ h => h) (fun _ h => h) (fun r u t H1 locs1 ht _ hp hB _ _ hS => kk r u H1 locs1 hp hB.2 (GH.back ht hB.1 hS))
theorem gcv {post : St → Prop} (hK : GK x s) (hG : GH x S s H locs) (hr : va_Run p l e R s m args below meth c H locs cells slots mc ms (F0 m pc ls st0) rest (va_Qv post (gB x S) (xA x) va) (xA x))
    (kk : ∀ (S1 : St) (H1 : Heap) (locs1 : List Loc), post S1 → gle S S1 → GH x S1 s H1 locs1 → W p l e R s m args below meth c H1 locs1 (cells + mc) (slots + ms) Q (F0 m (pc + 3) ls rest)) : W p l e R s m args below meth c H locs cells slots Q (F0 m pc ls st0) :=
  va_callv hr hG.2.2.1 (fun _ _ h => h) (fun _ h => h) (fun u t H1 locs1 ht _ hp hB _ _ hS => kk u H1 locs1 hp hB.2 (GH.back ht hB.1 hS))
-- ends
variable {S0 : St}
theorem giret {post : Int32 → St → Prop} {v : Int32} (hx : p.tables.exec = Jvm.exec) (hb : c.code = cc) (hr : meth.sig.returnType = some .int) (hlocks : meth.locks = false) (hK : GK x s) (hG : GH x S s H locs) (hle : gle S0 S) (h : post v S) (h1 : cells ≤ mc) (h2 : slots ≤ ms) (hdg : decode cc pc = .ok (.ireturn, 1)) : W p l e R s m args below meth c H locs cells slots (MQ below (va_Qi post (gB x S0) (xA x)) args s mc ms (xA x)) (F0 m pc ls [.int v]) :=
  W.widen h1 h2 (W.iret hx hb hr (fun _ ht hW => ⟨⟨v, S, rfl, h, GW.at hK hG ht hW, hle⟩, hG.2.2.1.F ht⟩) hG.2.2.1.2.2 hdg hlocks)
theorem gzret {post : Int32 → St → Prop} {v : Int32} {t : FieldType} (hx : p.tables.exec = Jvm.exec) (hb : c.code = cc) (hr : meth.sig.returnType = some t) (hn : narrow t (.int v) = .int v) (hlocks : meth.locks = false) (hK : GK x s) (hG : GH x S s H locs) (hle : gle S0 S) (h : post v S) (h1 : cells ≤ mc) (h2 : slots ≤ ms) (hdg : decode cc pc = .ok (.ireturn, 1)) : W p l e R s m args below meth c H locs cells slots (MQ below (va_Qi post (gB x S0) (xA x)) args s mc ms (xA x)) (F0 m pc ls [.int v]) :=
  W.widen h1 h2 (W.zret hx hb hr hn (fun _ ht hW => ⟨⟨v, S, rfl, h, GW.at hK hG ht hW, hle⟩, hG.2.2.1.F ht⟩) hG.2.2.1.2.2 hdg hlocks)
theorem glret {post : Int64 → St → Prop} {v : Int64} (hx : p.tables.exec = Jvm.exec) (hb : c.code = cc) (hr : meth.sig.returnType = some .long) (hlocks : meth.locks = false) (hK : GK x s) (hG : GH x S s H locs) (hle : gle S0 S) (h : post v S) (h1 : cells ≤ mc) (h2 : slots ≤ ms) (hdg : decode cc pc = .ok (.lreturn, 1)) : W p l e R s m args below meth c H locs cells slots (MQ below (va_Ql post (gB x S0) (xA x)) args s mc ms (xA x)) (F0 m pc ls [.long v]) :=
  W.widen h1 h2 (W.lret hx hb hr (fun _ ht hW => ⟨⟨v, S, rfl, h, GW.at hK hG ht hW, hle⟩, hG.2.2.1.F ht⟩) hG.2.2.1.2.2 hdg hlocks)
theorem gdret {post : UInt64 → St → Prop} {v : UInt64} (hx : p.tables.exec = Jvm.exec) (hb : c.code = cc) (hr : meth.sig.returnType = some .double) (hlocks : meth.locks = false) (hK : GK x s) (hG : GH x S s H locs) (hle : gle S0 S) (h : post v S) (h1 : cells ≤ mc) (h2 : slots ≤ ms) (hdg : decode cc pc = .ok (.dreturn, 1)) : W p l e R s m args below meth c H locs cells slots (MQ below (va_Qd post (gB x S0) (xA x)) args s mc ms (xA x)) (F0 m pc ls [.double v]) :=
  W.widen h1 h2 (W.dret hx hb hr (fun _ ht hW => ⟨⟨v, S, rfl, h, GW.at hK hG ht hW, hle⟩, hG.2.2.1.F ht⟩) hG.2.2.1.2.2 hdg hlocks)
theorem gvret {post : St → Prop} (hx : p.tables.exec = Jvm.exec) (hb : c.code = cc) (hr : meth.sig.returnType = none) (hlocks : meth.locks = false) (hK : GK x s) (hG : GH x S s H locs) (hle : gle S0 S) (h : post S) (h1 : cells ≤ mc) (h2 : slots ≤ ms) (hdg : decode cc pc = .ok (.return_, 1)) : W p l e R s m args below meth c H locs cells slots (MQ below (va_Qv post (gB x S0) (xA x)) args s mc ms (xA x)) (F0 m pc ls []) :=
  W.widen h1 h2 (W.vret hx hb hr (fun _ ht hW => ⟨⟨S, rfl, h, GW.at hK hG ht hW, hle⟩, hG.2.2.1.F ht⟩) hG.2.2.1.2.2 hdg hlocks)
theorem garet {post : Option Nat → St → Prop} {o : Option Nat} {t : FieldType} (hx : p.tables.exec = Jvm.exec) (hb : c.code = cc) (hr : meth.sig.returnType = some t) (hrt : (∃ n, t = .object n) ∨ ∃ u, t = .array u) (hlocks : meth.locks = false) (hK : GK x s) (hG : GH x S s H locs) (hle : gle S0 S) (h : post o S) (h1 : cells ≤ mc) (h2 : slots ≤ ms) (hdg : decode cc pc = .ok (.areturn, 1)) : W p l e R s m args below meth c H locs cells slots (MQ below (va_Qq post (gB x S0) (xA x)) args s mc ms (xA x)) (F0 m pc ls [va_rf o]) :=
  W.widen h1 h2 (W.aret hx hb hr hrt (va_rf_or o) (fun _ ht hW => ⟨⟨o, S, rfl, h, GW.at hK hG ht hW, hle⟩, hG.2.2.1.F ht⟩) hG.2.2.1.2.2 hdg hlocks)
end GR
-- exceptions: px E S' is what is said where E is thrown
def GP (x : Cx) (S : St) (t : State) : Prop := va_P (xD x) gCl (gWs x S) t.heap ∧ va_D (xA x) (gWs x S) ∧ sX S = xEm x
def gX (x : Cx) (S : St) (px : String → St → Prop) : String → State → State → Prop := vx_X (fun _ : St => True) (fun E u t => px E u ∧ GP x u t ∧ gle S u) (xA x)
theorem GH.backP {x : Cx} {S' : St} {s t : State} {H1 : Heap} {locs : List Loc} (ht : t.heap = H1) (hB : GP x S' t) (hS : va_S (xA x) s.heap H1 locs) : GH x S' s H1 locs := by
  obtain ⟨g1, g2, g3⟩ := hB
  rw [ht] at g1
  exact ⟨g1, g2, hS, g3⟩
section GXQ
variable {p : Program} {l : Launch} {e : Env} {R : Room} {s : State} {m : MethodId} {args : Array Value} {below : List Frame} {meth : Method} {c : Code} {H : Heap} {locs : List Loc} {cells slots : Nat} {Q : State → Prop}
variable {mc ms : Nat} {free : Addr → Prop} {A0 A1 : Nat → Prop} {H0 : Heap} {a : Array Value} {pc : Nat} {ls : Array Slot} {st0 rest : List Value}
theorem vx_callq {S SX : Type} {post : Option Nat → S → Prop} {px : SX → Prop} {B : S → State → Prop} {BX : String → SX → State → Prop} {AX : Nat → Prop} (hr : vx_Run p l e R s m args below meth c H locs cells slots mc ms (F0 m pc ls st0) rest (va_Qq post B A1 a) (vx_X px BX AX) free) (hS : va_S A0 H0 H locs) (hA : ∀ q, q < H.size → A1 q → A0 q) (hf : ∀ q, free q → A0 q) (hAX : ∀ q, q < H.size → AX q → A0 q)
    (kx : ∀ (E : String) (ce : Cell) (q9 : Addr) (u : SX) (t : State) (H1 : Heap) (locs1 : List Loc), t.heap = H1 → s.vm.Alike t.vm → px u → BX E u t → H.size ≤ H1.size → (∀ q : Nat, q < H.size → ¬ AX q → H1[q]? = H[q]?) → va_S A0 H0 H1 locs1 → H1[q9]? = some ce → ce.vm = .none → s.vm.findClass E = some ce.cls → vx_W p l e R s m args below meth c H1 locs1 (cells + mc) (slots + ms) Q (F0 m pc ls rest) q9)
    (kk : ∀ (r : Option Nat) (u : S) (t : State) (H1 : Heap) (locs1 : List Loc), t.heap = H1 → s.vm.Alike t.vm → post r u → B u t → H.size ≤ H1.size → (∀ q : Nat, q < H.size → ¬ A1 q → H1[q]? = H[q]?) → va_S A0 H0 H1 locs1 → W p l e R s m args below meth c H1 locs1 (cells + mc) (slots + ms) Q (F0 m (pc + 3) ls (va_rf r :: rest))) : W p l e R s m args below meth c H locs cells slots Q (F0 m pc ls st0) := by
  intro T hT X
  rcases hr T hT X with ⟨v, st₀, t, T', L, h0, X', hL, e1, e2, ⟨⟨r, u, hv, hp, hb⟩, hF⟩, st⟩ | ⟨q, st₀, t, T', L, E, ce, h0, X', hL, e1, e2, ⟨u, hp, hb, hF⟩, hce, hcv, hcl, st⟩
  · cases hv
    obtain ⟨k1, k2, k3⟩ := vx_keep h0 e1 hS hA hf hL hF
    obtain ⟨t2, a1, b1⟩ := kk r u t T'.heap (locs ++ L) e1.symm (by rw [← e2]; exact X'.warmed.alike) hp hb k1 k2 k3 T' rfl X'
    exact ⟨t2, st t2 a1, b1⟩
  · obtain ⟨k1, k2, k3⟩ := vx_keep h0 e1 hS hAX hf hL hF
    obtain ⟨t2, a1, b1⟩ := kx E ce q u t T'.heap (locs ++ L) e1.symm (by rw [← e2]; exact X'.warmed.alike) hp hb k1 k2 k3 (by rw [e1]; exact hce) hcv hcl T' rfl X'
    exact ⟨t2, st.trans a1, b1⟩
end GXQ
section GX
variable {p : Program} {l : Launch} {e : Env} {R : Room} {s : State} {m : MethodId} {args : Array Value} {below : List Frame} {meth : Method} {c : Code} {H : Heap} {locs : List Loc} {cells slots : Nat} {Q : State → Prop}
variable {cc : ByteArray} {pc : Nat} {ls : Array Slot} {rest : List Value} {x : Cx} {S S0 : St} {own : String} {mc ms mc' ms' : Nat} {st0 : List Value} {va : Array Value} {px px' : String → St → Prop} {Qc : Array Value → State → Outcome → State → Prop}
/-- a throw leaves this method too -/
theorem gxout {E : String} {ce : Cell} {q9 : Addr} {H1 : Heap} {locs1 : List Loc} {S1 : St} {cells1 slots1 : Nat} (htab : ∀ z ∈ c.exceptionTable.toList, False) (hlocks : meth.locks = false) (hle : gle S0 S1) (hG : GH x S1 s H1 locs1) (hp : px E S1) (h1 : cells1 ≤ mc) (h2 : slots1 ≤ ms) (hce : H1[q9]? = some ce) (hv : ce.vm = .none) (hcl : s.vm.findClass E = some ce.cls) :
    vx_W p l e R s m args below meth c H1 locs1 cells1 slots1 (vx_MQ below Qc (gX x S0 px) args s mc ms (xA x)) (F0 m pc ls rest) q9 :=
  vx_out (fun z hz => (htab z hz).elim) hlocks hce hv hcl (fun t ht ha => ⟨S1, trivial, ⟨hp, ⟨by rw [ht]; exact hG.1, hG.2.1, hG.2.2.2⟩, hle⟩, hG.2.2.1.F ht⟩) hG.2.2.1.2.2 h1 h2
theorem gxci {post : Int32 → St → Prop} (hG : GH x S s H locs) (hr : vx_Run p l e R s m args below meth c H locs cells slots mc' ms' (F0 m pc ls st0) rest (va_Qi post (gB x S) (xA x) va) (gX x S px') (xA x)) (htab : ∀ z ∈ c.exceptionTable.toList, False) (hlocks : meth.locks = false) (hle : gle S0 S) (hpx : ∀ E u, px' E u → px E u) (h1 : cells + mc' ≤ mc) (h2 : slots + ms' ≤ ms)
    (kk : ∀ (r : Int32) (S1 : St) (H1 : Heap) (locs1 : List Loc), post r S1 → gle S S1 → GH x S1 s H1 locs1 → W p l e R s m args below meth c H1 locs1 (cells + mc') (slots + ms') (vx_MQ below Qc (gX x S0 px) args s mc ms (xA x)) (F0 m (pc + 3) ls (.int r :: rest))) : W p l e R s m args below meth c H locs cells slots (vx_MQ below Qc (gX x S0 px) args s mc ms (xA x)) (F0 m pc ls st0) :=
  vx_calli hr hG.2.2.1 (fun _ _ h => h) (fun _ h => h) (fun _ _ h => h)
    (fun E ce q9 u t H1 locs1 ht _ _ hB _ _ hS hce hv hcl => gxout htab hlocks (hle.tr hB.2.2) (GH.backP ht hB.2.1 hS) (hpx E u hB.1) h1 h2 hce hv hcl)
    (fun r u t H1 locs1 ht _ hp hB _ _ hS => kk r u H1 locs1 hp hB.2 (GH.back ht hB.1 hS))
theorem gxcq {post : Option Nat → St → Prop} (hG : GH x S s H locs) (hr : vx_Run p l e R s m args below meth c H locs cells slots mc' ms' (F0 m pc ls st0) rest (va_Qq post (gB x S) (xA x) va) (gX x S px') (xA x)) (htab : ∀ z ∈ c.exceptionTable.toList, False) (hlocks : meth.locks = false) (hle : gle S0 S) (hpx : ∀ E u, px' E u → px E u) (h1 : cells + mc' ≤ mc) (h2 : slots + ms' ≤ ms)
    (kk : ∀ (r : Option Nat) (S1 : St) (H1 : Heap) (locs1 : List Loc), post r S1 → gle S S1 → GH x S1 s H1 locs1 → W p l e R s m args below meth c H1 locs1 (cells + mc') (slots + ms') (vx_MQ below Qc (gX x S0 px) args s mc ms (xA x)) (F0 m (pc + 3) ls (va_rf r :: rest))) : W p l e R s m args below meth c H locs cells slots (vx_MQ below Qc (gX x S0 px) args s mc ms (xA x)) (F0 m pc ls st0) :=
  vx_callq hr hG.2.2.1 (fun _ _ h => h) (fun _ h => h) (fun _ _ h => h)
    (fun E ce q9 u t H1 locs1 ht _ _ hB _ _ hS hce hv hcl => gxout htab hlocks (hle.tr hB.2.2) (GH.backP ht hB.2.1 hS) (hpx E u hB.1) h1 h2 hce hv hcl)
    (fun r u t H1 locs1 ht _ hp hB _ _ hS => kk r u H1 locs1 hp hB.2 (GH.back ht hB.1 hS))
theorem gxcv {post : St → Prop} (hG : GH x S s H locs) (hr : vx_Run p l e R s m args below meth c H locs cells slots mc' ms' (F0 m pc ls st0) rest (va_Qv post (gB x S) (xA x) va) (gX x S px') (xA x)) (htab : ∀ z ∈ c.exceptionTable.toList, False) (hlocks : meth.locks = false) (hle : gle S0 S) (hpx : ∀ E u, px' E u → px E u) (h1 : cells + mc' ≤ mc) (h2 : slots + ms' ≤ ms)
    (kk : ∀ (S1 : St) (H1 : Heap) (locs1 : List Loc), post S1 → gle S S1 → GH x S1 s H1 locs1 → W p l e R s m args below meth c H1 locs1 (cells + mc') (slots + ms') (vx_MQ below Qc (gX x S0 px) args s mc ms (xA x)) (F0 m (pc + 3) ls rest)) : W p l e R s m args below meth c H locs cells slots (vx_MQ below Qc (gX x S0 px) args s mc ms (xA x)) (F0 m pc ls st0) :=
  vx_callv hr hG.2.2.1 (fun _ _ h => h) (fun _ h => h) (fun _ _ h => h)
    (fun E ce q9 u t H1 locs1 ht _ _ hB _ _ hS hce hv hcl => gxout htab hlocks (hle.tr hB.2.2) (GH.backP ht hB.2.1 hS) (hpx E u hB.1) h1 h2 hce hv hcl)
    (fun u t H1 locs1 ht _ hp hB _ _ hS => kk u H1 locs1 hp hB.2 (GH.back ht hB.1 hS))
/-- 'throw new E("text")' -/
theorem gthrow {E text : String} {ik is ic : Nat} (names : List String) (hx : p.tables.exec = Jvm.exec) (hb : c.code = cc) (hl : l.stackTraces = false) (hw : ∀ w ∈ gG, w.before args s = true) (hown : s.vm.findClass own = some m.cls) (hK : GK x s) (hG : GH x S s H locs) (hE : Bundle.fit E = true) (hn : ∀ n ∈ names, Bundle.fit n = true) (hk : Cond.classLink own ik E ∈ gG) (hini : Cond.initialized E ∈ gG) (hm : (own, is, text) ∈ txM) (hat : ∀ w ∈ vx_atS own ic E names, w ∈ gG) (hgood : ∀ w ∈ Cond.classLink own ik E :: Cond.initialized E :: vx_atS own ic E names, vx_ot w = true) (hsize : ls.size = c.maxLocals)
    (d0 : decode cc pc = .ok (.new ik, 3)) (d3 : decode cc (pc + 3) = .ok (.dup, 1)) (d4 : decode cc (pc + 4) = .ok (.ldc is, 2)) (d6 : decode cc (pc + 6) = .ok (.invokespecial ic, 3)) (d9 : decode cc (pc + 9) = .ok (.athrow, 1)) (htab : ∀ z ∈ c.exceptionTable.toList, False)
    (hRf : names.length + 3 < R.frames) (hRl : (rest.map fun v => v.category).sum + (13 * (names.length + 1) + 43) ≤ R.locals) (hRc : cells + 1 ≤ R.cells) (hRs : slots + 6 ≤ R.slots) (hlocks : meth.locks = false) (hle : gle S0 S) (hp : px E S) (h1 : cells + 1 ≤ mc) (h2 : slots + 6 ≤ ms) :
    W p l e R s m args below meth c H locs cells slots (vx_MQ below Qc (gX x S0 px) args s mc ms (xA x)) (F0 m pc ls rest) := by
  obtain ⟨sa, hsa⟩ := hK.2.2.2.1.2 _ hm
  exact vx_throwS hx hb hl hown hE hn (hw _ hk) (hw _ hini) hsa (fun w h => hw w (hat w h)) hgood hK.2.2.2.2.2.2.2.2.2.2.1 hK.2.2.2.2.2.2.2.2.2.2.2.1 hG.2.2.1 hsize d0 d3 d4 d6 d9 (fun z hz => (htab z hz).elim) hRf hRl hRc hRs hlocks
    (fun t ha hz hq => ⟨S, trivial, ⟨hp, ⟨hG.1.kept (fun k q hk => hq q.1 (hG.1 k q hk).lt), hG.2.1, hG.2.2.2⟩, hle⟩, ⟨Nat.le_trans hG.2.2.1.1 hz, fun q h3 h4 => by rw [hq q (Nat.lt_of_lt_of_le h3 hG.2.2.1.1)]; exact hG.2.2.1.2.1 q h3 h4⟩⟩) hG.2.2.1.2.2 h1 h2
theorem gthrowW {E text : String} {ik is ic : Nat} (names : List String) (hx : p.tables.exec = Jvm.exec) (hb : c.code = cc) (hl : l.stackTraces = false) (hw : ∀ w ∈ gG, w.before args s = true) (hown : s.vm.findClass own = some m.cls) (hK : GK x s) (hG : GH x S s H locs) (hE : Bundle.fit E = true) (hn : ∀ n ∈ names, Bundle.fit n = true) (hk : Cond.classLink own ik E ∈ gG) (hini : Cond.initialized E ∈ gG) (hm : (own, is, text) ∈ txM) (hat : ∀ w ∈ vx_atS own ic E names, w ∈ gG) (hgood : ∀ w ∈ Cond.classLink own ik E :: Cond.initialized E :: vx_atS own ic E names, vx_ot w = true) (hsize : ls.size = c.maxLocals)
    (d0 : decode cc pc = .ok (.new ik, 3)) (d3 : decode cc (pc + 3) = .ok (.dup, 1)) (d4 : decode cc (pc + 4) = .ok (.ldc_w is, 3)) (d6 : decode cc (pc + 7) = .ok (.invokespecial ic, 3)) (d9 : decode cc (pc + 10) = .ok (.athrow, 1)) (htab : ∀ z ∈ c.exceptionTable.toList, False)
    (hRf : names.length + 3 < R.frames) (hRl : (rest.map fun v => v.category).sum + (13 * (names.length + 1) + 43) ≤ R.locals) (hRc : cells + 1 ≤ R.cells) (hRs : slots + 6 ≤ R.slots) (hlocks : meth.locks = false) (hle : gle S0 S) (hp : px E S) (h1 : cells + 1 ≤ mc) (h2 : slots + 6 ≤ ms) :
    W p l e R s m args below meth c H locs cells slots (vx_MQ below Qc (gX x S0 px) args s mc ms (xA x)) (F0 m pc ls rest) := by
  obtain ⟨sa, hsa⟩ := hK.2.2.2.1.2 _ hm
  exact vx_throwSW hx hb hl hown hE hn (hw _ hk) (hw _ hini) hsa (fun w h => hw w (hat w h)) hgood hK.2.2.2.2.2.2.2.2.2.2.1 hK.2.2.2.2.2.2.2.2.2.2.2.1 hG.2.2.1 hsize d0 d3 d4 d6 d9 (fun z hz => (htab z hz).elim) hRf hRl hRc hRs hlocks
    (fun t ha hz hq => ⟨S, trivial, ⟨hp, ⟨hG.1.kept (fun k q hk => hq q.1 (hG.1 k q hk).lt), hG.2.1, hG.2.2.2⟩, hle⟩, ⟨Nat.le_trans hG.2.2.1.1 hz, fun q h3 h4 => by rw [hq q (Nat.lt_of_lt_of_le h3 hG.2.2.1.1)]; exact hG.2.2.1.2.1 q h3 h4⟩⟩) hG.2.2.1.2.2 h1 h2
end GX
/-- a method that changes nothing -/
def gPu {α : Type} (post : α → Prop) (S : St) : α → St → Prop := fun r S1 => post r ∧ S = S1
def gPv (post : Prop) (S : St) : St → Prop := fun S1 => post ∧ S = S1
def gPx (px : String → Prop) (S : St) : String → St → Prop := fun E S1 => px E ∧ S = S1
theorem gtabOut {v : Int32} (n : Nat) (hn : n < 2 ^ 31) (h : ∀ j : Nat, j < n → ¬ v = nI j) : v.toInt < 0 ∨ (n : Int) - 1 < v.toInt := by
  rcases Nat.lt_or_ge v.toNatClampNeg n with q | q
  · by_cases h0 : v.toInt < 0
    · exact Or.inl h0
    · have h1 := h _ q
      refine absurd ?_ h1
      have e1 : v.toInt = (v.toNatClampNeg : Int) := by
        show v.toInt = ((v.toInt.toNat : Nat) : Int)
        omega
      apply Int32.toInt_inj.mp
      rw [e1, nI_toInt (by omega)]
  · have e1 : v.toNatClampNeg = v.toInt.toNat := rfl
    rw [e1] at q
    by_cases h0 : v.toInt < 0
    · exact Or.inl h0
    · right
      omega
section GP5
variable {p : Program} {l : Launch} {e : Env} {R : Room} {s : State} {m : MethodId} {args : Array Value} {below : List Frame} {meth : Method} {c : Code} {H : Heap} {locs : List Loc} {cells slots : Nat} {Q : State → Prop}
variable {cc : ByteArray} {pc : Nat} {ls : Array Slot} {rest : List Value} {x : Cx} {S S0 : St} {own C : String} {index a k : Nat} {mc ms mc' ms' : Nat} {st0 : List Value} {va : Array Value} {Qc : Array Value → State → Outcome → State → Prop} {px : String → St → Prop}
theorem gtopq {o : Option Nat} (kk : ∀ y : Option Nat, y = o → W p l e R s m args below meth c H locs cells slots Q (F0 m pc ls (va_rf y :: rest))) : W p l e R s m args below meth c H locs cells slots Q (F0 m pc ls (va_rf o :: rest)) := kk o rfl
theorem gnull (hx : p.tables.exec = Jvm.exec) (hb : c.code = cc) (hdg : decode cc pc = .ok (.aconst_null, 1)) (kk : W p l e R s m args below meth c H locs cells slots Q (F0 m (pc + 1) ls (va_rf none :: rest))) : W p l e R s m args below meth c H locs cells slots Q (F0 m pc ls rest) := lv_null hx hb hdg kk
theorem gpi {post : Int32 → Prop} (hK : GK x s) (hG : GH x S s H locs) (hr : va_Run p l e R s m args below meth c H locs cells slots mc ms (F0 m pc ls st0) rest (va_Qi (gPu post S) (gB x S) (xA x) va) (xA x))
    (kk : ∀ (r : Int32) (H1 : Heap) (locs1 : List Loc), post r → GH x S s H1 locs1 → W p l e R s m args below meth c H1 locs1 (cells + mc) (slots + ms) Q (F0 m (pc + 3) ls (.int r :: rest))) : W p l e R s m args below meth c H locs cells slots Q (F0 m pc ls st0) :=
  gci hK hG hr (fun r S1 H1 locs1 h _ hG1 => kk r H1 locs1 h.1 (by rw [h.2]; exact hG1))
theorem gpl {post : Int64 → Prop} (hK : GK x s) (hG : GH x S s H locs) (hr : va_Run p l e R s m args below meth c H locs cells slots mc ms (F0 m pc ls st0) rest (va_Ql (gPu post S) (gB x S) (xA x) va) (xA x))
    (kk : ∀ (r : Int64) (H1 : Heap) (locs1 : List Loc), post r → GH x S s H1 locs1 → W p l e R s m args below meth c H1 locs1 (cells + mc) (slots + ms) Q (F0 m (pc + 3) ls (.long r :: rest))) : W p l e R s m args below meth c H locs cells slots Q (F0 m pc ls st0) :=
  gcl hK hG hr (fun r S1 H1 locs1 h _ hG1 => kk r H1 locs1 h.1 (by rw [h.2]; exact hG1))
theorem gpq {post : Option Nat → Prop} (hK : GK x s) (hG : GH x S s H locs) (hr : va_Run p l e R s m args below meth c H locs cells slots mc ms (F0 m pc ls st0) rest (va_Qq (gPu post S) (gB x S) (xA x) va) (xA x))
    (kk : ∀ (r : Option Nat) (H1 : Heap) (locs1 : List Loc), post r → GH x S s H1 locs1 → W p l e R s m args below meth c H1 locs1 (cells + mc) (slots + ms) Q (F0 m (pc + 3) ls (va_rf r :: rest))) : W p l e R s m args below meth c H locs cells slots Q (F0 m pc ls st0) :=
  gcq hK hG hr (fun r S1 H1 locs1 h _ hG1 => kk r H1 locs1 h.1 (by rw [h.2]; exact hG1))
theorem gpv {post : Prop} (hK : GK x s) (hG : GH x S s H locs) (hr : va_Run p l e R s m args below meth c H locs cells slots mc ms (F0 m pc ls st0) rest (va_Qv (gPv post S) (gB x S) (xA x) va) (xA x))
    (kk : ∀ (H1 : Heap) (locs1 : List Loc), post → GH x S s H1 locs1 → W p l e R s m args below meth c H1 locs1 (cells + mc) (slots + ms) Q (F0 m (pc + 3) ls rest)) : W p l e R s m args below meth c H locs cells slots Q (F0 m pc ls st0) :=
  gcv hK hG hr (fun S1 H1 locs1 h _ hG1 => kk H1 locs1 h.1 (by rw [h.2]; exact hG1))
theorem gxpi {px' : String → Prop} {post : Int32 → Prop} (hG : GH x S s H locs) (hr : vx_Run p l e R s m args below meth c H locs cells slots mc' ms' (F0 m pc ls st0) rest (va_Qi (gPu post S) (gB x S) (xA x) va) (gX x S (gPx px' S)) (xA x)) (htab : ∀ z ∈ c.exceptionTable.toList, False) (hlocks : meth.locks = false) (hle : gle S0 S) (hpx : ∀ E, px' E → px E S) (h1 : cells + mc' ≤ mc) (h2 : slots + ms' ≤ ms)
    (kk : ∀ (r : Int32) (H1 : Heap) (locs1 : List Loc), post r → GH x S s H1 locs1 → W p l e R s m args below meth c H1 locs1 (cells + mc') (slots + ms') (vx_MQ below Qc (gX x S0 px) args s mc ms (xA x)) (F0 m (pc + 3) ls (.int r :: rest))) : W p l e R s m args below meth c H locs cells slots (vx_MQ below Qc (gX x S0 px) args s mc ms (xA x)) (F0 m pc ls st0) :=
  gxci hG hr htab hlocks hle (fun E u h => by rw [← h.2]; exact hpx E h.1) h1 h2 (fun r S1 H1 locs1 h _ hG1 => kk r H1 locs1 h.1 (by rw [h.2]; exact hG1))
theorem gxpq {px' : String → Prop} {post : Option Nat → Prop} (hG : GH x S s H locs) (hr : vx_Run p l e R s m args below meth c H locs cells slots mc' ms' (F0 m pc ls st0) rest (va_Qq (gPu post S) (gB x S) (xA x) va) (gX x S (gPx px' S)) (xA x)) (htab : ∀ z ∈ c.exceptionTable.toList, False) (hlocks : meth.locks = false) (hle : gle S0 S) (hpx : ∀ E, px' E → px E S) (h1 : cells + mc' ≤ mc) (h2 : slots + ms' ≤ ms)
    (kk : ∀ (r : Option Nat) (H1 : Heap) (locs1 : List Loc), post r → GH x S s H1 locs1 → W p l e R s m args below meth c H1 locs1 (cells + mc') (slots + ms') (vx_MQ below Qc (gX x S0 px) args s mc ms (xA x)) (F0 m (pc + 3) ls (va_rf r :: rest))) : W p l e R s m args below meth c H locs cells slots (vx_MQ below Qc (gX x S0 px) args s mc ms (xA x)) (F0 m pc ls st0) :=
  gxcq hG hr htab hlocks hle (fun E u h => by rw [← h.2]; exact hpx E h.1) h1 h2 (fun r S1 H1 locs1 h _ hG1 => kk r H1 locs1 h.1 (by rw [h.2]; exact hG1))
theorem gxpv {px' : String → Prop} {post : Prop} (hG : GH x S s H locs) (hr : vx_Run p l e R s m args below meth c H locs cells slots mc' ms' (F0 m pc ls st0) rest (va_Qv (gPv post S) (gB x S) (xA x) va) (gX x S (gPx px' S)) (xA x)) (htab : ∀ z ∈ c.exceptionTable.toList, False) (hlocks : meth.locks = false) (hle : gle S0 S) (hpx : ∀ E, px' E → px E S) (h1 : cells + mc' ≤ mc) (h2 : slots + ms' ≤ ms)
    (kk : ∀ (H1 : Heap) (locs1 : List Loc), post → GH x S s H1 locs1 → W p l e R s m args below meth c H1 locs1 (cells + mc') (slots + ms') (vx_MQ below Qc (gX x S0 px) args s mc ms (xA x)) (F0 m (pc + 3) ls rest)) : W p l e R s m args below meth c H locs cells slots (vx_MQ below Qc (gX x S0 px) args s mc ms (xA x)) (F0 m pc ls st0) :=
  gxcv hG hr htab hlocks hle (fun E u h => by rw [← h.2]; exact hpx E h.1) h1 h2 (fun S1 H1 locs1 h _ hG1 => kk H1 locs1 h.1 (by rw [h.2]; exact hG1))
/-- a class's own Object.<init> -/
theorem gobj {bytes : ByteArray} (hx : p.tables.exec = Jvm.exec) (hb : c.code = cc) (hw : ∀ w ∈ gG, w.before args s = true) (hown : s.vm.findClass own = some m.cls) (h1 : Cond.methodLink own index Lib.objectInit ∈ gG) (h2 : Cond.instanceMethod Lib.objectInit ∈ gG) (h3 : Cond.code Lib.objectInit ⟨#[0xb1]⟩ 1 none ∈ gG) (hsize : ls.size = c.maxLocals) (hdg : decode cc pc = .ok (.invokespecial index, 3)) (hf : 1 ≤ R.frames) (hlo : (rest.map fun v => v.category).sum + 12 ≤ R.locals)
    (kk : W p l e R s m args below meth c H locs cells slots Q (F0 m (pc + 3) ls rest)) : W p l e R s m args below meth c H locs cells slots Q (F0 m pc ls (.ref a :: rest)) :=
  W.objInit hx hb hown (hw _ h1) (hw _ h2) (hw _ h3) rfl hsize rfl hdg hf (by show 2 * 0 + _ + 12 ≤ _; omega) kk
/-- System.arraycopy of ints or booleans -/
theorem gcopy {b : Nat} {sp dp n : Int32} {cA : ClassId} {t : FieldType} (t0 : Nat) (hx : p.tables.exec = Jvm.exec) (hb : c.code = cc) (hw : ∀ w ∈ gG, w.before args s = true) (hml : c.maxLocals = ls.size) (hown : s.vm.findClass own = some m.cls) (hK : GK x s) (hG : GH x S s H locs) (g1 : Cond.methodLink own index arraycopyName ∈ gG) (g2 : Cond.native arraycopyName ∈ gG) (g3 : Cond.static arraycopyName ∈ gG) (g4 : Cond.initialized "java/lang/System" ∈ gG)
    (ha : isA S k a) (hv : isA S k b) (he : ∀ (n : Nat) (I : Nat → Int32) (Q : Nat → Option Nat) (R : Nat → Int32) (P : Nat → Option Nat) (J : Nat → Int64), gC x k n I Q R P J = .inl (cA, n, .inl R)) (ht : (gTy x)[t0]? = some (cA, t)) (hprim : refKind t = false) (h1 : ¬ sp < 0) (h2 : ¬ dp < 0) (h3 : ¬ n < 0) (h4 : sp.toNatClampNeg + n.toNatClampNeg ≤ sN S a) (h5 : dp.toNatClampNeg + n.toNatClampNeg ≤ sN S b) (hfit : ∀ i, i < n.toNatClampNeg → fits t (.int (sR S a (sp.toNatClampNeg + i))) = true)
    (hf : 1 ≤ R.frames) (hlo : (rest.map fun v => v.category).sum + (nativeFrameWords "java/lang/System" "arraycopy" 5 + 11) ≤ R.locals) (hdg : decode cc pc = .ok (.invokestatic index, 3))
    (kk : ∀ (S2 : St) (H1 : Heap) (locs1 : List Loc), S2 = pRow S b (va_cpy (sR S a) (sR S b) sp.toNatClampNeg dp.toNatClampNeg n.toNatClampNeg) → gle S S2 → GH x S2 s H1 locs1 → W p l e R s m args below meth c H1 locs1 cells slots Q (F0 m (pc + 3) ls rest)) : W p l e R s m args below meth c H locs cells slots Q (F0 m pc ls (.int n :: .int dp :: .ref b :: .int sp :: .ref a :: rest)) := by
  obtain ⟨k0, i1, -⟩ := gplace ha.1 (gE_at (x := x) ha (he _ _ _ _ _ _))
  obtain ⟨k1, i2, i3⟩ := gplace hv.1 (gE_at (x := x) hv (he _ _ _ _ _ _))
  exact va_copyi hx hb hml hown (hw _ g1) (hw _ g2) (hw _ g3) (hw _ g4) hK.1 hG.1 hG.2.1 hG.2.2.1 k0 k1 t0 t0 i1 i2 ht ht hprim h1 h2 h3 h4 h5 hfit hf hlo hdg (fun H1 locs1 j1 j2 j3 => kk _ H1 locs1 rfl ⟨fun _ h => ⟨h, rfl, rfl⟩, rfl⟩ (gback hG hv.1 i3 (gChRow hv (he _ _ _ _ _ _)) j1 j2 j3))
end GP5
theorem gci1 (v : Int32) : (Value.int v).category = 1 := rfl
theorem gcr1 (v : Nat) : (Value.ref v).category = 1 := rfl
theorem gcl1 (v : Int64) : (Value.long v).category = 2 := rfl
theorem gcd1 (v : UInt64) : (Value.double v).category = 2 := rfl
theorem gCatB (o : Option Nat) : ((va_rf o).category == 2) = false := by cases o <;> rfl
theorem gCatP (o : Option Nat) : ((va_rf o).category = 2) = False := by cases o <;> simp [va_rf, Value.category]
/-- an object that a list may hold -/
def gObj (S : St) (b : Nat) : Prop := isA S 1 b ∨ isA S 2 b ∨ isA S 5 b
theorem kf_AL : ∀ j, j < 3 → defaultValue (ty_AL j) = vp_V [.int 0, .null, .int 0] j := fun j hj => by rcases (show j = 0 ∨ j = 1 ∨ j = 2 by omega) with rfl | rfl | rfl <;> rfl
theorem kf_D : ∀ j, j < 3 → defaultValue (ty_D j) = vp_V [.int 0, .null, .int 0] j := fun j hj => by rcases (show j = 0 ∨ j = 1 ∨ j = 2 by omega) with rfl | rfl | rfl <;> rfl
theorem kf_R : ∀ j, j < 15 → defaultValue (ty_R j) = vp_V [.int 0, .int 0, .int 0, .int 0, .int 0, .int 0, .null, .int 0, .null, .int 0, .int 0, .int 0, .int 0, .int 0, .int 0] j := fun j hj => by rcases (show j = 0 ∨ j = 1 ∨ j = 2 ∨ j = 3 ∨ j = 4 ∨ j = 5 ∨ j = 6 ∨ j = 7 ∨ j = 8 ∨ j = 9 ∨ j = 10 ∨ j = 11 ∨ j = 12 ∨ j = 13 ∨ j = 14 by omega) with rfl | rfl | rfl | rfl | rfl | rfl | rfl | rfl | rfl | rfl | rfl | rfl | rfl | rfl | rfl <;> rfl
theorem kf_F : ∀ j, j < 3 → defaultValue (ty_F j) = vp_V [.null, .null, .int 0] j := fun j hj => by rcases (show j = 0 ∨ j = 1 ∨ j = 2 by omega) with rfl | rfl | rfl <;> rfl
theorem kf_T : ∀ j, j < 2 → defaultValue (ty_T j) = vp_V [.null, .int 0] j := fun j hj => by rcases (show j = 0 ∨ j = 1 by omega) with rfl | rfl <;> rfl
theorem kf_N : ∀ j, j < 7 → defaultValue (ty_N j) = vp_V [.int 0, .int 0, .int 0, .null, .int 0, .int 0, .int 0] j := fun j hj => by rcases (show j = 0 ∨ j = 1 ∨ j = 2 ∨ j = 3 ∨ j = 4 ∨ j = 5 ∨ j = 6 by omega) with rfl | rfl | rfl | rfl | rfl | rfl | rfl <;> rfl
theorem kf_H : ∀ j, j < 5 → defaultValue (ty_H j) = vp_V [.null, .null, .null, .null, .null] j := fun j hj => by rcases (show j = 0 ∨ j = 1 ∨ j = 2 ∨ j = 3 ∨ j = 4 by omega) with rfl | rfl | rfl | rfl | rfl <;> rfl
theorem kf_S : ∀ j, j < 18 → defaultValue (ty_S j) = vp_V [.int 0, .int 0, .null, .null, .null, .null, .null, .null, .null, .null, .null, .null, .null, .null, .int 0, .null, .null, .null] j := fun j hj => by rcases (show j = 0 ∨ j = 1 ∨ j = 2 ∨ j = 3 ∨ j = 4 ∨ j = 5 ∨ j = 6 ∨ j = 7 ∨ j = 8 ∨ j = 9 ∨ j = 10 ∨ j = 11 ∨ j = 12 ∨ j = 13 ∨ j = 14 ∨ j = 15 ∨ j = 16 ∨ j = 17 by omega) with rfl | rfl | rfl | rfl | rfl | rfl | rfl | rfl | rfl | rfl | rfl | rfl | rfl | rfl | rfl | rfl | rfl | rfl <;> rfl
theorem kf_M : ∀ j, j < 7 → defaultValue (ty_M j) = vp_V [.int 0, .null, .int 0, .null, .null, .null, .null] j := fun j hj => by rcases (show j = 0 ∨ j = 1 ∨ j = 2 ∨ j = 3 ∨ j = 4 ∨ j = 5 ∨ j = 6 by omega) with rfl | rfl | rfl | rfl | rfl | rfl | rfl <;> rfl
section GP6
variable {p : Program} {l : Launch} {e : Env} {R : Room} {s : State} {m : MethodId} {args : Array Value} {below : List Frame} {meth : Method} {c : Code} {H : Heap} {locs : List Loc} {cells slots : Nat} {Q : State → Prop}
variable {cc : ByteArray} {pc : Nat} {ls : Array Slot} {rest : List Value} {x : Cx} {S : St} {a b : Nat}
theorem gaastO (hx : p.tables.exec = Jvm.exec) (hb : c.code = cc) (hw : ∀ w ∈ gG, w.before args s = true) (hK : GK x s) (hG : GH x S s H locs) (ha : isA S 12 a) (hv : gObj S b) {i : Int32} (hin : vp_in i (sN S a)) (hdg : decode cc pc = .ok (.aastore, 1))
    (kk : ∀ (S2 : St) (H1 : Heap) (locs1 : List Loc), S2 = pP S a i.toNatClampNeg (some b) → gle S S2 → GH x S2 s H1 locs1 → W p l e R s m args below meth c H1 locs1 cells slots Q (F0 m (pc + 1) ls rest)) : W p l e R s m args below meth c H locs cells slots Q (F0 m pc ls (.ref b :: .int i :: .ref a :: rest)) := by
  rcases hv with hv | hv | hv
  · exact gaast hx hb hw hK hG kd_D (gmm 1248 (w := Cond.castable "WaltzHall$Dance" "java/lang/Object") (by decide +kernel) (by decide +kernel)) ha hv rfl hin hdg kk
  · exact gaast hx hb hw hK hG kd_R (gmm 1255 (w := Cond.castable "WaltzHall$Dancer" "java/lang/Object") (by decide +kernel) (by decide +kernel)) ha hv rfl hin hdg kk
  · exact gaast hx hb hw hK hG kd_N (gmm 1256 (w := Cond.castable "WaltzHall$Winder" "java/lang/Object") (by decide +kernel) (by decide +kernel)) ha hv rfl hin hdg kk
/-- a text out of the static row of texts -/
theorem gfs (hx : p.tables.exec = Jvm.exec) (hb : c.code = cc) (hK : GK x s) (hG : GH x S s H locs) {i : Int32} (hin : vp_in i 8) (hdg : decode cc pc = .ok (.aaload, 1))
    (kk : W p l e R s m args below meth c H locs cells slots Q (F0 m (pc + 1) ls (.ref (xKa x (9 + i.toNatClampNeg)) :: rest))) : W p l e R s m args below meth c H locs cells slots Q (F0 m pc ls (.int i :: .ref (xFs x) :: rest)) := by
  obtain ⟨cell, h1, h2, h3, h4, h5, h6, h7⟩ := hK.2.2.2.2.2.2.1.2
  have hlt : i.toNatClampNeg < 8 := Nat.not_le.mp fun q => hin (Or.inr q)
  have hin' : ¬ (i < 0 ∨ cell.slots.size ≤ i.toNatClampNeg) := by
    intro q
    rcases q with q | q
    · exact hin (Or.inl q)
    · omega
  exact W.aald (v := .ref (xKa x (9 + i.toNatClampNeg))) (ty := .object "java/lang/String") hx hb (by rw [hG.2.2.1.2.1 _ (Array.getElem?_eq_some_iff.mp h1).1 h7]; exact h1) h2 rfl h3 hin' (by rw [h6 _ hlt]) rfl rfl hdg kk
end GP6
end
section
theorem tw_28 : (Jvm.Cond.initialized "WaltzHall") ∈ gG := gmm 28 (by decide +kernel) (by decide +kernel)
theorem tw_40 : (Jvm.Cond.initialized "java/lang/Math") ∈ gG := gmm 40 (by decide +kernel) (by decide +kernel)
theorem tw_52 : (Jvm.Cond.initialized "WaltzHall$Dancer") ∈ gG := gmm 52 (by decide +kernel) (by decide +kernel)
theorem tw_215 : (Jvm.Cond.static ({ cls := "java/lang/Math", name := "max", desc := "(II)I" } : Jvm.MethodName)) ∈ gG := gmm 215 (by decide +kernel) (by decide +kernel)
theorem tw_216 : (Jvm.Cond.code ({ cls := "java/lang/Math", name := "max", desc := "(II)I" } : Jvm.MethodName) prog_20_method_65_code (2 : Nat) (Option.some Jvm.ClassFile.FieldType.int)) ∈ gG := gmm 216 (by decide +kernel) (by decide +kernel)
theorem tw_247 : (Jvm.Cond.static ({ cls := "java/lang/Math", name := "min", desc := "(II)I" } : Jvm.MethodName)) ∈ gG := gmm 247 (by decide +kernel) (by decide +kernel)
theorem tw_248 : (Jvm.Cond.code ({ cls := "java/lang/Math", name := "min", desc := "(II)I" } : Jvm.MethodName) prog_20_method_69_code (2 : Nat) (Option.some Jvm.ClassFile.FieldType.int)) ∈ gG := gmm 248 (by decide +kernel) (by decide +kernel)
theorem tw_327 : (Jvm.Cond.instanceMethod ({ cls := "WaltzHall$Dancer", name := "isSpent", desc := "()Z" } : Jvm.MethodName)) ∈ gG := gmm 327 (by decide +kernel) (by decide +kernel)
theorem tw_328 : (Jvm.Cond.selects "WaltzHall$Dancer" ({ cls := "WaltzHall$Dancer", name := "isSpent", desc := "()Z" } : Jvm.MethodName) ({ cls := "WaltzHall$Dancer", name := "isSpent", desc := "()Z" } : Jvm.MethodName)) ∈ gG := gmm 328 (by decide +kernel) (by decide +kernel)
theorem tw_329 : (Jvm.Cond.code ({ cls := "WaltzHall$Dancer", name := "isSpent", desc := "()Z" } : Jvm.MethodName) prog_3_method_5_code (1 : Nat) (Option.some Jvm.ClassFile.FieldType.boolean)) ∈ gG := gmm 329 (by decide +kernel) (by decide +kernel)
theorem tw_497 : (Jvm.Cond.methodLink "WaltzHall" (286 : Nat) ({ cls := "WaltzHall", name := "isWalk", desc := "(I)Z" } : Jvm.MethodName)) ∈ gG := gmm 497 (by decide +kernel) (by decide +kernel)
theorem tw_498 : (Jvm.Cond.static ({ cls := "WaltzHall", name := "isWalk", desc := "(I)Z" } : Jvm.MethodName)) ∈ gG := gmm 498 (by decide +kernel) (by decide +kernel)
theorem tw_499 : (Jvm.Cond.code ({ cls := "WaltzHall", name := "isWalk", desc := "(I)Z" } : Jvm.MethodName) prog_1_method_34_code (1 : Nat) (Option.some Jvm.ClassFile.FieldType.boolean)) ∈ gG := gmm 499 (by decide +kernel) (by decide +kernel)
theorem tw_500 : (Jvm.Cond.methodLink "WaltzHall" (290 : Nat) ({ cls := "WaltzHall", name := "turnOf", desc := "(I)I" } : Jvm.MethodName)) ∈ gG := gmm 500 (by decide +kernel) (by decide +kernel)
theorem tw_501 : (Jvm.Cond.static ({ cls := "WaltzHall", name := "turnOf", desc := "(I)I" } : Jvm.MethodName)) ∈ gG := gmm 501 (by decide +kernel) (by decide +kernel)
theorem tw_502 : (Jvm.Cond.code ({ cls := "WaltzHall", name := "turnOf", desc := "(I)I" } : Jvm.MethodName) prog_1_method_37_code (1 : Nat) (Option.some Jvm.ClassFile.FieldType.int)) ∈ gG := gmm 502 (by decide +kernel) (by decide +kernel)
theorem tw_537 : (Jvm.Cond.static ({ cls := "WaltzHall", name := "turned", desc := "(II)I" } : Jvm.MethodName)) ∈ gG := gmm 537 (by decide +kernel) (by decide +kernel)
theorem tw_538 : (Jvm.Cond.code ({ cls := "WaltzHall", name := "turned", desc := "(II)I" } : Jvm.MethodName) prog_1_method_31_code (2 : Nat) (Option.some Jvm.ClassFile.FieldType.int)) ∈ gG := gmm 538 (by decide +kernel) (by decide +kernel)
theorem tw_539 : (Jvm.Cond.methodLink "WaltzHall" (282 : Nat) ({ cls := "java/lang/Math", name := "floorMod", desc := "(II)I" } : Jvm.MethodName)) ∈ gG := gmm 539 (by decide +kernel) (by decide +kernel)
theorem tw_540 : (Jvm.Cond.static ({ cls := "java/lang/Math", name := "floorMod", desc := "(II)I" } : Jvm.MethodName)) ∈ gG := gmm 540 (by decide +kernel) (by decide +kernel)
theorem tw_541 : (Jvm.Cond.code ({ cls := "java/lang/Math", name := "floorMod", desc := "(II)I" } : Jvm.MethodName) prog_20_method_50_code (3 : Nat) (Option.some Jvm.ClassFile.FieldType.int)) ∈ gG := gmm 541 (by decide +kernel) (by decide +kernel)
theorem tw_543 : (Jvm.Cond.static ({ cls := "WaltzHall", name := "columnStep", desc := "(I)I" } : Jvm.MethodName)) ∈ gG := gmm 543 (by decide +kernel) (by decide +kernel)
theorem tw_544 : (Jvm.Cond.code ({ cls := "WaltzHall", name := "columnStep", desc := "(I)I" } : Jvm.MethodName) prog_1_method_32_code (1 : Nat) (Option.some Jvm.ClassFile.FieldType.int)) ∈ gG := gmm 544 (by decide +kernel) (by decide +kernel)
theorem tw_546 : (Jvm.Cond.static ({ cls := "WaltzHall", name := "rowStep", desc := "(I)I" } : Jvm.MethodName)) ∈ gG := gmm 546 (by decide +kernel) (by decide +kernel)
theorem tw_547 : (Jvm.Cond.code ({ cls := "WaltzHall", name := "rowStep", desc := "(I)I" } : Jvm.MethodName) prog_1_method_33_code (1 : Nat) (Option.some Jvm.ClassFile.FieldType.int)) ∈ gG := gmm 547 (by decide +kernel) (by decide +kernel)
theorem tw_560 : (Jvm.Cond.static ({ cls := "WaltzHall", name := "isOnFloor", desc := "(II)Z" } : Jvm.MethodName)) ∈ gG := gmm 560 (by decide +kernel) (by decide +kernel)
theorem tw_561 : (Jvm.Cond.code ({ cls := "WaltzHall", name := "isOnFloor", desc := "(II)Z" } : Jvm.MethodName) prog_1_method_29_code (2 : Nat) (Option.some Jvm.ClassFile.FieldType.boolean)) ∈ gG := gmm 561 (by decide +kernel) (by decide +kernel)
theorem tw_576 : (Jvm.Cond.fieldLink "WaltzHall$Dancer" (25 : Nat) "WaltzHall$Dancer" "x" "I") ∈ gG := gmm 576 (by decide +kernel) (by decide +kernel)
theorem tw_580 : (Jvm.Cond.fieldLink "WaltzHall$Dancer" (28 : Nat) "WaltzHall$Dancer" "y" "I") ∈ gG := gmm 580 (by decide +kernel) (by decide +kernel)
theorem tw_584 : (Jvm.Cond.fieldLink "WaltzHall$Dancer" (31 : Nat) "WaltzHall$Dancer" "face" "I") ∈ gG := gmm 584 (by decide +kernel) (by decide +kernel)
theorem tw_587 : (Jvm.Cond.fieldLink "WaltzHall$Dancer" (9 : Nat) "WaltzHall$Dancer" "spring" "I") ∈ gG := gmm 587 (by decide +kernel) (by decide +kernel)
theorem tw_590 : (Jvm.Cond.fieldLink "WaltzHall$Dancer" (15 : Nat) "WaltzHall$Dancer" "cost" "I") ∈ gG := gmm 590 (by decide +kernel) (by decide +kernel)
theorem tw_592 : (Jvm.Cond.fieldLink "WaltzHall$Dancer" (21 : Nat) "WaltzHall$Dancer" "dance" "LWaltzHall$Dance;") ∈ gG := gmm 592 (by decide +kernel) (by decide +kernel)
theorem tw_595 : (Jvm.Cond.fieldLink "WaltzHall$Dancer" (34 : Nat) "WaltzHall$Dancer" "place" "I") ∈ gG := gmm 595 (by decide +kernel) (by decide +kernel)
theorem tw_598 : (Jvm.Cond.fieldLink "WaltzHall$Dancer" (50 : Nat) "WaltzHall$Dancer" "partner" "LWaltzHall$Dancer;") ∈ gG := gmm 598 (by decide +kernel) (by decide +kernel)
theorem tw_601 : (Jvm.Cond.fieldLink "WaltzHall$Dancer" (37 : Nat) "WaltzHall$Dancer" "follows" "Z") ∈ gG := gmm 601 (by decide +kernel) (by decide +kernel)
theorem tw_604 : (Jvm.Cond.fieldLink "WaltzHall$Dancer" (41 : Nat) "WaltzHall$Dancer" "dizzy" "I") ∈ gG := gmm 604 (by decide +kernel) (by decide +kernel)
theorem tw_606 : (Jvm.Cond.fieldLink "WaltzHall$Dancer" (44 : Nat) "WaltzHall$Dancer" "figuresDone" "I") ∈ gG := gmm 606 (by decide +kernel) (by decide +kernel)
theorem tw_607 : (Jvm.Cond.fieldLink "WaltzHall$Dancer" (47 : Nat) "WaltzHall$Dancer" "bumps" "I") ∈ gG := gmm 607 (by decide +kernel) (by decide +kernel)
theorem tw_609 : (Jvm.Cond.fieldLink "WaltzHall$Dancer" (71 : Nat) "WaltzHall$Dancer" "goalX" "I") ∈ gG := gmm 609 (by decide +kernel) (by decide +kernel)
theorem tw_611 : (Jvm.Cond.fieldLink "WaltzHall$Dancer" (74 : Nat) "WaltzHall$Dancer" "goalY" "I") ∈ gG := gmm 611 (by decide +kernel) (by decide +kernel)
theorem tw_672 : (Jvm.Cond.methodLinkNest "WaltzHall$Dancer" (54 : Nat) ({ cls := "WaltzHall", name := "distance", desc := "(IIII)I" } : Jvm.MethodName) "WaltzHall") ∈ gG := gmm 672 (by decide +kernel) (by decide +kernel)
theorem tw_673 : (Jvm.Cond.static ({ cls := "WaltzHall", name := "distance", desc := "(IIII)I" } : Jvm.MethodName)) ∈ gG := gmm 673 (by decide +kernel) (by decide +kernel)
theorem tw_674 : (Jvm.Cond.code ({ cls := "WaltzHall", name := "distance", desc := "(IIII)I" } : Jvm.MethodName) prog_1_method_30_code (4 : Nat) (Option.some Jvm.ClassFile.FieldType.int)) ∈ gG := gmm 674 (by decide +kernel) (by decide +kernel)
theorem tw_675 : (Jvm.Cond.methodLink "WaltzHall" (277 : Nat) ({ cls := "java/lang/Math", name := "abs", desc := "(I)I" } : Jvm.MethodName)) ∈ gG := gmm 675 (by decide +kernel) (by decide +kernel)
theorem tw_676 : (Jvm.Cond.static ({ cls := "java/lang/Math", name := "abs", desc := "(I)I" } : Jvm.MethodName)) ∈ gG := gmm 676 (by decide +kernel) (by decide +kernel)
theorem tw_677 : (Jvm.Cond.code ({ cls := "java/lang/Math", name := "abs", desc := "(I)I" } : Jvm.MethodName) prog_20_method_59_code (1 : Nat) (Option.some Jvm.ClassFile.FieldType.int)) ∈ gG := gmm 677 (by decide +kernel) (by decide +kernel)
theorem tw_703 : (Jvm.Cond.methodLink "WaltzHall$Dancer" (62 : Nat) ({ cls := "java/lang/Math", name := "min", desc := "(II)I" } : Jvm.MethodName)) ∈ gG := gmm 703 (by decide +kernel) (by decide +kernel)
theorem tw_704 : (Jvm.Cond.methodLink "WaltzHall$Dancer" (68 : Nat) ({ cls := "java/lang/Math", name := "max", desc := "(II)I" } : Jvm.MethodName)) ∈ gG := gmm 704 (by decide +kernel) (by decide +kernel)
theorem tw_807 : (Jvm.Cond.methodLink "WaltzHall$Dancer" (58 : Nat) ({ cls := "WaltzHall$Dancer", name := "isSpent", desc := "()Z" } : Jvm.MethodName)) ∈ gG := gmm 807 (by decide +kernel) (by decide +kernel)
theorem tw_821 : (Jvm.Cond.instanceMethod ({ cls := "WaltzHall$Dancer", name := "aimAt", desc := "(II)V" } : Jvm.MethodName)) ∈ gG := gmm 821 (by decide +kernel) (by decide +kernel)
theorem tw_822 : (Jvm.Cond.selects "WaltzHall$Dancer" ({ cls := "WaltzHall$Dancer", name := "aimAt", desc := "(II)V" } : Jvm.MethodName) ({ cls := "WaltzHall$Dancer", name := "aimAt", desc := "(II)V" } : Jvm.MethodName)) ∈ gG := gmm 822 (by decide +kernel) (by decide +kernel)
theorem tw_823 : (Jvm.Cond.code ({ cls := "WaltzHall$Dancer", name := "aimAt", desc := "(II)V" } : Jvm.MethodName) prog_3_method_8_code (3 : Nat) (Option.none : Option Jvm.ClassFile.FieldType)) ∈ gG := gmm 823 (by decide +kernel) (by decide +kernel)
theorem tw_831 : (Jvm.Cond.methodLinkNest "WaltzHall$Dancer" (77 : Nat) ({ cls := "WaltzHall", name := "columnStep", desc := "(I)I" } : Jvm.MethodName) "WaltzHall") ∈ gG := gmm 831 (by decide +kernel) (by decide +kernel)
theorem tw_832 : (Jvm.Cond.methodLinkNest "WaltzHall$Dancer" (81 : Nat) ({ cls := "WaltzHall", name := "rowStep", desc := "(I)I" } : Jvm.MethodName) "WaltzHall") ∈ gG := gmm 832 (by decide +kernel) (by decide +kernel)
theorem tw_833 : (Jvm.Cond.methodLink "WaltzHall$Dancer" (84 : Nat) ({ cls := "WaltzHall$Dancer", name := "aimAt", desc := "(II)V" } : Jvm.MethodName)) ∈ gG := gmm 833 (by decide +kernel) (by decide +kernel)
theorem tw_848 : (Jvm.Cond.methodLinkNest "WaltzHall$Dancer" (88 : Nat) ({ cls := "WaltzHall", name := "isOnFloor", desc := "(II)Z" } : Jvm.MethodName) "WaltzHall") ∈ gG := gmm 848 (by decide +kernel) (by decide +kernel)
theorem tw_860 : (Jvm.Cond.methodLinkNest "WaltzHall$Dancer" (92 : Nat) ({ cls := "WaltzHall", name := "turned", desc := "(II)I" } : Jvm.MethodName) "WaltzHall") ∈ gG := gmm 860 (by decide +kernel) (by decide +kernel)
theorem hd_H_columnStep : y_H_columnStep.cls ≠ "java/lang/invoke/MethodHandle" ∧ y_H_columnStep.cls ≠ "java/lang/invoke/VarHandle" ∧ (parseMethodDescriptor y_H_columnStep.desc).map (fun d => d.parameters.length) = some 1 := by decide +kernel
theorem hd_H_distance : y_H_distance.cls ≠ "java/lang/invoke/MethodHandle" ∧ y_H_distance.cls ≠ "java/lang/invoke/VarHandle" ∧ (parseMethodDescriptor y_H_distance.desc).map (fun d => d.parameters.length) = some 4 := by decide +kernel
theorem hd_H_isOnFloor : y_H_isOnFloor.cls ≠ "java/lang/invoke/MethodHandle" ∧ y_H_isOnFloor.cls ≠ "java/lang/invoke/VarHandle" ∧ (parseMethodDescriptor y_H_isOnFloor.desc).map (fun d => d.parameters.length) = some 2 := by decide +kernel
theorem hd_H_isWalk : y_H_isWalk.cls ≠ "java/lang/invoke/MethodHandle" ∧ y_H_isWalk.cls ≠ "java/lang/invoke/VarHandle" ∧ (parseMethodDescriptor y_H_isWalk.desc).map (fun d => d.parameters.length) = some 1 := by decide +kernel
theorem hd_H_rowStep : y_H_rowStep.cls ≠ "java/lang/invoke/MethodHandle" ∧ y_H_rowStep.cls ≠ "java/lang/invoke/VarHandle" ∧ (parseMethodDescriptor y_H_rowStep.desc).map (fun d => d.parameters.length) = some 1 := by decide +kernel
theorem hd_H_turnOf : y_H_turnOf.cls ≠ "java/lang/invoke/MethodHandle" ∧ y_H_turnOf.cls ≠ "java/lang/invoke/VarHandle" ∧ (parseMethodDescriptor y_H_turnOf.desc).map (fun d => d.parameters.length) = some 1 := by decide +kernel
theorem hd_H_turned : y_H_turned.cls ≠ "java/lang/invoke/MethodHandle" ∧ y_H_turned.cls ≠ "java/lang/invoke/VarHandle" ∧ (parseMethodDescriptor y_H_turned.desc).map (fun d => d.parameters.length) = some 2 := by decide +kernel
theorem hd_MA_floorMod : y_MA_floorMod.cls ≠ "java/lang/invoke/MethodHandle" ∧ y_MA_floorMod.cls ≠ "java/lang/invoke/VarHandle" ∧ (parseMethodDescriptor y_MA_floorMod.desc).map (fun d => d.parameters.length) = some 2 := by decide +kernel
theorem hd_R_aimAt : y_R_aimAt.cls ≠ "java/lang/invoke/MethodHandle" ∧ y_R_aimAt.cls ≠ "java/lang/invoke/VarHandle" ∧ (parseMethodDescriptor y_R_aimAt.desc).map (fun d => d.parameters.length) = some 2 := by decide +kernel
theorem hd_R_isSpent : y_R_isSpent.cls ≠ "java/lang/invoke/MethodHandle" ∧ y_R_isSpent.cls ≠ "java/lang/invoke/VarHandle" ∧ (parseMethodDescriptor y_R_isSpent.desc).map (fun d => d.parameters.length) = some 0 := by decide +kernel
def w_H_isWalk (post : Int32 → Prop) (S : St) (a0 : Int32) : Prop :=
  (a0 = 102 → post 1) ∧ (¬ a0 = 102 → (a0 = 114 → post 1) ∧ (¬ a0 = 114 → (a0 = 98 → post 1) ∧ (¬ a0 = 98 → (a0 = 108 → post 1) ∧ (¬ a0 = 108 → post 0))))
set_option maxHeartbeats 4000000 in
set_option maxRecDepth 100000 in
theorem m_H_isWalk (l : Launch) (x : Cx) (S : St) (post : Int32 → Prop) (a0 : Int32) (h : w_H_isWalk post S a0) : Met l y_H_isWalk [.code y_H_isWalk c_H_isWalk 1 (some .boolean)] { frames := 0, cells := 0, slots := 0, locals := 0 } (va_Pc [.int a0] (GW x S)) (va_Qi (gPu post S) (gB x S) (xA x)) 0 0 (xA x) := by
  refine gMet (by decide +kernel) (Nat.le_of_ble_eq_true rfl) ?_
  intro p e s m args below meth c hx hb hr hown hlocks hin hw hK H locs hG ls hlA hml
  have hown : s.vm.findClass "WaltzHall" = some m.cls := hown
  have hl0 : lv_has ls 1 [(0, .int a0)] := hlA
  unfold w_H_isWalk at h
  refine lv_iload_n hx hb d_H_isWalk_0 rfl (lv_at hl0 0 rfl) ?_
  refine lv_bipush (v := 102) hx hb d_H_isWalk_1 (by decide) ?_
  refine lv_icmp_eq (tgt := 24) hx hb d_H_isWalk_3 (by decide) (fun hc4 => ?_) (fun hc4 => ?_)
  · replace h := h.1 hc4
    refine lv_iconst (v := 1) hx hb d_H_isWalk_24 (by decide) ?_
    refine lv_goto (tgt := 29) hx hb d_H_isWalk_25 (by decide) ?_
    exact gzret hx hb hr rfl hlocks hK hG gle.rf ⟨h, rfl⟩ (Nat.le_of_ble_eq_true rfl) (Nat.le_of_ble_eq_true rfl) d_H_isWalk_29
  · replace h := h.2 hc4
    refine lv_iload_n hx hb d_H_isWalk_6 rfl (lv_at hl0 0 rfl) ?_
    refine lv_bipush (v := 114) hx hb d_H_isWalk_7 (by decide) ?_
    refine lv_icmp_eq (tgt := 24) hx hb d_H_isWalk_9 (by decide) (fun hc3 => ?_) (fun hc3 => ?_)
    · replace h := h.1 hc3
      refine lv_iconst (v := 1) hx hb d_H_isWalk_24 (by decide) ?_
      refine lv_goto (tgt := 29) hx hb d_H_isWalk_25 (by decide) ?_
      exact gzret hx hb hr rfl hlocks hK hG gle.rf ⟨h, rfl⟩ (Nat.le_of_ble_eq_true rfl) (Nat.le_of_ble_eq_true rfl) d_H_isWalk_29
    · replace h := h.2 hc3
      refine lv_iload_n hx hb d_H_isWalk_12 rfl (lv_at hl0 0 rfl) ?_
      refine lv_bipush (v := 98) hx hb d_H_isWalk_13 (by decide) ?_
      refine lv_icmp_eq (tgt := 24) hx hb d_H_isWalk_15 (by decide) (fun hc2 => ?_) (fun hc2 => ?_)
      · replace h := h.1 hc2
        refine lv_iconst (v := 1) hx hb d_H_isWalk_24 (by decide) ?_
        refine lv_goto (tgt := 29) hx hb d_H_isWalk_25 (by decide) ?_
        exact gzret hx hb hr rfl hlocks hK hG gle.rf ⟨h, rfl⟩ (Nat.le_of_ble_eq_true rfl) (Nat.le_of_ble_eq_true rfl) d_H_isWalk_29
      · replace h := h.2 hc2
        refine lv_iload_n hx hb d_H_isWalk_18 rfl (lv_at hl0 0 rfl) ?_
        refine lv_bipush (v := 108) hx hb d_H_isWalk_19 (by decide) ?_
        refine lv_icmp_ne (tgt := 28) hx hb d_H_isWalk_21 (by decide) (fun hc1 => ?_) (fun hc1 => ?_)
        · replace h := h.2 hc1
          refine lv_iconst (v := 0) hx hb d_H_isWalk_28 (by decide) ?_
          exact gzret hx hb hr rfl hlocks hK hG gle.rf ⟨h, rfl⟩ (Nat.le_of_ble_eq_true rfl) (Nat.le_of_ble_eq_true rfl) d_H_isWalk_29
        · replace h := h.1 hc1
          refine lv_iconst (v := 1) hx hb d_H_isWalk_24 (by decide) ?_
          refine lv_goto (tgt := 29) hx hb d_H_isWalk_25 (by decide) ?_
          exact gzret hx hb hr rfl hlocks hK hG gle.rf ⟨h, rfl⟩ (Nat.le_of_ble_eq_true rfl) (Nat.le_of_ble_eq_true rfl) d_H_isWalk_29
def w_H_turnOf (post : Int32 → Prop) (S : St) (a0 : Int32) : Prop :=
  (a0 = 116 → post 1) ∧ (¬ a0 = 116 → (a0 = 117 → post (-1)) ∧ (¬ a0 = 117 → post 0))
set_option maxHeartbeats 4000000 in
set_option maxRecDepth 100000 in
theorem m_H_turnOf (l : Launch) (x : Cx) (S : St) (post : Int32 → Prop) (a0 : Int32) (h : w_H_turnOf post S a0) : Met l y_H_turnOf [.code y_H_turnOf c_H_turnOf 1 (some .int)] { frames := 0, cells := 0, slots := 0, locals := 0 } (va_Pc [.int a0] (GW x S)) (va_Qi (gPu post S) (gB x S) (xA x)) 0 0 (xA x) := by
  refine gMet (by decide +kernel) (Nat.le_of_ble_eq_true rfl) ?_
  intro p e s m args below meth c hx hb hr hown hlocks hin hw hK H locs hG ls hlA hml
  have hown : s.vm.findClass "WaltzHall" = some m.cls := hown
  have hl0 : lv_has ls 1 [(0, .int a0)] := hlA
  unfold w_H_turnOf at h
  refine lv_iload_n hx hb d_H_turnOf_0 rfl (lv_at hl0 0 rfl) ?_
  refine lv_bipush (v := 116) hx hb d_H_turnOf_1 (by decide) ?_
  refine lv_icmp_ne (tgt := 10) hx hb d_H_turnOf_3 (by decide) (fun hc2 => ?_) (fun hc2 => ?_)
  · replace h := h.2 hc2
    refine lv_iload_n hx hb d_H_turnOf_10 rfl (lv_at hl0 0 rfl) ?_
    refine lv_bipush (v := 117) hx hb d_H_turnOf_11 (by decide) ?_
    refine lv_icmp_ne (tgt := 20) hx hb d_H_turnOf_13 (by decide) (fun hc1 => ?_) (fun hc1 => ?_)
    · replace h := h.2 hc1
      refine lv_iconst (v := 0) hx hb d_H_turnOf_20 (by decide) ?_
      exact giret hx hb hr hlocks hK hG gle.rf ⟨h, rfl⟩ (Nat.le_of_ble_eq_true rfl) (Nat.le_of_ble_eq_true rfl) d_H_turnOf_21
    · replace h := h.1 hc1
      refine lv_iconst (v := (-1)) hx hb d_H_turnOf_16 (by decide) ?_
      refine lv_goto (tgt := 21) hx hb d_H_turnOf_17 (by decide) ?_
      exact giret hx hb hr hlocks hK hG gle.rf ⟨h, rfl⟩ (Nat.le_of_ble_eq_true rfl) (Nat.le_of_ble_eq_true rfl) d_H_turnOf_21
  · replace h := h.1 hc2
    refine lv_iconst (v := 1) hx hb d_H_turnOf_6 (by decide) ?_
    refine lv_goto (tgt := 21) hx hb d_H_turnOf_7 (by decide) ?_
    exact giret hx hb hr hlocks hK hG gle.rf ⟨h, rfl⟩ (Nat.le_of_ble_eq_true rfl) (Nat.le_of_ble_eq_true rfl) d_H_turnOf_21
def w_H_isFigure (post : Int32 → Prop) (S : St) (a0 : Int32) : Prop :=
  w_H_isWalk (fun (r1 : Int32) => (r1 = 0 → w_H_turnOf (fun (r2 : Int32) => (r2 = 0 → (a0 = 115 → post 1) ∧ (¬ a0 = 115 → (a0 = 119 → post 1) ∧ (¬ a0 = 119 → post 0))) ∧ (¬ r2 = 0 → post 1)) S a0) ∧ (¬ r1 = 0 → post 1)) S a0
set_option maxHeartbeats 4000000 in
set_option maxRecDepth 100000 in
theorem m_H_isFigure (l : Launch) (x : Cx) (S : St) (post : Int32 → Prop) (a0 : Int32) (h : w_H_isFigure post S a0) : Met l y_H_isFigure [.code y_H_isFigure c_H_isFigure 1 (some .boolean)] { frames := 1, cells := 0, slots := 0, locals := 20 } (va_Pc [.int a0] (GW x S)) (va_Qi (gPu post S) (gB x S) (xA x)) 0 0 (xA x) := by
  refine gMet (by decide +kernel) (Nat.le_of_ble_eq_true rfl) ?_
  intro p e s m args below meth c hx hb hr hown hlocks hin hw hK H locs hG ls hlA hml
  have hown : s.vm.findClass "WaltzHall" = some m.cls := hown
  have hl0 : lv_has ls 1 [(0, .int a0)] := hlA
  unfold w_H_isFigure at h
  refine lv_iload_n hx hb d_H_isFigure_0 rfl (lv_at hl0 0 rfl) ?_
  -- call H_isWalk
  refine gpi hK hG (va_runS (As := [.int a0]) (rest := []) ⟨hx, hb, hml, hown, hw⟩ (m_H_isWalk l x S _ a0  h) ⟨gcb hw tw_499 tw_28 tw_497 hd_H_isWalk rfl rfl ⟨(Nat.le_of_ble_eq_true rfl), (Nat.le_of_ble_eq_true rfl)⟩, hw _ tw_498⟩ (gpS hK hG) rfl rfl hl0.1 rfl (lv_room (Nat.le_of_ble_eq_true rfl)) d_H_isFigure_1 ⟨(Nat.le_of_ble_eq_true rfl), (Nat.le_of_ble_eq_true rfl)⟩) (fun r1 H locs h hG => ?_)
  refine lv_if_ne (tgt := 26) hx hb d_H_isFigure_4 (by decide) (fun hc6 => ?_) (fun hc6 => ?_)
  · replace h := h.2 hc6
    refine lv_iconst (v := 1) hx hb d_H_isFigure_26 (by decide) ?_
    refine lv_goto (tgt := 31) hx hb d_H_isFigure_27 (by decide) ?_
    exact gzret hx hb hr rfl hlocks hK hG gle.rf ⟨h, rfl⟩ (Nat.le_of_ble_eq_true rfl) (Nat.le_of_ble_eq_true rfl) d_H_isFigure_31
  · replace h := h.1 hc6
    refine lv_iload_n hx hb d_H_isFigure_7 rfl (lv_at hl0 0 rfl) ?_
    -- call H_turnOf
    refine gpi hK hG (va_runS (As := [.int a0]) (rest := []) ⟨hx, hb, hml, hown, hw⟩ (m_H_turnOf l x S _ a0  h) ⟨gcb hw tw_502 tw_28 tw_500 hd_H_turnOf rfl rfl ⟨(Nat.le_of_ble_eq_true rfl), (Nat.le_of_ble_eq_true rfl)⟩, hw _ tw_501⟩ (gpS hK hG) rfl rfl hl0.1 rfl (lv_room (Nat.le_of_ble_eq_true rfl)) d_H_isFigure_8 ⟨(Nat.le_of_ble_eq_true rfl), (Nat.le_of_ble_eq_true rfl)⟩) (fun r2 H locs h hG => ?_)
    refine lv_if_ne (tgt := 26) hx hb d_H_isFigure_11 (by decide) (fun hc5 => ?_) (fun hc5 => ?_)
    · replace h := h.2 hc5
      refine lv_iconst (v := 1) hx hb d_H_isFigure_26 (by decide) ?_
      refine lv_goto (tgt := 31) hx hb d_H_isFigure_27 (by decide) ?_
      exact gzret hx hb hr rfl hlocks hK hG gle.rf ⟨h, rfl⟩ (Nat.le_of_ble_eq_true rfl) (Nat.le_of_ble_eq_true rfl) d_H_isFigure_31
    · replace h := h.1 hc5
      refine lv_iload_n hx hb d_H_isFigure_14 rfl (lv_at hl0 0 rfl) ?_
      refine lv_bipush (v := 115) hx hb d_H_isFigure_15 (by decide) ?_
      refine lv_icmp_eq (tgt := 26) hx hb d_H_isFigure_17 (by decide) (fun hc4 => ?_) (fun hc4 => ?_)
      · replace h := h.1 hc4
        refine lv_iconst (v := 1) hx hb d_H_isFigure_26 (by decide) ?_
        refine lv_goto (tgt := 31) hx hb d_H_isFigure_27 (by decide) ?_
        exact gzret hx hb hr rfl hlocks hK hG gle.rf ⟨h, rfl⟩ (Nat.le_of_ble_eq_true rfl) (Nat.le_of_ble_eq_true rfl) d_H_isFigure_31
      · replace h := h.2 hc4
        refine lv_iload_n hx hb d_H_isFigure_20 rfl (lv_at hl0 0 rfl) ?_
        refine lv_bipush (v := 119) hx hb d_H_isFigure_21 (by decide) ?_
        refine lv_icmp_ne (tgt := 30) hx hb d_H_isFigure_23 (by decide) (fun hc3 => ?_) (fun hc3 => ?_)
        · replace h := h.2 hc3
          refine lv_iconst (v := 0) hx hb d_H_isFigure_30 (by decide) ?_
          exact gzret hx hb hr rfl hlocks hK hG gle.rf ⟨h, rfl⟩ (Nat.le_of_ble_eq_true rfl) (Nat.le_of_ble_eq_true rfl) d_H_isFigure_31
        · replace h := h.1 hc3
          refine lv_iconst (v := 1) hx hb d_H_isFigure_26 (by decide) ?_
          refine lv_goto (tgt := 31) hx hb d_H_isFigure_27 (by decide) ?_
          exact gzret hx hb hr rfl hlocks hK hG gle.rf ⟨h, rfl⟩ (Nat.le_of_ble_eq_true rfl) (Nat.le_of_ble_eq_true rfl) d_H_isFigure_31
def w_MA_floorMod (post : Int32 → Prop) (S : St) (a0 : Int32) (a1 : Int32) : Prop :=
  ¬ a1 = 0 ∧ ∀ v2 : Int32, v2 = a0 - a0 / a1 * a1 → (0 ≤ (a0 ^^^ a1) → post v2) ∧ (¬ 0 ≤ (a0 ^^^ a1) → (v2 = 0 → post v2) ∧ (¬ v2 = 0 → post (v2 + a1)))
set_option maxHeartbeats 4000000 in
set_option maxRecDepth 100000 in
theorem m_MA_floorMod (l : Launch) (x : Cx) (S : St) (post : Int32 → Prop) (a0 : Int32) (a1 : Int32) (h : w_MA_floorMod post S a0 a1) : Met l y_MA_floorMod [.code y_MA_floorMod c_MA_floorMod 3 (some .int)] { frames := 0, cells := 0, slots := 0, locals := 0 } (va_Pc [.int a0, .int a1] (GW x S)) (va_Qi (gPu post S) (gB x S) (xA x)) 0 0 (xA x) := by
  refine gMet (by decide +kernel) (Nat.le_of_ble_eq_true rfl) ?_
  intro p e s m args below meth c hx hb hr hown hlocks hin hw hK H locs hG ls hlA hml
  have hown : s.vm.findClass "java/lang/Math" = some m.cls := hown
  have hl0 : lv_has ls 3 [(0, .int a0), (1, .int a1)] := hlA
  unfold w_MA_floorMod at h
  refine lv_iload_n hx hb d_MA_floorMod_0 rfl (lv_at hl0 0 rfl) ?_
  refine lv_iload_n hx hb d_MA_floorMod_1 rfl (lv_at hl0 1 rfl) ?_
  obtain ⟨hz1, h⟩ := h
  refine lv_irem hx hb d_MA_floorMod_2 hz1 ?_
  refine lv_topi (fun v2 ev2 => ?_)
  replace h := h v2 ev2
  refine lv_istore_n (lv' := [(2, .int v2), (0, .int a0), (1, .int a1)]) hx hb d_MA_floorMod_3 rfl hl0 (by decide) rfl (fun ls hl3 => ?_)
  refine lv_iload_n hx hb d_MA_floorMod_4 rfl (lv_at hl3 1 rfl) ?_
  refine lv_iload_n hx hb d_MA_floorMod_5 rfl (lv_at hl3 2 rfl) ?_
  refine lv_ixor hx hb d_MA_floorMod_6 ?_
  refine lv_if_ge (tgt := 18) hx hb d_MA_floorMod_7 (by decide) (fun hc5 => ?_) (fun hc5 => ?_)
  · replace h := h.1 hc5
    refine lv_iload_n hx hb d_MA_floorMod_18 rfl (lv_at hl3 0 rfl) ?_
    exact giret hx hb hr hlocks hK hG gle.rf ⟨h, rfl⟩ (Nat.le_of_ble_eq_true rfl) (Nat.le_of_ble_eq_true rfl) d_MA_floorMod_19
  · replace h := h.2 hc5
    refine lv_iload_n hx hb d_MA_floorMod_10 rfl (lv_at hl3 0 rfl) ?_
    refine lv_if_eq (tgt := 18) hx hb d_MA_floorMod_11 (by decide) (fun hc4 => ?_) (fun hc4 => ?_)
    · replace h := h.1 hc4
      refine lv_iload_n hx hb d_MA_floorMod_18 rfl (lv_at hl3 0 rfl) ?_
      exact giret hx hb hr hlocks hK hG gle.rf ⟨h, rfl⟩ (Nat.le_of_ble_eq_true rfl) (Nat.le_of_ble_eq_true rfl) d_MA_floorMod_19
    · replace h := h.2 hc4
      refine lv_iload_n hx hb d_MA_floorMod_14 rfl (lv_at hl3 0 rfl) ?_
      refine lv_iload_n hx hb d_MA_floorMod_15 rfl (lv_at hl3 2 rfl) ?_
      refine lv_iadd hx hb d_MA_floorMod_16 ?_
      exact giret hx hb hr hlocks hK hG gle.rf ⟨h, rfl⟩ (Nat.le_of_ble_eq_true rfl) (Nat.le_of_ble_eq_true rfl) d_MA_floorMod_17
def w_H_turned (post : Int32 → Prop) (S : St) (a0 : Int32) (a1 : Int32) : Prop :=
  w_MA_floorMod (fun (r1 : Int32) => post r1) S (a0 + a1) 4
set_option maxHeartbeats 4000000 in
set_option maxRecDepth 100000 in
theorem m_H_turned (l : Launch) (x : Cx) (S : St) (post : Int32 → Prop) (a0 : Int32) (a1 : Int32) (h : w_H_turned post S a0 a1) : Met l y_H_turned [.code y_H_turned c_H_turned 2 (some .int)] { frames := 1, cells := 0, slots := 0, locals := 22 } (va_Pc [.int a0, .int a1] (GW x S)) (va_Qi (gPu post S) (gB x S) (xA x)) 0 0 (xA x) := by
  refine gMet (by decide +kernel) (Nat.le_of_ble_eq_true rfl) ?_
  intro p e s m args below meth c hx hb hr hown hlocks hin hw hK H locs hG ls hlA hml
  have hown : s.vm.findClass "WaltzHall" = some m.cls := hown
  have hl0 : lv_has ls 2 [(0, .int a0), (1, .int a1)] := hlA
  unfold w_H_turned at h
  refine lv_iload_n hx hb d_H_turned_0 rfl (lv_at hl0 0 rfl) ?_
  refine lv_iload_n hx hb d_H_turned_1 rfl (lv_at hl0 1 rfl) ?_
  refine lv_iadd hx hb d_H_turned_2 ?_
  refine lv_iconst (v := 4) hx hb d_H_turned_3 (by decide) ?_
  -- call MA_floorMod
  refine gpi hK hG (va_runS (As := [.int (a0 + a1), .int 4]) (rest := []) ⟨hx, hb, hml, hown, hw⟩ (m_MA_floorMod l x S _ (a0 + a1) 4  h) ⟨gcb hw tw_541 tw_40 tw_539 hd_MA_floorMod rfl rfl ⟨(Nat.le_of_ble_eq_true rfl), (Nat.le_of_ble_eq_true rfl)⟩, hw _ tw_540⟩ (gpS hK hG) rfl rfl hl0.1 rfl (lv_room (Nat.le_of_ble_eq_true rfl)) d_H_turned_4 ⟨(Nat.le_of_ble_eq_true rfl), (Nat.le_of_ble_eq_true rfl)⟩) (fun r1 H locs h hG => ?_)
  exact giret hx hb hr hlocks hK hG gle.rf ⟨h, rfl⟩ (Nat.le_of_ble_eq_true rfl) (Nat.le_of_ble_eq_true rfl) d_H_turned_7
def w_H_columnStep (post : Int32 → Prop) (S : St) (a0 : Int32) : Prop :=
  (a0 = 1 → post 1) ∧ (¬ a0 = 1 → (a0 = 3 → post (-1)) ∧ (¬ a0 = 3 → post 0))
set_option maxHeartbeats 4000000 in
set_option maxRecDepth 100000 in
theorem m_H_columnStep (l : Launch) (x : Cx) (S : St) (post : Int32 → Prop) (a0 : Int32) (h : w_H_columnStep post S a0) : Met l y_H_columnStep [.code y_H_columnStep c_H_columnStep 1 (some .int)] { frames := 0, cells := 0, slots := 0, locals := 0 } (va_Pc [.int a0] (GW x S)) (va_Qi (gPu post S) (gB x S) (xA x)) 0 0 (xA x) := by
  refine gMet (by decide +kernel) (Nat.le_of_ble_eq_true rfl) ?_
  intro p e s m args below meth c hx hb hr hown hlocks hin hw hK H locs hG ls hlA hml
  have hown : s.vm.findClass "WaltzHall" = some m.cls := hown
  have hl0 : lv_has ls 1 [(0, .int a0)] := hlA
  unfold w_H_columnStep at h
  refine lv_iload_n hx hb d_H_columnStep_0 rfl (lv_at hl0 0 rfl) ?_
  refine lv_iconst (v := 1) hx hb d_H_columnStep_1 (by decide) ?_
  refine lv_icmp_ne (tgt := 9) hx hb d_H_columnStep_2 (by decide) (fun hc2 => ?_) (fun hc2 => ?_)
  · replace h := h.2 hc2
    refine lv_iload_n hx hb d_H_columnStep_9 rfl (lv_at hl0 0 rfl) ?_
    refine lv_iconst (v := 3) hx hb d_H_columnStep_10 (by decide) ?_
    refine lv_icmp_ne (tgt := 18) hx hb d_H_columnStep_11 (by decide) (fun hc1 => ?_) (fun hc1 => ?_)
    · replace h := h.2 hc1
      refine lv_iconst (v := 0) hx hb d_H_columnStep_18 (by decide) ?_
      exact giret hx hb hr hlocks hK hG gle.rf ⟨h, rfl⟩ (Nat.le_of_ble_eq_true rfl) (Nat.le_of_ble_eq_true rfl) d_H_columnStep_19
    · replace h := h.1 hc1
      refine lv_iconst (v := (-1)) hx hb d_H_columnStep_14 (by decide) ?_
      refine lv_goto (tgt := 19) hx hb d_H_columnStep_15 (by decide) ?_
      exact giret hx hb hr hlocks hK hG gle.rf ⟨h, rfl⟩ (Nat.le_of_ble_eq_true rfl) (Nat.le_of_ble_eq_true rfl) d_H_columnStep_19
  · replace h := h.1 hc2
    refine lv_iconst (v := 1) hx hb d_H_columnStep_5 (by decide) ?_
    refine lv_goto (tgt := 19) hx hb d_H_columnStep_6 (by decide) ?_
    exact giret hx hb hr hlocks hK hG gle.rf ⟨h, rfl⟩ (Nat.le_of_ble_eq_true rfl) (Nat.le_of_ble_eq_true rfl) d_H_columnStep_19
def w_H_rowStep (post : Int32 → Prop) (S : St) (a0 : Int32) : Prop :=
  (a0 = 0 → post (-1)) ∧ (¬ a0 = 0 → (a0 = 2 → post 1) ∧ (¬ a0 = 2 → post 0))
set_option maxHeartbeats 4000000 in
set_option maxRecDepth 100000 in
theorem m_H_rowStep (l : Launch) (x : Cx) (S : St) (post : Int32 → Prop) (a0 : Int32) (h : w_H_rowStep post S a0) : Met l y_H_rowStep [.code y_H_rowStep c_H_rowStep 1 (some .int)] { frames := 0, cells := 0, slots := 0, locals := 0 } (va_Pc [.int a0] (GW x S)) (va_Qi (gPu post S) (gB x S) (xA x)) 0 0 (xA x) := by
  refine gMet (by decide +kernel) (Nat.le_of_ble_eq_true rfl) ?_
  intro p e s m args below meth c hx hb hr hown hlocks hin hw hK H locs hG ls hlA hml
  have hown : s.vm.findClass "WaltzHall" = some m.cls := hown
  have hl0 : lv_has ls 1 [(0, .int a0)] := hlA
  unfold w_H_rowStep at h
  refine lv_iload_n hx hb d_H_rowStep_0 rfl (lv_at hl0 0 rfl) ?_
  refine lv_if_ne (tgt := 8) hx hb d_H_rowStep_1 (by decide) (fun hc2 => ?_) (fun hc2 => ?_)
  · replace h := h.2 hc2
    refine lv_iload_n hx hb d_H_rowStep_8 rfl (lv_at hl0 0 rfl) ?_
    refine lv_iconst (v := 2) hx hb d_H_rowStep_9 (by decide) ?_
    refine lv_icmp_ne (tgt := 17) hx hb d_H_rowStep_10 (by decide) (fun hc1 => ?_) (fun hc1 => ?_)
    · replace h := h.2 hc1
      refine lv_iconst (v := 0) hx hb d_H_rowStep_17 (by decide) ?_
      exact giret hx hb hr hlocks hK hG gle.rf ⟨h, rfl⟩ (Nat.le_of_ble_eq_true rfl) (Nat.le_of_ble_eq_true rfl) d_H_rowStep_18
    · replace h := h.1 hc1
      refine lv_iconst (v := 1) hx hb d_H_rowStep_13 (by decide) ?_
      refine lv_goto (tgt := 18) hx hb d_H_rowStep_14 (by decide) ?_
      exact giret hx hb hr hlocks hK hG gle.rf ⟨h, rfl⟩ (Nat.le_of_ble_eq_true rfl) (Nat.le_of_ble_eq_true rfl) d_H_rowStep_18
  · replace h := h.1 hc2
    refine lv_iconst (v := (-1)) hx hb d_H_rowStep_4 (by decide) ?_
    refine lv_goto (tgt := 18) hx hb d_H_rowStep_5 (by decide) ?_
    exact giret hx hb hr hlocks hK hG gle.rf ⟨h, rfl⟩ (Nat.le_of_ble_eq_true rfl) (Nat.le_of_ble_eq_true rfl) d_H_rowStep_18
def w_H_wayOf (post : Int32 → Prop) (S : St) (a0 : Int32) : Prop :=
  (a0 = 98 → post 2) ∧ (a0 = 108 → post 3) ∧ (a0 = 114 → post 1) ∧ (¬ a0 = 98 → ¬ a0 = 108 → ¬ a0 = 114 → post 0)
set_option maxHeartbeats 4000000 in
set_option maxRecDepth 100000 in
theorem m_H_wayOf (l : Launch) (x : Cx) (S : St) (post : Int32 → Prop) (a0 : Int32) (h : w_H_wayOf post S a0) : Met l y_H_wayOf [.code y_H_wayOf c_H_wayOf 1 (some .int)] { frames := 0, cells := 0, slots := 0, locals := 0 } (va_Pc [.int a0] (GW x S)) (va_Qi (gPu post S) (gB x S) (xA x)) 0 0 (xA x) := by
  refine gMet (by decide +kernel) (Nat.le_of_ble_eq_true rfl) ?_
  intro p e s m args below meth c hx hb hr hown hlocks hin hw hK H locs hG ls hlA hml
  have hown : s.vm.findClass "WaltzHall" = some m.cls := hown
  have hl0 : lv_has ls 1 [(0, .int a0)] := hlA
  unfold w_H_wayOf at h
  refine lv_iload_n hx hb d_H_wayOf_0 rfl (lv_at hl0 0 rfl) ?_
  by_cases hc1 : a0 = 98
  · replace h := h.1 hc1
    refine lv_lookup (off := 37) (tgt := 38) hx hb d_H_wayOf_1 (by decide) (by rw [hc1]; first | done | rfl) (by decide) ?_
    refine lv_iconst (v := 2) hx hb d_H_wayOf_38 (by decide) ?_
    exact giret hx hb hr hlocks hK hG gle.rf ⟨h, rfl⟩ (Nat.le_of_ble_eq_true rfl) (Nat.le_of_ble_eq_true rfl) d_H_wayOf_39
  · skip
    by_cases hc2 : a0 = 108
    · replace h := h.2.1 hc2
      refine lv_lookup (off := 39) (tgt := 40) hx hb d_H_wayOf_1 (by decide) (by rw [hc2]; first | done | rfl) (by decide) ?_
      refine lv_iconst (v := 3) hx hb d_H_wayOf_40 (by decide) ?_
      exact giret hx hb hr hlocks hK hG gle.rf ⟨h, rfl⟩ (Nat.le_of_ble_eq_true rfl) (Nat.le_of_ble_eq_true rfl) d_H_wayOf_41
    · skip
      by_cases hc3 : a0 = 114
      · replace h := h.2.2.1 hc3
        refine lv_lookup (off := 35) (tgt := 36) hx hb d_H_wayOf_1 (by decide) (by rw [hc3]; first | done | rfl) (by decide) ?_
        refine lv_iconst (v := 1) hx hb d_H_wayOf_36 (by decide) ?_
        exact giret hx hb hr hlocks hK hG gle.rf ⟨h, rfl⟩ (Nat.le_of_ble_eq_true rfl) (Nat.le_of_ble_eq_true rfl) d_H_wayOf_37
      · skip
        replace h := h.2.2.2 hc1 hc2 hc3
        refine lv_lookup (off := 41) (tgt := 42) hx hb d_H_wayOf_1 (by decide) ((if_neg (fun z => hc1 (Int32.toInt_inj.mp z.symm))).trans ((if_neg (fun z => hc2 (Int32.toInt_inj.mp z.symm))).trans (if_neg (fun z => hc3 (Int32.toInt_inj.mp z.symm))))) (by decide) ?_
        refine lv_iconst (v := 0) hx hb d_H_wayOf_42 (by decide) ?_
        exact giret hx hb hr hlocks hK hG gle.rf ⟨h, rfl⟩ (Nat.le_of_ble_eq_true rfl) (Nat.le_of_ble_eq_true rfl) d_H_wayOf_43
def w_H_isOnFloor (post : Int32 → Prop) (S : St) (a0 : Int32) (a1 : Int32) : Prop :=
  (a0 < 0 → post 0) ∧ (¬ a0 < 0 → (16 ≤ a0 → post 0) ∧ (¬ 16 ≤ a0 → (a1 < 0 → post 0) ∧ (¬ a1 < 0 → (16 ≤ a1 → post 0) ∧ (¬ 16 ≤ a1 → post 1))))
set_option maxHeartbeats 4000000 in
set_option maxRecDepth 100000 in
theorem m_H_isOnFloor (l : Launch) (x : Cx) (S : St) (post : Int32 → Prop) (a0 : Int32) (a1 : Int32) (h : w_H_isOnFloor post S a0 a1) : Met l y_H_isOnFloor [.code y_H_isOnFloor c_H_isOnFloor 2 (some .boolean)] { frames := 0, cells := 0, slots := 0, locals := 0 } (va_Pc [.int a0, .int a1] (GW x S)) (va_Qi (gPu post S) (gB x S) (xA x)) 0 0 (xA x) := by
  refine gMet (by decide +kernel) (Nat.le_of_ble_eq_true rfl) ?_
  intro p e s m args below meth c hx hb hr hown hlocks hin hw hK H locs hG ls hlA hml
  have hown : s.vm.findClass "WaltzHall" = some m.cls := hown
  have hl0 : lv_has ls 2 [(0, .int a0), (1, .int a1)] := hlA
  unfold w_H_isOnFloor at h
  refine lv_iload_n hx hb d_H_isOnFloor_0 rfl (lv_at hl0 0 rfl) ?_
  refine lv_if_lt (tgt := 24) hx hb d_H_isOnFloor_1 (by decide) (fun hc4 => ?_) (fun hc4 => ?_)
  · replace h := h.1 hc4
    refine lv_iconst (v := 0) hx hb d_H_isOnFloor_24 (by decide) ?_
    exact gzret hx hb hr rfl hlocks hK hG gle.rf ⟨h, rfl⟩ (Nat.le_of_ble_eq_true rfl) (Nat.le_of_ble_eq_true rfl) d_H_isOnFloor_25
  · replace h := h.2 hc4
    refine lv_iload_n hx hb d_H_isOnFloor_4 rfl (lv_at hl0 0 rfl) ?_
    refine lv_bipush (v := 16) hx hb d_H_isOnFloor_5 (by decide) ?_
    refine lv_icmp_ge (tgt := 24) hx hb d_H_isOnFloor_7 (by decide) (fun hc3 => ?_) (fun hc3 => ?_)
    · replace h := h.1 hc3
      refine lv_iconst (v := 0) hx hb d_H_isOnFloor_24 (by decide) ?_
      exact gzret hx hb hr rfl hlocks hK hG gle.rf ⟨h, rfl⟩ (Nat.le_of_ble_eq_true rfl) (Nat.le_of_ble_eq_true rfl) d_H_isOnFloor_25
    · replace h := h.2 hc3
      refine lv_iload_n hx hb d_H_isOnFloor_10 rfl (lv_at hl0 1 rfl) ?_
      refine lv_if_lt (tgt := 24) hx hb d_H_isOnFloor_11 (by decide) (fun hc2 => ?_) (fun hc2 => ?_)
      · replace h := h.1 hc2
        refine lv_iconst (v := 0) hx hb d_H_isOnFloor_24 (by decide) ?_
        exact gzret hx hb hr rfl hlocks hK hG gle.rf ⟨h, rfl⟩ (Nat.le_of_ble_eq_true rfl) (Nat.le_of_ble_eq_true rfl) d_H_isOnFloor_25
      · replace h := h.2 hc2
        refine lv_iload_n hx hb d_H_isOnFloor_14 rfl (lv_at hl0 1 rfl) ?_
        refine lv_bipush (v := 16) hx hb d_H_isOnFloor_15 (by decide) ?_
        refine lv_icmp_ge (tgt := 24) hx hb d_H_isOnFloor_17 (by decide) (fun hc1 => ?_) (fun hc1 => ?_)
        · replace h := h.1 hc1
          refine lv_iconst (v := 0) hx hb d_H_isOnFloor_24 (by decide) ?_
          exact gzret hx hb hr rfl hlocks hK hG gle.rf ⟨h, rfl⟩ (Nat.le_of_ble_eq_true rfl) (Nat.le_of_ble_eq_true rfl) d_H_isOnFloor_25
        · replace h := h.2 hc1
          refine lv_iconst (v := 1) hx hb d_H_isOnFloor_20 (by decide) ?_
          refine lv_goto (tgt := 25) hx hb d_H_isOnFloor_21 (by decide) ?_
          exact gzret hx hb hr rfl hlocks hK hG gle.rf ⟨h, rfl⟩ (Nat.le_of_ble_eq_true rfl) (Nat.le_of_ble_eq_true rfl) d_H_isOnFloor_25
def w_H_distance (post : Int32 → Prop) (S : St) (a0 : Int32) (a1 : Int32) (a2 : Int32) (a3 : Int32) : Prop :=
  ∀ v1 : Int32, v1 = (if 0 ≤ (a0 - a2) then (a0 - a2) else 0 - (a0 - a2)) → ∀ v2 : Int32, v2 = (if 0 ≤ (a1 - a3) then (a1 - a3) else 0 - (a1 - a3)) → post (v1 + v2)
set_option maxHeartbeats 4000000 in
set_option maxRecDepth 100000 in
theorem m_H_distance (l : Launch) (x : Cx) (S : St) (post : Int32 → Prop) (a0 : Int32) (a1 : Int32) (a2 : Int32) (a3 : Int32) (h : w_H_distance post S a0 a1 a2 a3) : Met l y_H_distance [.code y_H_distance c_H_distance 4 (some .int)] { frames := 1, cells := 0, slots := 0, locals := 21 } (va_Pc [.int a0, .int a1, .int a2, .int a3] (GW x S)) (va_Qi (gPu post S) (gB x S) (xA x)) 0 0 (xA x) := by
  refine gMet (by decide +kernel) (Nat.le_of_ble_eq_true rfl) ?_
  intro p e s m args below meth c hx hb hr hown hlocks hin hw hK H locs hG ls hlA hml
  have hown : s.vm.findClass "WaltzHall" = some m.cls := hown
  have hl0 : lv_has ls 4 [(0, .int a0), (1, .int a1), (2, .int a2), (3, .int a3)] := hlA
  unfold w_H_distance at h
  refine lv_iload_n hx hb d_H_distance_0 rfl (lv_at hl0 0 rfl) ?_
  refine lv_iload_n hx hb d_H_distance_1 rfl (lv_at hl0 2 rfl) ?_
  refine lv_isub hx hb d_H_distance_2 ?_
  refine va_mabs hx hb (hml.trans hl0.1.symm) hown (hw _ tw_675) (hw _ tw_676) (hw _ tw_40) (hw _ tw_677) (Nat.le_of_ble_eq_true rfl) (Nat.le_of_ble_eq_true rfl) (Nat.le_of_ble_eq_true rfl) (Nat.le_of_ble_eq_true rfl) d_H_distance_3 ?_
  refine lv_topi (fun v1 ev1 => ?_)
  replace h := h v1 ev1
  refine lv_iload_n hx hb d_H_distance_6 rfl (lv_at hl0 1 rfl) ?_
  refine lv_iload_n hx hb d_H_distance_7 rfl (lv_at hl0 3 rfl) ?_
  refine lv_isub hx hb d_H_distance_8 ?_
  refine va_mabs hx hb (hml.trans hl0.1.symm) hown (hw _ tw_675) (hw _ tw_676) (hw _ tw_40) (hw _ tw_677) (Nat.le_of_ble_eq_true rfl) (Nat.le_of_ble_eq_true rfl) (Nat.le_of_ble_eq_true rfl) (Nat.le_of_ble_eq_true rfl) d_H_distance_9 ?_
  refine lv_topi (fun v2 ev2 => ?_)
  replace h := h v2 ev2
  refine lv_iadd hx hb d_H_distance_12 ?_
  exact giret hx hb hr hlocks hK hG gle.rf ⟨h, rfl⟩ (Nat.le_of_ble_eq_true rfl) (Nat.le_of_ble_eq_true rfl) d_H_distance_13
def w_R_isSpent (post : Int32 → Prop) (S : St) (a0 : Nat) : Prop :=
  ((sI S 11 a0) ≤ (sI S 10 a0) → post 0) ∧ (¬ (sI S 11 a0) ≤ (sI S 10 a0) → post 1)
set_option maxHeartbeats 4000000 in
set_option maxRecDepth 100000 in
theorem m_R_isSpent (l : Launch) (x : Cx) (S : St) (post : Int32 → Prop) (a0 : Nat) (fa0 : isA S 2 a0) (h : w_R_isSpent post S a0) : Met l y_R_isSpent [.code y_R_isSpent c_R_isSpent 1 (some .boolean)] { frames := 0, cells := 0, slots := 0, locals := 0 } (va_Pc [.ref a0] (GW x S)) (va_Qi (gPu post S) (gB x S) (xA x)) 0 0 (xA x) := by
  refine gMet (by decide +kernel) (Nat.le_of_ble_eq_true rfl) ?_
  intro p e s m args below meth c hx hb hr hown hlocks hin hw hK H locs hG ls hlA hml
  have hown : s.vm.findClass "WaltzHall$Dancer" = some m.cls := hown
  have hl0 : lv_has ls 1 [(0, .ref a0)] := hlA
  unfold w_R_isSpent at h
  refine lv_aload_n hx hb d_R_isSpent_0 rfl (lv_at hl0 0 rfl) ?_
  refine gget hx hb hw hown hK hG kd_R fa0 rfl 4 (by decide) rfl tw_587 (fun _ h9 => h9) d_R_isSpent_1 ?_
  refine lv_aload_n hx hb d_R_isSpent_4 rfl (lv_at hl0 0 rfl) ?_
  refine gget hx hb hw hown hK hG kd_R fa0 rfl 5 (by decide) rfl tw_590 (fun _ h9 => h9) d_R_isSpent_5 ?_
  refine lv_icmp_ge (tgt := 15) hx hb d_R_isSpent_8 (by decide) (fun hc1 => ?_) (fun hc1 => ?_)
  · replace h := h.1 hc1
    refine lv_iconst (v := 0) hx hb d_R_isSpent_15 (by decide) ?_
    exact gzret hx hb hr rfl hlocks hK hG gle.rf ⟨h, rfl⟩ (Nat.le_of_ble_eq_true rfl) (Nat.le_of_ble_eq_true rfl) d_R_isSpent_16
  · replace h := h.2 hc1
    refine lv_iconst (v := 1) hx hb d_R_isSpent_11 (by decide) ?_
    refine lv_goto (tgt := 16) hx hb d_R_isSpent_12 (by decide) ?_
    exact gzret hx hb hr rfl hlocks hK hG gle.rf ⟨h, rfl⟩ (Nat.le_of_ble_eq_true rfl) (Nat.le_of_ble_eq_true rfl) d_R_isSpent_16
def w_R_canDance (post : Int32 → Prop) (S : St) (a0 : Nat) : Prop :=
  ((sI S 16 a0) = 0 → w_R_isSpent (fun (r1 : Int32) => (r1 = 0 → post 1) ∧ (¬ r1 = 0 → post 0)) S a0) ∧ (¬ (sI S 16 a0) = 0 → post 0)
set_option maxHeartbeats 4000000 in
set_option maxRecDepth 100000 in
theorem m_R_canDance (l : Launch) (x : Cx) (S : St) (post : Int32 → Prop) (a0 : Nat) (fa0 : isA S 2 a0) (h : w_R_canDance post S a0) : Met l y_R_canDance [.code y_R_canDance c_R_canDance 1 (some .boolean)] { frames := 1, cells := 0, slots := 0, locals := 20 } (va_Pc [.ref a0] (GW x S)) (va_Qi (gPu post S) (gB x S) (xA x)) 0 0 (xA x) := by
  refine gMet (by decide +kernel) (Nat.le_of_ble_eq_true rfl) ?_
  intro p e s m args below meth c hx hb hr hown hlocks hin hw hK H locs hG ls hlA hml
  have hown : s.vm.findClass "WaltzHall$Dancer" = some m.cls := hown
  have hl0 : lv_has ls 1 [(0, .ref a0)] := hlA
  unfold w_R_canDance at h
  refine lv_aload_n hx hb d_R_canDance_0 rfl (lv_at hl0 0 rfl) ?_
  refine gget hx hb hw hown hK hG kd_R fa0 rfl 10 (by decide) rfl tw_604 (fun _ h9 => h9) d_R_canDance_1 ?_
  refine lv_if_ne (tgt := 18) hx hb d_R_canDance_4 (by decide) (fun hc3 => ?_) (fun hc3 => ?_)
  · replace h := h.2 hc3
    refine lv_iconst (v := 0) hx hb d_R_canDance_18 (by decide) ?_
    exact gzret hx hb hr rfl hlocks hK hG gle.rf ⟨h, rfl⟩ (Nat.le_of_ble_eq_true rfl) (Nat.le_of_ble_eq_true rfl) d_R_canDance_19
  · replace h := h.1 hc3
    refine lv_aload_n hx hb d_R_canDance_7 rfl (lv_at hl0 0 rfl) ?_
    -- call R_isSpent
    refine gpi hK hG (va_runV (As := []) (rest := []) ⟨hx, hb, hml, hown, hw⟩ (m_R_isSpent l x S _ a0 fa0 h) ⟨gcb hw tw_329 tw_52 tw_807 hd_R_isSpent rfl rfl ⟨(Nat.le_of_ble_eq_true rfl), (Nat.le_of_ble_eq_true rfl)⟩, hw _ tw_327, hw _ tw_328⟩ (gpV hK hG kd_R fa0 rfl) rfl rfl hl0.1 rfl (lv_room (Nat.le_of_ble_eq_true rfl)) d_R_canDance_8 ⟨(Nat.le_of_ble_eq_true rfl), (Nat.le_of_ble_eq_true rfl)⟩) (fun r1 H locs h hG => ?_)
    refine lv_if_ne (tgt := 18) hx hb d_R_canDance_11 (by decide) (fun hc2 => ?_) (fun hc2 => ?_)
    · replace h := h.2 hc2
      refine lv_iconst (v := 0) hx hb d_R_canDance_18 (by decide) ?_
      exact gzret hx hb hr rfl hlocks hK hG gle.rf ⟨h, rfl⟩ (Nat.le_of_ble_eq_true rfl) (Nat.le_of_ble_eq_true rfl) d_R_canDance_19
    · replace h := h.1 hc2
      refine lv_iconst (v := 1) hx hb d_R_canDance_14 (by decide) ?_
      refine lv_goto (tgt := 19) hx hb d_R_canDance_15 (by decide) ?_
      exact gzret hx hb hr rfl hlocks hK hG gle.rf ⟨h, rfl⟩ (Nat.le_of_ble_eq_true rfl) (Nat.le_of_ble_eq_true rfl) d_R_canDance_19
def w_R_isBeside (post : Int32 → Prop) (S : St) (a0 : Nat) (a1 : Option Nat) : Prop :=
  ∃ y1 : Nat, a1 = some y1 ∧ isA S 2 y1 ∧ w_H_distance (fun (r3 : Int32) => (r3 = 1 → post 1) ∧ (¬ r3 = 1 → post 0)) S (sI S 7 a0) (sI S 8 a0) (sI S 7 y1) (sI S 8 y1)
set_option maxHeartbeats 4000000 in
set_option maxRecDepth 100000 in
theorem m_R_isBeside (l : Launch) (x : Cx) (S : St) (post : Int32 → Prop) (a0 : Nat) (a1 : Option Nat) (fa0 : isA S 2 a0) (h : w_R_isBeside post S a0 a1) : Met l y_R_isBeside [.code y_R_isBeside c_R_isBeside 2 (some .boolean)] { frames := 2, cells := 0, slots := 0, locals := 44 } (va_Pc [.ref a0, va_rf a1] (GW x S)) (va_Qi (gPu post S) (gB x S) (xA x)) 0 0 (xA x) := by
  refine gMet (by decide +kernel) (by simp [lg_sl, gCat, gci1, gcr1, gcl1, gcd1]) ?_
  intro p e s m args below meth c hx hb hr hown hlocks hin hw hK H locs hG ls hlA hml
  have hown : s.vm.findClass "WaltzHall$Dancer" = some m.cls := hown
  have hl0 : lv_has ls 2 [(0, .ref a0), (1, va_rf a1)] := hlA
  unfold w_R_isBeside at h
  refine lv_aload_n hx hb d_R_isBeside_0 rfl (lv_at hl0 0 rfl) ?_
  refine gget hx hb hw hown hK hG kd_R fa0 rfl 1 (by decide) rfl tw_576 (fun _ h9 => h9) d_R_isBeside_1 ?_
  refine lv_aload_n hx hb d_R_isBeside_4 rfl (lv_at hl0 0 rfl) ?_
  refine gget hx hb hw hown hK hG kd_R fa0 rfl 2 (by decide) rfl tw_580 (fun _ h9 => h9) d_R_isBeside_5 ?_
  refine gaload_n hx hb d_R_isBeside_8 rfl (lv_at hl0 1 rfl) ?_
  obtain ⟨y1, ey1, h⟩ := h
  subst ey1
  obtain ⟨f2, h⟩ := h
  refine gget hx hb hw hown hK hG kd_R f2 rfl 1 (by decide) rfl tw_576 (fun _ h9 => h9) d_R_isBeside_9 ?_
  refine lv_aload_n hx hb d_R_isBeside_12 rfl (lv_at hl0 1 rfl) ?_
  refine gget hx hb hw hown hK hG kd_R f2 rfl 2 (by decide) rfl tw_580 (fun _ h9 => h9) d_R_isBeside_13 ?_
  -- call H_distance
  refine gpi hK hG (va_runSN (As := [.int (sI S 7 a0), .int (sI S 8 a0), .int (sI S 7 y1), .int (sI S 8 y1)]) (rest := []) ⟨hx, hb, hml, hown, hw⟩ (m_H_distance l x S _ (sI S 7 a0) (sI S 8 a0) (sI S 7 y1) (sI S 8 y1)  h) ⟨gcn hw tw_674 tw_28 tw_672 hd_H_distance rfl rfl ⟨(Nat.le_of_ble_eq_true rfl), (Nat.le_of_ble_eq_true rfl)⟩, hw _ tw_673, trivial⟩ (gpS hK hG) rfl rfl hl0.1 rfl (lv_room (Nat.le_of_ble_eq_true rfl)) d_R_isBeside_16 ⟨(Nat.le_of_ble_eq_true rfl), (Nat.le_of_ble_eq_true rfl)⟩) (fun r3 H locs h hG => ?_)
  refine lv_iconst (v := 1) hx hb d_R_isBeside_19 (by decide) ?_
  refine lv_icmp_ne (tgt := 27) hx hb d_R_isBeside_20 (by decide) (fun hc4 => ?_) (fun hc4 => ?_)
  · replace h := h.2 hc4
    refine lv_iconst (v := 0) hx hb d_R_isBeside_27 (by decide) ?_
    exact gzret hx hb hr rfl hlocks hK hG gle.rf ⟨h, rfl⟩ (Nat.le_of_ble_eq_true rfl) (Nat.le_of_ble_eq_true rfl) d_R_isBeside_28
  · replace h := h.1 hc4
    refine lv_iconst (v := 1) hx hb d_R_isBeside_23 (by decide) ?_
    refine lv_goto (tgt := 28) hx hb d_R_isBeside_24 (by decide) ?_
    exact gzret hx hb hr rfl hlocks hK hG gle.rf ⟨h, rfl⟩ (Nat.le_of_ble_eq_true rfl) (Nat.le_of_ble_eq_true rfl) d_R_isBeside_28
def w_R_windBy (post : St → Prop) (S : St) (a0 : Nat) (a1 : Int32) : Prop :=
  ∀ v1 : Int32, v1 = (if ((sI S 10 a0) + a1) < 200 then ((sI S 10 a0) + a1) else 200) → ∀ v2 : Int32, v2 = (if 0 < v1 then v1 else 0) → ∀ S3 : St, S3 = pI S 10 a0 v2 → post S3
set_option maxHeartbeats 4000000 in
set_option maxRecDepth 100000 in
theorem m_R_windBy (l : Launch) (x : Cx) (S : St) (post : St → Prop) (a0 : Nat) (a1 : Int32) (fa0 : isA S 2 a0) (h : w_R_windBy post S a0 a1) : Met l y_R_windBy [.code y_R_windBy c_R_windBy 2 none] { frames := 1, cells := 0, slots := 0, locals := 21 } (va_Pc [.ref a0, .int a1] (GW x S)) (va_Qv post (gB x S) (xA x)) 0 0 (xA x) := by
  refine gMet (by decide +kernel) (Nat.le_of_ble_eq_true rfl) ?_
  intro p e s m args below meth c hx hb hr hown hlocks hin hw hK H locs hG ls hlA hml
  have hown : s.vm.findClass "WaltzHall$Dancer" = some m.cls := hown
  have hl0 : lv_has ls 2 [(0, .ref a0), (1, .int a1)] := hlA
  have leS : gle S S := gle.rf
  unfold w_R_windBy at h
  refine lv_aload_n hx hb d_R_windBy_0 rfl (lv_at hl0 0 rfl) ?_
  refine lv_iconst (v := 0) hx hb d_R_windBy_1 (by decide) ?_
  refine lv_sipush (v := 200) hx hb d_R_windBy_2 (by decide) ?_
  refine lv_aload_n hx hb d_R_windBy_5 rfl (lv_at hl0 0 rfl) ?_
  refine gget hx hb hw hown hK hG kd_R fa0 rfl 4 (by decide) rfl tw_587 (fun _ h9 => h9) d_R_windBy_6 ?_
  refine lv_iload_n hx hb d_R_windBy_9 rfl (lv_at hl0 1 rfl) ?_
  refine lv_iadd hx hb d_R_windBy_10 ?_
  refine va_mmin hx hb (hml.trans hl0.1.symm) hown (hw _ tw_703) (hw _ tw_247) (hw _ tw_40) (hw _ tw_248) (Nat.le_of_ble_eq_true rfl) (Nat.le_of_ble_eq_true rfl) (Nat.le_of_ble_eq_true rfl) (Nat.le_of_ble_eq_true rfl) d_R_windBy_11 ?_
  refine lv_topi (fun v1 ev1 => ?_)
  replace h := h v1 ev1
  refine va_mmax hx hb (hml.trans hl0.1.symm) hown (hw _ tw_704) (hw _ tw_215) (hw _ tw_40) (hw _ tw_216) (Nat.le_of_ble_eq_true rfl) (Nat.le_of_ble_eq_true rfl) (Nat.le_of_ble_eq_true rfl) (Nat.le_of_ble_eq_true rfl) d_R_windBy_14 ?_
  refine lv_topi (fun v2 ev2 => ?_)
  replace h := h v2 ev2
  refine gput (S' := pI S 10 a0 v2) hx hb hw hown hK hG kd_R fa0 rfl 4 (by decide) (gChI fa0 rfl) tw_587 (fun _ h9 => h9) rfl rfl rfl rfl (Nat.le_of_ble_eq_true rfl) d_R_windBy_17 (fun S3 H locs eS3 hle1 hG => ?_)
  replace h := h S3 eS3
  have fa0 := gle_isA hle1 fa0
  have leS := leS.tr hle1
  exact gvret hx hb hr hlocks hK hG leS h (Nat.le_of_ble_eq_true rfl) (Nat.le_of_ble_eq_true rfl) d_R_windBy_20
def w_R_aimAt (post : St → Prop) (S : St) (a0 : Nat) (a1 : Int32) (a2 : Int32) : Prop :=
  ∀ S1 : St, S1 = pI S 19 a0 a1 → ∀ S2 : St, S2 = pI S1 20 a0 a2 → post S2
set_option maxHeartbeats 4000000 in
set_option maxRecDepth 100000 in
theorem m_R_aimAt (l : Launch) (x : Cx) (S : St) (post : St → Prop) (a0 : Nat) (a1 : Int32) (a2 : Int32) (fa0 : isA S 2 a0) (h : w_R_aimAt post S a0 a1 a2) : Met l y_R_aimAt [.code y_R_aimAt c_R_aimAt 3 none] { frames := 0, cells := 0, slots := 0, locals := 0 } (va_Pc [.ref a0, .int a1, .int a2] (GW x S)) (va_Qv post (gB x S) (xA x)) 0 0 (xA x) := by
  refine gMet (by decide +kernel) (Nat.le_of_ble_eq_true rfl) ?_
  intro p e s m args below meth c hx hb hr hown hlocks hin hw hK H locs hG ls hlA hml
  have hown : s.vm.findClass "WaltzHall$Dancer" = some m.cls := hown
  have hl0 : lv_has ls 3 [(0, .ref a0), (1, .int a1), (2, .int a2)] := hlA
  have leS : gle S S := gle.rf
  unfold w_R_aimAt at h
  refine lv_aload_n hx hb d_R_aimAt_0 rfl (lv_at hl0 0 rfl) ?_
  refine lv_iload_n hx hb d_R_aimAt_1 rfl (lv_at hl0 1 rfl) ?_
  refine gput (S' := pI S 19 a0 a1) hx hb hw hown hK hG kd_R fa0 rfl 13 (by decide) (gChI fa0 rfl) tw_609 (fun _ h9 => h9) rfl rfl rfl rfl (Nat.le_of_ble_eq_true rfl) d_R_aimAt_2 (fun S1 H locs eS1 hle1 hG => ?_)
  replace h := h S1 eS1
  have fa0 := gle_isA hle1 fa0
  have leS := leS.tr hle1
  refine lv_aload_n hx hb d_R_aimAt_5 rfl (lv_at hl0 0 rfl) ?_
  refine lv_iload_n hx hb d_R_aimAt_6 rfl (lv_at hl0 2 rfl) ?_
  refine gput (S' := pI S1 20 a0 a2) hx hb hw hown hK hG kd_R fa0 rfl 14 (by decide) (gChI fa0 rfl) tw_611 (fun _ h9 => h9) rfl rfl rfl rfl (Nat.le_of_ble_eq_true rfl) d_R_aimAt_7 (fun S2 H locs eS2 hle1 hG => ?_)
  replace h := h S2 eS2
  have fa0 := gle_isA hle1 fa0
  have leS := leS.tr hle1
  exact gvret hx hb hr hlocks hK hG leS h (Nat.le_of_ble_eq_true rfl) (Nat.le_of_ble_eq_true rfl) d_R_aimAt_10
def w_R_aimFrom (post : St → Prop) (S : St) (a0 : Nat) (a1 : Int32) (a2 : Int32) (a3 : Int32) : Prop :=
  w_H_columnStep (fun (r1 : Int32) => w_H_rowStep (fun (r2 : Int32) => w_R_aimAt (fun (S3 : St) => post S3) S a0 (a1 + r1) (a2 + r2)) S a3) S a3
set_option maxHeartbeats 4000000 in
set_option maxRecDepth 100000 in
theorem m_R_aimFrom (l : Launch) (x : Cx) (S : St) (post : St → Prop) (a0 : Nat) (a1 : Int32) (a2 : Int32) (a3 : Int32) (fa0 : isA S 2 a0) (h : w_R_aimFrom post S a0 a1 a2 a3) : Met l y_R_aimFrom [.code y_R_aimFrom c_R_aimFrom 4 none] { frames := 1, cells := 0, slots := 0, locals := 22 } (va_Pc [.ref a0, .int a1, .int a2, .int a3] (GW x S)) (va_Qv post (gB x S) (xA x)) 0 0 (xA x) := by
  refine gMet (by decide +kernel) (Nat.le_of_ble_eq_true rfl) ?_
  intro p e s m args below meth c hx hb hr hown hlocks hin hw hK H locs hG ls hlA hml
  have hown : s.vm.findClass "WaltzHall$Dancer" = some m.cls := hown
  have hl0 : lv_has ls 4 [(0, .ref a0), (1, .int a1), (2, .int a2), (3, .int a3)] := hlA
  have leS : gle S S := gle.rf
  unfold w_R_aimFrom at h
  refine lv_aload_n hx hb d_R_aimFrom_0 rfl (lv_at hl0 0 rfl) ?_
  refine lv_iload_n hx hb d_R_aimFrom_1 rfl (lv_at hl0 1 rfl) ?_
  refine lv_iload_n hx hb d_R_aimFrom_2 rfl (lv_at hl0 3 rfl) ?_
  -- call H_columnStep
  refine gpi hK hG (va_runSN (As := [.int a3]) (rest := [.int a1, .ref a0]) ⟨hx, hb, hml, hown, hw⟩ (m_H_columnStep l x S _ a3  h) ⟨gcn hw tw_544 tw_28 tw_831 hd_H_columnStep rfl rfl ⟨(Nat.le_of_ble_eq_true rfl), (Nat.le_of_ble_eq_true rfl)⟩, hw _ tw_543, trivial⟩ (gpS hK hG) rfl rfl hl0.1 rfl (lv_room (Nat.le_of_ble_eq_true rfl)) d_R_aimFrom_3 ⟨(Nat.le_of_ble_eq_true rfl), (Nat.le_of_ble_eq_true rfl)⟩) (fun r1 H locs h hG => ?_)
  refine lv_iadd hx hb d_R_aimFrom_6 ?_
  refine lv_iload_n hx hb d_R_aimFrom_7 rfl (lv_at hl0 2 rfl) ?_
  refine lv_iload_n hx hb d_R_aimFrom_8 rfl (lv_at hl0 3 rfl) ?_
  -- call H_rowStep
  refine gpi hK hG (va_runSN (As := [.int a3]) (rest := [.int a2, .int (a1 + r1), .ref a0]) ⟨hx, hb, hml, hown, hw⟩ (m_H_rowStep l x S _ a3  h) ⟨gcn hw tw_547 tw_28 tw_832 hd_H_rowStep rfl rfl ⟨(Nat.le_of_ble_eq_true rfl), (Nat.le_of_ble_eq_true rfl)⟩, hw _ tw_546, trivial⟩ (gpS hK hG) rfl rfl hl0.1 rfl (lv_room (Nat.le_of_ble_eq_true rfl)) d_R_aimFrom_9 ⟨(Nat.le_of_ble_eq_true rfl), (Nat.le_of_ble_eq_true rfl)⟩) (fun r2 H locs h hG => ?_)
  refine lv_iadd hx hb d_R_aimFrom_12 ?_
  -- call R_aimAt
  refine gcv hK hG (va_runV (As := [.int (a1 + r1), .int (a2 + r2)]) (rest := []) ⟨hx, hb, hml, hown, hw⟩ (m_R_aimAt l x S _ a0 (a1 + r1) (a2 + r2) fa0 h) ⟨gcb hw tw_823 tw_52 tw_833 hd_R_aimAt rfl rfl ⟨(Nat.le_of_ble_eq_true rfl), (Nat.le_of_ble_eq_true rfl)⟩, hw _ tw_821, hw _ tw_822⟩ (gpV hK hG kd_R fa0 rfl) rfl rfl hl0.1 rfl (lv_room (Nat.le_of_ble_eq_true rfl)) d_R_aimFrom_13 ⟨(Nat.le_of_ble_eq_true rfl), (Nat.le_of_ble_eq_true rfl)⟩) (fun S3 H locs h hle1 hG => ?_)
  have fa0 := gle_isA hle1 fa0
  have leS := leS.tr hle1
  exact gvret hx hb hr hlocks hK hG leS h (Nat.le_of_ble_eq_true rfl) (Nat.le_of_ble_eq_true rfl) d_R_aimFrom_16
def w_R_aimsOffFloor (post : Int32 → Prop) (S : St) (a0 : Nat) : Prop :=
  w_H_isOnFloor (fun (r1 : Int32) => (r1 = 0 → post 1) ∧ (¬ r1 = 0 → post 0)) S (sI S 19 a0) (sI S 20 a0)
set_option maxHeartbeats 4000000 in
set_option maxRecDepth 100000 in
theorem m_R_aimsOffFloor (l : Launch) (x : Cx) (S : St) (post : Int32 → Prop) (a0 : Nat) (fa0 : isA S 2 a0) (h : w_R_aimsOffFloor post S a0) : Met l y_R_aimsOffFloor [.code y_R_aimsOffFloor c_R_aimsOffFloor 1 (some .boolean)] { frames := 1, cells := 0, slots := 0, locals := 21 } (va_Pc [.ref a0] (GW x S)) (va_Qi (gPu post S) (gB x S) (xA x)) 0 0 (xA x) := by
  refine gMet (by decide +kernel) (Nat.le_of_ble_eq_true rfl) ?_
  intro p e s m args below meth c hx hb hr hown hlocks hin hw hK H locs hG ls hlA hml
  have hown : s.vm.findClass "WaltzHall$Dancer" = some m.cls := hown
  have hl0 : lv_has ls 1 [(0, .ref a0)] := hlA
  unfold w_R_aimsOffFloor at h
  refine lv_aload_n hx hb d_R_aimsOffFloor_0 rfl (lv_at hl0 0 rfl) ?_
  refine gget hx hb hw hown hK hG kd_R fa0 rfl 13 (by decide) rfl tw_609 (fun _ h9 => h9) d_R_aimsOffFloor_1 ?_
  refine lv_aload_n hx hb d_R_aimsOffFloor_4 rfl (lv_at hl0 0 rfl) ?_
  refine gget hx hb hw hown hK hG kd_R fa0 rfl 14 (by decide) rfl tw_611 (fun _ h9 => h9) d_R_aimsOffFloor_5 ?_
  -- call H_isOnFloor
  refine gpi hK hG (va_runSN (As := [.int (sI S 19 a0), .int (sI S 20 a0)]) (rest := []) ⟨hx, hb, hml, hown, hw⟩ (m_H_isOnFloor l x S _ (sI S 19 a0) (sI S 20 a0)  h) ⟨gcn hw tw_561 tw_28 tw_848 hd_H_isOnFloor rfl rfl ⟨(Nat.le_of_ble_eq_true rfl), (Nat.le_of_ble_eq_true rfl)⟩, hw _ tw_560, trivial⟩ (gpS hK hG) rfl rfl hl0.1 rfl (lv_room (Nat.le_of_ble_eq_true rfl)) d_R_aimsOffFloor_8 ⟨(Nat.le_of_ble_eq_true rfl), (Nat.le_of_ble_eq_true rfl)⟩) (fun r1 H locs h hG => ?_)
  refine lv_if_ne (tgt := 18) hx hb d_R_aimsOffFloor_11 (by decide) (fun hc2 => ?_) (fun hc2 => ?_)
  · replace h := h.2 hc2
    refine lv_iconst (v := 0) hx hb d_R_aimsOffFloor_18 (by decide) ?_
    exact gzret hx hb hr rfl hlocks hK hG gle.rf ⟨h, rfl⟩ (Nat.le_of_ble_eq_true rfl) (Nat.le_of_ble_eq_true rfl) d_R_aimsOffFloor_19
  · replace h := h.1 hc2
    refine lv_iconst (v := 1) hx hb d_R_aimsOffFloor_14 (by decide) ?_
    refine lv_goto (tgt := 19) hx hb d_R_aimsOffFloor_15 (by decide) ?_
    exact gzret hx hb hr rfl hlocks hK hG gle.rf ⟨h, rfl⟩ (Nat.le_of_ble_eq_true rfl) (Nat.le_of_ble_eq_true rfl) d_R_aimsOffFloor_19
def w_R_goAndTurn (post : St → Prop) (S : St) (a0 : Nat) (a1 : Int32) : Prop :=
  ∀ S1 : St, S1 = pI S 7 a0 (sI S 19 a0) → ∀ S2 : St, S2 = pI S1 8 a0 (sI S1 20 a0) → w_H_turned (fun (r3 : Int32) => ∀ S4 : St, S4 = pI S2 9 a0 r3 → ∀ S5 : St, S5 = pI S4 10 a0 ((sI S4 10 a0) - (sI S4 11 a0)) → ∀ S6 : St, S6 = pI S5 17 a0 ((sI S5 17 a0) + 1) → post S6) S2 (sI S2 9 a0) a1
set_option maxHeartbeats 4000000 in
set_option maxRecDepth 100000 in
theorem m_R_goAndTurn (l : Launch) (x : Cx) (S : St) (post : St → Prop) (a0 : Nat) (a1 : Int32) (fa0 : isA S 2 a0) (h : w_R_goAndTurn post S a0 a1) : Met l y_R_goAndTurn [.code y_R_goAndTurn c_R_goAndTurn 2 none] { frames := 2, cells := 0, slots := 0, locals := 43 } (va_Pc [.ref a0, .int a1] (GW x S)) (va_Qv post (gB x S) (xA x)) 0 0 (xA x) := by
  refine gMet (by decide +kernel) (Nat.le_of_ble_eq_true rfl) ?_
  intro p e s m args below meth c hx hb hr hown hlocks hin hw hK H locs hG ls hlA hml
  have hown : s.vm.findClass "WaltzHall$Dancer" = some m.cls := hown
  have hl0 : lv_has ls 2 [(0, .ref a0), (1, .int a1)] := hlA
  have leS : gle S S := gle.rf
  unfold w_R_goAndTurn at h
  refine lv_aload_n hx hb d_R_goAndTurn_0 rfl (lv_at hl0 0 rfl) ?_
  refine lv_aload_n hx hb d_R_goAndTurn_1 rfl (lv_at hl0 0 rfl) ?_
  refine gget hx hb hw hown hK hG kd_R fa0 rfl 13 (by decide) rfl tw_609 (fun _ h9 => h9) d_R_goAndTurn_2 ?_
  refine gput (S' := pI S 7 a0 (sI S 19 a0)) hx hb hw hown hK hG kd_R fa0 rfl 1 (by decide) (gChI fa0 rfl) tw_576 (fun _ h9 => h9) rfl rfl rfl rfl (Nat.le_of_ble_eq_true rfl) d_R_goAndTurn_5 (fun S1 H locs eS1 hle1 hG => ?_)
  replace h := h S1 eS1
  have fa0 := gle_isA hle1 fa0
  have leS := leS.tr hle1
  refine lv_aload_n hx hb d_R_goAndTurn_8 rfl (lv_at hl0 0 rfl) ?_
  refine lv_aload_n hx hb d_R_goAndTurn_9 rfl (lv_at hl0 0 rfl) ?_
  refine gget hx hb hw hown hK hG kd_R fa0 rfl 14 (by decide) rfl tw_611 (fun _ h9 => h9) d_R_goAndTurn_10 ?_
  refine gput (S' := pI S1 8 a0 (sI S1 20 a0)) hx hb hw hown hK hG kd_R fa0 rfl 2 (by decide) (gChI fa0 rfl) tw_580 (fun _ h9 => h9) rfl rfl rfl rfl (Nat.le_of_ble_eq_true rfl) d_R_goAndTurn_13 (fun S2 H locs eS2 hle1 hG => ?_)
  replace h := h S2 eS2
  have fa0 := gle_isA hle1 fa0
  have leS := leS.tr hle1
  refine lv_aload_n hx hb d_R_goAndTurn_16 rfl (lv_at hl0 0 rfl) ?_
  refine lv_aload_n hx hb d_R_goAndTurn_17 rfl (lv_at hl0 0 rfl) ?_
  refine gget hx hb hw hown hK hG kd_R fa0 rfl 3 (by decide) rfl tw_584 (fun _ h9 => h9) d_R_goAndTurn_18 ?_
  refine lv_iload_n hx hb d_R_goAndTurn_21 rfl (lv_at hl0 1 rfl) ?_
  -- call H_turned
  refine gpi hK hG (va_runSN (As := [.int (sI S2 9 a0), .int a1]) (rest := [.ref a0]) ⟨hx, hb, hml, hown, hw⟩ (m_H_turned l x S2 _ (sI S2 9 a0) a1  h) ⟨gcn hw tw_538 tw_28 tw_860 hd_H_turned rfl rfl ⟨(Nat.le_of_ble_eq_true rfl), (Nat.le_of_ble_eq_true rfl)⟩, hw _ tw_537, trivial⟩ (gpS hK hG) rfl rfl hl0.1 rfl (lv_room (Nat.le_of_ble_eq_true rfl)) d_R_goAndTurn_22 ⟨(Nat.le_of_ble_eq_true rfl), (Nat.le_of_ble_eq_true rfl)⟩) (fun r3 H locs h hG => ?_)
  refine gput (S' := pI S2 9 a0 r3) hx hb hw hown hK hG kd_R fa0 rfl 3 (by decide) (gChI fa0 rfl) tw_584 (fun _ h9 => h9) rfl rfl rfl rfl (Nat.le_of_ble_eq_true rfl) d_R_goAndTurn_25 (fun S4 H locs eS4 hle1 hG => ?_)
  replace h := h S4 eS4
  have fa0 := gle_isA hle1 fa0
  have leS := leS.tr hle1
  refine lv_aload_n hx hb d_R_goAndTurn_28 rfl (lv_at hl0 0 rfl) ?_
  refine lv_dup hx hb d_R_goAndTurn_29 rfl ?_
  refine gget hx hb hw hown hK hG kd_R fa0 rfl 4 (by decide) rfl tw_587 (fun _ h9 => h9) d_R_goAndTurn_30 ?_
  refine lv_aload_n hx hb d_R_goAndTurn_33 rfl (lv_at hl0 0 rfl) ?_
  refine gget hx hb hw hown hK hG kd_R fa0 rfl 5 (by decide) rfl tw_590 (fun _ h9 => h9) d_R_goAndTurn_34 ?_
  refine lv_isub hx hb d_R_goAndTurn_37 ?_
  refine gput (S' := pI S4 10 a0 ((sI S4 10 a0) - (sI S4 11 a0))) hx hb hw hown hK hG kd_R fa0 rfl 4 (by decide) (gChI fa0 rfl) tw_587 (fun _ h9 => h9) rfl rfl rfl rfl (Nat.le_of_ble_eq_true rfl) d_R_goAndTurn_38 (fun S5 H locs eS5 hle1 hG => ?_)
  replace h := h S5 eS5
  have fa0 := gle_isA hle1 fa0
  have leS := leS.tr hle1
  refine lv_aload_n hx hb d_R_goAndTurn_41 rfl (lv_at hl0 0 rfl) ?_
  refine lv_dup hx hb d_R_goAndTurn_42 rfl ?_
  refine gget hx hb hw hown hK hG kd_R fa0 rfl 11 (by decide) rfl tw_606 (fun _ h9 => h9) d_R_goAndTurn_43 ?_
  refine lv_iconst (v := 1) hx hb d_R_goAndTurn_46 (by decide) ?_
  refine lv_iadd hx hb d_R_goAndTurn_47 ?_
  refine gput (S' := pI S5 17 a0 ((sI S5 17 a0) + 1)) hx hb hw hown hK hG kd_R fa0 rfl 11 (by decide) (gChI fa0 rfl) tw_606 (fun _ h9 => h9) rfl rfl rfl rfl (Nat.le_of_ble_eq_true rfl) d_R_goAndTurn_48 (fun S6 H locs eS6 hle1 hG => ?_)
  replace h := h S6 eS6
  have fa0 := gle_isA hle1 fa0
  have leS := leS.tr hle1
  exact gvret hx hb hr hlocks hK hG leS h (Nat.le_of_ble_eq_true rfl) (Nat.le_of_ble_eq_true rfl) d_R_goAndTurn_51
def w_R_stagger (post : St → Prop) (S : St) (a0 : Nat) : Prop :=
  ∀ S1 : St, S1 = pI S 16 a0 3 → ∀ S2 : St, S2 = pI S1 18 a0 ((sI S1 18 a0) + 1) → post S2
set_option maxHeartbeats 4000000 in
set_option maxRecDepth 100000 in
theorem m_R_stagger (l : Launch) (x : Cx) (S : St) (post : St → Prop) (a0 : Nat) (fa0 : isA S 2 a0) (h : w_R_stagger post S a0) : Met l y_R_stagger [.code y_R_stagger c_R_stagger 1 none] { frames := 0, cells := 0, slots := 0, locals := 0 } (va_Pc [.ref a0] (GW x S)) (va_Qv post (gB x S) (xA x)) 0 0 (xA x) := by
  refine gMet (by decide +kernel) (Nat.le_of_ble_eq_true rfl) ?_
  intro p e s m args below meth c hx hb hr hown hlocks hin hw hK H locs hG ls hlA hml
  have hown : s.vm.findClass "WaltzHall$Dancer" = some m.cls := hown
  have hl0 : lv_has ls 1 [(0, .ref a0)] := hlA
  have leS : gle S S := gle.rf
  unfold w_R_stagger at h
  refine lv_aload_n hx hb d_R_stagger_0 rfl (lv_at hl0 0 rfl) ?_
  refine lv_iconst (v := 3) hx hb d_R_stagger_1 (by decide) ?_
  refine gput (S' := pI S 16 a0 3) hx hb hw hown hK hG kd_R fa0 rfl 10 (by decide) (gChI fa0 rfl) tw_604 (fun _ h9 => h9) rfl rfl rfl rfl (Nat.le_of_ble_eq_true rfl) d_R_stagger_2 (fun S1 H locs eS1 hle1 hG => ?_)
  replace h := h S1 eS1
  have fa0 := gle_isA hle1 fa0
  have leS := leS.tr hle1
  refine lv_aload_n hx hb d_R_stagger_5 rfl (lv_at hl0 0 rfl) ?_
  refine lv_dup hx hb d_R_stagger_6 rfl ?_
  refine gget hx hb hw hown hK hG kd_R fa0 rfl 12 (by decide) rfl tw_607 (fun _ h9 => h9) d_R_stagger_7 ?_
  refine lv_iconst (v := 1) hx hb d_R_stagger_10 (by decide) ?_
  refine lv_iadd hx hb d_R_stagger_11 ?_
  refine gput (S' := pI S1 18 a0 ((sI S1 18 a0) + 1)) hx hb hw hown hK hG kd_R fa0 rfl 12 (by decide) (gChI fa0 rfl) tw_607 (fun _ h9 => h9) rfl rfl rfl rfl (Nat.le_of_ble_eq_true rfl) d_R_stagger_12 (fun S2 H locs eS2 hle1 hG => ?_)
  replace h := h S2 eS2
  have fa0 := gle_isA hle1 fa0
  have leS := leS.tr hle1
  exact gvret hx hb hr hlocks hK hG leS h (Nat.le_of_ble_eq_true rfl) (Nat.le_of_ble_eq_true rfl) d_R_stagger_15
def w_R_directionTo (post : Int32 → Prop) (S : St) (a0 : Nat) (a1 : Option Nat) : Prop :=
  ∃ y1 : Nat, a1 = some y1 ∧ isA S 2 y1 ∧ ((sI S 7 y1) = (sI S 7 a0) → ((sI S 8 y1) ≤ (sI S 8 a0) → post 0) ∧ (¬ (sI S 8 y1) ≤ (sI S 8 a0) → post 2)) ∧ (¬ (sI S 7 y1) = (sI S 7 a0) → ((sI S 7 y1) ≤ (sI S 7 a0) → post 3) ∧ (¬ (sI S 7 y1) ≤ (sI S 7 a0) → post 1))
set_option maxHeartbeats 4000000 in
set_option maxRecDepth 100000 in
theorem m_R_directionTo (l : Launch) (x : Cx) (S : St) (post : Int32 → Prop) (a0 : Nat) (a1 : Option Nat) (fa0 : isA S 2 a0) (h : w_R_directionTo post S a0 a1) : Met l y_R_directionTo [.code y_R_directionTo c_R_directionTo 2 (some .int)] { frames := 0, cells := 0, slots := 0, locals := 0 } (va_Pc [.ref a0, va_rf a1] (GW x S)) (va_Qi (gPu post S) (gB x S) (xA x)) 0 0 (xA x) := by
  refine gMet (by decide +kernel) (by simp [lg_sl, gCat, gci1, gcr1, gcl1, gcd1]) ?_
  intro p e s m args below meth c hx hb hr hown hlocks hin hw hK H locs hG ls hlA hml
  have hown : s.vm.findClass "WaltzHall$Dancer" = some m.cls := hown
  have hl0 : lv_has ls 2 [(0, .ref a0), (1, va_rf a1)] := hlA
  unfold w_R_directionTo at h
  refine gaload_n hx hb d_R_directionTo_0 rfl (lv_at hl0 1 rfl) ?_
  obtain ⟨y1, ey1, h⟩ := h
  subst ey1
  obtain ⟨f2, h⟩ := h
  refine gget hx hb hw hown hK hG kd_R f2 rfl 1 (by decide) rfl tw_576 (fun _ h9 => h9) d_R_directionTo_1 ?_
  refine lv_aload_n hx hb d_R_directionTo_4 rfl (lv_at hl0 0 rfl) ?_
  refine gget hx hb hw hown hK hG kd_R fa0 rfl 1 (by decide) rfl tw_576 (fun _ h9 => h9) d_R_directionTo_5 ?_
  refine lv_icmp_eq (tgt := 28) hx hb d_R_directionTo_8 (by decide) (fun hc5 => ?_) (fun hc5 => ?_)
  · replace h := h.1 hc5
    refine lv_aload_n hx hb d_R_directionTo_28 rfl (lv_at hl0 1 rfl) ?_
    refine gget hx hb hw hown hK hG kd_R f2 rfl 2 (by decide) rfl tw_580 (fun _ h9 => h9) d_R_directionTo_29 ?_
    refine lv_aload_n hx hb d_R_directionTo_32 rfl (lv_at hl0 0 rfl) ?_
    refine gget hx hb hw hown hK hG kd_R fa0 rfl 2 (by decide) rfl tw_580 (fun _ h9 => h9) d_R_directionTo_33 ?_
    refine lv_icmp_le (tgt := 43) hx hb d_R_directionTo_36 (by decide) (fun hc3 => ?_) (fun hc3 => ?_)
    · replace h := h.1 hc3
      refine lv_iconst (v := 0) hx hb d_R_directionTo_43 (by decide) ?_
      exact giret hx hb hr hlocks hK hG gle.rf ⟨h, rfl⟩ (Nat.le_of_ble_eq_true rfl) (Nat.le_of_ble_eq_true rfl) d_R_directionTo_44
    · replace h := h.2 hc3
      refine lv_iconst (v := 2) hx hb d_R_directionTo_39 (by decide) ?_
      refine lv_goto (tgt := 44) hx hb d_R_directionTo_40 (by decide) ?_
      exact giret hx hb hr hlocks hK hG gle.rf ⟨h, rfl⟩ (Nat.le_of_ble_eq_true rfl) (Nat.le_of_ble_eq_true rfl) d_R_directionTo_44
  · replace h := h.2 hc5
    refine lv_aload_n hx hb d_R_directionTo_11 rfl (lv_at hl0 1 rfl) ?_
    refine gget hx hb hw hown hK hG kd_R f2 rfl 1 (by decide) rfl tw_576 (fun _ h9 => h9) d_R_directionTo_12 ?_
    refine lv_aload_n hx hb d_R_directionTo_15 rfl (lv_at hl0 0 rfl) ?_
    refine gget hx hb hw hown hK hG kd_R fa0 rfl 1 (by decide) rfl tw_576 (fun _ h9 => h9) d_R_directionTo_16 ?_
    refine lv_icmp_le (tgt := 26) hx hb d_R_directionTo_19 (by decide) (fun hc4 => ?_) (fun hc4 => ?_)
    · replace h := h.1 hc4
      refine lv_iconst (v := 3) hx hb d_R_directionTo_26 (by decide) ?_
      exact giret hx hb hr hlocks hK hG gle.rf ⟨h, rfl⟩ (Nat.le_of_ble_eq_true rfl) (Nat.le_of_ble_eq_true rfl) d_R_directionTo_27
    · replace h := h.2 hc4
      refine lv_iconst (v := 1) hx hb d_R_directionTo_22 (by decide) ?_
      refine lv_goto (tgt := 27) hx hb d_R_directionTo_23 (by decide) ?_
      exact giret hx hb hr hlocks hK hG gle.rf ⟨h, rfl⟩ (Nat.le_of_ble_eq_true rfl) (Nat.le_of_ble_eq_true rfl) d_R_directionTo_27
def w_R_standAlone (post : St → Prop) (S : St) (a0 : Nat) : Prop :=
  ∀ S1 : St, S1 = pQ S 14 a0 none → ∀ S2 : St, S2 = pI S1 15 a0 0 → post S2
set_option maxHeartbeats 4000000 in
set_option maxRecDepth 100000 in
theorem m_R_standAlone (l : Launch) (x : Cx) (S : St) (post : St → Prop) (a0 : Nat) (fa0 : isA S 2 a0) (h : w_R_standAlone post S a0) : Met l y_R_standAlone [.code y_R_standAlone c_R_standAlone 1 none] { frames := 0, cells := 0, slots := 0, locals := 0 } (va_Pc [.ref a0] (GW x S)) (va_Qv post (gB x S) (xA x)) 0 0 (xA x) := by
  refine gMet (by decide +kernel) (Nat.le_of_ble_eq_true rfl) ?_
  intro p e s m args below meth c hx hb hr hown hlocks hin hw hK H locs hG ls hlA hml
  have hown : s.vm.findClass "WaltzHall$Dancer" = some m.cls := hown
  have hl0 : lv_has ls 1 [(0, .ref a0)] := hlA
  have leS : gle S S := gle.rf
  unfold w_R_standAlone at h
  refine lv_aload_n hx hb d_R_standAlone_0 rfl (lv_at hl0 0 rfl) ?_
  refine gnull hx hb d_R_standAlone_1 ?_
  refine gput (S' := pQ S 14 a0 none) hx hb hw hown hK hG kd_R fa0 rfl 8 (by decide) (gChQ fa0 rfl) tw_598 (fun _ h9 => h9) rfl rfl (gNo _ _) (gFo _ _) (Nat.le_of_ble_eq_true rfl) d_R_standAlone_2 (fun S1 H locs eS1 hle1 hG => ?_)
  replace h := h S1 eS1
  have fa0 := gle_isA hle1 fa0
  have leS := leS.tr hle1
  refine lv_aload_n hx hb d_R_standAlone_5 rfl (lv_at hl0 0 rfl) ?_
  refine lv_iconst (v := 0) hx hb d_R_standAlone_6 (by decide) ?_
  refine gput (S' := pI S1 15 a0 0) hx hb hw hown hK hG kd_R fa0 rfl 9 (by decide) (gChI fa0 rfl) tw_601 (fun _ h9 => h9) rfl rfl rfl rfl (Nat.le_of_ble_eq_true rfl) d_R_standAlone_7 (fun S2 H locs eS2 hle1 hG => ?_)
  replace h := h S2 eS2
  have fa0 := gle_isA hle1 fa0
  have leS := leS.tr hle1
  exact gvret hx hb hr hlocks hK hG leS h (Nat.le_of_ble_eq_true rfl) (Nat.le_of_ble_eq_true rfl) d_R_standAlone_10
def w_R_becomeLike (post : St → Prop) (S : St) (a0 : Nat) (a1 : Option Nat) : Prop :=
  ∃ y1 : Nat, a1 = some y1 ∧ isA S 2 y1 ∧ ∀ S3 : St, S3 = pI S 7 a0 (sI S 7 y1) → ∀ S4 : St, S4 = pI S3 8 a0 (sI S3 8 y1) → ∀ S5 : St, S5 = pI S4 9 a0 (sI S4 9 y1) → ∀ S6 : St, S6 = pI S5 10 a0 (sI S5 10 y1) → ∀ S7 : St, S7 = pI S6 11 a0 (sI S6 11 y1) → ∀ o8 : Option Nat, o8 = sQ S7 12 y1 → ∀ S9 : St, S9 = pQ S7 12 a0 o8 → ∀ S10 : St, S10 = pI S9 13 a0 (sI S9 13 y1) → gBo (sI S10 15 y1) ∧ ∀ S12 : St, S12 = pI S10 15 a0 (sI S10 15 y1) → ∀ S13 : St, S13 = pI S12 16 a0 (sI S12 16 y1) → ∀ S14 : St, S14 = pI S13 17 a0 (sI S13 17 y1) → ∀ S15 : St, S15 = pI S14 18 a0 (sI S14 18 y1) → post S15
set_option maxHeartbeats 4000000 in
set_option maxRecDepth 100000 in
theorem m_R_becomeLike (l : Launch) (x : Cx) (S : St) (post : St → Prop) (a0 : Nat) (a1 : Option Nat) (fa0 : isA S 2 a0) (h : w_R_becomeLike post S a0 a1) : Met l y_R_becomeLike [.code y_R_becomeLike c_R_becomeLike 2 none] { frames := 0, cells := 0, slots := 0, locals := 0 } (va_Pc [.ref a0, va_rf a1] (GW x S)) (va_Qv post (gB x S) (xA x)) 0 0 (xA x) := by
  refine gMet (by decide +kernel) (by simp [lg_sl, gCat, gci1, gcr1, gcl1, gcd1]) ?_
  intro p e s m args below meth c hx hb hr hown hlocks hin hw hK H locs hG ls hlA hml
  have hown : s.vm.findClass "WaltzHall$Dancer" = some m.cls := hown
  have hl0 : lv_has ls 2 [(0, .ref a0), (1, va_rf a1)] := hlA
  have leS : gle S S := gle.rf
  unfold w_R_becomeLike at h
  refine lv_aload_n hx hb d_R_becomeLike_0 rfl (lv_at hl0 0 rfl) ?_
  refine gaload_n hx hb d_R_becomeLike_1 rfl (lv_at hl0 1 rfl) ?_
  obtain ⟨y1, ey1, h⟩ := h
  subst ey1
  obtain ⟨f2, h⟩ := h
  refine gget hx hb hw hown hK hG kd_R f2 rfl 1 (by decide) rfl tw_576 (fun _ h9 => h9) d_R_becomeLike_2 ?_
  refine gput (S' := pI S 7 a0 (sI S 7 y1)) hx hb hw hown hK hG kd_R fa0 rfl 1 (by decide) (gChI fa0 rfl) tw_576 (fun _ h9 => h9) rfl rfl rfl rfl (Nat.le_of_ble_eq_true rfl) d_R_becomeLike_5 (fun S3 H locs eS3 hle1 hG => ?_)
  replace h := h S3 eS3
  have fa0 := gle_isA hle1 fa0
  have f2 := gle_isA hle1 f2
  have leS := leS.tr hle1
  refine lv_aload_n hx hb d_R_becomeLike_8 rfl (lv_at hl0 0 rfl) ?_
  refine lv_aload_n hx hb d_R_becomeLike_9 rfl (lv_at hl0 1 rfl) ?_
  refine gget hx hb hw hown hK hG kd_R f2 rfl 2 (by decide) rfl tw_580 (fun _ h9 => h9) d_R_becomeLike_10 ?_
  refine gput (S' := pI S3 8 a0 (sI S3 8 y1)) hx hb hw hown hK hG kd_R fa0 rfl 2 (by decide) (gChI fa0 rfl) tw_580 (fun _ h9 => h9) rfl rfl rfl rfl (Nat.le_of_ble_eq_true rfl) d_R_becomeLike_13 (fun S4 H locs eS4 hle1 hG => ?_)
  replace h := h S4 eS4
  have fa0 := gle_isA hle1 fa0
  have f2 := gle_isA hle1 f2
  have leS := leS.tr hle1
  refine lv_aload_n hx hb d_R_becomeLike_16 rfl (lv_at hl0 0 rfl) ?_
  refine lv_aload_n hx hb d_R_becomeLike_17 rfl (lv_at hl0 1 rfl) ?_
  refine gget hx hb hw hown hK hG kd_R f2 rfl 3 (by decide) rfl tw_584 (fun _ h9 => h9) d_R_becomeLike_18 ?_
  refine gput (S' := pI S4 9 a0 (sI S4 9 y1)) hx hb hw hown hK hG kd_R fa0 rfl 3 (by decide) (gChI fa0 rfl) tw_584 (fun _ h9 => h9) rfl rfl rfl rfl (Nat.le_of_ble_eq_true rfl) d_R_becomeLike_21 (fun S5 H locs eS5 hle1 hG => ?_)
  replace h := h S5 eS5
  have fa0 := gle_isA hle1 fa0
  have f2 := gle_isA hle1 f2
  have leS := leS.tr hle1
  refine lv_aload_n hx hb d_R_becomeLike_24 rfl (lv_at hl0 0 rfl) ?_
  refine lv_aload_n hx hb d_R_becomeLike_25 rfl (lv_at hl0 1 rfl) ?_
  refine gget hx hb hw hown hK hG kd_R f2 rfl 4 (by decide) rfl tw_587 (fun _ h9 => h9) d_R_becomeLike_26 ?_
  refine gput (S' := pI S5 10 a0 (sI S5 10 y1)) hx hb hw hown hK hG kd_R fa0 rfl 4 (by decide) (gChI fa0 rfl) tw_587 (fun _ h9 => h9) rfl rfl rfl rfl (Nat.le_of_ble_eq_true rfl) d_R_becomeLike_29 (fun S6 H locs eS6 hle1 hG => ?_)
  replace h := h S6 eS6
  have fa0 := gle_isA hle1 fa0
  have f2 := gle_isA hle1 f2
  have leS := leS.tr hle1
  refine lv_aload_n hx hb d_R_becomeLike_32 rfl (lv_at hl0 0 rfl) ?_
  refine lv_aload_n hx hb d_R_becomeLike_33 rfl (lv_at hl0 1 rfl) ?_
  refine gget hx hb hw hown hK hG kd_R f2 rfl 5 (by decide) rfl tw_590 (fun _ h9 => h9) d_R_becomeLike_34 ?_
  refine gput (S' := pI S6 11 a0 (sI S6 11 y1)) hx hb hw hown hK hG kd_R fa0 rfl 5 (by decide) (gChI fa0 rfl) tw_590 (fun _ h9 => h9) rfl rfl rfl rfl (Nat.le_of_ble_eq_true rfl) d_R_becomeLike_37 (fun S7 H locs eS7 hle1 hG => ?_)
  replace h := h S7 eS7
  have fa0 := gle_isA hle1 fa0
  have f2 := gle_isA hle1 f2
  have leS := leS.tr hle1
  refine lv_aload_n hx hb d_R_becomeLike_40 rfl (lv_at hl0 0 rfl) ?_
  refine lv_aload_n hx hb d_R_becomeLike_41 rfl (lv_at hl0 1 rfl) ?_
  refine gget hx hb hw hown hK hG kd_R f2 rfl 6 (by decide) rfl tw_592 (fun _ h9 => h9) d_R_becomeLike_42 ?_
  refine gtopq (fun o8 eo8 => ?_)
  replace h := h o8 eo8
  refine gput (S' := pQ S7 12 a0 o8) hx hb hw hown hK hG kd_R fa0 rfl 6 (by decide) (gChQ fa0 rfl) tw_592 (fun _ h9 => h9) rfl rfl (gNo _ _) (gFo _ _) (Nat.le_of_ble_eq_true rfl) d_R_becomeLike_45 (fun S9 H locs eS9 hle1 hG => ?_)
  replace h := h S9 eS9
  have fa0 := gle_isA hle1 fa0
  have f2 := gle_isA hle1 f2
  have leS := leS.tr hle1
  refine lv_aload_n hx hb d_R_becomeLike_48 rfl (lv_at hl0 0 rfl) ?_
  refine lv_aload_n hx hb d_R_becomeLike_49 rfl (lv_at hl0 1 rfl) ?_
  refine gget hx hb hw hown hK hG kd_R f2 rfl 7 (by decide) rfl tw_595 (fun _ h9 => h9) d_R_becomeLike_50 ?_
  refine gput (S' := pI S9 13 a0 (sI S9 13 y1)) hx hb hw hown hK hG kd_R fa0 rfl 7 (by decide) (gChI fa0 rfl) tw_595 (fun _ h9 => h9) rfl rfl rfl rfl (Nat.le_of_ble_eq_true rfl) d_R_becomeLike_53 (fun S10 H locs eS10 hle1 hG => ?_)
  replace h := h S10 eS10
  have fa0 := gle_isA hle1 fa0
  have f2 := gle_isA hle1 f2
  have leS := leS.tr hle1
  refine lv_aload_n hx hb d_R_becomeLike_56 rfl (lv_at hl0 0 rfl) ?_
  refine lv_aload_n hx hb d_R_becomeLike_57 rfl (lv_at hl0 1 rfl) ?_
  refine gget hx hb hw hown hK hG kd_R f2 rfl 9 (by decide) rfl tw_601 (fun _ h9 => h9) d_R_becomeLike_58 ?_
  obtain ⟨hb11, h⟩ := h
  refine gput (S' := pI S10 15 a0 (sI S10 15 y1)) hx hb hw hown hK hG kd_R fa0 rfl 9 (by decide) (gChI fa0 rfl) tw_601 (fun _ h9 => h9) rfl rfl (gBo_n hb11) (gBo_f hb11) (Nat.le_of_ble_eq_true rfl) d_R_becomeLike_61 (fun S12 H locs eS12 hle1 hG => ?_)
  replace h := h S12 eS12
  have fa0 := gle_isA hle1 fa0
  have f2 := gle_isA hle1 f2
  have leS := leS.tr hle1
  refine lv_aload_n hx hb d_R_becomeLike_64 rfl (lv_at hl0 0 rfl) ?_
  refine lv_aload_n hx hb d_R_becomeLike_65 rfl (lv_at hl0 1 rfl) ?_
  refine gget hx hb hw hown hK hG kd_R f2 rfl 10 (by decide) rfl tw_604 (fun _ h9 => h9) d_R_becomeLike_66 ?_
  refine gput (S' := pI S12 16 a0 (sI S12 16 y1)) hx hb hw hown hK hG kd_R fa0 rfl 10 (by decide) (gChI fa0 rfl) tw_604 (fun _ h9 => h9) rfl rfl rfl rfl (Nat.le_of_ble_eq_true rfl) d_R_becomeLike_69 (fun S13 H locs eS13 hle1 hG => ?_)
  replace h := h S13 eS13
  have fa0 := gle_isA hle1 fa0
  have f2 := gle_isA hle1 f2
  have leS := leS.tr hle1
  refine lv_aload_n hx hb d_R_becomeLike_72 rfl (lv_at hl0 0 rfl) ?_
  refine lv_aload_n hx hb d_R_becomeLike_73 rfl (lv_at hl0 1 rfl) ?_
  refine gget hx hb hw hown hK hG kd_R f2 rfl 11 (by decide) rfl tw_606 (fun _ h9 => h9) d_R_becomeLike_74 ?_
  refine gput (S' := pI S13 17 a0 (sI S13 17 y1)) hx hb hw hown hK hG kd_R fa0 rfl 11 (by decide) (gChI fa0 rfl) tw_606 (fun _ h9 => h9) rfl rfl rfl rfl (Nat.le_of_ble_eq_true rfl) d_R_becomeLike_77 (fun S14 H locs eS14 hle1 hG => ?_)
  replace h := h S14 eS14
  have fa0 := gle_isA hle1 fa0
  have f2 := gle_isA hle1 f2
  have leS := leS.tr hle1
  refine lv_aload_n hx hb d_R_becomeLike_80 rfl (lv_at hl0 0 rfl) ?_
  refine lv_aload_n hx hb d_R_becomeLike_81 rfl (lv_at hl0 1 rfl) ?_
  refine gget hx hb hw hown hK hG kd_R f2 rfl 12 (by decide) rfl tw_607 (fun _ h9 => h9) d_R_becomeLike_82 ?_
  refine gput (S' := pI S14 18 a0 (sI S14 18 y1)) hx hb hw hown hK hG kd_R fa0 rfl 12 (by decide) (gChI fa0 rfl) tw_607 (fun _ h9 => h9) rfl rfl rfl rfl (Nat.le_of_ble_eq_true rfl) d_R_becomeLike_85 (fun S15 H locs eS15 hle1 hG => ?_)
  replace h := h S15 eS15
  have fa0 := gle_isA hle1 fa0
  have f2 := gle_isA hle1 f2
  have leS := leS.tr hle1
  exact gvret hx hb hr hlocks hK hG leS h (Nat.le_of_ble_eq_true rfl) (Nat.le_of_ble_eq_true rfl) d_R_becomeLike_88
end
section
theorem tw_0 : (Cond.selects "java/util/ArrayList" (⟨"java/util/ArrayList", "add", "(Ljava/lang/Object;[Ljava/lang/Object;I)V"⟩ : MethodName) (⟨"java/util/ArrayList", "add", "(Ljava/lang/Object;[Ljava/lang/Object;I)V"⟩ : MethodName)) ∈ gG := gmm 0 (by decide +kernel) (by decide +kernel)
theorem tw_1 : (Cond.selects "java/util/ArrayList" (⟨"java/util/ArrayList", "grow", "()[Ljava/lang/Object;"⟩ : MethodName) (⟨"java/util/ArrayList", "grow", "()[Ljava/lang/Object;"⟩ : MethodName)) ∈ gG := gmm 1 (by decide +kernel) (by decide +kernel)
theorem tw_2 : (Cond.selects "java/util/ArrayList" (⟨"java/util/ArrayList", "grow", "(I)[Ljava/lang/Object;"⟩ : MethodName) (⟨"java/util/ArrayList", "grow", "(I)[Ljava/lang/Object;"⟩ : MethodName)) ∈ gG := gmm 2 (by decide +kernel) (by decide +kernel)
theorem tw_30 : (Jvm.Cond.initialized "java/util/AbstractCollection") ∈ gG := gmm 30 (by decide +kernel) (by decide +kernel)
theorem tw_31 : (Jvm.Cond.initialized "java/util/AbstractList") ∈ gG := gmm 31 (by decide +kernel) (by decide +kernel)
theorem tw_32 : (Jvm.Cond.initialized "java/util/ArrayList") ∈ gG := gmm 32 (by decide +kernel) (by decide +kernel)
theorem tw_36 : (Jvm.Cond.initialized "jdk/internal/util/Preconditions") ∈ gG := gmm 36 (by decide +kernel) (by decide +kernel)
theorem tw_51 : (Jvm.Cond.initialized "java/util/Objects") ∈ gG := gmm 51 (by decide +kernel) (by decide +kernel)
theorem tw_61 : (Jvm.Cond.instanceMethod ({ cls := "java/lang/Object", name := "<init>", desc := "()V" } : Jvm.MethodName)) ∈ gG := gmm 61 (by decide +kernel) (by decide +kernel)
theorem tw_62 : (Jvm.Cond.code ({ cls := "java/lang/Object", name := "<init>", desc := "()V" } : Jvm.MethodName) object_method_1_code (1 : Nat) (Option.none : Option Jvm.ClassFile.FieldType)) ∈ gG := gmm 62 (by decide +kernel) (by decide +kernel)
theorem tw_85 : (Jvm.Cond.methodLink "java/util/ArrayList" (1 : Nat) ({ cls := "java/util/AbstractList", name := "<init>", desc := "()V" } : Jvm.MethodName)) ∈ gG := gmm 85 (by decide +kernel) (by decide +kernel)
theorem tw_86 : (Jvm.Cond.instanceMethod ({ cls := "java/util/AbstractList", name := "<init>", desc := "()V" } : Jvm.MethodName)) ∈ gG := gmm 86 (by decide +kernel) (by decide +kernel)
theorem tw_87 : (Jvm.Cond.code ({ cls := "java/util/AbstractList", name := "<init>", desc := "()V" } : Jvm.MethodName) prog_30_method_1_code (1 : Nat) (Option.none : Option Jvm.ClassFile.FieldType)) ∈ gG := gmm 87 (by decide +kernel) (by decide +kernel)
theorem tw_88 : (Jvm.Cond.methodLink "java/util/AbstractList" (1 : Nat) ({ cls := "java/util/AbstractCollection", name := "<init>", desc := "()V" } : Jvm.MethodName)) ∈ gG := gmm 88 (by decide +kernel) (by decide +kernel)
theorem tw_89 : (Jvm.Cond.instanceMethod ({ cls := "java/util/AbstractCollection", name := "<init>", desc := "()V" } : Jvm.MethodName)) ∈ gG := gmm 89 (by decide +kernel) (by decide +kernel)
theorem tw_90 : (Jvm.Cond.code ({ cls := "java/util/AbstractCollection", name := "<init>", desc := "()V" } : Jvm.MethodName) prog_29_method_1_code (1 : Nat) (Option.none : Option Jvm.ClassFile.FieldType)) ∈ gG := gmm 90 (by decide +kernel) (by decide +kernel)
theorem tw_91 : (Jvm.Cond.methodLink "java/util/AbstractCollection" (1 : Nat) ({ cls := "java/lang/Object", name := "<init>", desc := "()V" } : Jvm.MethodName)) ∈ gG := gmm 91 (by decide +kernel) (by decide +kernel)
theorem tw_92 : (Jvm.Cond.fieldLink "java/util/ArrayList" (39 : Nat) "java/util/ArrayList" "DEFAULTCAPACITY_EMPTY_ELEMENTDATA" "[Ljava/lang/Object;") ∈ gG := gmm 92 (by decide +kernel) (by decide +kernel)
theorem tw_94 : (Jvm.Cond.fieldLink "java/util/ArrayList" (9 : Nat) "java/util/ArrayList" "elementData" "[Ljava/lang/Object;") ∈ gG := gmm 94 (by decide +kernel) (by decide +kernel)
theorem tw_95 : (Jvm.Cond.fieldLink "java/util/ArrayList" (48 : Nat) "java/util/ArrayList" "size" "I") ∈ gG := gmm 95 (by decide +kernel) (by decide +kernel)
theorem tw_96 : (Jvm.Cond.fieldLink "java/util/AbstractList" (7 : Nat) "java/util/AbstractList" "modCount" "I") ∈ gG := gmm 96 (by decide +kernel) (by decide +kernel)
theorem tw_97 : (Jvm.Cond.fieldLink "java/util/ArrayList" (63 : Nat) "java/util/ArrayList" "modCount" "I") ∈ gG := gmm 97 (by decide +kernel) (by decide +kernel)
theorem tw_98 : (Jvm.Cond.sameField "java/util/ArrayList" "java/util/AbstractList" "modCount" "I") ∈ gG := gmm 98 (by decide +kernel) (by decide +kernel)
theorem tw_140 : (Jvm.Cond.static ({ cls := "jdk/internal/util/Preconditions", name := "checkIndex", desc := "(IILjava/util/function/BiFunction;)I" } : Jvm.MethodName)) ∈ gG := gmm 140 (by decide +kernel) (by decide +kernel)
theorem tw_141 : (Jvm.Cond.code ({ cls := "jdk/internal/util/Preconditions", name := "checkIndex", desc := "(IILjava/util/function/BiFunction;)I" } : Jvm.MethodName) prog_39_method_11_code (3 : Nat) (Option.some Jvm.ClassFile.FieldType.int)) ∈ gG := gmm 141 (by decide +kernel) (by decide +kernel)
theorem tw_199 : (Jvm.Cond.methodLink "java/util/ArrayList" (131 : Nat) ({ cls := "java/util/ArrayList", name := "add", desc := "(Ljava/lang/Object;[Ljava/lang/Object;I)V" } : Jvm.MethodName)) ∈ gG := gmm 199 (by decide +kernel) (by decide +kernel)
theorem tw_201 : (Jvm.Cond.instanceMethod ({ cls := "java/util/ArrayList", name := "add", desc := "(Ljava/lang/Object;[Ljava/lang/Object;I)V" } : Jvm.MethodName)) ∈ gG := gmm 201 (by decide +kernel) (by decide +kernel)
theorem tw_202 : (Jvm.Cond.code ({ cls := "java/util/ArrayList", name := "add", desc := "(Ljava/lang/Object;[Ljava/lang/Object;I)V" } : Jvm.MethodName) prog_31_method_24_code (4 : Nat) (Option.none : Option Jvm.ClassFile.FieldType)) ∈ gG := gmm 202 (by decide +kernel) (by decide +kernel)
theorem tw_203 : (Jvm.Cond.methodLink "java/util/ArrayList" (129 : Nat) ({ cls := "java/util/ArrayList", name := "grow", desc := "()[Ljava/lang/Object;" } : Jvm.MethodName)) ∈ gG := gmm 203 (by decide +kernel) (by decide +kernel)
theorem tw_205 : (Jvm.Cond.instanceMethod ({ cls := "java/util/ArrayList", name := "grow", desc := "()[Ljava/lang/Object;" } : Jvm.MethodName)) ∈ gG := gmm 205 (by decide +kernel) (by decide +kernel)
theorem tw_206 : (Jvm.Cond.code ({ cls := "java/util/ArrayList", name := "grow", desc := "()[Ljava/lang/Object;" } : Jvm.MethodName) prog_31_method_7_code (1 : Nat) (Option.some (Jvm.ClassFile.FieldType.array (Jvm.ClassFile.FieldType.object "java/lang/Object")))) ∈ gG := gmm 206 (by decide +kernel) (by decide +kernel)
theorem tw_207 : (Jvm.Cond.methodLink "java/util/ArrayList" (69 : Nat) ({ cls := "java/util/ArrayList", name := "grow", desc := "(I)[Ljava/lang/Object;" } : Jvm.MethodName)) ∈ gG := gmm 207 (by decide +kernel) (by decide +kernel)
theorem tw_209 : (Jvm.Cond.instanceMethod ({ cls := "java/util/ArrayList", name := "grow", desc := "(I)[Ljava/lang/Object;" } : Jvm.MethodName)) ∈ gG := gmm 209 (by decide +kernel) (by decide +kernel)
theorem tw_210 : (Jvm.Cond.code ({ cls := "java/util/ArrayList", name := "grow", desc := "(I)[Ljava/lang/Object;" } : Jvm.MethodName) prog_31_method_6_code (4 : Nat) (Option.some (Jvm.ClassFile.FieldType.array (Jvm.ClassFile.FieldType.object "java/lang/Object")))) ∈ gG := gmm 210 (by decide +kernel) (by decide +kernel)
theorem tw_244 : (Jvm.Cond.arrayOver (Jvm.ClassFile.FieldType.object "java/lang/Object")) ∈ gG := gmm 244 (by decide +kernel) (by decide +kernel)
theorem tw_252 : (Jvm.Cond.methodLink "java/util/ArrayList" (79 : Nat) ({ cls := "java/lang/Math", name := "max", desc := "(II)I" } : Jvm.MethodName)) ∈ gG := gmm 252 (by decide +kernel) (by decide +kernel)
theorem tw_253 : (Jvm.Cond.classLink "java/util/ArrayList" (7 : Nat) "java/lang/Object") ∈ gG := gmm 253 (by decide +kernel) (by decide +kernel)
theorem tw_294 : (Jvm.Cond.methodLink "java/util/ArrayList" (118 : Nat) ({ cls := "java/util/Objects", name := "checkIndex", desc := "(II)I" } : Jvm.MethodName)) ∈ gG := gmm 294 (by decide +kernel) (by decide +kernel)
theorem tw_295 : (Jvm.Cond.static ({ cls := "java/util/Objects", name := "checkIndex", desc := "(II)I" } : Jvm.MethodName)) ∈ gG := gmm 295 (by decide +kernel) (by decide +kernel)
theorem tw_296 : (Jvm.Cond.code ({ cls := "java/util/Objects", name := "checkIndex", desc := "(II)I" } : Jvm.MethodName) prog_35_method_17_code (2 : Nat) (Option.some Jvm.ClassFile.FieldType.int)) ∈ gG := gmm 296 (by decide +kernel) (by decide +kernel)
theorem tw_297 : (Jvm.Cond.methodLink "java/util/Objects" (105 : Nat) ({ cls := "jdk/internal/util/Preconditions", name := "checkIndex", desc := "(IILjava/util/function/BiFunction;)I" } : Jvm.MethodName)) ∈ gG := gmm 297 (by decide +kernel) (by decide +kernel)
theorem tw_298 : (Jvm.Cond.methodLink "java/util/ArrayList" (123 : Nat) ({ cls := "java/util/ArrayList", name := "elementData", desc := "(I)Ljava/lang/Object;" } : Jvm.MethodName)) ∈ gG := gmm 298 (by decide +kernel) (by decide +kernel)
theorem tw_299 : (Jvm.Cond.instanceMethod ({ cls := "java/util/ArrayList", name := "elementData", desc := "(I)Ljava/lang/Object;" } : Jvm.MethodName)) ∈ gG := gmm 299 (by decide +kernel) (by decide +kernel)
theorem tw_300 : (Jvm.Cond.selects "java/util/ArrayList" ({ cls := "java/util/ArrayList", name := "elementData", desc := "(I)Ljava/lang/Object;" } : Jvm.MethodName) ({ cls := "java/util/ArrayList", name := "elementData", desc := "(I)Ljava/lang/Object;" } : Jvm.MethodName)) ∈ gG := gmm 300 (by decide +kernel) (by decide +kernel)
theorem tw_301 : (Jvm.Cond.code ({ cls := "java/util/ArrayList", name := "elementData", desc := "(I)Ljava/lang/Object;" } : Jvm.MethodName) prog_31_method_18_code (2 : Nat) (Option.some (Jvm.ClassFile.FieldType.object "java/lang/Object"))) ∈ gG := gmm 301 (by decide +kernel) (by decide +kernel)
theorem hd_AB_init : y_AB_init.cls ≠ "java/lang/invoke/MethodHandle" ∧ y_AB_init.cls ≠ "java/lang/invoke/VarHandle" ∧ (parseMethodDescriptor y_AB_init.desc).map (fun d => d.parameters.length) = some 0 := by decide +kernel
theorem hd_AC_init : y_AC_init.cls ≠ "java/lang/invoke/MethodHandle" ∧ y_AC_init.cls ≠ "java/lang/invoke/VarHandle" ∧ (parseMethodDescriptor y_AC_init.desc).map (fun d => d.parameters.length) = some 0 := by decide +kernel
theorem hd_AL_add3 : y_AL_add3.cls ≠ "java/lang/invoke/MethodHandle" ∧ y_AL_add3.cls ≠ "java/lang/invoke/VarHandle" ∧ (parseMethodDescriptor y_AL_add3.desc).map (fun d => d.parameters.length) = some 3 := by decide +kernel
theorem hd_AL_elementData : y_AL_elementData.cls ≠ "java/lang/invoke/MethodHandle" ∧ y_AL_elementData.cls ≠ "java/lang/invoke/VarHandle" ∧ (parseMethodDescriptor y_AL_elementData.desc).map (fun d => d.parameters.length) = some 1 := by decide +kernel
theorem hd_AL_grow0 : y_AL_grow0.cls ≠ "java/lang/invoke/MethodHandle" ∧ y_AL_grow0.cls ≠ "java/lang/invoke/VarHandle" ∧ (parseMethodDescriptor y_AL_grow0.desc).map (fun d => d.parameters.length) = some 0 := by decide +kernel
theorem hd_AL_grow1 : y_AL_grow1.cls ≠ "java/lang/invoke/MethodHandle" ∧ y_AL_grow1.cls ≠ "java/lang/invoke/VarHandle" ∧ (parseMethodDescriptor y_AL_grow1.desc).map (fun d => d.parameters.length) = some 1 := by decide +kernel
theorem hd_OB_checkIndex : y_OB_checkIndex.cls ≠ "java/lang/invoke/MethodHandle" ∧ y_OB_checkIndex.cls ≠ "java/lang/invoke/VarHandle" ∧ (parseMethodDescriptor y_OB_checkIndex.desc).map (fun d => d.parameters.length) = some 2 := by decide +kernel
theorem hd_PC_checkIndex : y_PC_checkIndex.cls ≠ "java/lang/invoke/MethodHandle" ∧ y_PC_checkIndex.cls ≠ "java/lang/invoke/VarHandle" ∧ (parseMethodDescriptor y_PC_checkIndex.desc).map (fun d => d.parameters.length) = some 3 := by decide +kernel
def w_PC_checkIndex (post : Int32 → Prop) (S : St) (a0 : Int32) (a1 : Int32) (a2 : Option Nat) : Prop :=
  ∃ J9 : Prop, (J9 → False) ∧ (a0 < 0 → J9) ∧ (¬ a0 < 0 → (a0 < a1 → post a0) ∧ (¬ a0 < a1 → J9))
set_option maxHeartbeats 4000000 in
set_option maxRecDepth 100000 in
theorem m_PC_checkIndex (l : Launch) (x : Cx) (S : St) (post : Int32 → Prop) (a0 : Int32) (a1 : Int32) (a2 : Option Nat) (h : w_PC_checkIndex post S a0 a1 a2) : Met l y_PC_checkIndex [.code y_PC_checkIndex c_PC_checkIndex 3 (some .int)] { frames := 0, cells := 0, slots := 0, locals := 0 } (va_Pc [.int a0, .int a1, va_rf a2] (GW x S)) (va_Qi (gPu post S) (gB x S) (xA x)) 0 0 (xA x) := by
  refine gMet (by decide +kernel) (by simp [lg_sl, gCat, gci1, gcr1, gcl1, gcd1]) ?_
  intro p e s m args below meth c hx hb hr hown hlocks hin hw hK H locs hG ls hlA hml
  have hown : s.vm.findClass "jdk/internal/util/Preconditions" = some m.cls := hown
  have hl0 : lv_has ls 3 [(0, .int a0), (1, .int a1), (2, va_rf a2)] := hlA
  unfold w_PC_checkIndex at h
  refine lv_iload_n hx hb d_PC_checkIndex_0 rfl (lv_at hl0 0 rfl) ?_
  have leS : gle S S := gle.rf
  obtain ⟨J9, hJ9, h⟩ := h
  have k9 : ∀ (H : Heap) (locs : List Loc) (ls : Array Slot), GH x S s H locs → lv_has ls 3 [(0, .int a0), (1, .int a1), (2, va_rf a2)] → J9 → W p l e { frames := 0, cells := 0, slots := 0, locals := 0 } s m args below meth c H locs 0 0 (MQ below (va_Qi (gPu post S) (gB x S) (xA x)) args s 0 0 (xA x)) (F0 m 9 ls []) := by
    intro  H locs ls hG hl1 hj
    replace h := hJ9 hj
    refine gaload_n hx hb d_PC_checkIndex_9 rfl (lv_at hl1 2 rfl) ?_
    refine lv_iload_n hx hb d_PC_checkIndex_10 rfl (lv_at hl1 0 rfl) ?_
    refine lv_iload_n hx hb d_PC_checkIndex_11 rfl (lv_at hl1 1 rfl) ?_
    exact h.elim
  refine lv_if_lt (tgt := 9) hx hb d_PC_checkIndex_1 (by decide) (fun hc3 => ?_) (fun hc3 => ?_)
  · replace h := h.1 hc3
    exact k9 H locs ls hG (lv_sub hl0 [0, 1, 2] rfl) h
  · replace h := h.2 hc3
    refine lv_iload_n hx hb d_PC_checkIndex_4 rfl (lv_at hl0 0 rfl) ?_
    refine lv_iload_n hx hb d_PC_checkIndex_5 rfl (lv_at hl0 1 rfl) ?_
    refine lv_icmp_lt (tgt := 16) hx hb d_PC_checkIndex_6 (by decide) (fun hc2 => ?_) (fun hc2 => ?_)
    · replace h := h.1 hc2
      refine lv_iload_n hx hb d_PC_checkIndex_16 rfl (lv_at hl0 0 rfl) ?_
      exact giret hx hb hr hlocks hK hG leS ⟨h, rfl⟩ (Nat.le_of_ble_eq_true rfl) (Nat.le_of_ble_eq_true rfl) d_PC_checkIndex_17
    · replace h := h.2 hc2
      exact k9 H locs ls hG (lv_sub hl0 [0, 1, 2] rfl) h
def w_OB_checkIndex (post : Int32 → Prop) (S : St) (a0 : Int32) (a1 : Int32) : Prop :=
  w_PC_checkIndex (fun (r1 : Int32) => post r1) S a0 a1 none
set_option maxHeartbeats 4000000 in
set_option maxRecDepth 100000 in
theorem m_OB_checkIndex (l : Launch) (x : Cx) (S : St) (post : Int32 → Prop) (a0 : Int32) (a1 : Int32) (h : w_OB_checkIndex post S a0 a1) : Met l y_OB_checkIndex [.code y_OB_checkIndex c_OB_checkIndex 2 (some .int)] { frames := 1, cells := 0, slots := 0, locals := 22 } (va_Pc [.int a0, .int a1] (GW x S)) (va_Qi (gPu post S) (gB x S) (xA x)) 0 0 (xA x) := by
  refine gMet (by decide +kernel) (Nat.le_of_ble_eq_true rfl) ?_
  intro p e s m args below meth c hx hb hr hown hlocks hin hw hK H locs hG ls hlA hml
  have hown : s.vm.findClass "java/util/Objects" = some m.cls := hown
  have hl0 : lv_has ls 2 [(0, .int a0), (1, .int a1)] := hlA
  unfold w_OB_checkIndex at h
  refine lv_iload_n hx hb d_OB_checkIndex_0 rfl (lv_at hl0 0 rfl) ?_
  refine lv_iload_n hx hb d_OB_checkIndex_1 rfl (lv_at hl0 1 rfl) ?_
  refine gnull hx hb d_OB_checkIndex_2 ?_
  -- call PC_checkIndex
  refine gpi hK hG (va_runS (As := [.int a0, .int a1, va_rf none]) (rest := []) ⟨hx, hb, hml, hown, hw⟩ (m_PC_checkIndex l x S _ a0 a1 none  h) ⟨gcb hw tw_141 tw_36 tw_297 hd_PC_checkIndex rfl rfl ⟨(Nat.le_of_ble_eq_true rfl), (Nat.le_of_ble_eq_true rfl)⟩, hw _ tw_140⟩ (gpS hK hG) rfl rfl hl0.1 rfl (lv_room (Nat.le_of_ble_eq_true rfl)) d_OB_checkIndex_3 ⟨(Nat.le_of_ble_eq_true rfl), (Nat.le_of_ble_eq_true rfl)⟩) (fun r1 H locs h hG => ?_)
  exact giret hx hb hr hlocks hK hG gle.rf ⟨h, rfl⟩ (Nat.le_of_ble_eq_true rfl) (Nat.le_of_ble_eq_true rfl) d_OB_checkIndex_6
def w_AL_size (post : Int32 → Prop) (S : St) (a0 : Nat) : Prop :=
  post (sI S 2 a0)
set_option maxHeartbeats 4000000 in
set_option maxRecDepth 100000 in
theorem m_AL_size (l : Launch) (x : Cx) (S : St) (post : Int32 → Prop) (a0 : Nat) (fa0 : isA S 0 a0) (h : w_AL_size post S a0) : Met l y_AL_size [.code y_AL_size c_AL_size 1 (some .int)] { frames := 0, cells := 0, slots := 0, locals := 0 } (va_Pc [.ref a0] (GW x S)) (va_Qi (gPu post S) (gB x S) (xA x)) 0 0 (xA x) := by
  refine gMet (by decide +kernel) (Nat.le_of_ble_eq_true rfl) ?_
  intro p e s m args below meth c hx hb hr hown hlocks hin hw hK H locs hG ls hlA hml
  have hown : s.vm.findClass "java/util/ArrayList" = some m.cls := hown
  have hl0 : lv_has ls 1 [(0, .ref a0)] := hlA
  unfold w_AL_size at h
  refine lv_aload_n hx hb d_AL_size_0 rfl (lv_at hl0 0 rfl) ?_
  refine gget hx hb hw hown hK hG kd_AL fa0 rfl 2 (by decide) rfl tw_95 (fun _ h9 => h9) d_AL_size_1 ?_
  exact giret hx hb hr hlocks hK hG gle.rf ⟨h, rfl⟩ (Nat.le_of_ble_eq_true rfl) (Nat.le_of_ble_eq_true rfl) d_AL_size_4
def w_AL_elementData (post : Option Nat → Prop) (S : St) (a0 : Nat) (a1 : Int32) : Prop :=
  ∀ o1 : Option Nat, o1 = sQ S 1 a0 → ∃ y2 : Nat, o1 = some y2 ∧ isA S 12 y2 ∧ vp_in a1 (sN S y2) ∧ ∀ o5 : Option Nat, o5 = sP S y2 a1.toNatClampNeg → post o5
set_option maxHeartbeats 4000000 in
set_option maxRecDepth 100000 in
theorem m_AL_elementData (l : Launch) (x : Cx) (S : St) (post : Option Nat → Prop) (a0 : Nat) (a1 : Int32) (fa0 : isA S 0 a0) (h : w_AL_elementData post S a0 a1) : Met l y_AL_elementData [.code y_AL_elementData c_AL_elementData 2 (some (.object "java/lang/Object"))] { frames := 0, cells := 0, slots := 0, locals := 0 } (va_Pc [.ref a0, .int a1] (GW x S)) (va_Qq (gPu post S) (gB x S) (xA x)) 0 0 (xA x) := by
  refine gMet (by decide +kernel) (Nat.le_of_ble_eq_true rfl) ?_
  intro p e s m args below meth c hx hb hr hown hlocks hin hw hK H locs hG ls hlA hml
  have hown : s.vm.findClass "java/util/ArrayList" = some m.cls := hown
  have hl0 : lv_has ls 2 [(0, .ref a0), (1, .int a1)] := hlA
  unfold w_AL_elementData at h
  refine lv_aload_n hx hb d_AL_elementData_0 rfl (lv_at hl0 0 rfl) ?_
  refine gget hx hb hw hown hK hG kd_AL fa0 rfl 1 (by decide) rfl tw_94 (fun _ h9 => h9) d_AL_elementData_1 ?_
  refine gtopq (fun o1 eo1 => ?_)
  replace h := h o1 eo1
  refine lv_iload_n hx hb d_AL_elementData_4 rfl (lv_at hl0 1 rfl) ?_
  obtain ⟨y2, ey2, h⟩ := h
  subst ey2
  obtain ⟨f3, h⟩ := h
  obtain ⟨hi4, h⟩ := h
  refine gaald hx hb hK hG f3 hi4 d_AL_elementData_5 ?_
  refine gtopq (fun o5 eo5 => ?_)
  replace h := h o5 eo5
  exact garet (o := o5) hx hb hr (Or.inl ⟨_, rfl⟩) hlocks hK hG gle.rf ⟨h, rfl⟩ (Nat.le_of_ble_eq_true rfl) (Nat.le_of_ble_eq_true rfl) d_AL_elementData_6
def w_AL_get (post : Option Nat → Prop) (S : St) (a0 : Nat) (a1 : Int32) : Prop :=
  w_OB_checkIndex (fun (r1 : Int32) => w_AL_elementData (fun (o2 : Option Nat) => post o2) S a0 a1) S a1 (sI S 2 a0)
set_option maxHeartbeats 4000000 in
set_option maxRecDepth 100000 in
theorem m_AL_get (l : Launch) (x : Cx) (S : St) (post : Option Nat → Prop) (a0 : Nat) (a1 : Int32) (fa0 : isA S 0 a0) (h : w_AL_get post S a0 a1) : Met l y_AL_get [.code y_AL_get c_AL_get 2 (some (.object "java/lang/Object"))] { frames := 2, cells := 0, slots := 0, locals := 43 } (va_Pc [.ref a0, .int a1] (GW x S)) (va_Qq (gPu post S) (gB x S) (xA x)) 0 0 (xA x) := by
  refine gMet (by decide +kernel) (Nat.le_of_ble_eq_true rfl) ?_
  intro p e s m args below meth c hx hb hr hown hlocks hin hw hK H locs hG ls hlA hml
  have hown : s.vm.findClass "java/util/ArrayList" = some m.cls := hown
  have hl0 : lv_has ls 2 [(0, .ref a0), (1, .int a1)] := hlA
  unfold w_AL_get at h
  refine lv_iload_n hx hb d_AL_get_0 rfl (lv_at hl0 1 rfl) ?_
  refine lv_aload_n hx hb d_AL_get_1 rfl (lv_at hl0 0 rfl) ?_
  refine gget hx hb hw hown hK hG kd_AL fa0 rfl 2 (by decide) rfl tw_95 (fun _ h9 => h9) d_AL_get_2 ?_
  -- call OB_checkIndex
  refine gpi hK hG (va_runS (As := [.int a1, .int (sI S 2 a0)]) (rest := []) ⟨hx, hb, hml, hown, hw⟩ (m_OB_checkIndex l x S _ a1 (sI S 2 a0)  h) ⟨gcb hw tw_296 tw_51 tw_294 hd_OB_checkIndex rfl rfl ⟨(Nat.le_of_ble_eq_true rfl), (Nat.le_of_ble_eq_true rfl)⟩, hw _ tw_295⟩ (gpS hK hG) rfl rfl hl0.1 rfl (lv_room (Nat.le_of_ble_eq_true rfl)) d_AL_get_5 ⟨(Nat.le_of_ble_eq_true rfl), (Nat.le_of_ble_eq_true rfl)⟩) (fun r1 H locs h hG => ?_)
  refine lv_pop hx hb d_AL_get_8 rfl ?_
  refine lv_aload_n hx hb d_AL_get_9 rfl (lv_at hl0 0 rfl) ?_
  refine lv_iload_n hx hb d_AL_get_10 rfl (lv_at hl0 1 rfl) ?_
  -- call AL_elementData
  refine gpq hK hG (va_runV (As := [.int a1]) (rest := []) ⟨hx, hb, hml, hown, hw⟩ (m_AL_elementData l x S _ a0 a1 fa0 h) ⟨gcb hw tw_301 tw_32 tw_298 hd_AL_elementData rfl rfl ⟨(Nat.le_of_ble_eq_true rfl), (Nat.le_of_ble_eq_true rfl)⟩, hw _ tw_299, hw _ tw_300⟩ (gpV hK hG kd_AL fa0 rfl) rfl rfl hl0.1 rfl (lv_room (Nat.le_of_ble_eq_true rfl)) d_AL_get_11 ⟨(Nat.le_of_ble_eq_true rfl), (Nat.le_of_ble_eq_true rfl)⟩) (fun o2 H locs h hG => ?_)
  exact garet (o := o2) hx hb hr (Or.inl ⟨_, rfl⟩) hlocks hK hG gle.rf ⟨h, rfl⟩ (Nat.le_of_ble_eq_true rfl) (Nat.le_of_ble_eq_true rfl) d_AL_get_14
def w_AC_init (post : Prop) (S : St) (a0 : Nat) : Prop :=
  post
set_option maxHeartbeats 4000000 in
set_option maxRecDepth 100000 in
theorem m_AC_init (l : Launch) (x : Cx) (S : St) (post : Prop) (a0 : Nat) (fa0 : isA S 0 a0) (h : w_AC_init post S a0) : Met l y_AC_init [.code y_AC_init c_AC_init 1 none] { frames := 1, cells := 0, slots := 0, locals := 20 } (va_Pc [.ref a0] (GW x S)) (va_Qv (gPv post S) (gB x S) (xA x)) 0 0 (xA x) := by
  refine gMet (by decide +kernel) (Nat.le_of_ble_eq_true rfl) ?_
  intro p e s m args below meth c hx hb hr hown hlocks hin hw hK H locs hG ls hlA hml
  have hown : s.vm.findClass "java/util/AbstractCollection" = some m.cls := hown
  have hl0 : lv_has ls 1 [(0, .ref a0)] := hlA
  unfold w_AC_init at h
  refine lv_aload_n hx hb d_AC_init_0 rfl (lv_at hl0 0 rfl) ?_
  refine gobj (bytes := c_AC_init) hx hb hw hown tw_91 tw_61 tw_62 (hl0.1.trans hml.symm) d_AC_init_1 (Nat.le_of_ble_eq_true rfl) (Nat.le_of_ble_eq_true rfl) ?_
  exact gvret hx hb hr hlocks hK hG gle.rf ⟨h, rfl⟩ (Nat.le_of_ble_eq_true rfl) (Nat.le_of_ble_eq_true rfl) d_AC_init_4
def w_AB_init (post : St → Prop) (S : St) (a0 : Nat) : Prop :=
  w_AC_init (∀ S1 : St, S1 = pI S 0 a0 0 → post S1) S a0
set_option maxHeartbeats 4000000 in
set_option maxRecDepth 100000 in
theorem m_AB_init (l : Launch) (x : Cx) (S : St) (post : St → Prop) (a0 : Nat) (fa0 : isA S 0 a0) (h : w_AB_init post S a0) : Met l y_AB_init [.code y_AB_init c_AB_init 1 none] { frames := 2, cells := 0, slots := 0, locals := 40 } (va_Pc [.ref a0] (GW x S)) (va_Qv post (gB x S) (xA x)) 0 0 (xA x) := by
  refine gMet (by decide +kernel) (Nat.le_of_ble_eq_true rfl) ?_
  intro p e s m args below meth c hx hb hr hown hlocks hin hw hK H locs hG ls hlA hml
  have hown : s.vm.findClass "java/util/AbstractList" = some m.cls := hown
  have hl0 : lv_has ls 1 [(0, .ref a0)] := hlA
  have leS : gle S S := gle.rf
  unfold w_AB_init at h
  refine lv_aload_n hx hb d_AB_init_0 rfl (lv_at hl0 0 rfl) ?_
  -- call AC_init
  refine gpv hK hG (va_runI (As := []) (rest := []) ⟨hx, hb, hml, hown, hw⟩ (m_AC_init l x S _ a0 fa0 h) ⟨gcb hw tw_90 tw_30 tw_88 hd_AC_init rfl rfl ⟨(Nat.le_of_ble_eq_true rfl), (Nat.le_of_ble_eq_true rfl)⟩, rfl, hw _ tw_89⟩ (gpS hK hG) rfl rfl hl0.1 rfl (lv_room (Nat.le_of_ble_eq_true rfl)) d_AB_init_1 ⟨(Nat.le_of_ble_eq_true rfl), (Nat.le_of_ble_eq_true rfl)⟩) (fun H locs h hG => ?_)
  refine lv_aload_n hx hb d_AB_init_4 rfl (lv_at hl0 0 rfl) ?_
  refine lv_iconst (v := 0) hx hb d_AB_init_5 (by decide) ?_
  refine gput (S' := pI S 0 a0 0) hx hb hw hown hK hG kd_AL fa0 rfl 0 (by decide) (gChI fa0 rfl) tw_96 (fun _ h9 => h9) rfl rfl rfl rfl (Nat.le_of_ble_eq_true rfl) d_AB_init_6 (fun S1 H locs eS1 hle1 hG => ?_)
  replace h := h S1 eS1
  have fa0 := gle_isA hle1 fa0
  have leS := leS.tr hle1
  exact gvret hx hb hr hlocks hK hG leS h (Nat.le_of_ble_eq_true rfl) (Nat.le_of_ble_eq_true rfl) d_AB_init_9
def w_AL_init (post : St → Prop) (S : St) (a0 : Nat) : Prop :=
  w_AB_init (fun (S1 : St) => ∀ S2 : St, S2 = pQ S1 1 a0 (some (sX S1)) → post S2) S a0
set_option maxHeartbeats 4000000 in
set_option maxRecDepth 100000 in
theorem m_AL_init (l : Launch) (x : Cx) (S : St) (post : St → Prop) (a0 : Nat) (fa0 : isA S 0 a0) (h : w_AL_init post S a0) : Met l y_AL_init [.code y_AL_init c_AL_init 1 none] { frames := 3, cells := 0, slots := 0, locals := 60 } (va_Pc [.ref a0] (GW x S)) (va_Qv post (gB x S) (xA x)) 0 0 (xA x) := by
  refine gMet (by decide +kernel) (Nat.le_of_ble_eq_true rfl) ?_
  intro p e s m args below meth c hx hb hr hown hlocks hin hw hK H locs hG ls hlA hml
  have hown : s.vm.findClass "java/util/ArrayList" = some m.cls := hown
  have hl0 : lv_has ls 1 [(0, .ref a0)] := hlA
  have leS : gle S S := gle.rf
  unfold w_AL_init at h
  refine lv_aload_n hx hb d_AL_init_0 rfl (lv_at hl0 0 rfl) ?_
  -- call AB_init
  refine gcv hK hG (va_runI (As := []) (rest := []) ⟨hx, hb, hml, hown, hw⟩ (m_AB_init l x S _ a0 fa0 h) ⟨gcb hw tw_87 tw_31 tw_85 hd_AB_init rfl rfl ⟨(Nat.le_of_ble_eq_true rfl), (Nat.le_of_ble_eq_true rfl)⟩, rfl, hw _ tw_86⟩ (gpS hK hG) rfl rfl hl0.1 rfl (lv_room (Nat.le_of_ble_eq_true rfl)) d_AL_init_1 ⟨(Nat.le_of_ble_eq_true rfl), (Nat.le_of_ble_eq_true rfl)⟩) (fun S1 H locs h hle1 hG => ?_)
  have fa0 := gle_isA hle1 fa0
  have leS := leS.tr hle1
  refine lv_aload_n hx hb d_AL_init_4 rfl (lv_at hl0 0 rfl) ?_
  refine gsEm hx hb hw hown hK hG tw_92 d_AL_init_5 ?_
  refine gput (S' := pQ S1 1 a0 (some (sX S1))) hx hb hw hown hK hG kd_AL fa0 rfl 1 (by decide) (gChQ fa0 rfl) tw_94 (fun _ h9 => h9) rfl rfl rfl rfl (Nat.le_of_ble_eq_true rfl) d_AL_init_8 (fun S2 H locs eS2 hle1 hG => ?_)
  replace h := h S2 eS2
  have fa0 := gle_isA hle1 fa0
  have leS := leS.tr hle1
  exact gvret hx hb hr hlocks hK hG leS h (Nat.le_of_ble_eq_true rfl) (Nat.le_of_ble_eq_true rfl) d_AL_init_11
def w_AL_grow1 (post : Option Nat → St → Prop) (S : St) (a0 : Nat) (a1 : Int32) : Prop :=
  ∀ o1 : Option Nat, o1 = sQ S 1 a0 → ∃ y2 : Nat, o1 = some y2 ∧ (y2 = sX S → ∃ J20 : Prop, (J20 → False) ∧ (0 < (0 : Int32) → J20) ∧ (¬ 0 < (0 : Int32) → ∀ o6 : Option Nat, o6 = sQ S 1 a0 → (o6 = (some (sX S)) → ∀ v7 : Int32, v7 = (if 10 < a1 then a1 else 10) → ¬ v7 < 0 ∧ v7.toNatClampNeg ≤ 10 ∧ ∀ (q8 : Nat) (S9 : St), q8 ∉ sL S → S9 = pNew S q8 12 v7.toNatClampNeg → ∀ S12 : St, S12 = pQ S9 1 a0 (some q8) → post (some q8) S12) ∧ (¬ o6 = (some (sX S)) → J20))) ∧ (¬ y2 = sX S → isA S 12 y2 ∧ ∀ v16 : Int32, v16 = nI (sN S y2) → ∃ J20 : Prop, (J20 → False) ∧ (0 < v16 → J20) ∧ (¬ 0 < v16 → ∀ o19 : Option Nat, o19 = sQ S 1 a0 → (o19 = (some (sX S)) → ∀ v20 : Int32, v20 = (if 10 < a1 then a1 else 10) → ¬ v20 < 0 ∧ v20.toNatClampNeg ≤ 10 ∧ ∀ (q21 : Nat) (S22 : St), q21 ∉ sL S → S22 = pNew S q21 12 v20.toNatClampNeg → ∀ S25 : St, S25 = pQ S22 1 a0 (some q21) → post (some q21) S25) ∧ (¬ o19 = (some (sX S)) → J20)))
set_option maxHeartbeats 4000000 in
set_option maxRecDepth 100000 in
theorem m_AL_grow1 (l : Launch) (x : Cx) (S : St) (post : Option Nat → St → Prop) (a0 : Nat) (a1 : Int32) (fa0 : isA S 0 a0) (h : w_AL_grow1 post S a0 a1) : Met l y_AL_grow1 [.code y_AL_grow1 c_AL_grow1 4 (some (.array (.object "java/lang/Object")))] { frames := 1, cells := 1, slots := 10, locals := 21 } (va_Pc [.ref a0, .int a1] (GW x S)) (va_Qq post (gB x S) (xA x)) 1 10 (xA x) := by
  refine gMet (by decide +kernel) (Nat.le_of_ble_eq_true rfl) ?_
  intro p e s m args below meth c hx hb hr hown hlocks hin hw hK H locs hG ls hlA hml
  have hown : s.vm.findClass "java/util/ArrayList" = some m.cls := hown
  have hl0 : lv_has ls 4 [(0, .ref a0), (1, .int a1)] := hlA
  have leS : gle S S := gle.rf
  unfold w_AL_grow1 at h
  refine lv_aload_n hx hb d_AL_grow1_0 rfl (lv_at hl0 0 rfl) ?_
  refine gget hx hb hw hown hK hG kd_AL fa0 rfl 1 (by decide) rfl tw_94 (fun _ h9 => h9) d_AL_grow1_1 ?_
  refine gtopq (fun o1 eo1 => ?_)
  replace h := h o1 eo1
  obtain ⟨y2, ey2, h⟩ := h
  subst ey2
  by_cases hc3 : y2 = sX S
  · replace h := h.1 hc3
    refine galenX hx hb hK hG hc3 d_AL_grow1_4 ?_
    refine lv_istore_n (lv' := [(2, .int 0), (0, .ref a0), (1, .int a1)]) hx hb d_AL_grow1_5 rfl hl0 (by decide) rfl (fun ls hl4 => ?_)
    refine lv_iload_n hx hb d_AL_grow1_6 rfl (lv_at hl4 0 rfl) ?_
    obtain ⟨J20, hJ20, h⟩ := h
    have k20 : ∀ (H : Heap) (locs : List Loc) (ls : Array Slot), GH x S s H locs → lv_has ls 4 [(1, .int a1), (2, .int 0)] → J20 → W p l e { frames := 1, cells := 1, slots := 10, locals := 21 } s m args below meth c H locs 0 0 (MQ below (va_Qq post (gB x S) (xA x)) args s 1 10 (xA x)) (F0 m 20 ls []) := by
      intro  H locs ls hG hl5 hj
      replace h := hJ20 hj
      refine lv_iload_n hx hb d_AL_grow1_20 rfl (lv_at hl5 1 rfl) ?_
      refine lv_iload_n hx hb d_AL_grow1_21 rfl (lv_at hl5 0 rfl) ?_
      refine lv_iload_n hx hb d_AL_grow1_22 rfl (lv_at hl5 1 rfl) ?_
      refine lv_isub hx hb d_AL_grow1_23 ?_
      refine lv_iload_n hx hb d_AL_grow1_24 rfl (lv_at hl5 1 rfl) ?_
      refine lv_iconst (v := 1) hx hb d_AL_grow1_25 (by decide) ?_
      refine lv_ishr hx hb d_AL_grow1_26 ?_
      exact h.elim
    refine lv_if_gt (tgt := 20) hx hb d_AL_grow1_7 (by decide) (fun hc14 => ?_) (fun hc14 => ?_)
    · replace h := h.1 hc14
      exact k20 H locs ls hG (lv_sub hl4 [2, 0] rfl) h
    · replace h := h.2 hc14
      refine lv_aload_n hx hb d_AL_grow1_10 rfl (lv_at hl4 1 rfl) ?_
      refine gget hx hb hw hown hK hG kd_AL fa0 rfl 1 (by decide) rfl tw_94 (fun _ h9 => h9) d_AL_grow1_11 ?_
      refine gtopq (fun o6 eo6 => ?_)
      replace h := h o6 eo6
      refine gsEm hx hb hw hown hK hG tw_92 d_AL_grow1_14 ?_
      refine lv_acmp_eq (rx := o6) (ry := (some (sX S))) (tgt := 45) hx hb d_AL_grow1_17 (by decide) (fun hc13 => ?_) (fun hc13 => ?_)
      · replace h := h.1 hc13
        refine lv_aload_n hx hb d_AL_grow1_45 rfl (lv_at hl4 1 rfl) ?_
        refine lv_bipush (v := 10) hx hb d_AL_grow1_46 (by decide) ?_
        refine lv_iload_n hx hb d_AL_grow1_48 rfl (lv_at hl4 2 rfl) ?_
        refine va_mmax hx hb (hml.trans hl4.1.symm) hown (hw _ tw_252) (hw _ tw_215) (hw _ tw_40) (hw _ tw_216) (Nat.le_of_ble_eq_true rfl) (Nat.le_of_ble_eq_true rfl) (Nat.le_of_ble_eq_true rfl) (Nat.le_of_ble_eq_true rfl) d_AL_grow1_49 ?_
        refine lv_topi (fun v7 ev7 => ?_)
        replace h := h v7 ev7
        obtain ⟨hn10, hn10b, h⟩ := h
        refine gnewq hx hb hw hown hK hG tw_253 tw_244 hn10 (by omega) (Nat.le_of_ble_eq_true rfl) (by show _ + _ ≤ (10 : Nat); omega) d_AL_grow1_52 (fun q8 S9 H hqq8 eS9 hle1 hG => ?_)
        replace h := h q8 S9 hqq8 eS9
        refine W.widen (k := 1) (n := 10) (Nat.le_of_ble_eq_true rfl) (by omega) ?_
        have fa0 := gle_isA hle1 fa0
        have leS := leS.tr hle1
        have f11 : isA S9 12 q8 := by rw [eS9]; exact isA_new
        refine lv_dup_x1 hx hb d_AL_grow1_55 rfl rfl ?_
        refine gput (S' := pQ S9 1 a0 (some q8)) hx hb hw hown hK hG kd_AL fa0 rfl 1 (by decide) (gChQ fa0 rfl) tw_94 (fun _ h9 => h9) rfl rfl rfl rfl (Nat.le_of_ble_eq_true rfl) d_AL_grow1_56 (fun S12 H locs eS12 hle1 hG => ?_)
        replace h := h S12 eS12
        have fa0 := gle_isA hle1 fa0
        have f11 := gle_isA hle1 f11
        have leS := leS.tr hle1
        exact garet (o := (some q8)) hx hb hr (Or.inr ⟨_, rfl⟩) hlocks hK hG leS h (Nat.le_of_ble_eq_true rfl) (Nat.le_of_ble_eq_true rfl) d_AL_grow1_59
      · replace h := h.2 hc13
        exact k20 H locs ls hG (lv_sub hl4 [2, 0] rfl) h
  · replace h := h.2 hc3
    obtain ⟨f15, h⟩ := h
    refine galen hx hb hK hG f15 rfl 3 rfl rfl d_AL_grow1_4 ?_
    refine lv_topi (fun v16 ev16 => ?_)
    replace h := h v16 ev16
    refine lv_istore_n (lv' := [(2, .int v16), (0, .ref a0), (1, .int a1)]) hx hb d_AL_grow1_5 rfl hl0 (by decide) rfl (fun ls hl17 => ?_)
    refine lv_iload_n hx hb d_AL_grow1_6 rfl (lv_at hl17 0 rfl) ?_
    obtain ⟨J20, hJ20, h⟩ := h
    have k20 : ∀ (H : Heap) (locs : List Loc) (ls : Array Slot), GH x S s H locs → lv_has ls 4 [(1, .int a1), (2, .int v16)] → J20 → W p l e { frames := 1, cells := 1, slots := 10, locals := 21 } s m args below meth c H locs 0 0 (MQ below (va_Qq post (gB x S) (xA x)) args s 1 10 (xA x)) (F0 m 20 ls []) := by
      intro  H locs ls hG hl18 hj
      replace h := hJ20 hj
      refine lv_iload_n hx hb d_AL_grow1_20 rfl (lv_at hl18 1 rfl) ?_
      refine lv_iload_n hx hb d_AL_grow1_21 rfl (lv_at hl18 0 rfl) ?_
      refine lv_iload_n hx hb d_AL_grow1_22 rfl (lv_at hl18 1 rfl) ?_
      refine lv_isub hx hb d_AL_grow1_23 ?_
      refine lv_iload_n hx hb d_AL_grow1_24 rfl (lv_at hl18 1 rfl) ?_
      refine lv_iconst (v := 1) hx hb d_AL_grow1_25 (by decide) ?_
      refine lv_ishr hx hb d_AL_grow1_26 ?_
      exact h.elim
    refine lv_if_gt (tgt := 20) hx hb d_AL_grow1_7 (by decide) (fun hc27 => ?_) (fun hc27 => ?_)
    · replace h := h.1 hc27
      exact k20 H locs ls hG (lv_sub hl17 [2, 0] rfl) h
    · replace h := h.2 hc27
      refine lv_aload_n hx hb d_AL_grow1_10 rfl (lv_at hl17 1 rfl) ?_
      refine gget hx hb hw hown hK hG kd_AL fa0 rfl 1 (by decide) rfl tw_94 (fun _ h9 => h9) d_AL_grow1_11 ?_
      refine gtopq (fun o19 eo19 => ?_)
      replace h := h o19 eo19
      refine gsEm hx hb hw hown hK hG tw_92 d_AL_grow1_14 ?_
      refine lv_acmp_eq (rx := o19) (ry := (some (sX S))) (tgt := 45) hx hb d_AL_grow1_17 (by decide) (fun hc26 => ?_) (fun hc26 => ?_)
      · replace h := h.1 hc26
        refine lv_aload_n hx hb d_AL_grow1_45 rfl (lv_at hl17 1 rfl) ?_
        refine lv_bipush (v := 10) hx hb d_AL_grow1_46 (by decide) ?_
        refine lv_iload_n hx hb d_AL_grow1_48 rfl (lv_at hl17 2 rfl) ?_
        refine va_mmax hx hb (hml.trans hl17.1.symm) hown (hw _ tw_252) (hw _ tw_215) (hw _ tw_40) (hw _ tw_216) (Nat.le_of_ble_eq_true rfl) (Nat.le_of_ble_eq_true rfl) (Nat.le_of_ble_eq_true rfl) (Nat.le_of_ble_eq_true rfl) d_AL_grow1_49 ?_
        refine lv_topi (fun v20 ev20 => ?_)
        replace h := h v20 ev20
        obtain ⟨hn23, hn23b, h⟩ := h
        refine gnewq hx hb hw hown hK hG tw_253 tw_244 hn23 (by omega) (Nat.le_of_ble_eq_true rfl) (by show _ + _ ≤ (10 : Nat); omega) d_AL_grow1_52 (fun q21 S22 H hqq21 eS22 hle1 hG => ?_)
        replace h := h q21 S22 hqq21 eS22
        refine W.widen (k := 1) (n := 10) (Nat.le_of_ble_eq_true rfl) (by omega) ?_
        have fa0 := gle_isA hle1 fa0
        have f15 := gle_isA hle1 f15
        have leS := leS.tr hle1
        have f24 : isA S22 12 q21 := by rw [eS22]; exact isA_new
        refine lv_dup_x1 hx hb d_AL_grow1_55 rfl rfl ?_
        refine gput (S' := pQ S22 1 a0 (some q21)) hx hb hw hown hK hG kd_AL fa0 rfl 1 (by decide) (gChQ fa0 rfl) tw_94 (fun _ h9 => h9) rfl rfl rfl rfl (Nat.le_of_ble_eq_true rfl) d_AL_grow1_56 (fun S25 H locs eS25 hle1 hG => ?_)
        replace h := h S25 eS25
        have fa0 := gle_isA hle1 fa0
        have f15 := gle_isA hle1 f15
        have f24 := gle_isA hle1 f24
        have leS := leS.tr hle1
        exact garet (o := (some q21)) hx hb hr (Or.inr ⟨_, rfl⟩) hlocks hK hG leS h (Nat.le_of_ble_eq_true rfl) (Nat.le_of_ble_eq_true rfl) d_AL_grow1_59
      · replace h := h.2 hc26
        exact k20 H locs ls hG (lv_sub hl17 [2, 0] rfl) h
def w_AL_grow0 (post : Option Nat → St → Prop) (S : St) (a0 : Nat) : Prop :=
  w_AL_grow1 (fun (o1 : Option Nat) (S2 : St) => post o1 S2) S a0 ((sI S 2 a0) + 1)
set_option maxHeartbeats 4000000 in
set_option maxRecDepth 100000 in
theorem m_AL_grow0 (l : Launch) (x : Cx) (S : St) (post : Option Nat → St → Prop) (a0 : Nat) (fa0 : isA S 0 a0) (h : w_AL_grow0 post S a0) : Met l y_AL_grow0 [.code y_AL_grow0 c_AL_grow0 1 (some (.array (.object "java/lang/Object")))] { frames := 2, cells := 1, slots := 10, locals := 44 } (va_Pc [.ref a0] (GW x S)) (va_Qq post (gB x S) (xA x)) 1 10 (xA x) := by
  refine gMet (by decide +kernel) (Nat.le_of_ble_eq_true rfl) ?_
  intro p e s m args below meth c hx hb hr hown hlocks hin hw hK H locs hG ls hlA hml
  have hown : s.vm.findClass "java/util/ArrayList" = some m.cls := hown
  have hl0 : lv_has ls 1 [(0, .ref a0)] := hlA
  have leS : gle S S := gle.rf
  unfold w_AL_grow0 at h
  refine lv_aload_n hx hb d_AL_grow0_0 rfl (lv_at hl0 0 rfl) ?_
  refine lv_aload_n hx hb d_AL_grow0_1 rfl (lv_at hl0 0 rfl) ?_
  refine gget hx hb hw hown hK hG kd_AL fa0 rfl 2 (by decide) rfl tw_95 (fun _ h9 => h9) d_AL_grow0_2 ?_
  refine lv_iconst (v := 1) hx hb d_AL_grow0_5 (by decide) ?_
  refine lv_iadd hx hb d_AL_grow0_6 ?_
  -- call AL_grow1
  refine gcq hK hG (va_runV (As := [.int ((sI S 2 a0) + 1)]) (rest := []) ⟨hx, hb, hml, hown, hw⟩ (m_AL_grow1 l x S _ a0 ((sI S 2 a0) + 1) fa0 h) ⟨gcb hw tw_210 tw_32 tw_207 hd_AL_grow1 rfl rfl ⟨(Nat.le_of_ble_eq_true rfl), (Nat.le_of_ble_eq_true rfl)⟩, hw _ tw_209, hw _ tw_2⟩ (gpV hK hG kd_AL fa0 rfl) rfl rfl hl0.1 rfl (lv_room (Nat.le_of_ble_eq_true rfl)) d_AL_grow0_7 ⟨(Nat.le_of_ble_eq_true rfl), (Nat.le_of_ble_eq_true rfl)⟩) (fun o1 S2 H locs h hle1 hG => ?_)
  have fa0 := gle_isA hle1 fa0
  have leS := leS.tr hle1
  exact garet (o := o1) hx hb hr (Or.inr ⟨_, rfl⟩) hlocks hK hG leS h (Nat.le_of_ble_eq_true rfl) (Nat.le_of_ble_eq_true rfl) d_AL_grow0_10
def w_AL_add3 (post : St → Prop) (S : St) (a0 : Nat) (a1 : Option Nat) (a2 : Option Nat) (a3 : Int32) : Prop :=
  ∃ y1 : Nat, a2 = some y1 ∧ (y1 = sX S → ∃ J11 : St → Option Nat → Prop, (∀ (S_11 : St) (v2_11 : Option Nat), J11 S_11 v2_11 → ∃ y4 : Nat, v2_11 = some y4 ∧ isA S_11 12 y4 ∧ ∃ y6 : Nat, a1 = some y6 ∧ vp_in a3 (sN S_11 y4) ∧ gObj S_11 y6 ∧ ∀ S8 : St, S8 = pP S_11 y4 (a3.toNatClampNeg) (some y6) → ∀ S11 : St, S11 = pI S8 2 a0 (a3 + 1) → post S11) ∧ (a3 = 0 → w_AL_grow0 (fun (o12 : Option Nat) (S13 : St) => J11 S13 o12) S a0) ∧ (¬ a3 = 0 → J11 S (some y1))) ∧ (¬ y1 = sX S → isA S 12 y1 ∧ ∃ J11 : St → Option Nat → Prop, (∀ (S_11 : St) (v2_11 : Option Nat), J11 S_11 v2_11 → ∃ y18 : Nat, v2_11 = some y18 ∧ isA S_11 12 y18 ∧ ∃ y20 : Nat, a1 = some y20 ∧ vp_in a3 (sN S_11 y18) ∧ gObj S_11 y20 ∧ ∀ S22 : St, S22 = pP S_11 y18 (a3.toNatClampNeg) (some y20) → ∀ S25 : St, S25 = pI S22 2 a0 (a3 + 1) → post S25) ∧ (a3 = (nI (sN S y1)) → w_AL_grow0 (fun (o26 : Option Nat) (S27 : St) => J11 S27 o26) S a0) ∧ (¬ a3 = (nI (sN S y1)) → J11 S (some y1)))
set_option maxHeartbeats 4000000 in
set_option maxRecDepth 100000 in
theorem m_AL_add3 (l : Launch) (x : Cx) (S : St) (post : St → Prop) (a0 : Nat) (a1 : Option Nat) (a2 : Option Nat) (a3 : Int32) (fa0 : isA S 0 a0) (h : w_AL_add3 post S a0 a1 a2 a3) : Met l y_AL_add3 [.code y_AL_add3 c_AL_add3 4 none] { frames := 3, cells := 1, slots := 10, locals := 64 } (va_Pc [.ref a0, va_rf a1, va_rf a2, .int a3] (GW x S)) (va_Qv post (gB x S) (xA x)) 1 10 (xA x) := by
  refine gMet (by decide +kernel) (by simp [lg_sl, gCat, gci1, gcr1, gcl1, gcd1]) ?_
  intro p e s m args below meth c hx hb hr hown hlocks hin hw hK H locs hG ls hlA hml
  have hown : s.vm.findClass "java/util/ArrayList" = some m.cls := hown
  have hl0 : lv_has ls 4 [(0, .ref a0), (1, va_rf a1), (2, va_rf a2), (3, .int a3)] := by simpa [lv_args, gCat, gci1, gcr1, gcl1, gcd1] using hlA
  have leS : gle S S := gle.rf
  unfold w_AL_add3 at h
  refine lv_iload_n hx hb d_AL_add3_0 rfl (lv_at hl0 3 rfl) ?_
  refine gaload_n hx hb d_AL_add3_1 rfl (lv_at hl0 2 rfl) ?_
  obtain ⟨y1, ey1, h⟩ := h
  subst ey1
  by_cases hc2 : y1 = sX S
  · replace h := h.1 hc2
    refine galenX hx hb hK hG hc2 d_AL_add3_2 ?_
    obtain ⟨J11, hJ11, h⟩ := h
    have k11 : ∀ (S_11 : St) (v2_11 : Option Nat) (H : Heap) (locs : List Loc) (ls : Array Slot), gle S S_11 → GH x S_11 s H locs → lv_has ls 4 [(0, .ref a0), (1, va_rf a1), (2, va_rf v2_11), (3, .int a3)] → J11 S_11 v2_11 → W p l e { frames := 3, cells := 1, slots := 10, locals := 64 } s m args below meth c H locs 1 10 (MQ below (va_Qv post (gB x S) (xA x)) args s 1 10 (xA x)) (F0 m 11 ls []) := by
      intro S_11 v2_11  H locs ls hle1 hG hl3 hj
      replace h := hJ11 S_11 v2_11 hj
      have fa0 := gle_isA hle1 fa0
      have leS := leS.tr hle1
      refine gaload_n hx hb d_AL_add3_11 rfl (lv_at hl3 2 rfl) ?_
      refine lv_iload_n hx hb d_AL_add3_12 rfl (lv_at hl3 3 rfl) ?_
      refine gaload_n hx hb d_AL_add3_13 rfl (lv_at hl3 1 rfl) ?_
      obtain ⟨y4, ey4, h⟩ := h
      subst ey4
      obtain ⟨f5, h⟩ := h
      obtain ⟨y6, ey6, h⟩ := h
      subst ey6
      obtain ⟨hi7, h⟩ := h
      obtain ⟨f10, h⟩ := h
      refine gaastO hx hb hw hK hG f5 f10 hi7 d_AL_add3_14 (fun S8 H locs eS8 hle1 hG => ?_)
      replace h := h S8 eS8
      have fa0 := gle_isA hle1 fa0
      have f5 := gle_isA hle1 f5
      have leS := leS.tr hle1
      refine lv_aload_n hx hb d_AL_add3_15 rfl (lv_at hl3 0 rfl) ?_
      refine lv_iload_n hx hb d_AL_add3_16 rfl (lv_at hl3 3 rfl) ?_
      refine lv_iconst (v := 1) hx hb d_AL_add3_17 (by decide) ?_
      refine lv_iadd hx hb d_AL_add3_18 ?_
      refine gput (S' := pI S8 2 a0 (a3 + 1)) hx hb hw hown hK hG kd_AL fa0 rfl 2 (by decide) (gChI fa0 rfl) tw_95 (fun _ h9 => h9) rfl rfl rfl rfl (Nat.le_of_ble_eq_true rfl) d_AL_add3_19 (fun S11 H locs eS11 hle1 hG => ?_)
      replace h := h S11 eS11
      have fa0 := gle_isA hle1 fa0
      have f5 := gle_isA hle1 f5
      have leS := leS.tr hle1
      exact gvret hx hb hr hlocks hK hG leS h (Nat.le_of_ble_eq_true rfl) (Nat.le_of_ble_eq_true rfl) d_AL_add3_22
    refine lv_icmp_ne (tgt := 11) hx hb d_AL_add3_3 (by decide) (fun hc15 => ?_) (fun hc15 => ?_)
    · replace h := h.2 hc15
      refine W.widen (k := 1) (n := 10) (Nat.le_of_ble_eq_true rfl) (Nat.le_of_ble_eq_true rfl) ?_
      exact k11 S (some y1) H locs ls leS hG (lv_sub hl0 [0, 1, 2, 3] rfl) h
    · replace h := h.1 hc15
      refine lv_aload_n hx hb d_AL_add3_6 rfl (lv_at hl0 0 rfl) ?_
      -- call AL_grow0
      refine gcq hK hG (va_runV (As := []) (rest := []) ⟨hx, hb, hml, hown, hw⟩ (m_AL_grow0 l x S _ a0 fa0 h) ⟨gcb hw tw_206 tw_32 tw_203 hd_AL_grow0 rfl rfl ⟨(Nat.le_of_ble_eq_true rfl), (Nat.le_of_ble_eq_true rfl)⟩, hw _ tw_205, hw _ tw_1⟩ (gpV hK hG kd_AL fa0 rfl) rfl rfl hl0.1 rfl (lv_room (Nat.le_of_ble_eq_true rfl)) d_AL_add3_7 ⟨(Nat.le_of_ble_eq_true rfl), (Nat.le_of_ble_eq_true rfl)⟩) (fun o12 S13 H locs h hle1 hG => ?_)
      have fa0 := gle_isA hle1 fa0
      have leS := leS.tr hle1
      refine gastore_n (lv' := [(2, va_rf o12), (0, .ref a0), (1, va_rf a1), (3, .int a3)]) hx hb d_AL_add3_10 rfl hl0 (by decide) (by simp [gCatB]) (fun ls hl14 => ?_)
      exact k11 S13 o12 H locs ls leS hG (lv_sub hl14 [1, 2, 0, 3] rfl) h
  · replace h := h.2 hc2
    obtain ⟨f16, h⟩ := h
    refine galen hx hb hK hG f16 rfl 3 rfl rfl d_AL_add3_2 ?_
    obtain ⟨J11, hJ11, h⟩ := h
    have k11 : ∀ (S_11 : St) (v2_11 : Option Nat) (H : Heap) (locs : List Loc) (ls : Array Slot), gle S S_11 → GH x S_11 s H locs → lv_has ls 4 [(0, .ref a0), (1, va_rf a1), (2, va_rf v2_11), (3, .int a3)] → J11 S_11 v2_11 → W p l e { frames := 3, cells := 1, slots := 10, locals := 64 } s m args below meth c H locs 1 10 (MQ below (va_Qv post (gB x S) (xA x)) args s 1 10 (xA x)) (F0 m 11 ls []) := by
      intro S_11 v2_11  H locs ls hle1 hG hl17 hj
      replace h := hJ11 S_11 v2_11 hj
      have fa0 := gle_isA hle1 fa0
      have f16 := gle_isA hle1 f16
      have leS := leS.tr hle1
      refine gaload_n hx hb d_AL_add3_11 rfl (lv_at hl17 2 rfl) ?_
      refine lv_iload_n hx hb d_AL_add3_12 rfl (lv_at hl17 3 rfl) ?_
      refine gaload_n hx hb d_AL_add3_13 rfl (lv_at hl17 1 rfl) ?_
      obtain ⟨y18, ey18, h⟩ := h
      subst ey18
      obtain ⟨f19, h⟩ := h
      obtain ⟨y20, ey20, h⟩ := h
      subst ey20
      obtain ⟨hi21, h⟩ := h
      obtain ⟨f24, h⟩ := h
      refine gaastO hx hb hw hK hG f19 f24 hi21 d_AL_add3_14 (fun S22 H locs eS22 hle1 hG => ?_)
      replace h := h S22 eS22
      have fa0 := gle_isA hle1 fa0
      have f16 := gle_isA hle1 f16
      have f19 := gle_isA hle1 f19
      have leS := leS.tr hle1
      refine lv_aload_n hx hb d_AL_add3_15 rfl (lv_at hl17 0 rfl) ?_
      refine lv_iload_n hx hb d_AL_add3_16 rfl (lv_at hl17 3 rfl) ?_
      refine lv_iconst (v := 1) hx hb d_AL_add3_17 (by decide) ?_
      refine lv_iadd hx hb d_AL_add3_18 ?_
      refine gput (S' := pI S22 2 a0 (a3 + 1)) hx hb hw hown hK hG kd_AL fa0 rfl 2 (by decide) (gChI fa0 rfl) tw_95 (fun _ h9 => h9) rfl rfl rfl rfl (Nat.le_of_ble_eq_true rfl) d_AL_add3_19 (fun S25 H locs eS25 hle1 hG => ?_)
      replace h := h S25 eS25
      have fa0 := gle_isA hle1 fa0
      have f16 := gle_isA hle1 f16
      have f19 := gle_isA hle1 f19
      have leS := leS.tr hle1
      exact gvret hx hb hr hlocks hK hG leS h (Nat.le_of_ble_eq_true rfl) (Nat.le_of_ble_eq_true rfl) d_AL_add3_22
    refine lv_icmp_ne (tgt := 11) hx hb d_AL_add3_3 (by decide) (fun hc29 => ?_) (fun hc29 => ?_)
    · replace h := h.2 hc29
      refine W.widen (k := 1) (n := 10) (Nat.le_of_ble_eq_true rfl) (Nat.le_of_ble_eq_true rfl) ?_
      exact k11 S (some y1) H locs ls leS hG (lv_sub hl0 [0, 1, 2, 3] rfl) h
    · replace h := h.1 hc29
      refine lv_aload_n hx hb d_AL_add3_6 rfl (lv_at hl0 0 rfl) ?_
      -- call AL_grow0
      refine gcq hK hG (va_runV (As := []) (rest := []) ⟨hx, hb, hml, hown, hw⟩ (m_AL_grow0 l x S _ a0 fa0 h) ⟨gcb hw tw_206 tw_32 tw_203 hd_AL_grow0 rfl rfl ⟨(Nat.le_of_ble_eq_true rfl), (Nat.le_of_ble_eq_true rfl)⟩, hw _ tw_205, hw _ tw_1⟩ (gpV hK hG kd_AL fa0 rfl) rfl rfl hl0.1 rfl (lv_room (Nat.le_of_ble_eq_true rfl)) d_AL_add3_7 ⟨(Nat.le_of_ble_eq_true rfl), (Nat.le_of_ble_eq_true rfl)⟩) (fun o26 S27 H locs h hle1 hG => ?_)
      have fa0 := gle_isA hle1 fa0
      have f16 := gle_isA hle1 f16
      have leS := leS.tr hle1
      refine gastore_n (lv' := [(2, va_rf o26), (0, .ref a0), (1, va_rf a1), (3, .int a3)]) hx hb d_AL_add3_10 rfl hl0 (by decide) (by simp [gCatB]) (fun ls hl28 => ?_)
      exact k11 S27 o26 H locs ls leS hG (lv_sub hl28 [1, 2, 0, 3] rfl) h
def w_AL_add1 (post : Int32 → St → Prop) (S : St) (a0 : Nat) (a1 : Option Nat) : Prop :=
  ∀ S1 : St, S1 = pI S 0 a0 ((sI S 0 a0) + 1) → ∀ o2 : Option Nat, o2 = sQ S1 1 a0 → w_AL_add3 (fun (S3 : St) => post 1 S3) S1 a0 a1 o2 (sI S1 2 a0)
set_option maxHeartbeats 4000000 in
set_option maxRecDepth 100000 in
theorem m_AL_add1 (l : Launch) (x : Cx) (S : St) (post : Int32 → St → Prop) (a0 : Nat) (a1 : Option Nat) (fa0 : isA S 0 a0) (h : w_AL_add1 post S a0 a1) : Met l y_AL_add1 [.code y_AL_add1 c_AL_add1 2 (some .boolean)] { frames := 4, cells := 1, slots := 10, locals := 87 } (va_Pc [.ref a0, va_rf a1] (GW x S)) (va_Qi post (gB x S) (xA x)) 1 10 (xA x) := by
  refine gMet (by decide +kernel) (by simp [lg_sl, gCat, gci1, gcr1, gcl1, gcd1]) ?_
  intro p e s m args below meth c hx hb hr hown hlocks hin hw hK H locs hG ls hlA hml
  have hown : s.vm.findClass "java/util/ArrayList" = some m.cls := hown
  have hl0 : lv_has ls 2 [(0, .ref a0), (1, va_rf a1)] := hlA
  have leS : gle S S := gle.rf
  unfold w_AL_add1 at h
  refine lv_aload_n hx hb d_AL_add1_0 rfl (lv_at hl0 0 rfl) ?_
  refine lv_dup hx hb d_AL_add1_1 rfl ?_
  refine gget hx hb hw hown hK hG kd_AL fa0 rfl 0 (by decide) rfl tw_97 (fun y9 h9 => u_same (hw _ tw_98) y9 h9) d_AL_add1_2 ?_
  refine lv_iconst (v := 1) hx hb d_AL_add1_5 (by decide) ?_
  refine lv_iadd hx hb d_AL_add1_6 ?_
  refine gput (S' := pI S 0 a0 ((sI S 0 a0) + 1)) hx hb hw hown hK hG kd_AL fa0 rfl 0 (by decide) (gChI fa0 rfl) tw_97 (fun y9 h9 => u_same (hw _ tw_98) y9 h9) rfl rfl rfl rfl (Nat.le_of_ble_eq_true rfl) d_AL_add1_7 (fun S1 H locs eS1 hle1 hG => ?_)
  replace h := h S1 eS1
  have fa0 := gle_isA hle1 fa0
  have leS := leS.tr hle1
  refine lv_aload_n hx hb d_AL_add1_10 rfl (lv_at hl0 0 rfl) ?_
  refine gaload_n hx hb d_AL_add1_11 rfl (lv_at hl0 1 rfl) ?_
  refine lv_aload_n hx hb d_AL_add1_12 rfl (lv_at hl0 0 rfl) ?_
  refine gget hx hb hw hown hK hG kd_AL fa0 rfl 1 (by decide) rfl tw_94 (fun _ h9 => h9) d_AL_add1_13 ?_
  refine gtopq (fun o2 eo2 => ?_)
  replace h := h o2 eo2
  refine lv_aload_n hx hb d_AL_add1_16 rfl (lv_at hl0 0 rfl) ?_
  refine gget hx hb hw hown hK hG kd_AL fa0 rfl 2 (by decide) rfl tw_95 (fun _ h9 => h9) d_AL_add1_17 ?_
  -- call AL_add3
  refine gcv hK hG (va_runV (As := [va_rf a1, va_rf o2, .int (sI S1 2 a0)]) (rest := []) ⟨hx, hb, hml, hown, hw⟩ (m_AL_add3 l x S1 _ a0 a1 o2 (sI S1 2 a0) fa0 h) ⟨gcb hw tw_202 tw_32 tw_199 hd_AL_add3 rfl rfl ⟨(Nat.le_of_ble_eq_true rfl), (Nat.le_of_ble_eq_true rfl)⟩, hw _ tw_201, hw _ tw_0⟩ (gpV hK hG kd_AL fa0 rfl) rfl rfl hl0.1 rfl (lv_room (Nat.le_of_ble_eq_true rfl)) d_AL_add1_20 ⟨(Nat.le_of_ble_eq_true rfl), (Nat.le_of_ble_eq_true rfl)⟩) (fun S3 H locs h hle1 hG => ?_)
  have fa0 := gle_isA hle1 fa0
  have leS := leS.tr hle1
  refine lv_iconst (v := 1) hx hb d_AL_add1_23 (by decide) ?_
  exact gzret hx hb hr rfl hlocks hK hG leS h (Nat.le_of_ble_eq_true rfl) (Nat.le_of_ble_eq_true rfl) d_AL_add1_24
end
