/-! THE POOL: every object and array that the program makes, by its address; written by hand -/
abbrev St : Type := List Nat × (Nat → Nat) × (Nat → Nat) × (Nat → Nat → Int32) × (Nat → Nat → Option Nat) × (Nat → Nat → Int32) × (Nat → Nat → Option Nat) × (Nat → Nat → Int64) × Nat
def mS (L : List Nat) (K N : Nat → Nat) (I : Nat → Nat → Int32) (Q : Nat → Nat → Option Nat) (R : Nat → Nat → Int32) (P : Nat → Nat → Option Nat) (J : Nat → Nat → Int64) (X : Nat) : St := (L, K, N, I, Q, R, P, J, X)
/-- addresses -/
def sL (S : St) : List Nat := S.1
/-- kinds -/
def sK (S : St) : Nat → Nat := S.2.1
/-- lengths of arrays -/
def sN (S : St) : Nat → Nat := S.2.2.1
/-- int fields: field, address -/
def sI (S : St) : Nat → Nat → Int32 := S.2.2.2.1
/-- reference fields -/
def sQ (S : St) : Nat → Nat → Option Nat := S.2.2.2.2.1
/-- int, byte and boolean arrays: address, place -/
def sR (S : St) : Nat → Nat → Int32 := S.2.2.2.2.2.1
/-- arrays of references -/
def sP (S : St) : Nat → Nat → Option Nat := S.2.2.2.2.2.2.1
/-- long arrays -/
def sJ (S : St) : Nat → Nat → Int64 := S.2.2.2.2.2.2.2.1
/-- the shared empty array of ArrayList -/
def sX (S : St) : Nat := S.2.2.2.2.2.2.2.2
def up2 {α : Type} (f : Nat → Nat → α) (i j : Nat) (v : α) : Nat → Nat → α := fun i' j' => if i' = i ∧ j' = j then v else f i' j'
def pI (S : St) (f a : Nat) (v : Int32) : St := mS (sL S) (sK S) (sN S) (up2 (sI S) f a v) (sQ S) (sR S) (sP S) (sJ S) (sX S)
def pQ (S : St) (f a : Nat) (v : Option Nat) : St := mS (sL S) (sK S) (sN S) (sI S) (up2 (sQ S) f a v) (sR S) (sP S) (sJ S) (sX S)
def pR (S : St) (a j : Nat) (v : Int32) : St := mS (sL S) (sK S) (sN S) (sI S) (sQ S) (up2 (sR S) a j v) (sP S) (sJ S) (sX S)
def pP (S : St) (a j : Nat) (v : Option Nat) : St := mS (sL S) (sK S) (sN S) (sI S) (sQ S) (sR S) (up2 (sP S) a j v) (sJ S) (sX S)
def pJ (S : St) (a j : Nat) (v : Int64) : St := mS (sL S) (sK S) (sN S) (sI S) (sQ S) (sR S) (sP S) (up2 (sJ S) a j v) (sX S)
/-- a whole row new -/
def pRow (S : St) (a : Nat) (f : Nat → Int32) : St := mS (sL S) (sK S) (sN S) (sI S) (sQ S) (va_up (sR S) a f) (sP S) (sJ S) (sX S)
/-- a new object or array of kind k, n places long, all zero -/
def pNew (S : St) (a k n : Nat) : St := mS (sL S ++ [a]) (va_up (sK S) a k) (va_up (sN S) a n) (fun f b => if b = a then 0 else sI S f b) (fun f b => if b = a then none else sQ S f b) (va_up (sR S) a (fun _ => 0)) (va_up (sP S) a (fun _ => none)) (va_up (sJ S) a (fun _ => 0)) (sX S)
def isA (S : St) (k a : Nat) : Prop := a ∈ sL S ∧ sK S a = k
def gle (S S' : St) : Prop := (∀ a, a ∈ sL S → a ∈ sL S' ∧ sK S' a = sK S a ∧ sN S' a = sN S a) ∧ sX S' = sX S
theorem gle.rf {S : St} : gle S S := ⟨fun _ h => ⟨h, rfl, rfl⟩, rfl⟩
theorem gle.tr {S T U : St} (h : gle S T) (h2 : gle T U) : gle S U := ⟨fun a ha => by
  obtain ⟨h3, h4, h5⟩ := h.1 a ha
  obtain ⟨h6, h7, h8⟩ := h2.1 a h3
  exact ⟨h6, h7.trans h4, h8.trans h5⟩, h2.2.trans h.2⟩
theorem gle_isA {S T : St} {k a : Nat} (h : gle S T) (ha : isA S k a) : isA T k a := ⟨(h.1 a ha.1).1, (h.1 a ha.1).2.1.trans ha.2⟩
theorem gle_len {S T : St} {k a : Nat} (h : gle S T) (ha : isA S k a) : sN T a = sN S a := (h.1 a ha.1).2.2
theorem gle_new {S : St} {a k n : Nat} (h : a ∉ sL S) : gle S (pNew S a k n) := ⟨fun b hb => by
  have hne : b ≠ a := fun e => h (e ▸ hb)
  exact ⟨List.mem_append_left _ hb, va_up_ne _ _ hne, va_up_ne _ _ hne⟩, rfl⟩
theorem isA_new {S : St} {a k n : Nat} : isA (pNew S a k n) k a := ⟨List.mem_append_right _ List.mem_cons_self, va_up_self _ _ _⟩
theorem len_new {S : St} {a k n : Nat} : sN (pNew S a k n) a = n := va_up_self _ _ _
/-- a boolean -/
def gBo (v : Int32) : Prop := v = 0 ∨ v = 1
theorem gBo_n {v : Int32} (h : gBo v) : narrow .boolean (.int v) = .int v := by rcases h with rfl | rfl <;> rfl
theorem gBo_f {v : Int32} (h : gBo v) : fits .boolean (.int v) = true := by rcases h with rfl | rfl <;> rfl
theorem up2_col {α : Type} (I : Nat → Nat → α) (F a : Nat) (v : α) : (fun f => up2 I F a v f a) = va_up (fun f => I f a) F v := by
  funext f
  by_cases h : f = F <;> simp [up2, va_up, h]
theorem up2_coln {α : Type} (I : Nat → Nat → α) (F : Nat) {a b : Nat} (v : α) (h : b ≠ a) : (fun f => up2 I F a v f b) = (fun f => I f b) := by
  funext f
  simp [up2, h]
theorem up2_row (I : Nat → Nat → Int32) (a j : Nat) (v : Int32) : up2 I a j v a = upd (I a) j v := by
  funext q
  by_cases h : q = j <;> simp [up2, upd, h]
theorem up2_rowP (I : Nat → Nat → Option Nat) (a j : Nat) (v : Option Nat) : up2 I a j v a = va_up (I a) j v := by
  funext q
  by_cases h : q = j <;> simp [up2, va_up, h]
theorem up2_rowJ (I : Nat → Nat → Int64) (a j : Nat) (v : Int64) : up2 I a j v a = vp_updL (I a) j v := by
  funext q
  by_cases h : q = j <;> simp [up2, vp_updL, h]
theorem up2_rown {α : Type} (I : Nat → Nat → α) (j : Nat) {a b : Nat} (v : α) (h : b ≠ a) : up2 I a j v b = I b := by
  funext q
  simp [up2, h]
/-- what the rows are told once and for all: classes, arrays' classes, what may be written, the statics' addresses, the texts' -/
abbrev Cx : Type := va_G × ClassId × ClassId × ClassId × ClassId × ClassId × (Nat → Prop) × Nat × Nat × Nat × Nat × (Nat → Nat) × (Nat → Nat)
def xD (x : Cx) : va_G := x.1
def xB (x : Cx) : ClassId := x.2.1
def xI (x : Cx) : ClassId := x.2.2.1
def xZ (x : Cx) : ClassId := x.2.2.2.1
def xO (x : Cx) : ClassId := x.2.2.2.2.1
def xJ (x : Cx) : ClassId := x.2.2.2.2.2.1
def xA (x : Cx) : Nat → Prop := x.2.2.2.2.2.2.1
def xDx (x : Cx) : Nat := x.2.2.2.2.2.2.2.1
def xDy (x : Cx) : Nat := x.2.2.2.2.2.2.2.2.1
def xEm (x : Cx) : Nat := x.2.2.2.2.2.2.2.2.2.1
def xFs (x : Cx) : Nat := x.2.2.2.2.2.2.2.2.2.2.1
def xKa (x : Cx) : Nat → Nat := x.2.2.2.2.2.2.2.2.2.2.2.1
def xVa (x : Cx) : Nat → Nat := x.2.2.2.2.2.2.2.2.2.2.2.2
def gTy (x : Cx) : List (ClassId × FieldType) := [(xB x, .byte), (xI x, .int), (xZ x, .boolean), (xO x, .object "java/lang/Object"), (xJ x, .long)]
def gC (x : Cx) (k n : Nat) (I : Nat → Int32) (Q : Nat → Option Nat) (R : Nat → Int32) (P : Nat → Option Nat) (J : Nat → Int64) : va_E := match k with
  | 0 => .inr (0, [.int (I 0), va_rf (Q 1), .int (I 2)])
  | 1 => .inr (1, [.int (I 3), va_rf (Q 4), .int (I 5)])
  | 2 => .inr (2, [.int (I 6), .int (I 7), .int (I 8), .int (I 9), .int (I 10), .int (I 11), va_rf (Q 12), .int (I 13), va_rf (Q 14), .int (I 15), .int (I 16), .int (I 17), .int (I 18), .int (I 19), .int (I 20)])
  | 3 => .inr (3, [va_rf (Q 21), va_rf (Q 22), .int (I 23)])
  | 4 => .inr (4, [va_rf (Q 24), .int (I 25)])
  | 5 => .inr (5, [.int (I 26), .int (I 27), .int (I 28), va_rf (Q 29), .int (I 30), .int (I 31), .int (I 32)])
  | 6 => .inr (6, [va_rf (Q 33), va_rf (Q 34), va_rf (Q 35), va_rf (Q 36), va_rf (Q 37)])
  | 7 => .inr (7, [.int (I 38), .int (I 39), va_rf (Q 40), va_rf (Q 41), va_rf (Q 42), va_rf (Q 43), va_rf (Q 44), va_rf (Q 45), va_rf (Q 46), va_rf (Q 47), va_rf (Q 48), va_rf (Q 49), va_rf (Q 50), va_rf (Q 51), .int (I 52), va_rf (Q 53), va_rf (Q 54), va_rf (Q 55)])
  | 8 => .inr (8, [.int (I 56), va_rf (Q 57), .int (I 58), va_rf (Q 59), va_rf (Q 60), va_rf (Q 61), va_rf (Q 62)])
  | 9 => .inl (xB x, n, .inl R)
  | 10 => .inl (xI x, n, .inl R)
  | 11 => .inl (xZ x, n, .inl R)
  | 12 => .inl (xO x, n, .inr (.inr (.inr (.inr P))))
  | _ => .inl (xJ x, n, .inr (.inl J))
def gE (x : Cx) (S : St) (a : Nat) : va_E := gC x (sK S a) (sN S a) (fun f => sI S f a) (fun f => sQ S f a) (sR S a) (sP S a) (sJ S a)
def gWs (x : Cx) (S : St) : va_W := va_pl (sL S) (gE x S)
theorem gE_at {x : Cx} {S : St} {k a : Nat} {e : va_E} (h : isA S k a) (he : gC x k (sN S a) (fun f => sI S f a) (fun f => sQ S f a) (sR S a) (sP S a) (sJ S a) = e) : gE x S a = e := by
  unfold gE
  rw [h.2]
  exact he
theorem gplace {x : Cx} {S : St} {a : Nat} {e : va_E} (h : a ∈ sL S) (he : gE x S a = e) : ∃ k : Nat, (gWs x S)[k]? = some (a, e) ∧ (gWs x S)[k]? = some (a, gE x S a) := by
  obtain ⟨k, hk⟩ := va_pl_get (X := []) (f := gE x S) h
  have hk : (gWs x S)[k]? = some (a, gE x S a) := hk
  exact ⟨k, he ▸ hk, hk⟩
theorem gset {A : Nat → Prop} {x : Cx} {S S' : St} {a k0 : Nat} {e : va_E} (hD : va_D A (gWs x S)) (haL : a ∈ sL S) (hk : (gWs x S)[k0]? = some (a, gE x S a)) (hL : sL S' = sL S) (hne : ∀ b, b ≠ a → gE x S' b = gE x S b) (he : gE x S' a = e) : (gWs x S).set k0 (a, e) = gWs x S' := by
  refine (va_pl_set (X := []) hD haL hk (e := e)).trans ?_
  show va_pl (sL S) (va_up (gE x S) a e) = va_pl (sL S') (gE x S')
  rw [hL]
  refine va_pl_congr fun b => ?_
  by_cases hb : b = a
  · subst hb
    rw [va_up_self, he]
  · rw [va_up_ne _ _ hb, hne b hb]
/-- the words of the tables that stay true while the machine runs -/
def wOq (w : Cond) : Bool := match w with
  | .arrayClass _ => true
  | .arrayOver (.object _) => true
  | .fieldLinkNest _ _ _ _ _ _ => true
  | .methodLinkNest _ _ _ _ => true
  | .castable _ _ => true
  | .declares _ => true
  | w => w.onTables && w.keeps
def gG : List Cond := lw_tbl.filter wOq
theorem gmm {w : Cond} (i : Nat) (h : lw_tbl[i]? = some w) (hok : wOq w = true) : w ∈ gG := List.mem_filter.mpr ⟨List.mem_of_getElem? h, hok⟩
def gWd (U : State) : Prop := ∀ w ∈ gG, w.before #[] U = true
theorem gOk {w : Cond} (h : w ∈ gG) : wOq w = true := (List.mem_filter.mp h).2
theorem gWd.use {U : State} (h : gWd U) (args : Array Value) : ∀ w ∈ gG, w.before args U = true := by
  intro w hw
  have h1 := h w hw
  have h2 := gOk hw
  unfold wOq at h2
  split at h2
  · exact h1
  · exact h1
  · exact va_tabs rfl rfl h1
  · exact va_tabs rfl rfl h1
  · exact va_tabs rfl rfl h1
  · exact va_tabs rfl rfl h1
  · simp only [Bool.and_eq_true] at h2
    exact va_tabs h2.1 rfl h1
theorem gWd.of {U : State} {args : Array Value} (h : ∀ w ∈ lw_tbl, w.before args U = true) : gWd U := by
  intro w hw
  have h1 := h w (List.mem_filter.mp hw).1
  have h2 := gOk hw
  unfold wOq at h2
  split at h2
  · exact h1
  · exact h1
  · exact va_tabs rfl rfl h1
  · exact va_tabs rfl rfl h1
  · exact va_tabs rfl rfl h1
  · exact va_tabs rfl rfl h1
  · simp only [Bool.and_eq_true] at h2
    exact va_tabs h2.1 rfl h1
theorem gWd.warm {s U : State} (hW : s.WarmedH U.vm) (h : gWd s) : gWd U := by
  intro w hw
  have h1 := h w hw
  have h2 := gOk hw
  unfold wOq at h2
  split at h2
  · exact word_at hW (Or.inr ⟨_, rfl⟩) h1
  · exact va_AO.moved hW.alike h1
  · exact va_Nw.warmF hW h1
  · exact va_Nw.warmM hW h1
  · exact va_Nw.warmC hW h1
  · exact va_Nw.warmD hW h1
  · exact word_at hW (Or.inl h2) h1
/-- what the static rows hold -/
def dxT (j : Nat) : Int32 := match j with
  | 1 => 1
  | 3 => -1
  | _ => 0
def dyT (j : Nat) : Int32 := match j with
  | 0 => -1
  | 2 => 1
  | _ => 0
/-- the texts whose letters are read: length, bytes -/
def txL (i : Nat) : Nat := ([4, 8, 4, 1, 5, 6, 4, 4, 8, 4, 8, 4, 1, 5, 6, 4, 4] : List Nat).getD i 0
def txB (i : Nat) : List Int32 := ([[102, 114, 98, 108], [102, 116, 102, 116, 102, 116, 102, 116], [115, 115, 119, 108], [119], [102, 98, 102, 98, 116], [114, 114, 108, 108, 117, 117], [102, 108, 98, 114], [116, 117, 116, 117], [102, 98, 108, 114, 116, 117, 115, 119], [102, 114, 98, 108], [102, 116, 102, 116, 102, 116, 102, 116], [115, 115, 119, 108], [119], [102, 98, 102, 98, 116], [114, 114, 108, 108, 117, 117], [102, 108, 98, 114], [116, 117, 116, 117]] : List (List Int32)).getD i []
def txR : List (String × Nat × String × Nat) := [("WaltzHall", 25, "frbl", 0), ("WaltzHall", 48, "ftftftft", 1), ("WaltzHall", 50, "sswl", 2), ("WaltzHall", 52, "w", 3), ("WaltzHall", 54, "fbfbt", 4), ("WaltzHall", 56, "rrlluu", 5), ("WaltzHall", 58, "flbr", 6), ("WaltzHall", 60, "tutu", 7), ("WaltzHallModel", 60, "fblrtusw", 8), ("WaltzHallModel", 178, "frbl", 9), ("WaltzHallModel", 180, "ftftftft", 10), ("WaltzHallModel", 182, "sswl", 11), ("WaltzHallModel", 184, "w", 12), ("WaltzHallModel", 186, "fbfbt", 13), ("WaltzHallModel", 188, "rrlluu", 14), ("WaltzHallModel", 190, "flbr", 15), ("WaltzHallModel", 192, "tutu", 16)]
def txM : List (String × Nat × String) := [("WaltzHall", 68, "the tape is too full"), ("WaltzHall", 83, "the tape has not so many bytes"), ("WaltzHall", 101, "the dance has no such place"), ("WaltzHall", 119, "no such tile, face or cost"), ("WaltzHall", 131, "the tile is taken, or the hall is full"), ("WaltzHall", 164, "nobody is a couple alone"), ("WaltzHall", 174, "one is in a couple, or they are not beside each other"), ("WaltzHall", 183, "there is no couple"), ("WaltzHall", 188, "nobody winds so much"), ("WaltzHall", 199, "no such tile"), ("WaltzHall", 201, "no such tile or strength"), ("WaltzHall", 206, "there are enough winders"), ("WaltzHall", 223, "the round is full"), ("WaltzHall", 252, "nobody meets itself"), ("WaltzHall", 269, "no such dance"), ("WaltzHall", 271, "no such dancer"), ("WaltzHall", 273, "no such winder"), ("WaltzHall", 275, "nothing of that kind is told"), ("WaltzHall", 277, "beats are 1 to 200")]
def gStr (x : Cx) (U : State) (H : Heap) : Prop := ∀ i : Nat, i < 17 → vk_S 1 [txL i] [txB i] (fun _ => xKa x i) (fun _ => xVa x i) (xA x) U H
def gSt (x : Cx) (U : State) (H : Heap) : Prop :=
  (va_Z "WaltzHallModel" "DX" "[I" (.ref (xDx x)) (xA x) U H ∧ va_T .int (xDx x) 4 (fun j => .int (dxT j)) (xA x) U H) ∧
  (va_Z "WaltzHallModel" "DY" "[I" (.ref (xDy x)) (xA x) U H ∧ va_T .int (xDy x) 4 (fun j => .int (dyT j)) (xA x) U H) ∧
  (va_Z "WaltzHallModel" "FIRST" "[Ljava/lang/String;" (.ref (xFs x)) (xA x) U H ∧ va_T (.object "java/lang/String") (xFs x) 8 (fun j => .ref (xKa x (9 + j))) (xA x) U H) ∧
  (va_Z "java/util/ArrayList" "DEFAULTCAPACITY_EMPTY_ELEMENTDATA" "[Ljava/lang/Object;" (.ref (xEm x)) (xA x) U H ∧ va_T (.object "java/lang/Object") (xEm x) 0 (fun _ => .null) (xA x) U H) ∧
  va_Z "java/lang/String" "COMPACT_STRINGS" "Z" (.int 1) (xA x) U H ∧
  va_Zq "jdk/internal/util/Preconditions" "SIOOBE_FORMATTER" "Ljava/util/function/BiFunction;" (xA x) U H ∧
  vx_Zq Bundle.tN "UNASSIGNED_STACK" Bundle.steD (xA x) U H ∧ vx_Zq Bundle.tN "SUPPRESSED_SENTINEL" Bundle.listD (xA x) U H ∧ gStr x U H
theorem gSt.moved {x : Cx} {u U : State} {H : Heap} (hvm : u.vm.Alike U.vm) (h : gSt x u H) : gSt x U H := by
  obtain ⟨⟨a1, a2⟩, ⟨b1, b2⟩, ⟨c1, c2⟩, ⟨d1, d2⟩, e1, f1, g1, i1, j1⟩ := h
  exact ⟨⟨a1.moved hvm, a2.moved hvm⟩, ⟨b1.moved hvm, b2.moved hvm⟩, ⟨c1.moved hvm, c2.moved hvm⟩, ⟨d1.moved hvm, d2.moved hvm⟩, e1.moved hvm, f1.moved hvm, g1.moved hvm, i1.moved hvm, fun i hi => (j1 i hi).moved hvm⟩
theorem gSt.kept {x : Cx} {U : State} {H H1 : Heap} (h : gSt x U H) (hq : ∀ a : Nat, a < H.size → ¬ xA x a → H1[a]? = H[a]?) : gSt x U H1 := by
  obtain ⟨⟨a1, a2⟩, ⟨b1, b2⟩, ⟨c1, c2⟩, ⟨d1, d2⟩, e1, f1, g1, i1, j1⟩ := h
  exact ⟨⟨a1.kept hq, a2.kept hq⟩, ⟨b1.kept hq, b2.kept hq⟩, ⟨c1.kept hq, c2.kept hq⟩, ⟨d1.kept hq, d2.kept hq⟩, e1.kept hq, f1.kept hq, g1.kept hq, i1.kept hq, fun i hi => (j1 i hi).kept hq⟩
theorem gSt.narrow {x y : Cx} {U : State} {H : Heap} (h : gSt x U H) (hAB : ∀ q, xA y q → xA x q) (e1 : xDx y = xDx x) (e2 : xDy y = xDy x) (e3 : xEm y = xEm x) (e4 : xFs y = xFs x) (e5 : xKa y = xKa x) (e6 : xVa y = xVa x) : gSt y U H := by
  obtain ⟨⟨a1, a2⟩, ⟨b1, b2⟩, ⟨c1, c2⟩, ⟨d1, d2⟩, f1, f2, g1, i1, j1⟩ := h
  unfold gSt gStr
  rw [e1, e2, e3, e4, e5, e6]
  exact ⟨⟨a1.narrow hAB, a2.narrow hAB⟩, ⟨b1.narrow hAB, b2.narrow hAB⟩, ⟨c1.narrow hAB, c2.narrow hAB⟩, ⟨d1.narrow hAB, d2.narrow hAB⟩, f1.narrow hAB, f2.narrow hAB, g1.narrow hAB, i1.narrow hAB, fun i hi => (j1 i hi).narrow hAB⟩
/-- the texts of the class files, by class and place -/
def gRs (x : Cx) (U : State) : Prop := (∀ q ∈ txR, vk_R q.1 q.2.1 q.2.2.1 (xKa x q.2.2.2) U) ∧ ∀ q ∈ txM, ∃ a, vk_R q.1 q.2.1 q.2.2 a U
theorem gRs.warm {x : Cx} {s U : State} (hW : s.WarmedH U.vm) (h : gRs x s) : gRs x U := ⟨fun q hq => (h.1 q hq).warm hW, fun q hq => by
  obtain ⟨a, ha⟩ := h.2 q hq
  exact ⟨a, ha.warm hW⟩⟩
theorem gRs.same {x : Cx} {s U : State} (hv : U.vm = s.vm) (h : gRs x s) : gRs x U := ⟨fun q hq => (h.1 q hq).same hv, fun q hq => by
  obtain ⟨a, ha⟩ := h.2 q hq
  exact ⟨a, ha.same hv⟩⟩
theorem gWd.same {s U : State} (hv : U.vm = s.vm) (h : gWd s) : gWd U := fun w hw => by
  have h1 := h w hw
  have h2 := gOk hw
  unfold wOq at h2
  split at h2
  · rename_i ty
    have h3 : (Cond.arrayClass ty).before #[] (s.setVm U.vm) = true := by rw [hv, State.setVm_self]; exact h1
    exact h3
  · rename_i C
    have h3 : (Cond.arrayOver (.object C)).before #[] (s.setVm U.vm) = true := by rw [hv, State.setVm_self]; exact h1
    exact h3
  · exact va_tabs rfl hv.symm h1
  · exact va_tabs rfl hv.symm h1
  · exact va_tabs rfl hv.symm h1
  · exact va_tabs rfl hv.symm h1
  · simp only [Bool.and_eq_true] at h2
    exact va_tabs h2.1 hv.symm h1
/-- what the tables and the statics say, in the state U -/
def GK (x : Cx) (U : State) : Prop := va_K (xD x) gCl (gTy x) U ∧ (∀ q, U.heap.size ≤ q → xA x q) ∧ gWd U ∧ gRs x U ∧ gSt x U U.heap
/-- the heap holds the pool S -/
def GH (x : Cx) (S : St) (s : State) (H : Heap) (locs : List Loc) : Prop := va_P (xD x) gCl (gWs x S) H ∧ va_D (xA x) (gWs x S) ∧ va_S (xA x) s.heap H locs ∧ sX S = xEm x
/-- .. at a method's start and end -/
def GW (x : Cx) (S : St) (U : State) : Prop := va_P (xD x) gCl (gWs x S) U.heap ∧ va_D (xA x) (gWs x S) ∧ sX S = xEm x ∧ GK x U
def gB (x : Cx) (S : St) : St → State → Prop := fun S' t => GW x S' t ∧ gle S S'
theorem GK.same {x : Cx} {s U : State} (hv : U.vm = s.vm) (hh : U.heap = s.heap) (h : GK x s) : GK x U := by
  obtain ⟨h1, h2, h3, h4, h5⟩ := h
  have ha : s.vm.Alike U.vm := by rw [hv]; exact Vm.Alike.refl _
  exact ⟨h1.moved ha, by rw [hh]; exact h2, h3.same hv, h4.same hv, by rw [hh]; exact h5.moved ha⟩
theorem GW.same {x : Cx} {S : St} {s U : State} (hv : U.vm = s.vm) (hh : U.heap = s.heap) (h : GW x S s) : GW x S U := by
  obtain ⟨h1, h2, h3, h4⟩ := h
  exact ⟨by rw [hh]; exact h1, h2, h3, h4.same hv hh⟩
/-- the callee's start -/
theorem GW.at {x : Cx} {S : St} {s U : State} {H : Heap} {locs : List Loc} (hK : GK x s) (hG : GH x S s H locs) (hU : U.heap = H) (hW : s.WarmedH U.vm) : GW x S U := by
  obtain ⟨h1, h2, h3, h4, h5⟩ := hK
  obtain ⟨g1, g2, g3, g4⟩ := hG
  exact ⟨by rw [hU]; exact g1, g2, g4, h1.moved hW.alike, by rw [hU]; exact fun q hq => h2 q (Nat.le_trans g3.1 hq), h3.warm hW, h4.warm hW, by rw [hU]; exact (h5.kept g3.2.1).moved hW.alike⟩
theorem GW.blind {x : Cx} {S : St} {As : List Value} : FrameBlind (va_Pc As (GW x S)) := fun a U g mk q => ⟨q.1, GW.same (s := U) (U := U.calling g mk a) rfl rfl q.2⟩
/-- behind the callee -/
theorem GH.back {x : Cx} {S' : St} {s t : State} {H1 : Heap} {locs : List Loc} (ht : t.heap = H1) (hB : GW x S' t) (hS : va_S (xA x) s.heap H1 locs) : GH x S' s H1 locs := by
  obtain ⟨g1, g2, g3, -⟩ := hB
  rw [ht] at g1
  exact ⟨g1, g2, hS, g3⟩
theorem GW.end {x : Cx} {S : St} {s t : State} {H : Heap} {locs : List Loc} (hK : GK x s) (hG : GH x S s H locs) (ht : t.heap = H) (hW : s.WarmedH t.vm) : GW x S t := GW.at hK hG ht hW
/-- a class of the pool: its fields' words stand among ours -/
def gKd (ci : Nat) (C : String) (T : u_T) (N : Nat) (ty : Nat → FieldType) : Prop := (∀ w ∈ u_ws C T N, w ∈ gG) ∧ gCl[ci]? = some (C, T, N) ∧ (∀ k, k < N → parseFieldDescriptor (T k).2.2.1 = some (ty k)) ∧ ∀ a, a < N → ∀ b, b < N → a ≠ b → (T a).2.1 ≠ (T b).2.1
theorem gMet {l : Launch} {y : MethodName} {cc : ByteArray} {maxL : Nat} {ret : Option FieldType} {rm : Room} {x : Cx} {S : St} {As : List Value} {Qc : Array Value → State → Outcome → State → Prop} {mc ms : Nat} (hy : plainFor y = true) (hlen : (lg_sl As).length ≤ maxL)
    (body : ∀ (p : Program) (e : Env) (s : State) (m : MethodId) (args : Array Value) (below : List Frame) (meth : Method) (c : Code), p.tables.exec = Jvm.exec → c.code = cc → meth.sig.returnType = ret → s.vm.findClass y.cls = some m.cls → meth.locks = false → meth.name = y.name → (∀ w ∈ gG, w.before args s = true) → GK x s → ∀ (H : Heap) (locs : List Loc), GH x S s H locs → ∀ ls : Array Slot, lv_has ls maxL (lv_args 0 As) → c.maxLocals = maxL →
      W p l e rm s m args below meth c H locs 0 0 (MQ below Qc args s mc ms (xA x)) (F0 m 0 ls [])) : Met l y [.code y cc maxL ret] rm (va_Pc As (GW x S)) Qc mc ms (xA x) := by
  refine va_MetF (cc := cc) (maxL := maxL) (ret := ret) hy rfl ?_
  intro p e s m args below meth c s₁ B hml hv
  obtain ⟨rfl, h1, h2, h3, h4⟩ := hv
  rw [lg_entry_eq]
  exact body p e s m _ below meth c B.exec B.bytes B.returns (findClass_of_methodNamed B.named) B.notSynchronized (name_of_methodNamed B.named B.method).1 (h4.2.2.1.use _) h4 _ _ ⟨h1, h2, va_S.rf, h3⟩ _ (lv_entry As hlen) hml
theorem gMetX {l : Launch} {y : MethodName} {cc : ByteArray} {maxL : Nat} {ret : Option FieldType} {rm : Room} {x : Cx} {S : St} {As : List Value} {Qc : Array Value → State → Outcome → State → Prop} {XC : String → State → State → Prop} {mc ms : Nat} (hy : plainName y.cls = true) (hlen : (lg_sl As).length ≤ maxL)
    (body : ∀ (p : Program) (e : Env) (s : State) (m : MethodId) (args : Array Value) (below : List Frame) (meth : Method) (c : Code), p.tables.exec = Jvm.exec → c.code = cc → meth.sig.returnType = ret → s.vm.findClass y.cls = some m.cls → meth.locks = false → meth.name = y.name → (∀ w ∈ gG, w.before args s = true) → GK x s → ∀ (H : Heap) (locs : List Loc), GH x S s H locs → ∀ ls : Array Slot, lv_has ls maxL (lv_args 0 As) → c.maxLocals = maxL → (∀ z ∈ c.exceptionTable.toList, False) →
      W p l e rm s m args below meth c H locs 0 0 (vx_MQ below Qc XC args s mc ms (xA x)) (F0 m 0 ls [])) : vx_Met l y [.code y cc maxL ret] rm (va_Pc As (GW x S)) Qc XC mc ms (xA x) := by
  refine vx_ofW (cc := cc) (maxL := maxL) (ret := ret) hy rfl ?_
  intro p e s m args below meth c s₁ B hml htab hv
  obtain ⟨rfl, h1, h2, h3, h4⟩ := hv
  rw [lg_entry_eq]
  exact body p e s m _ below meth c B.exec B.bytes B.returns (findClass_of_methodNamed B.named) B.notSynchronized (name_of_methodNamed B.named B.method).1 (h4.2.2.1.use _) h4 _ _ ⟨h1, h2, va_S.rf, h3⟩ _ (lv_entry As hlen) hml htab
theorem gKw {ws : List Cond} (is : List Nat) (h : is.map (fun i => lw_tbl[i]?) = ws.map some) (hok : ws.all wOq = true) : ∀ w ∈ ws, w ∈ gG := by
  intro w hw
  have h1 : some w ∈ is.map (fun i => lw_tbl[i]?) := by rw [h]; exact List.mem_map.mpr ⟨w, hw, rfl⟩
  obtain ⟨i, -, hi⟩ := List.mem_map.mp h1
  exact gmm i hi (List.all_eq_true.mp hok w hw)
theorem kw_AL : ∀ w ∈ u_ws "java/util/ArrayList" T_AL 3, w ∈ gG := gKw [103, 99, 101] (by decide +kernel) (by decide +kernel)
theorem kd_AL : gKd 0 "java/util/ArrayList" T_AL 3 ty_AL := ⟨kw_AL, rfl, tk_AL, nm_AL⟩
theorem kw_D : ∀ w ∈ u_ws "WaltzHall$Dance" T_D 3, w ∈ gG := gKw [168, 170, 172] (by decide +kernel) (by decide +kernel)
theorem kd_D : gKd 1 "WaltzHall$Dance" T_D 3 ty_D := ⟨kw_D, rfl, tk_D, nm_D⟩
theorem kw_R : ∀ w ∈ u_ws "WaltzHall$Dancer" T_R 15, w ∈ gG := gKw [613, 615, 617, 619, 621, 623, 625, 627, 629, 631, 633, 635, 637, 639, 641] (by decide +kernel) (by decide +kernel)
theorem kd_R : gKd 2 "WaltzHall$Dancer" T_R 15 ty_R := ⟨kw_R, rfl, tk_R, nm_R⟩
theorem kw_F : ∀ w ∈ u_ws "WaltzHall$Floor" T_F 3, w ∈ gG := gKw [188, 190, 192] (by decide +kernel) (by decide +kernel)
theorem kd_F : gKd 3 "WaltzHall$Floor" T_F 3 ty_F := ⟨kw_F, rfl, tk_F, nm_F⟩
theorem kw_T : ∀ w ∈ u_ws "WaltzHall$Tape" T_T 2, w ∈ gG := gKw [74, 76] (by decide +kernel) (by decide +kernel)
theorem kd_T : gKd 4 "WaltzHall$Tape" T_T 2 ty_T := ⟨kw_T, rfl, tk_T, nm_T⟩
theorem kw_N : ∀ w ∈ u_ws "WaltzHall$Winder" T_N 7, w ∈ gG := gKw [745, 747, 749, 751, 753, 755, 757] (by decide +kernel) (by decide +kernel)
theorem kd_N : gKd 5 "WaltzHall$Winder" T_N 7 ty_N := ⟨kw_N, rfl, tk_N, nm_N⟩
theorem kw_H : ∀ w ∈ u_ws "WaltzHall" T_H 5, w ∈ gG := gKw [266, 268, 270, 272, 274] (by decide +kernel) (by decide +kernel)
theorem kd_H : gKd 6 "WaltzHall" T_H 5 ty_H := ⟨kw_H, rfl, tk_H, nm_H⟩
theorem kw_S : ∀ w ∈ u_ws "WaltzHallModel$State" T_S 18, w ∈ gG := gKw [975, 977, 979, 981, 983, 985, 987, 989, 991, 993, 995, 997, 999, 1001, 1003, 1005, 1007, 1009] (by decide +kernel) (by decide +kernel)
theorem kd_S : gKd 7 "WaltzHallModel$State" T_S 18 ty_S := ⟨kw_S, rfl, tk_S, nm_S⟩
theorem kw_M : ∀ w ∈ u_ws "WaltzHallModel" T_M 7, w ∈ gG := gKw [1026, 1028, 1030, 1032, 1034, 1036, 1038] (by decide +kernel) (by decide +kernel)
theorem kd_M : gKd 8 "WaltzHallModel" T_M 7 ty_M := ⟨kw_M, rfl, tk_M, nm_M⟩
/-- the cell at a is e in the pool S', all others are as in S -/
def gCh (x : Cx) (S S' : St) (a : Nat) (e : va_E) : Prop := sL S' = sL S ∧ gle S S' ∧ (∀ b, b ≠ a → gE x S' b = gE x S b) ∧ gE x S' a = e
theorem gChI {x : Cx} {S : St} {k a F : Nat} {v : Int32} {e : va_E} (ha : isA S k a) (h : gC x k (sN S a) (va_up (fun f => sI S f a) F v) (fun f => sQ S f a) (sR S a) (sP S a) (sJ S a) = e) : gCh x S (pI S F a v) a e := by
  refine ⟨rfl, ⟨fun _ h => ⟨h, rfl, rfl⟩, rfl⟩, fun b hb => ?_, ?_⟩
  · show gC x (sK S b) (sN S b) (fun f => up2 (sI S) F a v f b) _ _ _ _ = _
    rw [up2_coln _ _ _ hb]
    rfl
  · show gC x (sK S a) (sN S a) (fun f => up2 (sI S) F a v f a) _ _ _ _ = _
    rw [up2_col, ha.2]
    exact h
theorem gChQ {x : Cx} {S : St} {k a F : Nat} {v : Option Nat} {e : va_E} (ha : isA S k a) (h : gC x k (sN S a) (fun f => sI S f a) (va_up (fun f => sQ S f a) F v) (sR S a) (sP S a) (sJ S a) = e) : gCh x S (pQ S F a v) a e := by
  refine ⟨rfl, ⟨fun _ h => ⟨h, rfl, rfl⟩, rfl⟩, fun b hb => ?_, ?_⟩
  · show gC x (sK S b) (sN S b) _ (fun f => up2 (sQ S) F a v f b) _ _ _ = _
    rw [up2_coln _ _ _ hb]
    rfl
  · show gC x (sK S a) (sN S a) _ (fun f => up2 (sQ S) F a v f a) _ _ _ = _
    rw [up2_col, ha.2]
    exact h
theorem gChR {x : Cx} {S : St} {k a j : Nat} {v : Int32} {e : va_E} (ha : isA S k a) (h : gC x k (sN S a) (fun f => sI S f a) (fun f => sQ S f a) (upd (sR S a) j v) (sP S a) (sJ S a) = e) : gCh x S (pR S a j v) a e := by
  refine ⟨rfl, ⟨fun _ h => ⟨h, rfl, rfl⟩, rfl⟩, fun b hb => ?_, ?_⟩
  · show gC x (sK S b) (sN S b) _ _ (up2 (sR S) a j v b) _ _ = _
    rw [up2_rown _ _ _ hb]
    rfl
  · show gC x (sK S a) (sN S a) _ _ (up2 (sR S) a j v a) _ _ = _
    rw [up2_row, ha.2]
    exact h
theorem gChP {x : Cx} {S : St} {k a j : Nat} {v : Option Nat} {e : va_E} (ha : isA S k a) (h : gC x k (sN S a) (fun f => sI S f a) (fun f => sQ S f a) (sR S a) (va_up (sP S a) j v) (sJ S a) = e) : gCh x S (pP S a j v) a e := by
  refine ⟨rfl, ⟨fun _ h => ⟨h, rfl, rfl⟩, rfl⟩, fun b hb => ?_, ?_⟩
  · show gC x (sK S b) (sN S b) _ _ _ (up2 (sP S) a j v b) _ = _
    rw [up2_rown _ _ _ hb]
    rfl
  · show gC x (sK S a) (sN S a) _ _ _ (up2 (sP S) a j v a) _ = _
    rw [up2_rowP, ha.2]
    exact h
theorem gChJ {x : Cx} {S : St} {k a j : Nat} {v : Int64} {e : va_E} (ha : isA S k a) (h : gC x k (sN S a) (fun f => sI S f a) (fun f => sQ S f a) (sR S a) (sP S a) (vp_updL (sJ S a) j v) = e) : gCh x S (pJ S a j v) a e := by
  refine ⟨rfl, ⟨fun _ h => ⟨h, rfl, rfl⟩, rfl⟩, fun b hb => ?_, ?_⟩
  · show gC x (sK S b) (sN S b) _ _ _ _ (up2 (sJ S) a j v b) = _
    rw [up2_rown _ _ _ hb]
    rfl
  · show gC x (sK S a) (sN S a) _ _ _ _ (up2 (sJ S) a j v a) = _
    rw [up2_rowJ, ha.2]
    exact h
theorem gChRow {x : Cx} {S : St} {k a : Nat} {f : Nat → Int32} {e : va_E} (ha : isA S k a) (h : gC x k (sN S a) (fun f => sI S f a) (fun f => sQ S f a) f (sP S a) (sJ S a) = e) : gCh x S (pRow S a f) a e := by
  refine ⟨rfl, ⟨fun _ h => ⟨h, rfl, rfl⟩, rfl⟩, fun b hb => ?_, ?_⟩
  · show gC x (sK S b) (sN S b) _ _ (va_up (sR S) a f b) _ _ = _
    rw [va_up_ne _ _ hb]
    rfl
  · show gC x (sK S a) (sN S a) _ _ (va_up (sR S) a f a) _ _ = _
    rw [va_up_self, ha.2]
    exact h
theorem gback {x : Cx} {S S' : St} {s : State} {H H1 : Heap} {locs locs1 : List Loc} {a k0 : Nat} {e : va_E} (hG : GH x S s H locs) (haL : a ∈ sL S) (hk : (gWs x S)[k0]? = some (a, gE x S a)) (hc : gCh x S S' a e)
    (h1 : va_P (xD x) gCl ((gWs x S).set k0 (a, e)) H1) (h2 : va_D (xA x) ((gWs x S).set k0 (a, e))) (h3 : va_S (xA x) s.heap H1 locs1) : GH x S' s H1 locs1 := by
  rw [gset hG.2.1 haL hk hc.1 hc.2.2.1 hc.2.2.2] at h1 h2
  exact ⟨h1, h2, h3, hc.2.1.2.trans hG.2.2.2⟩
theorem gpush {x : Cx} {S : St} {q k n : Nat} {e : va_E} (hq : q ∉ sL S) (he : gC x k n (fun _ => 0) (fun _ => none) (fun _ => 0) (fun _ => none) (fun _ => 0) = e) : gWs x S ++ [(q, e)] = gWs x (pNew S q k n) := by
  show va_pl (sL S) (gE x S) ++ [(q, e)] = va_pl (sL S ++ [q]) (gE x (pNew S q k n))
  rw [va_pl_push hq]
  refine va_pl_congr fun b => ?_
  by_cases hb : b = q
  · subst hb
    rw [va_up_self, ← he]
    show _ = gC x (va_up (sK S) b k b) (va_up (sN S) b n b) (fun f => if b = b then 0 else sI S f b) (fun f => if b = b then none else sQ S f b) (va_up (sR S) b (fun _ => 0) b) (va_up (sP S) b (fun _ => none) b) (va_up (sJ S) b (fun _ => 0) b)
    simp only [va_up_self, if_true]
  · rw [va_up_ne _ _ hb]
    show _ = gC x (va_up (sK S) q k b) (va_up (sN S) q n b) (fun f => if b = q then 0 else sI S f b) (fun f => if b = q then none else sQ S f b) (va_up (sR S) q (fun _ => 0) b) (va_up (sP S) q (fun _ => none) b) (va_up (sJ S) q (fun _ => 0) b)
    simp only [va_up_ne _ _ hb, if_neg hb]
    rfl
theorem gNo (o : Option Nat) (C : String) : narrow (.object C) (va_rf o) = va_rf o := by cases o <;> rfl
theorem gFo (o : Option Nat) (C : String) : fits (.object C) (va_rf o) = true := by cases o <;> rfl
theorem gNa (o : Option Nat) (t : FieldType) : narrow (.array t) (va_rf o) = va_rf o := by cases o <;> rfl
theorem gFa (o : Option Nat) (t : FieldType) : fits (.array t) (va_rf o) = true := by cases o <;> rfl
theorem gCat (o : Option Nat) : (va_rf o).category = 1 := by cases o <;> rfl
section GR
variable {p : Program} {l : Launch} {e : Env} {R : Room} {s : State} {m : MethodId} {args : Array Value} {below : List Frame} {meth : Method} {c : Code} {H : Heap} {locs : List Loc} {cells slots : Nat} {Q : State → Prop}
variable {cc : ByteArray} {pc : Nat} {ls : Array Slot} {rest : List Value} {x : Cx} {S S' : St} {own C ref : String} {index a ci k N : Nat} {T : u_T} {ty : Nat → FieldType} {fs : List Value}
theorem gget (hx : p.tables.exec = Jvm.exec) (hb : c.code = cc) (hw : ∀ w ∈ gG, w.before args s = true) (hown : s.vm.findClass own = some m.cls) (hK : GK x s) (hG : GH x S s H locs) (kd : gKd ci C T N ty) (ha : isA S k a) (he : gC x k (sN S a) (fun f => sI S f a) (fun f => sQ S f a) (sR S a) (sP S a) (sJ S a) = .inr (ci, fs)) (j : Nat) (hj : j < N) {v : Value} (hv : fs[j]? = some v)
    (hlink : (Cond.fieldLink own index ref (T j).2.1 (T j).2.2.1) ∈ gG) (hsame : ∀ y, s.fieldFound? (T j).1 (T j).2.1 (T j).2.2.1 = some y → s.fieldFound? ref (T j).2.1 (T j).2.2.1 = some y) (hdg : decode cc pc = .ok (.getfield index, 3))
    (kk : W p l e R s m args below meth c H locs cells slots Q (F0 m (pc + 3) ls (v :: rest))) : W p l e R s m args below meth c H locs cells slots Q (F0 m pc ls (.ref a :: rest)) := by
  obtain ⟨k0, h1, -⟩ := gplace ha.1 (gE_at ha he)
  exact va_get hx hb hw kd.1 hown hK.1 hG.1 k0 h1 kd.2.1 j hj (hw _ hlink) hsame hv hdg kk
theorem ggetN {host : String} (hx : p.tables.exec = Jvm.exec) (hb : c.code = cc) (hw : ∀ w ∈ gG, w.before args s = true) (hown : s.vm.findClass own = some m.cls) (hK : GK x s) (hG : GH x S s H locs) (kd : gKd ci C T N ty) (ha : isA S k a) (he : gC x k (sN S a) (fun f => sI S f a) (fun f => sQ S f a) (sR S a) (sP S a) (sJ S a) = .inr (ci, fs)) (j : Nat) (hj : j < N) {v : Value} (hv : fs[j]? = some v)
    (hlink : (Cond.fieldLinkNest own index ref (T j).2.1 (T j).2.2.1 host) ∈ gG) (hsame : ∀ y, s.fieldFound? (T j).1 (T j).2.1 (T j).2.2.1 = some y → s.fieldFound? ref (T j).2.1 (T j).2.2.1 = some y) (hdg : decode cc pc = .ok (.getfield index, 3))
    (kk : W p l e R s m args below meth c H locs cells slots Q (F0 m (pc + 3) ls (v :: rest))) : W p l e R s m args below meth c H locs cells slots Q (F0 m pc ls (.ref a :: rest)) := by
  obtain ⟨k0, h1, -⟩ := gplace ha.1 (gE_at ha he)
  exact va_getN hx hb hw kd.1 hown hK.1 hG.1 k0 h1 kd.2.1 j hj (hw _ hlink) hsame hv hdg kk
theorem gput (hx : p.tables.exec = Jvm.exec) (hb : c.code = cc) (hw : ∀ w ∈ gG, w.before args s = true) (hown : s.vm.findClass own = some m.cls) (hK : GK x s) (hG : GH x S s H locs) (kd : gKd ci C T N ty) (ha : isA S k a) (he : gC x k (sN S a) (fun f => sI S f a) (fun f => sQ S f a) (sR S a) (sP S a) (sJ S a) = .inr (ci, fs)) (j : Nat) (hj : j < N) {v : Value} (hc : gCh x S S' a (.inr (ci, fs.set j v)))
    (hlink : (Cond.fieldLink own index ref (T j).2.1 (T j).2.2.1) ∈ gG) (hsame : ∀ y, s.fieldFound? (T j).1 (T j).2.1 (T j).2.2.1 = some y → s.fieldFound? ref (T j).2.1 (T j).2.2.1 = some y) (hfin : (T j).2.2.2 = false) {t1 : FieldType} (hd : parseFieldDescriptor (T j).2.2.1 = some t1) (hn : narrow t1 v = v) (hfit : fits t1 v = true) (hl : j < fs.length) (hdg : decode cc pc = .ok (.putfield index, 3))
    (kk : ∀ (S2 : St) (H1 : Heap) (locs1 : List Loc), S2 = S' → gle S S2 → GH x S2 s H1 locs1 → W p l e R s m args below meth c H1 locs1 cells slots Q (F0 m (pc + 3) ls rest)) : W p l e R s m args below meth c H locs cells slots Q (F0 m pc ls (v :: .ref a :: rest)) := by
  obtain ⟨k0, h1, h2⟩ := gplace ha.1 (gE_at ha he)
  exact va_put hx hb hw kd.1 ty kd.2.2.1 kd.2.2.2 hown hK.1 hG.1 hG.2.1 hG.2.2.1 k0 h1 kd.2.1 j hj (hw _ hlink) hsame hfin hd hn hfit hl hdg (fun H1 locs1 g1 g2 g3 => kk _ H1 locs1 rfl hc.2.1 (gback hG ha.1 h2 hc g1 g2 g3))
theorem gputN {host : String} (hx : p.tables.exec = Jvm.exec) (hb : c.code = cc) (hw : ∀ w ∈ gG, w.before args s = true) (hown : s.vm.findClass own = some m.cls) (hK : GK x s) (hG : GH x S s H locs) (kd : gKd ci C T N ty) (ha : isA S k a) (he : gC x k (sN S a) (fun f => sI S f a) (fun f => sQ S f a) (sR S a) (sP S a) (sJ S a) = .inr (ci, fs)) (j : Nat) (hj : j < N) {v : Value} (hc : gCh x S S' a (.inr (ci, fs.set j v)))
    (hlink : (Cond.fieldLinkNest own index ref (T j).2.1 (T j).2.2.1 host) ∈ gG) (hsame : ∀ y, s.fieldFound? (T j).1 (T j).2.1 (T j).2.2.1 = some y → s.fieldFound? ref (T j).2.1 (T j).2.2.1 = some y) (hfin : (T j).2.2.2 = false) {t1 : FieldType} (hd : parseFieldDescriptor (T j).2.2.1 = some t1) (hn : narrow t1 v = v) (hfit : fits t1 v = true) (hl : j < fs.length) (hdg : decode cc pc = .ok (.putfield index, 3))
    (kk : ∀ (S2 : St) (H1 : Heap) (locs1 : List Loc), S2 = S' → gle S S2 → GH x S2 s H1 locs1 → W p l e R s m args below meth c H1 locs1 cells slots Q (F0 m (pc + 3) ls rest)) : W p l e R s m args below meth c H locs cells slots Q (F0 m pc ls (v :: .ref a :: rest)) := by
  obtain ⟨k0, h1, h2⟩ := gplace ha.1 (gE_at ha he)
  exact va_putN hx hb hw kd.1 ty kd.2.2.1 kd.2.2.2 hown hK.1 hG.1 hG.2.1 hG.2.2.1 k0 h1 kd.2.1 j hj (hw _ hlink) hsame hfin hd hn hfit hl hdg (fun H1 locs1 g1 g2 g3 => kk _ H1 locs1 rfl hc.2.1 (gback hG ha.1 h2 hc g1 g2 g3))
theorem gputF (hx : p.tables.exec = Jvm.exec) (hb : c.code = cc) (hw : ∀ w ∈ gG, w.before args s = true) (hown : s.vm.findClass own = some m.cls) (hK : GK x s) (hG : GH x S s H locs) (kd : gKd ci C T N ty) (ha : isA S k a) (he : gC x k (sN S a) (fun f => sI S f a) (fun f => sQ S f a) (sR S a) (sP S a) (sJ S a) = .inr (ci, fs)) (j : Nat) (hj : j < N) {v : Value} (hc : gCh x S S' a (.inr (ci, fs.set j v)))
    (hlink : (Cond.fieldLink own index ref (T j).2.1 (T j).2.2.1) ∈ gG) (hsame : ∀ y, s.fieldFound? (T j).1 (T j).2.1 (T j).2.2.1 = some y → s.fieldFound? ref (T j).2.1 (T j).2.2.1 = some y) (hfin : (T j).2.2.2 = true) (hin2 : meth.name = "<init>") (hdecl : (T j).1 = own) {t1 : FieldType} (hd : parseFieldDescriptor (T j).2.2.1 = some t1) (hn : narrow t1 v = v) (hfit : fits t1 v = true) (hl : j < fs.length) (hdg : decode cc pc = .ok (.putfield index, 3))
    (kk : ∀ (S2 : St) (H1 : Heap) (locs1 : List Loc), S2 = S' → gle S S2 → GH x S2 s H1 locs1 → W p l e R s m args below meth c H1 locs1 cells slots Q (F0 m (pc + 3) ls rest)) : W p l e R s m args below meth c H locs cells slots Q (F0 m pc ls (v :: .ref a :: rest)) := by
  obtain ⟨k0, h1, h2⟩ := gplace ha.1 (gE_at ha he)
  exact va_putF hx hb hw kd.1 ty kd.2.2.1 kd.2.2.2 hown hK.1 hG.1 hG.2.1 hG.2.2.1 k0 h1 kd.2.1 j hj (hw _ hlink) hsame hfin hin2 hdecl hd hn hfit hl hdg (fun H1 locs1 g1 g2 g3 => kk _ H1 locs1 rfl hc.2.1 (gback hG ha.1 h2 hc g1 g2 g3))
-- arrays
theorem giald (hx : p.tables.exec = Jvm.exec) (hb : c.code = cc) (hK : GK x s) (hG : GH x S s H locs) (ha : isA S 10 a) {i : Int32} (hin : vp_in i (sN S a)) (hdg : decode cc pc = .ok (.iaload, 1))
    (kk : W p l e R s m args below meth c H locs cells slots Q (F0 m (pc + 1) ls (.int (sR S a i.toNatClampNeg) :: rest))) : W p l e R s m args below meth c H locs cells slots Q (F0 m pc ls (.int i :: .ref a :: rest)) := by
  obtain ⟨k0, h1, -⟩ := gplace ha.1 (gE_at (x := x) ha rfl)
  exact va_iald hx hb hK.1 hG.1 k0 1 h1 rfl hin hdg kk
theorem gbald (hx : p.tables.exec = Jvm.exec) (hb : c.code = cc) (hK : GK x s) (hG : GH x S s H locs) (ha : isA S 9 a) {i : Int32} (hin : vp_in i (sN S a)) (hdg : decode cc pc = .ok (.baload, 1))
    (kk : W p l e R s m args below meth c H locs cells slots Q (F0 m (pc + 1) ls (.int (sR S a i.toNatClampNeg) :: rest))) : W p l e R s m args below meth c H locs cells slots Q (F0 m pc ls (.int i :: .ref a :: rest)) := by
  obtain ⟨k0, h1, -⟩ := gplace ha.1 (gE_at (x := x) ha rfl)
  exact va_bald hx hb hK.1 hG.1 k0 0 h1 rfl hin hdg kk
theorem gzald (hx : p.tables.exec = Jvm.exec) (hb : c.code = cc) (hK : GK x s) (hG : GH x S s H locs) (ha : isA S 11 a) {i : Int32} (hin : vp_in i (sN S a)) (hdg : decode cc pc = .ok (.baload, 1))
    (kk : W p l e R s m args below meth c H locs cells slots Q (F0 m (pc + 1) ls (.int (sR S a i.toNatClampNeg) :: rest))) : W p l e R s m args below meth c H locs cells slots Q (F0 m pc ls (.int i :: .ref a :: rest)) := by
  obtain ⟨k0, h1, -⟩ := gplace ha.1 (gE_at (x := x) ha rfl)
  exact va_zald hx hb hK.1 hG.1 k0 2 h1 rfl hin hdg kk
theorem glald (hx : p.tables.exec = Jvm.exec) (hb : c.code = cc) (hK : GK x s) (hG : GH x S s H locs) (ha : isA S 13 a) {i : Int32} (hin : vp_in i (sN S a)) (hdg : decode cc pc = .ok (.laload, 1))
    (kk : W p l e R s m args below meth c H locs cells slots Q (F0 m (pc + 1) ls (.long (sJ S a i.toNatClampNeg) :: rest))) : W p l e R s m args below meth c H locs cells slots Q (F0 m pc ls (.int i :: .ref a :: rest)) := by
  obtain ⟨k0, h1, -⟩ := gplace ha.1 (gE_at (x := x) ha rfl)
  exact va_lald hx hb hK.1 hG.1 k0 4 h1 rfl hin hdg kk
theorem gaald (hx : p.tables.exec = Jvm.exec) (hb : c.code = cc) (hK : GK x s) (hG : GH x S s H locs) (ha : isA S 12 a) {i : Int32} (hin : vp_in i (sN S a)) (hdg : decode cc pc = .ok (.aaload, 1))
    (kk : W p l e R s m args below meth c H locs cells slots Q (F0 m (pc + 1) ls (va_rf (sP S a i.toNatClampNeg) :: rest))) : W p l e R s m args below meth c H locs cells slots Q (F0 m pc ls (.int i :: .ref a :: rest)) := by
  obtain ⟨k0, h1, -⟩ := gplace ha.1 (gE_at (x := x) ha rfl)
  exact va_aldq hx hb hK.1 hG.1 k0 3 h1 rfl hin hdg kk
theorem giast (hx : p.tables.exec = Jvm.exec) (hb : c.code = cc) (hK : GK x s) (hG : GH x S s H locs) (ha : isA S 10 a) {i v : Int32} (hin : vp_in i (sN S a)) (hdg : decode cc pc = .ok (.iastore, 1))
    (kk : ∀ (S2 : St) (H1 : Heap) (locs1 : List Loc), S2 = pR S a i.toNatClampNeg v → gle S S2 → GH x S2 s H1 locs1 → W p l e R s m args below meth c H1 locs1 cells slots Q (F0 m (pc + 1) ls rest)) : W p l e R s m args below meth c H locs cells slots Q (F0 m pc ls (.int v :: .int i :: .ref a :: rest)) := by
  obtain ⟨k0, h1, h2⟩ := gplace ha.1 (gE_at (x := x) ha rfl)
  exact va_iast hx hb hK.1 hG.1 hG.2.1 hG.2.2.1 k0 1 h1 rfl hin hdg (fun H1 locs1 g1 g2 g3 => kk _ H1 locs1 rfl (gChR (x := x) ha rfl).2.1 (gback hG ha.1 h2 (gChR ha rfl) g1 g2 g3))
theorem gbast (hx : p.tables.exec = Jvm.exec) (hb : c.code = cc) (hK : GK x s) (hG : GH x S s H locs) (ha : isA S 9 a) {i v : Int32} (hin : vp_in i (sN S a)) (hdg : decode cc pc = .ok (.bastore, 1))
    (kk : ∀ (S2 : St) (H1 : Heap) (locs1 : List Loc), S2 = pR S a i.toNatClampNeg (vp_nar .byte v) → gle S S2 → GH x S2 s H1 locs1 → W p l e R s m args below meth c H1 locs1 cells slots Q (F0 m (pc + 1) ls rest)) : W p l e R s m args below meth c H locs cells slots Q (F0 m pc ls (.int v :: .int i :: .ref a :: rest)) := by
  obtain ⟨k0, h1, h2⟩ := gplace ha.1 (gE_at (x := x) ha rfl)
  exact va_bast hx hb hK.1 hG.1 hG.2.1 hG.2.2.1 k0 0 h1 rfl hin hdg (fun H1 locs1 g1 g2 g3 => kk _ H1 locs1 rfl (gChR (x := x) ha rfl).2.1 (gback hG ha.1 h2 (gChR ha rfl) g1 g2 g3))
theorem gzast (hx : p.tables.exec = Jvm.exec) (hb : c.code = cc) (hK : GK x s) (hG : GH x S s H locs) (ha : isA S 11 a) {i v : Int32} (hin : vp_in i (sN S a)) (hdg : decode cc pc = .ok (.bastore, 1))
    (kk : ∀ (S2 : St) (H1 : Heap) (locs1 : List Loc), S2 = pR S a i.toNatClampNeg (vp_nar .boolean v) → gle S S2 → GH x S2 s H1 locs1 → W p l e R s m args below meth c H1 locs1 cells slots Q (F0 m (pc + 1) ls rest)) : W p l e R s m args below meth c H locs cells slots Q (F0 m pc ls (.int v :: .int i :: .ref a :: rest)) := by
  obtain ⟨k0, h1, h2⟩ := gplace ha.1 (gE_at (x := x) ha rfl)
  exact va_zast hx hb hK.1 hG.1 hG.2.1 hG.2.2.1 k0 2 h1 rfl hin hdg (fun H1 locs1 g1 g2 g3 => kk _ H1 locs1 rfl (gChR (x := x) ha rfl).2.1 (gback hG ha.1 h2 (gChR ha rfl) g1 g2 g3))
theorem glast (hx : p.tables.exec = Jvm.exec) (hb : c.code = cc) (hK : GK x s) (hG : GH x S s H locs) (ha : isA S 13 a) {i : Int32} {v : Int64} (hin : vp_in i (sN S a)) (hdg : decode cc pc = .ok (.lastore, 1))
    (kk : ∀ (S2 : St) (H1 : Heap) (locs1 : List Loc), S2 = pJ S a i.toNatClampNeg v → gle S S2 → GH x S2 s H1 locs1 → W p l e R s m args below meth c H1 locs1 cells slots Q (F0 m (pc + 1) ls rest)) : W p l e R s m args below meth c H locs cells slots Q (F0 m pc ls (.long v :: .int i :: .ref a :: rest)) := by
  obtain ⟨k0, h1, h2⟩ := gplace ha.1 (gE_at (x := x) ha rfl)
  exact va_last hx hb hK.1 hG.1 hG.2.1 hG.2.2.1 k0 4 h1 rfl hin hdg (fun H1 locs1 g1 g2 g3 => kk _ H1 locs1 rfl (gChJ (x := x) ha rfl).2.1 (gback hG ha.1 h2 (gChJ ha rfl) g1 g2 g3))
theorem gaast {b : Nat} (hx : p.tables.exec = Jvm.exec) (hb : c.code = cc) (hw : ∀ w ∈ gG, w.before args s = true) (hK : GK x s) (hG : GH x S s H locs) (kd : gKd ci C T N ty) (hca : Cond.castable C "java/lang/Object" ∈ gG) (ha : isA S 12 a) (hv : isA S k b) (he : gC x k (sN S b) (fun f => sI S f b) (fun f => sQ S f b) (sR S b) (sP S b) (sJ S b) = .inr (ci, fs)) {i : Int32} (hin : vp_in i (sN S a)) (hdg : decode cc pc = .ok (.aastore, 1))
    (kk : ∀ (S2 : St) (H1 : Heap) (locs1 : List Loc), S2 = pP S a i.toNatClampNeg (some b) → gle S S2 → GH x S2 s H1 locs1 → W p l e R s m args below meth c H1 locs1 cells slots Q (F0 m (pc + 1) ls rest)) : W p l e R s m args below meth c H locs cells slots Q (F0 m pc ls (.ref b :: .int i :: .ref a :: rest)) := by
  obtain ⟨k0, h1, h2⟩ := gplace ha.1 (gE_at (x := x) ha rfl)
  obtain ⟨k1, h3, -⟩ := gplace hv.1 (gE_at hv he)
  exact va_astqO hx hb hK.1 hG.1 hG.2.1 hG.2.2.1 k0 3 k1 ci (r := (C, T, N)) h1 rfl (hK.2.2.1 _ hca) h3 kd.2.1 hin hdg (fun H1 locs1 g1 g2 g3 => kk _ H1 locs1 rfl (gChP (x := x) ha rfl).2.1 (gback hG ha.1 h2 (gChP ha rfl) g1 g2 g3))
theorem galen (hx : p.tables.exec = Jvm.exec) (hb : c.code = cc) (hK : GK x s) (hG : GH x S s H locs) (ha : isA S k a) {cA : ClassId} {y : vp_A} (he : gC x k (sN S a) (fun f => sI S f a) (fun f => sQ S f a) (sR S a) (sP S a) (sJ S a) = .inl (cA, y)) (t0 : Nat) {t : FieldType} (ht : (gTy x)[t0]? = some (cA, t)) (hn : y.1 = sN S a) (hdg : decode cc pc = .ok (.arraylength, 1))
    (kk : W p l e R s m args below meth c H locs cells slots Q (F0 m (pc + 1) ls (.int (nI (sN S a)) :: rest))) : W p l e R s m args below meth c H locs cells slots Q (F0 m pc ls (.ref a :: rest)) := by
  obtain ⟨k0, h1, -⟩ := gplace ha.1 (gE_at (x := x) ha he)
  exact va_alen hx hb hK.1 hG.1 k0 t0 h1 ht (by rw [hn]; rfl) hdg kk
/-- the shared empty row -/
theorem galenX (hx : p.tables.exec = Jvm.exec) (hb : c.code = cc) (hK : GK x s) (hG : GH x S s H locs) (ha : a = sX S) (hdg : decode cc pc = .ok (.arraylength, 1))
    (kk : W p l e R s m args below meth c H locs cells slots Q (F0 m (pc + 1) ls (.int 0 :: rest))) : W p l e R s m args below meth c H locs cells slots Q (F0 m pc ls (.ref a :: rest)) := by
  rw [ha, hG.2.2.2]
  exact va_tlen hx hb hK.2.2.2.2.2.2.2.1.2 hG.2.2.1 rfl hdg kk
/-- a static row of ints -/
theorem gdx (hx : p.tables.exec = Jvm.exec) (hb : c.code = cc) (hK : GK x s) (hG : GH x S s H locs) {i : Int32} (hin : vp_in i 4) (hdg : decode cc pc = .ok (.iaload, 1))
    (kk : W p l e R s m args below meth c H locs cells slots Q (F0 m (pc + 1) ls (.int (dxT i.toNatClampNeg) :: rest))) : W p l e R s m args below meth c H locs cells slots Q (F0 m pc ls (.int i :: .ref (xDx x) :: rest)) := va_ti hx hb hK.2.2.2.2.1.2 hG.2.2.1 hin rfl hdg kk
theorem gdy (hx : p.tables.exec = Jvm.exec) (hb : c.code = cc) (hK : GK x s) (hG : GH x S s H locs) {i : Int32} (hin : vp_in i 4) (hdg : decode cc pc = .ok (.iaload, 1))
    (kk : W p l e R s m args below meth c H locs cells slots Q (F0 m (pc + 1) ls (.int (dyT i.toNatClampNeg) :: rest))) : W p l e R s m args below meth c H locs cells slots Q (F0 m pc ls (.int i :: .ref (xDy x) :: rest)) := va_ti hx hb hK.2.2.2.2.2.1.2 hG.2.2.1 hin rfl hdg kk
theorem gsDx (hx : p.tables.exec = Jvm.exec) (hb : c.code = cc) (hw : ∀ w ∈ gG, w.before args s = true) (hown : s.vm.findClass own = some m.cls) (hK : GK x s) (hG : GH x S s H locs) (hlink : (Cond.fieldLink own index "WaltzHallModel" "DX" "[I") ∈ gG) (hdg : decode cc pc = .ok (.getstatic index, 3))
    (kk : W p l e R s m args below meth c H locs cells slots Q (F0 m (pc + 3) ls (.ref (xDx x) :: rest))) : W p l e R s m args below meth c H locs cells slots Q (F0 m pc ls rest) := va_gets hx hb hK.2.2.2.2.1.1 hG.2.2.1 hown (hw _ hlink) (fun _ h => h) hdg kk
theorem gsDy (hx : p.tables.exec = Jvm.exec) (hb : c.code = cc) (hw : ∀ w ∈ gG, w.before args s = true) (hown : s.vm.findClass own = some m.cls) (hK : GK x s) (hG : GH x S s H locs) (hlink : (Cond.fieldLink own index "WaltzHallModel" "DY" "[I") ∈ gG) (hdg : decode cc pc = .ok (.getstatic index, 3))
    (kk : W p l e R s m args below meth c H locs cells slots Q (F0 m (pc + 3) ls (.ref (xDy x) :: rest))) : W p l e R s m args below meth c H locs cells slots Q (F0 m pc ls rest) := va_gets hx hb hK.2.2.2.2.2.1.1 hG.2.2.1 hown (hw _ hlink) (fun _ h => h) hdg kk
theorem gsFs (hx : p.tables.exec = Jvm.exec) (hb : c.code = cc) (hw : ∀ w ∈ gG, w.before args s = true) (hown : s.vm.findClass own = some m.cls) (hK : GK x s) (hG : GH x S s H locs) (hlink : (Cond.fieldLink own index "WaltzHallModel" "FIRST" "[Ljava/lang/String;") ∈ gG) (hdg : decode cc pc = .ok (.getstatic index, 3))
    (kk : W p l e R s m args below meth c H locs cells slots Q (F0 m (pc + 3) ls (.ref (xFs x) :: rest))) : W p l e R s m args below meth c H locs cells slots Q (F0 m pc ls rest) := va_gets hx hb hK.2.2.2.2.2.2.1.1 hG.2.2.1 hown (hw _ hlink) (fun _ h => h) hdg kk
theorem gsEm (hx : p.tables.exec = Jvm.exec) (hb : c.code = cc) (hw : ∀ w ∈ gG, w.before args s = true) (hown : s.vm.findClass own = some m.cls) (hK : GK x s) (hG : GH x S s H locs) (hlink : (Cond.fieldLink own index "java/util/ArrayList" "DEFAULTCAPACITY_EMPTY_ELEMENTDATA" "[Ljava/lang/Object;") ∈ gG) (hdg : decode cc pc = .ok (.getstatic index, 3))
    (kk : W p l e R s m args below meth c H locs cells slots Q (F0 m (pc + 3) ls (.ref (sX S) :: rest))) : W p l e R s m args below meth c H locs cells slots Q (F0 m pc ls rest) := by
  rw [hG.2.2.2] at kk
  exact va_gets hx hb hK.2.2.2.2.2.2.2.1.1 hG.2.2.1 hown (hw _ hlink) (fun _ h => h) hdg kk
-- new
theorem gnew (hx : p.tables.exec = Jvm.exec) (hb : c.code = cc) (hw : ∀ w ∈ gG, w.before args s = true) (hown : s.vm.findClass own = some m.cls) (hK : GK x s) (hG : GH x S s H locs) (kd : gKd ci C T N ty) (hcl : Cond.classLink own index C ∈ gG) (hins : Cond.instantiable C N ∈ gG) (hini : Cond.initialized C ∈ gG) (he : gC x k 0 (fun _ => 0) (fun _ => none) (fun _ => 0) (fun _ => none) (fun _ => 0) = .inr (ci, fs)) (hfs : ∀ j, j < N → defaultValue (ty j) = vp_V fs j) (hc : cells + 1 ≤ R.cells) (hs : slots + N ≤ R.slots) (hdg : decode cc pc = .ok (.new index, 3))
    (kk : ∀ (q : Nat) (S2 : St) (H1 : Heap), q ∉ sL S → S2 = pNew S q k 0 → gle S S2 → GH x S2 s H1 locs → W p l e R s m args below meth c H1 locs (cells + 1) (slots + N) Q (F0 m (pc + 3) ls (.ref q :: rest))) : W p l e R s m args below meth c H locs cells slots Q (F0 m pc ls rest) := by
  refine va_new hx hb hw kd.1 ty kd.2.2.1 hown (hw _ hcl) (hw _ hins) (hw _ hini) hK.1 hG.1 hG.2.1 hG.2.2.1 hK.2.1 kd.2.1 hfs hc hs hdg (fun q H1 g1 g2 g3 => ?_)
  have hq : q ∉ sL S := va_pl_fresh2 (X := []) (f := gE x S) g2
  rw [gpush hq he] at g1 g2
  exact kk q _ H1 hq rfl (gle_new hq) ⟨g1, g2, g3, hG.2.2.2⟩
theorem gnewa {atype : ArrayType} {t : FieldType} {cA : ClassId} {n : Int32} {N' : Nat} (hN : n.toNatClampNeg = N') (t0 : Nat) (hx : p.tables.exec = Jvm.exec) (hb : c.code = cc) (hw : ∀ w ∈ gG, w.before args s = true) (hK : GK x s) (hG : GH x S s H locs) (harr : Cond.arrayClass (newarray.typeOf atype) ∈ gG) (ht : newarray.typeOf atype = t) (hR : ∀ (U : State) (c1 : ClassId), va_RA U c1 t = (U.vm.findClass ("[" ++ t.toString) = some c1)) (htc : (gTy x)[t0]? = some (cA, t)) {a0 : vp_A} (he : gC x k N' (fun _ => 0) (fun _ => none) (fun _ => 0) (fun _ => none) (fun _ => 0) = .inl (cA, a0)) (hcell : ∀ c1 : ClassId, vp_cell c1 a0 = arrV c1 N' (fun _ => defaultValue t))
    (hn : ¬ n < 0) (hby : N' * componentBytes t ≤ 536870912) (hc : cells + 1 ≤ R.cells) (hs : slots + N' ≤ R.slots) (hdg : decode cc pc = .ok (.newarray atype, 2))
    (kk : ∀ (q : Nat) (S2 : St) (H1 : Heap), q ∉ sL S → S2 = pNew S q k N' → gle S S2 → GH x S2 s H1 locs → W p l e R s m args below meth c H1 locs (cells + 1) (slots + N') Q (F0 m (pc + 2) ls (.ref q :: rest))) : W p l e R s m args below meth c H locs cells slots Q (F0 m pc ls (.int n :: rest)) := by
  refine va_newa (a0 := a0) hx hb (hw _ harr) ht hK.1 hG.1 hG.2.1 hG.2.2.1 hK.2.1 hcell hn hN hby hc hs hdg (fun q c1 H1 g0 g1 g2 g3 => ?_)
  have hq : q ∉ sL S := va_pl_fresh2 (X := []) (f := gE x S) g2
  have r1 := (g0.2 (gTy x).length (c1, t) (by rw [List.getElem?_append_right (Nat.le_refl _), Nat.sub_self]; rfl)).2
  have r2 := (hK.1.2 t0 (cA, t) htc).2
  rw [hR] at r1 r2
  have e1 : c1 = cA := Option.some.inj (r1.symm.trans r2)
  subst e1
  rw [gpush hq he] at g1 g2
  exact kk q _ H1 hq rfl (gle_new hq) ⟨g1, g2, g3, hG.2.2.2⟩
theorem gnewq {n : Int32} (hx : p.tables.exec = Jvm.exec) (hb : c.code = cc) (hw : ∀ w ∈ gG, w.before args s = true) (hown : s.vm.findClass own = some m.cls) (hK : GK x s) (hG : GH x S s H locs) (hcl : Cond.classLink own index "java/lang/Object" ∈ gG) (hov : Cond.arrayOver (.object "java/lang/Object") ∈ gG) (hn : ¬ n < 0) (hby : n.toNatClampNeg * 4 ≤ 536870912) (hc : cells + 1 ≤ R.cells) (hs : slots + n.toNatClampNeg ≤ R.slots) (hdg : decode cc pc = .ok (.anewarray index, 3))
    (kk : ∀ (q : Nat) (S2 : St) (H1 : Heap), q ∉ sL S → S2 = pNew S q 12 n.toNatClampNeg → gle S S2 → GH x S2 s H1 locs → W p l e R s m args below meth c H1 locs (cells + 1) (slots + n.toNatClampNeg) Q (F0 m (pc + 3) ls (.ref q :: rest))) : W p l e R s m args below meth c H locs cells slots Q (F0 m pc ls (.int n :: rest)) := by
  refine va_newq hx hb hown (hw _ hcl) (hK.2.2.1 _ hov) hK.1 hG.1 hG.2.1 hG.2.2.1 hK.2.1 hn rfl hby hc hs hdg (fun q c1 H1 g0 g1 g2 g3 => ?_)
  have hq : q ∉ sL S := va_pl_fresh2 (X := []) (f := gE x S) g2
  obtain ⟨-, -, -, -, -, r1⟩ := (g0.2 (gTy x).length (c1, .object "java/lang/Object") (by rw [List.getElem?_append_right (Nat.le_refl _), Nat.sub_self]; rfl)).2
  obtain ⟨-, -, -, -, -, r2⟩ := (hK.1.2 3 (xO x, .object "java/lang/Object") rfl).2
  have e1 : c1 = xO x := Option.some.inj (r1.symm.trans r2)
  subst e1
  rw [gpush (x := x) (k := 12) (n := n.toNatClampNeg) (e := .inl (xO x, n.toNatClampNeg, .inr (.inr (.inr (.inr (fun _ => none)))))) hq rfl] at g1 g2
  exact kk q _ H1 hq rfl (gle_new hq) ⟨g1, g2, g3, hG.2.2.2⟩
-- references that may be null
theorem gaload_n {i : Nat} {o : Option Nat} {z : Fin 4} (hx : p.tables.exec = Jvm.exec) (hb : c.code = cc) (hdg : decode cc pc = .ok (.aload_n z, 1)) (hi : (z : Nat) = i) (hl : ls[i]? = some (.val (va_rf o)))
    (k : W p l e R s m args below meth c H locs cells slots Q (F0 m (pc + 1) ls (va_rf o :: rest))) : W p l e R s m args below meth c H locs cells slots Q (F0 m pc ls rest) := by
  cases o with
  | none => exact lv_aload_nN hx hb hdg hi hl k
  | some b => exact lv_aload_n hx hb hdg hi hl k
theorem gaload {i : Nat} {o : Option Nat} (hx : p.tables.exec = Jvm.exec) (hb : c.code = cc) (hdg : decode cc pc = .ok (.aload i, 2)) (hl : ls[i]? = some (.val (va_rf o)))
    (k : W p l e R s m args below meth c H locs cells slots Q (F0 m (pc + 2) ls (va_rf o :: rest))) : W p l e R s m args below meth c H locs cells slots Q (F0 m pc ls rest) := by
  cases o with
  | none => exact lv_aloadN hx hb hdg hl k
  | some b => exact lv_aload hx hb hdg hl k
theorem gastore_n {i nL : Nat} {o : Option Nat} {z : Fin 4} {lv lv' : List (Nat × Value)} (hx : p.tables.exec = Jvm.exec) (hb : c.code = cc) (hdg : decode cc pc = .ok (.astore_n z, 1)) (hi : (z : Nat) = i) (h : lv_has ls nL lv) (hn : i < nL) (hl : (i, va_rf o) :: lv.filter (fun q => !(q.1 == i) && !(q.1 + 1 == i && q.2.category == 2)) = lv')
    (kk : ∀ ls' : Array Slot, lv_has ls' nL lv' → W p l e R s m args below meth c H locs cells slots Q (F0 m (pc + 1) ls' rest)) : W p l e R s m args below meth c H locs cells slots Q (F0 m pc ls (va_rf o :: rest)) := by
  cases o with
  | none => exact lv_astore_nN hx hb hdg hi h hn hl kk
  | some b => exact lv_astore_n hx hb hdg hi h hn hl kk
theorem gastore {i nL : Nat} {o : Option Nat} {lv lv' : List (Nat × Value)} (hx : p.tables.exec = Jvm.exec) (hb : c.code = cc) (hdg : decode cc pc = .ok (.astore i, 2)) (h : lv_has ls nL lv) (hn : i < nL) (hl : (i, va_rf o) :: lv.filter (fun q => !(q.1 == i) && !(q.1 + 1 == i && q.2.category == 2)) = lv')
    (kk : ∀ ls' : Array Slot, lv_has ls' nL lv' → W p l e R s m args below meth c H locs cells slots Q (F0 m (pc + 2) ls' rest)) : W p l e R s m args below meth c H locs cells slots Q (F0 m pc ls (va_rf o :: rest)) := by
  cases o with
  | none => exact lv_astoreN hx hb hdg h hn hl kk
  | some b => exact lv_astore hx hb hdg h hn hl kk
theorem gifnull {o : Option Nat} {off : Int} {tgt : Nat} (hx : p.tables.exec = Jvm.exec) (hb : c.code = cc) (hdg : decode cc pc = .ok (.ifnull off, 3)) (ht : (pc : Int) + off = (tgt : Int))
    (kt : o = none → W p l e R s m args below meth c H locs cells slots Q (F0 m tgt ls rest)) (kf : ∀ b, o = some b → W p l e R s m args below meth c H locs cells slots Q (F0 m (pc + 3) ls rest)) : W p l e R s m args below meth c H locs cells slots Q (F0 m pc ls (va_rf o :: rest)) := by
  cases o with
  | none => exact lv_ifnullN hx hb hdg ht (kt rfl)
  | some b => exact lv_ifnull hx hb hdg (kf b rfl)
theorem gifnonnull {o : Option Nat} {off : Int} {tgt : Nat} (hx : p.tables.exec = Jvm.exec) (hb : c.code = cc) (hdg : decode cc pc = .ok (.ifnonnull off, 3)) (ht : (pc : Int) + off = (tgt : Int))
    (kt : ∀ b, o = some b → W p l e R s m args below meth c H locs cells slots Q (F0 m tgt ls rest)) (kf : o = none → W p l e R s m args below meth c H locs cells slots Q (F0 m (pc + 3) ls rest)) : W p l e R s m args below meth c H locs cells slots Q (F0 m pc ls (va_rf o :: rest)) := by
  cases o with
  | none => exact lv_ifnonnullN hx hb hdg (kf rfl)
  | some b => exact lv_ifnonnull hx hb hdg ht (kt b rfl)
theorem gcast (hx : p.tables.exec = Jvm.exec) (hb : c.code = cc) (hw : ∀ w ∈ gG, w.before args s = true) (hown : s.vm.findClass own = some m.cls) (hK : GK x s) (hG : GH x S s H locs) (kd : gKd ci C T N ty) (hlink : Cond.classLink own index C ∈ gG) (ha : isA S k a) (he : gC x k (sN S a) (fun f => sI S f a) (fun f => sQ S f a) (sR S a) (sP S a) (sJ S a) = .inr (ci, fs)) (hdg : decode cc pc = .ok (.checkcast index, 3))
    (kk : W p l e R s m args below meth c H locs cells slots Q (F0 m (pc + 3) ls (.ref a :: rest))) : W p l e R s m args below meth c H locs cells slots Q (F0 m pc ls (.ref a :: rest)) := by
  obtain ⟨k0, h1, -⟩ := gplace ha.1 (gE_at ha he)
  exact va_castS hx hb hown (hw _ hlink) (hK.1.1 ci _ kd.2.1).2 (va_recv hK.1 hG.1 kd.2.1 h1) hdg kk
-- calls
theorem gpS {As : List Value} (hK : GK x s) (hG : GH x S s H locs) : PreS s H (va_Pc As (GW x S)) As := ⟨GW.blind, fun _ hU hW => ⟨rfl, GW.at hK hG hU hW⟩⟩
theorem gpV {As : List Value} (hK : GK x s) (hG : GH x S s H locs) (kd : gKd ci C T N ty) (ha : isA S k a) (he : gC x k (sN S a) (fun f => sI S f a) (fun f => sQ S f a) (sR S a) (sP S a) (sJ S a) = .inr (ci, fs)) : PreV s H C a (va_Pc (.ref a :: As) (GW x S)) As := by
  obtain ⟨k0, h1, -⟩ := gplace ha.1 (gE_at ha he)
  exact ⟨GW.blind, va_recv hK.1 hG.1 kd.2.1 h1, fun _ hU hW => ⟨rfl, GW.at hK hG hU hW⟩⟩
theorem gcb {y : MethodName} {bytes : ByteArray} {maxL mc ms n : Nat} {ret : Option FieldType} {rm : Room} (hw : ∀ w ∈ gG, w.before args s = true) (h1 : Cond.code y bytes maxL ret ∈ gG) (h2 : Cond.initialized y.cls ∈ gG) (h3 : Cond.methodLink own index y ∈ gG) (hd : y.cls ≠ "java/lang/invoke/MethodHandle" ∧ y.cls ≠ "java/lang/invoke/VarHandle" ∧ (parseMethodDescriptor y.desc).map (fun d => d.parameters.length) = some n) (hrc : rm.cells = mc) (hrs : rm.slots = ms) (hR : rm.frames + 1 ≤ R.frames ∧ 8 + (maxL + 11) + rm.locals ≤ R.locals) :
    CallB R s args own index y bytes maxL ret [.code y bytes maxL ret] rm mc ms n := by
  refine ⟨hrc, hrs, hR.1, hR.2, fun w hw' a' U hW => ?_, List.mem_cons_self, hw _ h1, hw _ h2, ⟨hd.1, hd.2.1⟩, fun sig h => ?_, hw _ h3⟩
  · cases List.mem_singleton.mp hw'
    exact word_at hW (Or.inl rfl) (hw _ h1)
  · have h4 := hd.2.2
    rw [h] at h4
    exact (Option.some.inj h4).symm
theorem gcn {y : MethodName} {host : String} {bytes : ByteArray} {maxL mc ms n : Nat} {ret : Option FieldType} {rm : Room} (hw : ∀ w ∈ gG, w.before args s = true) (h1 : Cond.code y bytes maxL ret ∈ gG) (h2 : Cond.initialized y.cls ∈ gG) (h3 : Cond.methodLinkNest own index y host ∈ gG) (hd : y.cls ≠ "java/lang/invoke/MethodHandle" ∧ y.cls ≠ "java/lang/invoke/VarHandle" ∧ (parseMethodDescriptor y.desc).map (fun d => d.parameters.length) = some n) (hrc : rm.cells = mc) (hrs : rm.slots = ms) (hR : rm.frames + 1 ≤ R.frames ∧ 8 + (maxL + 11) + rm.locals ≤ R.locals) :
    va_CN R s args own index y host bytes maxL ret [.code y bytes maxL ret] rm mc ms n := by
  refine ⟨⟨hrc, hrs, hR.1, hR.2, fun w hw' a' U hW => ?_, List.mem_cons_self⟩, hw _ h1, hw _ h2, ⟨hd.1, hd.2.1⟩, fun sig h => ?_, hw _ h3⟩
  · cases List.mem_singleton.mp hw'
    exact word_at hW (Or.inl rfl) (hw _ h1)
  · have h4 := hd.2.2
    rw [h] at h4
    exact (Option.some.inj h4).symm
variable {mc ms : Nat} {st0 : List Value} {va : Array Value}
theorem gci {post : Int32 → St → Prop} (hK : GK x s) (hG : GH x S s H locs) (hr : va_Run p l e R s m args below meth c H locs cells slots mc ms (F0 m pc ls st0) rest (va_Qi post (gB x S) (xA x) va) (xA x))
    (kk : ∀ (r : Int32) (S1 : St) (H1 : Heap) (locs1 : List Loc), post r S1 → gle S S1 → GH x S1 s H1 locs1 → W p l e R s m args below meth c H1 locs1 (cells + mc) (slots + ms) Q (F0 m (pc + 3) ls (.int r :: rest))) : W p l e R s m args below meth c H locs cells slots Q (F0 m pc ls st0) :=
  va_calli hr hG.2.2.1 (fun _ _ h => h) (fun _ h => h) (fun r u t H1 locs1 ht _ hp hB _ _ hS => kk r u H1 locs1 hp hB.2 (GH.back ht hB.1 hS))
theorem gcl {post : Int64 → St → Prop} (hK : GK x s) (hG : GH x S s H locs) (hr : va_Run p l e R s m args below meth c H locs cells slots mc ms (F0 m pc ls st0) rest (va_Ql post (gB x S) (xA x) va) (xA x))
    (kk : ∀ (r : Int64) (S1 : St) (H1 : Heap) (locs1 : List Loc), post r S1 → gle S S1 → GH x S1 s H1 locs1 → W p l e R s m args below meth c H1 locs1 (cells + mc) (slots + ms) Q (F0 m (pc + 3) ls (.long r :: rest))) : W p l e R s m args below meth c H locs cells slots Q (F0 m pc ls st0) :=
  va_calll hr hG.2.2.1 (fun _ _ h => h) (fun _ h => h) (fun r u t H1 locs1 ht _ hp hB _ _ hS => kk r u H1 locs1 hp hB.2 (GH.back ht hB.1 hS))
theorem gcq {post : Option Nat → St → Prop} (hK : GK x s) (hG : GH x S s H locs) (hr : va_Run p l e R s m args below meth c H locs cells slots mc ms (F0 m pc ls st0) rest (va_Qq post (gB x S) (xA x) va) (xA x))
    (kk : ∀ (r : Option Nat) (S1 : St) (H1 : Heap) (locs1 : List Loc), post r S1 → gle S S1 → GH x S1 s H1 locs1 → W p l e R s m args below meth c H1 locs1 (cells + mc) (slots + ms) Q (F0 m (pc + 3) ls (va_rf r :: rest))) : W p l e R s m args below meth c H locs cells slots Q (F0 m pc ls st0) :=
  va_callq hr hG.2.2.1 (fun _ _ h => h) (fun _ h => h) (fun r u t H1 locs1 ht _ hp hB _ _ hS => kk r u H1 locs1 hp hB.2 (GH.back ht hB.1 hS))
theorem gcv {post : St → Prop} (hK : GK x s) (hG : GH x S s H locs) (hr : va_Run p l e R s m args below meth c H locs cells slots mc ms (F0 m pc ls st0) rest (va_Qv post (gB x S) (xA x) va) (xA x))
    (kk : ∀ (S1 : St) (H1 : Heap) (locs1 : List Loc), post S1 → gle S S1 → GH x S1 s H1 locs1 → W p l e R s m args below meth c H1 locs1 (cells + mc) (slots + ms) Q (F0 m (pc + 3) ls rest)) : W p l e R s m args below meth c H locs cells slots Q (F0 m pc ls st0) :=
  va_callv hr hG.2.2.1 (fun _ _ h => h) (fun _ h => h) (fun u t H1 locs1 ht _ hp hB _ _ hS => kk u H1 locs1 hp hB.2 (GH.back ht hB.1 hS))
-- ends
variable {S0 : St}
theorem giret {post : Int32 → St → Prop} {v : Int32} (hx : p.tables.exec = Jvm.exec) (hb : c.code = cc) (hr : meth.sig.returnType = some .int) (hlocks : meth.locks = false) (hK : GK x s) (hG : GH x S s H locs) (hle : gle S0 S) (h : post v S) (h1 : cells ≤ mc) (h2 : slots ≤ ms) (hdg : decode cc pc = .ok (.ireturn, 1)) : W p l e R s m args below meth c H locs cells slots (MQ below (va_Qi post (gB x S0) (xA x)) args s mc ms (xA x)) (F0 m pc ls [.int v]) :=
  W.widen h1 h2 (W.iret hx hb hr (fun _ ht hW => ⟨⟨v, S, rfl, h, GW.at hK hG ht hW, hle⟩, hG.2.2.1.F ht⟩) hG.2.2.1.2.2 hdg hlocks)
theorem gzret {post : Int32 → St → Prop} {v : Int32} {t : FieldType} (hx : p.tables.exec = Jvm.exec) (hb : c.code = cc) (hr : meth.sig.returnType = some t) (hn : narrow t (.int v) = .int v) (hlocks : meth.locks = false) (hK : GK x s) (hG : GH x S s H locs) (hle : gle S0 S) (h : post v S) (h1 : cells ≤ mc) (h2 : slots ≤ ms) (hdg : decode cc pc = .ok (.ireturn, 1)) : W p l e R s m args below meth c H locs cells slots (MQ below (va_Qi post (gB x S0) (xA x)) args s mc ms (xA x)) (F0 m pc ls [.int v]) :=
  W.widen h1 h2 (W.zret hx hb hr hn (fun _ ht hW => ⟨⟨v, S, rfl, h, GW.at hK hG ht hW, hle⟩, hG.2.2.1.F ht⟩) hG.2.2.1.2.2 hdg hlocks)
theorem glret {post : Int64 → St → Prop} {v : Int64} (hx : p.tables.exec = Jvm.exec) (hb : c.code = cc) (hr : meth.sig.returnType = some .long) (hlocks : meth.locks = false) (hK : GK x s) (hG : GH x S s H locs) (hle : gle S0 S) (h : post v S) (h1 : cells ≤ mc) (h2 : slots ≤ ms) (hdg : decode cc pc = .ok (.lreturn, 1)) : W p l e R s m args below meth c H locs cells slots (MQ below (va_Ql post (gB x S0) (xA x)) args s mc ms (xA x)) (F0 m pc ls [.long v]) :=
  W.widen h1 h2 (W.lret hx hb hr (fun _ ht hW => ⟨⟨v, S, rfl, h, GW.at hK hG ht hW, hle⟩, hG.2.2.1.F ht⟩) hG.2.2.1.2.2 hdg hlocks)
theorem gdret {post : UInt64 → St → Prop} {v : UInt64} (hx : p.tables.exec = Jvm.exec) (hb : c.code = cc) (hr : meth.sig.returnType = some .double) (hlocks : meth.locks = false) (hK : GK x s) (hG : GH x S s H locs) (hle : gle S0 S) (h : post v S) (h1 : cells ≤ mc) (h2 : slots ≤ ms) (hdg : decode cc pc = .ok (.dreturn, 1)) : W p l e R s m args below meth c H locs cells slots (MQ below (va_Qd post (gB x S0) (xA x)) args s mc ms (xA x)) (F0 m pc ls [.double v]) :=
  W.widen h1 h2 (W.dret hx hb hr (fun _ ht hW => ⟨⟨v, S, rfl, h, GW.at hK hG ht hW, hle⟩, hG.2.2.1.F ht⟩) hG.2.2.1.2.2 hdg hlocks)
theorem gvret {post : St → Prop} (hx : p.tables.exec = Jvm.exec) (hb : c.code = cc) (hr : meth.sig.returnType = none) (hlocks : meth.locks = false) (hK : GK x s) (hG : GH x S s H locs) (hle : gle S0 S) (h : post S) (h1 : cells ≤ mc) (h2 : slots ≤ ms) (hdg : decode cc pc = .ok (.return_, 1)) : W p l e R s m args below meth c H locs cells slots (MQ below (va_Qv post (gB x S0) (xA x)) args s mc ms (xA x)) (F0 m pc ls []) :=
  W.widen h1 h2 (W.vret hx hb hr (fun _ ht hW => ⟨⟨S, rfl, h, GW.at hK hG ht hW, hle⟩, hG.2.2.1.F ht⟩) hG.2.2.1.2.2 hdg hlocks)
theorem garet {post : Option Nat → St → Prop} {o : Option Nat} {t : FieldType} (hx : p.tables.exec = Jvm.exec) (hb : c.code = cc) (hr : meth.sig.returnType = some t) (hrt : (∃ n, t = .object n) ∨ ∃ u, t = .array u) (hlocks : meth.locks = false) (hK : GK x s) (hG : GH x S s H locs) (hle : gle S0 S) (h : post o S) (h1 : cells ≤ mc) (h2 : slots ≤ ms) (hdg : decode cc pc = .ok (.areturn, 1)) : W p l e R s m args below meth c H locs cells slots (MQ below (va_Qq post (gB x S0) (xA x)) args s mc ms (xA x)) (F0 m pc ls [va_rf o]) :=
  W.widen h1 h2 (W.aret hx hb hr hrt (va_rf_or o) (fun _ ht hW => ⟨⟨o, S, rfl, h, GW.at hK hG ht hW, hle⟩, hG.2.2.1.F ht⟩) hG.2.2.1.2.2 hdg hlocks)
end GR
-- exceptions: px E S' is what is said where E is thrown
def GP (x : Cx) (S : St) (t : State) : Prop := va_P (xD x) gCl (gWs x S) t.heap ∧ va_D (xA x) (gWs x S) ∧ sX S = xEm x
def gX (x : Cx) (S : St) (px : String → St → Prop) : String → State → State → Prop := vx_X (fun _ : St => True) (fun E u t => px E u ∧ GP x u t ∧ gle S u) (xA x)
theorem GH.backP {x : Cx} {S' : St} {s t : State} {H1 : Heap} {locs : List Loc} (ht : t.heap = H1) (hB : GP x S' t) (hS : va_S (xA x) s.heap H1 locs) : GH x S' s H1 locs := by
  obtain ⟨g1, g2, g3⟩ := hB
  rw [ht] at g1
  exact ⟨g1, g2, hS, g3⟩
section GXQ
variable {p : Program} {l : Launch} {e : Env} {R : Room} {s : State} {m : MethodId} {args : Array Value} {below : List Frame} {meth : Method} {c : Code} {H : Heap} {locs : List Loc} {cells slots : Nat} {Q : State → Prop}
variable {mc ms : Nat} {free : Addr → Prop} {A0 A1 : Nat → Prop} {H0 : Heap} {a : Array Value} {pc : Nat} {ls : Array Slot} {st0 rest : List Value}
theorem vx_callq {S SX : Type} {post : Option Nat → S → Prop} {px : SX → Prop} {B : S → State → Prop} {BX : String → SX → State → Prop} {AX : Nat → Prop} (hr : vx_Run p l e R s m args below meth c H locs cells slots mc ms (F0 m pc ls st0) rest (va_Qq post B A1 a) (vx_X px BX AX) free) (hS : va_S A0 H0 H locs) (hA : ∀ q, q < H.size → A1 q → A0 q) (hf : ∀ q, free q → A0 q) (hAX : ∀ q, q < H.size → AX q → A0 q)
    (kx : ∀ (E : String) (ce : Cell) (q9 : Addr) (u : SX) (t : State) (H1 : Heap) (locs1 : List Loc), t.heap = H1 → s.vm.Alike t.vm → px u → BX E u t → H.size ≤ H1.size → (∀ q : Nat, q < H.size → ¬ AX q → H1[q]? = H[q]?) → va_S A0 H0 H1 locs1 → H1[q9]? = some ce → ce.vm = .none → s.vm.findClass E = some ce.cls → vx_W p l e R s m args below meth c H1 locs1 (cells + mc) (slots + ms) Q (F0 m pc ls rest) q9)
    (kk : ∀ (r : Option Nat) (u : S) (t : State) (H1 : Heap) (locs1 : List Loc), t.heap = H1 → s.vm.Alike t.vm → post r u → B u t → H.size ≤ H1.size → (∀ q : Nat, q < H.size → ¬ A1 q → H1[q]? = H[q]?) → va_S A0 H0 H1 locs1 → W p l e R s m args below meth c H1 locs1 (cells + mc) (slots + ms) Q (F0 m (pc + 3) ls (va_rf r :: rest))) : W p l e R s m args below meth c H locs cells slots Q (F0 m pc ls st0) := by
  intro T hT X
  rcases hr T hT X with ⟨v, st₀, t, T', L, h0, X', hL, e1, e2, ⟨⟨r, u, hv, hp, hb⟩, hF⟩, st⟩ | ⟨q, st₀, t, T', L, E, ce, h0, X', hL, e1, e2, ⟨u, hp, hb, hF⟩, hce, hcv, hcl, st⟩
  · cases hv
    obtain ⟨k1, k2, k3⟩ := vx_keep h0 e1 hS hA hf hL hF
    obtain ⟨t2, a1, b1⟩ := kk r u t T'.heap (locs ++ L) e1.symm (by rw [← e2]; exact X'.warmed.alike) hp hb k1 k2 k3 T' rfl X'
    exact ⟨t2, st t2 a1, b1⟩
  · obtain ⟨k1, k2, k3⟩ := vx_keep h0 e1 hS hAX hf hL hF
    obtain ⟨t2, a1, b1⟩ := kx E ce q u t T'.heap (locs ++ L) e1.symm (by rw [← e2]; exact X'.warmed.alike) hp hb k1 k2 k3 (by rw [e1]; exact hce) hcv hcl T' rfl X'
    exact ⟨t2, st.trans a1, b1⟩
end GXQ
section GX
variable {p : Program} {l : Launch} {e : Env} {R : Room} {s : State} {m : MethodId} {args : Array Value} {below : List Frame} {meth : Method} {c : Code} {H : Heap} {locs : List Loc} {cells slots : Nat} {Q : State → Prop}
variable {cc : ByteArray} {pc : Nat} {ls : Array Slot} {rest : List Value} {x : Cx} {S S0 : St} {own : String} {mc ms mc' ms' : Nat} {st0 : List Value} {va : Array Value} {px px' : String → St → Prop} {Qc : Array Value → State → Outcome → State → Prop}
/-- a throw leaves this method too -/
theorem gxout {E : String} {ce : Cell} {q9 : Addr} {H1 : Heap} {locs1 : List Loc} {S1 : St} {cells1 slots1 : Nat} (htab : ∀ z ∈ c.exceptionTable.toList, False) (hlocks : meth.locks = false) (hle : gle S0 S1) (hG : GH x S1 s H1 locs1) (hp : px E S1) (h1 : cells1 ≤ mc) (h2 : slots1 ≤ ms) (hce : H1[q9]? = some ce) (hv : ce.vm = .none) (hcl : s.vm.findClass E = some ce.cls) :
    vx_W p l e R s m args below meth c H1 locs1 cells1 slots1 (vx_MQ below Qc (gX x S0 px) args s mc ms (xA x)) (F0 m pc ls rest) q9 :=
  vx_out (fun z hz => (htab z hz).elim) hlocks hce hv hcl (fun t ht ha => ⟨S1, trivial, ⟨hp, ⟨by rw [ht]; exact hG.1, hG.2.1, hG.2.2.2⟩, hle⟩, hG.2.2.1.F ht⟩) hG.2.2.1.2.2 h1 h2
theorem gxci {post : Int32 → St → Prop} (hG : GH x S s H locs) (hr : vx_Run p l e R s m args below meth c H locs cells slots mc' ms' (F0 m pc ls st0) rest (va_Qi post (gB x S) (xA x) va) (gX x S px') (xA x)) (htab : ∀ z ∈ c.exceptionTable.toList, False) (hlocks : meth.locks = false) (hle : gle S0 S) (hpx : ∀ E u, px' E u → px E u) (h1 : cells + mc' ≤ mc) (h2 : slots + ms' ≤ ms)
    (kk : ∀ (r : Int32) (S1 : St) (H1 : Heap) (locs1 : List Loc), post r S1 → gle S S1 → GH x S1 s H1 locs1 → W p l e R s m args below meth c H1 locs1 (cells + mc') (slots + ms') (vx_MQ below Qc (gX x S0 px) args s mc ms (xA x)) (F0 m (pc + 3) ls (.int r :: rest))) : W p l e R s m args below meth c H locs cells slots (vx_MQ below Qc (gX x S0 px) args s mc ms (xA x)) (F0 m pc ls st0) :=
  vx_calli hr hG.2.2.1 (fun _ _ h => h) (fun _ h => h) (fun _ _ h => h)
    (fun E ce q9 u t H1 locs1 ht _ _ hB _ _ hS hce hv hcl => gxout htab hlocks (hle.tr hB.2.2) (GH.backP ht hB.2.1 hS) (hpx E u hB.1) h1 h2 hce hv hcl)
    (fun r u t H1 locs1 ht _ hp hB _ _ hS => kk r u H1 locs1 hp hB.2 (GH.back ht hB.1 hS))
theorem gxcq {post : Option Nat → St → Prop} (hG : GH x S s H locs) (hr : vx_Run p l e R s m args below meth c H locs cells slots mc' ms' (F0 m pc ls st0) rest (va_Qq post (gB x S) (xA x) va) (gX x S px') (xA x)) (htab : ∀ z ∈ c.exceptionTable.toList, False) (hlocks : meth.locks = false) (hle : gle S0 S) (hpx : ∀ E u, px' E u → px E u) (h1 : cells + mc' ≤ mc) (h2 : slots + ms' ≤ ms)
    (kk : ∀ (r : Option Nat) (S1 : St) (H1 : Heap) (locs1 : List Loc), post r S1 → gle S S1 → GH x S1 s H1 locs1 → W p l e R s m args below meth c H1 locs1 (cells + mc') (slots + ms') (vx_MQ below Qc (gX x S0 px) args s mc ms (xA x)) (F0 m (pc + 3) ls (va_rf r :: rest))) : W p l e R s m args below meth c H locs cells slots (vx_MQ below Qc (gX x S0 px) args s mc ms (xA x)) (F0 m pc ls st0) :=
  vx_callq hr hG.2.2.1 (fun _ _ h => h) (fun _ h => h) (fun _ _ h => h)
    (fun E ce q9 u t H1 locs1 ht _ _ hB _ _ hS hce hv hcl => gxout htab hlocks (hle.tr hB.2.2) (GH.backP ht hB.2.1 hS) (hpx E u hB.1) h1 h2 hce hv hcl)
    (fun r u t H1 locs1 ht _ hp hB _ _ hS => kk r u H1 locs1 hp hB.2 (GH.back ht hB.1 hS))
theorem gxcv {post : St → Prop} (hG : GH x S s H locs) (hr : vx_Run p l e R s m args below meth c H locs cells slots mc' ms' (F0 m pc ls st0) rest (va_Qv post (gB x S) (xA x) va) (gX x S px') (xA x)) (htab : ∀ z ∈ c.exceptionTable.toList, False) (hlocks : meth.locks = false) (hle : gle S0 S) (hpx : ∀ E u, px' E u → px E u) (h1 : cells + mc' ≤ mc) (h2 : slots + ms' ≤ ms)
    (kk : ∀ (S1 : St) (H1 : Heap) (locs1 : List Loc), post S1 → gle S S1 → GH x S1 s H1 locs1 → W p l e R s m args below meth c H1 locs1 (cells + mc') (slots + ms') (vx_MQ below Qc (gX x S0 px) args s mc ms (xA x)) (F0 m (pc + 3) ls rest)) : W p l e R s m args below meth c H locs cells slots (vx_MQ below Qc (gX x S0 px) args s mc ms (xA x)) (F0 m pc ls st0) :=
  vx_callv hr hG.2.2.1 (fun _ _ h => h) (fun _ h => h) (fun _ _ h => h)
    (fun E ce q9 u t H1 locs1 ht _ _ hB _ _ hS hce hv hcl => gxout htab hlocks (hle.tr hB.2.2) (GH.backP ht hB.2.1 hS) (hpx E u hB.1) h1 h2 hce hv hcl)
    (fun u t H1 locs1 ht _ hp hB _ _ hS => kk u H1 locs1 hp hB.2 (GH.back ht hB.1 hS))
/-- 'throw new E("text")' -/
theorem gthrow {E text : String} {ik is ic : Nat} (names : List String) (hx : p.tables.exec = Jvm.exec) (hb : c.code = cc) (hl : l.stackTraces = false) (hw : ∀ w ∈ gG, w.before args s = true) (hown : s.vm.findClass own = some m.cls) (hK : GK x s) (hG : GH x S s H locs) (hE : Bundle.fit E = true) (hn : ∀ n ∈ names, Bundle.fit n = true) (hk : Cond.classLink own ik E ∈ gG) (hini : Cond.initialized E ∈ gG) (hm : (own, is, text) ∈ txM) (hat : ∀ w ∈ vx_atS own ic E names, w ∈ gG) (hgood : ∀ w ∈ Cond.classLink own ik E :: Cond.initialized E :: vx_atS own ic E names, vx_ot w = true) (hsize : ls.size = c.maxLocals)
    (d0 : decode cc pc = .ok (.new ik, 3)) (d3 : decode cc (pc + 3) = .ok (.dup, 1)) (d4 : decode cc (pc + 4) = .ok (.ldc is, 2)) (d6 : decode cc (pc + 6) = .ok (.invokespecial ic, 3)) (d9 : decode cc (pc + 9) = .ok (.athrow, 1)) (htab : ∀ z ∈ c.exceptionTable.toList, False)
    (hRf : names.length + 3 < R.frames) (hRl : (rest.map fun v => v.category).sum + (13 * (names.length + 1) + 43) ≤ R.locals) (hRc : cells + 1 ≤ R.cells) (hRs : slots + 6 ≤ R.slots) (hlocks : meth.locks = false) (hle : gle S0 S) (hp : px E S) (h1 : cells + 1 ≤ mc) (h2 : slots + 6 ≤ ms) :
    W p l e R s m args below meth c H locs cells slots (vx_MQ below Qc (gX x S0 px) args s mc ms (xA x)) (F0 m pc ls rest) := by
  obtain ⟨sa, hsa⟩ := hK.2.2.2.1.2 _ hm
  exact vx_throwS hx hb hl hown hE hn (hw _ hk) (hw _ hini) hsa (fun w h => hw w (hat w h)) hgood hK.2.2.2.2.2.2.2.2.2.2.1 hK.2.2.2.2.2.2.2.2.2.2.2.1 hG.2.2.1 hsize d0 d3 d4 d6 d9 (fun z hz => (htab z hz).elim) hRf hRl hRc hRs hlocks
    (fun t ha hz hq => ⟨S, trivial, ⟨hp, ⟨hG.1.kept (fun k q hk => hq q.1 (hG.1 k q hk).lt), hG.2.1, hG.2.2.2⟩, hle⟩, ⟨Nat.le_trans hG.2.2.1.1 hz, fun q h3 h4 => by rw [hq q (Nat.lt_of_lt_of_le h3 hG.2.2.1.1)]; exact hG.2.2.1.2.1 q h3 h4⟩⟩) hG.2.2.1.2.2 h1 h2
theorem gthrowW {E text : String} {ik is ic : Nat} (names : List String) (hx : p.tables.exec = Jvm.exec) (hb : c.code = cc) (hl : l.stackTraces = false) (hw : ∀ w ∈ gG, w.before args s = true) (hown : s.vm.findClass own = some m.cls) (hK : GK x s) (hG : GH x S s H locs) (hE : Bundle.fit E = true) (hn : ∀ n ∈ names, Bundle.fit n = true) (hk : Cond.classLink own ik E ∈ gG) (hini : Cond.initialized E ∈ gG) (hm : (own, is, text) ∈ txM) (hat : ∀ w ∈ vx_atS own ic E names, w ∈ gG) (hgood : ∀ w ∈ Cond.classLink own ik E :: Cond.initialized E :: vx_atS own ic E names, vx_ot w = true) (hsize : ls.size = c.maxLocals)
    (d0 : decode cc pc = .ok (.new ik, 3)) (d3 : decode cc (pc + 3) = .ok (.dup, 1)) (d4 : decode cc (pc + 4) = .ok (.ldc_w is, 3)) (d6 : decode cc (pc + 7) = .ok (.invokespecial ic, 3)) (d9 : decode cc (pc + 10) = .ok (.athrow, 1)) (htab : ∀ z ∈ c.exceptionTable.toList, False)
    (hRf : names.length + 3 < R.frames) (hRl : (rest.map fun v => v.category).sum + (13 * (names.length + 1) + 43) ≤ R.locals) (hRc : cells + 1 ≤ R.cells) (hRs : slots + 6 ≤ R.slots) (hlocks : meth.locks = false) (hle : gle S0 S) (hp : px E S) (h1 : cells + 1 ≤ mc) (h2 : slots + 6 ≤ ms) :
    W p l e R s m args below meth c H locs cells slots (vx_MQ below Qc (gX x S0 px) args s mc ms (xA x)) (F0 m pc ls rest) := by
  obtain ⟨sa, hsa⟩ := hK.2.2.2.1.2 _ hm
  exact vx_throwSW hx hb hl hown hE hn (hw _ hk) (hw _ hini) hsa (fun w h => hw w (hat w h)) hgood hK.2.2.2.2.2.2.2.2.2.2.1 hK.2.2.2.2.2.2.2.2.2.2.2.1 hG.2.2.1 hsize d0 d3 d4 d6 d9 (fun z hz => (htab z hz).elim) hRf hRl hRc hRs hlocks
    (fun t ha hz hq => ⟨S, trivial, ⟨hp, ⟨hG.1.kept (fun k q hk => hq q.1 (hG.1 k q hk).lt), hG.2.1, hG.2.2.2⟩, hle⟩, ⟨Nat.le_trans hG.2.2.1.1 hz, fun q h3 h4 => by rw [hq q (Nat.lt_of_lt_of_le h3 hG.2.2.1.1)]; exact hG.2.2.1.2.1 q h3 h4⟩⟩) hG.2.2.1.2.2 h1 h2
end GX
/-- a method that changes nothing -/
def gPu {α : Type} (post : α → Prop) (S : St) : α → St → Prop := fun r S1 => post r ∧ S = S1
def gPv (post : Prop) (S : St) : St → Prop := fun S1 => post ∧ S = S1
def gPx (px : String → Prop) (S : St) : String → St → Prop := fun E S1 => px E ∧ S = S1
theorem gtabOut {v : Int32} (n : Nat) (hn : n < 2 ^ 31) (h : ∀ j : Nat, j < n → ¬ v = nI j) : v.toInt < 0 ∨ (n : Int) - 1 < v.toInt := by
  rcases Nat.lt_or_ge v.toNatClampNeg n with q | q
  · by_cases h0 : v.toInt < 0
    · exact Or.inl h0
    · have h1 := h _ q
      refine absurd ?_ h1
      have e1 : v.toInt = (v.toNatClampNeg : Int) := by
        show v.toInt = ((v.toInt.toNat : Nat) : Int)
        omega
      apply Int32.toInt_inj.mp
      rw [e1, nI_toInt (by omega)]
  · have e1 : v.toNatClampNeg = v.toInt.toNat := rfl
    rw [e1] at q
    by_cases h0 : v.toInt < 0
    · exact Or.inl h0
    · right
      omega
section GP5
variable {p : Program} {l : Launch} {e : Env} {R : Room} {s : State} {m : MethodId} {args : Array Value} {below : List Frame} {meth : Method} {c : Code} {H : Heap} {locs : List Loc} {cells slots : Nat} {Q : State → Prop}
variable {cc : ByteArray} {pc : Nat} {ls : Array Slot} {rest : List Value} {x : Cx} {S S0 : St} {own C : String} {index a k : Nat} {mc ms mc' ms' : Nat} {st0 : List Value} {va : Array Value} {Qc : Array Value → State → Outcome → State → Prop} {px : String → St → Prop}
theorem gtopq {o : Option Nat} (kk : ∀ y : Option Nat, y = o → W p l e R s m args below meth c H locs cells slots Q (F0 m pc ls (va_rf y :: rest))) : W p l e R s m args below meth c H locs cells slots Q (F0 m pc ls (va_rf o :: rest)) := kk o rfl
theorem gnull (hx : p.tables.exec = Jvm.exec) (hb : c.code = cc) (hdg : decode cc pc = .ok (.aconst_null, 1)) (kk : W p l e R s m args below meth c H locs cells slots Q (F0 m (pc + 1) ls (va_rf none :: rest))) : W p l e R s m args below meth c H locs cells slots Q (F0 m pc ls rest) := lv_null hx hb hdg kk
theorem gpi {post : Int32 → Prop} (hK : GK x s) (hG : GH x S s H locs) (hr : va_Run p l e R s m args below meth c H locs cells slots mc ms (F0 m pc ls st0) rest (va_Qi (gPu post S) (gB x S) (xA x) va) (xA x))
    (kk : ∀ (r : Int32) (H1 : Heap) (locs1 : List Loc), post r → GH x S s H1 locs1 → W p l e R s m args below meth c H1 locs1 (cells + mc) (slots + ms) Q (F0 m (pc + 3) ls (.int r :: rest))) : W p l e R s m args below meth c H locs cells slots Q (F0 m pc ls st0) :=
  gci hK hG hr (fun r S1 H1 locs1 h _ hG1 => kk r H1 locs1 h.1 (by rw [h.2]; exact hG1))
theorem gpl {post : Int64 → Prop} (hK : GK x s) (hG : GH x S s H locs) (hr : va_Run p l e R s m args below meth c H locs cells slots mc ms (F0 m pc ls st0) rest (va_Ql (gPu post S) (gB x S) (xA x) va) (xA x))
    (kk : ∀ (r : Int64) (H1 : Heap) (locs1 : List Loc), post r → GH x S s H1 locs1 → W p l e R s m args below meth c H1 locs1 (cells + mc) (slots + ms) Q (F0 m (pc + 3) ls (.long r :: rest))) : W p l e R s m args below meth c H locs cells slots Q (F0 m pc ls st0) :=
  gcl hK hG hr (fun r S1 H1 locs1 h _ hG1 => kk r H1 locs1 h.1 (by rw [h.2]; exact hG1))
theorem gpq {post : Option Nat → Prop} (hK : GK x s) (hG : GH x S s H locs) (hr : va_Run p l e R s m args below meth c H locs cells slots mc ms (F0 m pc ls st0) rest (va_Qq (gPu post S) (gB x S) (xA x) va) (xA x))
    (kk : ∀ (r : Option Nat) (H1 : Heap) (locs1 : List Loc), post r → GH x S s H1 locs1 → W p l e R s m args below meth c H1 locs1 (cells + mc) (slots + ms) Q (F0 m (pc + 3) ls (va_rf r :: rest))) : W p l e R s m args below meth c H locs cells slots Q (F0 m pc ls st0) :=
  gcq hK hG hr (fun r S1 H1 locs1 h _ hG1 => kk r H1 locs1 h.1 (by rw [h.2]; exact hG1))
theorem gpv {post : Prop} (hK : GK x s) (hG : GH x S s H locs) (hr : va_Run p l e R s m args below meth c H locs cells slots mc ms (F0 m pc ls st0) rest (va_Qv (gPv post S) (gB x S) (xA x) va) (xA x))
    (kk : ∀ (H1 : Heap) (locs1 : List Loc), post → GH x S s H1 locs1 → W p l e R s m args below meth c H1 locs1 (cells + mc) (slots + ms) Q (F0 m (pc + 3) ls rest)) : W p l e R s m args below meth c H locs cells slots Q (F0 m pc ls st0) :=
  gcv hK hG hr (fun S1 H1 locs1 h _ hG1 => kk H1 locs1 h.1 (by rw [h.2]; exact hG1))
theorem gxpi {px' : String → Prop} {post : Int32 → Prop} (hG : GH x S s H locs) (hr : vx_Run p l e R s m args below meth c H locs cells slots mc' ms' (F0 m pc ls st0) rest (va_Qi (gPu post S) (gB x S) (xA x) va) (gX x S (gPx px' S)) (xA x)) (htab : ∀ z ∈ c.exceptionTable.toList, False) (hlocks : meth.locks = false) (hle : gle S0 S) (hpx : ∀ E, px' E → px E S) (h1 : cells + mc' ≤ mc) (h2 : slots + ms' ≤ ms)
    (kk : ∀ (r : Int32) (H1 : Heap) (locs1 : List Loc), post r → GH x S s H1 locs1 → W p l e R s m args below meth c H1 locs1 (cells + mc') (slots + ms') (vx_MQ below Qc (gX x S0 px) args s mc ms (xA x)) (F0 m (pc + 3) ls (.int r :: rest))) : W p l e R s m args below meth c H locs cells slots (vx_MQ below Qc (gX x S0 px) args s mc ms (xA x)) (F0 m pc ls st0) :=
  gxci hG hr htab hlocks hle (fun E u h => by rw [← h.2]; exact hpx E h.1) h1 h2 (fun r S1 H1 locs1 h _ hG1 => kk r H1 locs1 h.1 (by rw [h.2]; exact hG1))
theorem gxpq {px' : String → Prop} {post : Option Nat → Prop} (hG : GH x S s H locs) (hr : vx_Run p l e R s m args below meth c H locs cells slots mc' ms' (F0 m pc ls st0) rest (va_Qq (gPu post S) (gB x S) (xA x) va) (gX x S (gPx px' S)) (xA x)) (htab : ∀ z ∈ c.exceptionTable.toList, False) (hlocks : meth.locks = false) (hle : gle S0 S) (hpx : ∀ E, px' E → px E S) (h1 : cells + mc' ≤ mc) (h2 : slots + ms' ≤ ms)
    (kk : ∀ (r : Option Nat) (H1 : Heap) (locs1 : List Loc), post r → GH x S s H1 locs1 → W p l e R s m args below meth c H1 locs1 (cells + mc') (slots + ms') (vx_MQ below Qc (gX x S0 px) args s mc ms (xA x)) (F0 m (pc + 3) ls (va_rf r :: rest))) : W p l e R s m args below meth c H locs cells slots (vx_MQ below Qc (gX x S0 px) args s mc ms (xA x)) (F0 m pc ls st0) :=
  gxcq hG hr htab hlocks hle (fun E u h => by rw [← h.2]; exact hpx E h.1) h1 h2 (fun r S1 H1 locs1 h _ hG1 => kk r H1 locs1 h.1 (by rw [h.2]; exact hG1))
theorem gxpv {px' : String → Prop} {post : Prop} (hG : GH x S s H locs) (hr : vx_Run p l e R s m args below meth c H locs cells slots mc' ms' (F0 m pc ls st0) rest (va_Qv (gPv post S) (gB x S) (xA x) va) (gX x S (gPx px' S)) (xA x)) (htab : ∀ z ∈ c.exceptionTable.toList, False) (hlocks : meth.locks = false) (hle : gle S0 S) (hpx : ∀ E, px' E → px E S) (h1 : cells + mc' ≤ mc) (h2 : slots + ms' ≤ ms)
    (kk : ∀ (H1 : Heap) (locs1 : List Loc), post → GH x S s H1 locs1 → W p l e R s m args below meth c H1 locs1 (cells + mc') (slots + ms') (vx_MQ below Qc (gX x S0 px) args s mc ms (xA x)) (F0 m (pc + 3) ls rest)) : W p l e R s m args below meth c H locs cells slots (vx_MQ below Qc (gX x S0 px) args s mc ms (xA x)) (F0 m pc ls st0) :=
  gxcv hG hr htab hlocks hle (fun E u h => by rw [← h.2]; exact hpx E h.1) h1 h2 (fun S1 H1 locs1 h _ hG1 => kk H1 locs1 h.1 (by rw [h.2]; exact hG1))
/-- a class's own Object.<init> -/
theorem gobj {bytes : ByteArray} (hx : p.tables.exec = Jvm.exec) (hb : c.code = cc) (hw : ∀ w ∈ gG, w.before args s = true) (hown : s.vm.findClass own = some m.cls) (h1 : Cond.methodLink own index Lib.objectInit ∈ gG) (h2 : Cond.instanceMethod Lib.objectInit ∈ gG) (h3 : Cond.code Lib.objectInit ⟨#[0xb1]⟩ 1 none ∈ gG) (hsize : ls.size = c.maxLocals) (hdg : decode cc pc = .ok (.invokespecial index, 3)) (hf : 1 ≤ R.frames) (hlo : (rest.map fun v => v.category).sum + 12 ≤ R.locals)
    (kk : W p l e R s m args below meth c H locs cells slots Q (F0 m (pc + 3) ls rest)) : W p l e R s m args below meth c H locs cells slots Q (F0 m pc ls (.ref a :: rest)) :=
  W.objInit hx hb hown (hw _ h1) (hw _ h2) (hw _ h3) rfl hsize rfl hdg hf (by show 2 * 0 + _ + 12 ≤ _; omega) kk
/-- System.arraycopy of ints or booleans -/
theorem gcopy {b : Nat} {sp dp n : Int32} {cA : ClassId} {t : FieldType} (t0 : Nat) (hx : p.tables.exec = Jvm.exec) (hb : c.code = cc) (hw : ∀ w ∈ gG, w.before args s = true) (hml : c.maxLocals = ls.size) (hown : s.vm.findClass own = some m.cls) (hK : GK x s) (hG : GH x S s H locs) (g1 : Cond.methodLink own index arraycopyName ∈ gG) (g2 : Cond.native arraycopyName ∈ gG) (g3 : Cond.static arraycopyName ∈ gG) (g4 : Cond.initialized "java/lang/System" ∈ gG)
    (ha : isA S k a) (hv : isA S k b) (he : ∀ (n : Nat) (I : Nat → Int32) (Q : Nat → Option Nat) (R : Nat → Int32) (P : Nat → Option Nat) (J : Nat → Int64), gC x k n I Q R P J = .inl (cA, n, .inl R)) (ht : (gTy x)[t0]? = some (cA, t)) (hprim : refKind t = false) (h1 : ¬ sp < 0) (h2 : ¬ dp < 0) (h3 : ¬ n < 0) (h4 : sp.toNatClampNeg + n.toNatClampNeg ≤ sN S a) (h5 : dp.toNatClampNeg + n.toNatClampNeg ≤ sN S b) (hfit : ∀ i, i < n.toNatClampNeg → fits t (.int (sR S a (sp.toNatClampNeg + i))) = true)
    (hf : 1 ≤ R.frames) (hlo : (rest.map fun v => v.category).sum + (nativeFrameWords "java/lang/System" "arraycopy" 5 + 11) ≤ R.locals) (hdg : decode cc pc = .ok (.invokestatic index, 3))
    (kk : ∀ (S2 : St) (H1 : Heap) (locs1 : List Loc), S2 = pRow S b (va_cpy (sR S a) (sR S b) sp.toNatClampNeg dp.toNatClampNeg n.toNatClampNeg) → gle S S2 → GH x S2 s H1 locs1 → W p l e R s m args below meth c H1 locs1 cells slots Q (F0 m (pc + 3) ls rest)) : W p l e R s m args below meth c H locs cells slots Q (F0 m pc ls (.int n :: .int dp :: .ref b :: .int sp :: .ref a :: rest)) := by
  obtain ⟨k0, i1, -⟩ := gplace ha.1 (gE_at (x := x) ha (he _ _ _ _ _ _))
  obtain ⟨k1, i2, i3⟩ := gplace hv.1 (gE_at (x := x) hv (he _ _ _ _ _ _))
  exact va_copyi hx hb hml hown (hw _ g1) (hw _ g2) (hw _ g3) (hw _ g4) hK.1 hG.1 hG.2.1 hG.2.2.1 k0 k1 t0 t0 i1 i2 ht ht hprim h1 h2 h3 h4 h5 hfit hf hlo hdg (fun H1 locs1 j1 j2 j3 => kk _ H1 locs1 rfl ⟨fun _ h => ⟨h, rfl, rfl⟩, rfl⟩ (gback hG hv.1 i3 (gChRow hv (he _ _ _ _ _ _)) j1 j2 j3))
end GP5
theorem gci1 (v : Int32) : (Value.int v).category = 1 := rfl
theorem gcr1 (v : Nat) : (Value.ref v).category = 1 := rfl
theorem gcl1 (v : Int64) : (Value.long v).category = 2 := rfl
theorem gcd1 (v : UInt64) : (Value.double v).category = 2 := rfl
theorem gCatB (o : Option Nat) : ((va_rf o).category == 2) = false := by cases o <;> rfl
theorem gCatP (o : Option Nat) : ((va_rf o).category = 2) = False := by cases o <;> simp [va_rf, Value.category]
/-- an object that a list may hold -/
def gObj (S : St) (b : Nat) : Prop := isA S 1 b ∨ isA S 2 b ∨ isA S 5 b
theorem kf_AL : ∀ j, j < 3 → defaultValue (ty_AL j) = vp_V [.int 0, .null, .int 0] j := fun j hj => by rcases (show j = 0 ∨ j = 1 ∨ j = 2 by omega) with rfl | rfl | rfl <;> rfl
theorem kf_D : ∀ j, j < 3 → defaultValue (ty_D j) = vp_V [.int 0, .null, .int 0] j := fun j hj => by rcases (show j = 0 ∨ j = 1 ∨ j = 2 by omega) with rfl | rfl | rfl <;> rfl
theorem kf_R : ∀ j, j < 15 → defaultValue (ty_R j) = vp_V [.int 0, .int 0, .int 0, .int 0, .int 0, .int 0, .null, .int 0, .null, .int 0, .int 0, .int 0, .int 0, .int 0, .int 0] j := fun j hj => by rcases (show j = 0 ∨ j = 1 ∨ j = 2 ∨ j = 3 ∨ j = 4 ∨ j = 5 ∨ j = 6 ∨ j = 7 ∨ j = 8 ∨ j = 9 ∨ j = 10 ∨ j = 11 ∨ j = 12 ∨ j = 13 ∨ j = 14 by omega) with rfl | rfl | rfl | rfl | rfl | rfl | rfl | rfl | rfl | rfl | rfl | rfl | rfl | rfl | rfl <;> rfl
theorem kf_F : ∀ j, j < 3 → defaultValue (ty_F j) = vp_V [.null, .null, .int 0] j := fun j hj => by rcases (show j = 0 ∨ j = 1 ∨ j = 2 by omega) with rfl | rfl | rfl <;> rfl
theorem kf_T : ∀ j, j < 2 → defaultValue (ty_T j) = vp_V [.null, .int 0] j := fun j hj => by rcases (show j = 0 ∨ j = 1 by omega) with rfl | rfl <;> rfl
theorem kf_N : ∀ j, j < 7 → defaultValue (ty_N j) = vp_V [.int 0, .int 0, .int 0, .null, .int 0, .int 0, .int 0] j := fun j hj => by rcases (show j = 0 ∨ j = 1 ∨ j = 2 ∨ j = 3 ∨ j = 4 ∨ j = 5 ∨ j = 6 by omega) with rfl | rfl | rfl | rfl | rfl | rfl | rfl <;> rfl
theorem kf_H : ∀ j, j < 5 → defaultValue (ty_H j) = vp_V [.null, .null, .null, .null, .null] j := fun j hj => by rcases (show j = 0 ∨ j = 1 ∨ j = 2 ∨ j = 3 ∨ j = 4 by omega) with rfl | rfl | rfl | rfl | rfl <;> rfl
theorem kf_S : ∀ j, j < 18 → defaultValue (ty_S j) = vp_V [.int 0, .int 0, .null, .null, .null, .null, .null, .null, .null, .null, .null, .null, .null, .null, .int 0, .null, .null, .null] j := fun j hj => by rcases (show j = 0 ∨ j = 1 ∨ j = 2 ∨ j = 3 ∨ j = 4 ∨ j = 5 ∨ j = 6 ∨ j = 7 ∨ j = 8 ∨ j = 9 ∨ j = 10 ∨ j = 11 ∨ j = 12 ∨ j = 13 ∨ j = 14 ∨ j = 15 ∨ j = 16 ∨ j = 17 by omega) with rfl | rfl | rfl | rfl | rfl | rfl | rfl | rfl | rfl | rfl | rfl | rfl | rfl | rfl | rfl | rfl | rfl | rfl <;> rfl
theorem kf_M : ∀ j, j < 7 → defaultValue (ty_M j) = vp_V [.int 0, .null, .int 0, .null, .null, .null, .null] j := fun j hj => by rcases (show j = 0 ∨ j = 1 ∨ j = 2 ∨ j = 3 ∨ j = 4 ∨ j = 5 ∨ j = 6 by omega) with rfl | rfl | rfl | rfl | rfl | rfl | rfl <;> rfl
section GP6
variable {p : Program} {l : Launch} {e : Env} {R : Room} {s : State} {m : MethodId} {args : Array Value} {below : List Frame} {meth : Method} {c : Code} {H : Heap} {locs : List Loc} {cells slots : Nat} {Q : State → Prop}
variable {cc : ByteArray} {pc : Nat} {ls : Array Slot} {rest : List Value} {x : Cx} {S : St} {a b : Nat}
theorem gaastO (hx : p.tables.exec = Jvm.exec) (hb : c.code = cc) (hw : ∀ w ∈ gG, w.before args s = true) (hK : GK x s) (hG : GH x S s H locs) (ha : isA S 12 a) (hv : gObj S b) {i : Int32} (hin : vp_in i (sN S a)) (hdg : decode cc pc = .ok (.aastore, 1))
    (kk : ∀ (S2 : St) (H1 : Heap) (locs1 : List Loc), S2 = pP S a i.toNatClampNeg (some b) → gle S S2 → GH x S2 s H1 locs1 → W p l e R s m args below meth c H1 locs1 cells slots Q (F0 m (pc + 1) ls rest)) : W p l e R s m args below meth c H locs cells slots Q (F0 m pc ls (.ref b :: .int i :: .ref a :: rest)) := by
  rcases hv with hv | hv | hv
  · exact gaast hx hb hw hK hG kd_D (gmm 1248 (w := Cond.castable "WaltzHall$Dance" "java/lang/Object") (by decide +kernel) (by decide +kernel)) ha hv rfl hin hdg kk
  · exact gaast hx hb hw hK hG kd_R (gmm 1255 (w := Cond.castable "WaltzHall$Dancer" "java/lang/Object") (by decide +kernel) (by decide +kernel)) ha hv rfl hin hdg kk
  · exact gaast hx hb hw hK hG kd_N (gmm 1256 (w := Cond.castable "WaltzHall$Winder" "java/lang/Object") (by decide +kernel) (by decide +kernel)) ha hv rfl hin hdg kk
/-- a text out of the static row of texts -/
theorem gfs (hx : p.tables.exec = Jvm.exec) (hb : c.code = cc) (hK : GK x s) (hG : GH x S s H locs) {i : Int32} (hin : vp_in i 8) (hdg : decode cc pc = .ok (.aaload, 1))
    (kk : W p l e R s m args below meth c H locs cells slots Q (F0 m (pc + 1) ls (.ref (xKa x (9 + i.toNatClampNeg)) :: rest))) : W p l e R s m args below meth c H locs cells slots Q (F0 m pc ls (.int i :: .ref (xFs x) :: rest)) := by
  obtain ⟨cell, h1, h2, h3, h4, h5, h6, h7⟩ := hK.2.2.2.2.2.2.1.2
  have hlt : i.toNatClampNeg < 8 := Nat.not_le.mp fun q => hin (Or.inr q)
  have hin' : ¬ (i < 0 ∨ cell.slots.size ≤ i.toNatClampNeg) := by
    intro q
    rcases q with q | q
    · exact hin (Or.inl q)
    · omega
  exact W.aald (v := .ref (xKa x (9 + i.toNatClampNeg))) (ty := .object "java/lang/String") hx hb (by rw [hG.2.2.1.2.1 _ (Array.getElem?_eq_some_iff.mp h1).1 h7]; exact h1) h2 rfl h3 hin' (by rw [h6 _ hlt]) rfl rfl hdg kk
end GP6
