/-! THE PURE PART. The pool with its int fields and rows told apart; addresses by roles -/
def kS (S : St) (I R : Nat → Nat → Int32) : St := mS (sL S) (sK S) (sN S) I (sQ S) R (sP S) (sJ S) (sX S)
section KS
variable {S : St} {I R : Nat → Nat → Int32} {f a j k n : Nat} {v : Int32}
theorem kS_self : kS S (sI S) (sR S) = S := rfl
theorem kS_pI : pI (kS S I R) f a v = kS S (up2 I f a v) R := rfl
theorem kS_pR : pR (kS S I R) a j v = kS S I (up2 R a j v) := rfl
theorem kS_pRow {F : Nat → Int32} : pRow (kS S I R) a F = kS S I (va_up R a F) := rfl
theorem kS_I : sI (kS S I R) = I := rfl
theorem kS_R : sR (kS S I R) = R := rfl
theorem kS_Q : sQ (kS S I R) = sQ S := rfl
theorem kS_N : sN (kS S I R) = sN S := rfl
theorem kS_P : sP (kS S I R) = sP S := rfl
theorem kS_J : sJ (kS S I R) = sJ S := rfl
theorem kS_L : sL (kS S I R) = sL S := rfl
theorem kS_X : sX (kS S I R) = sX S := rfl
theorem kS_A : isA (kS S I R) k a ↔ isA S k a := Iff.rfl
end KS
/-- an injective naming of addresses by tag and number -/
def Inj (ad : Nat → Nat → Nat) : Prop := ∀ t i t' i', ad t i = ad t' i' → t = t' ∧ i = i'
theorem Inj.iff {ad : Nat → Nat → Nat} (h : Inj ad) {t i t' i' : Nat} : ad t i = ad t' i' ↔ t = t' ∧ i = i' := ⟨h t i t' i', fun e => by rw [e.1, e.2]⟩
theorem gite {c p q : Prop} [Decidable c] : ((c → p) ∧ (¬ c → q)) ↔ (if c then p else q) := by
  by_cases h : c <;> simp [h]
theorem gap {α : Type} (post : α → Prop) {c : Prop} [Decidable c] {x y : α} : post (if c then x else y) ↔ (if c then post x else post y) := by
  by_cases h : c <;> simp [h]
theorem gdn (c : Prop) [Decidable c] {p q : Prop} : ((c → p) ∧ (¬ c → q)) ↔ (if c then p else q) := gite
/-! what the small methods answer -/
def walkF (a : Int32) : Int32 := if a = 102 then 1 else if a = 114 then 1 else if a = 98 then 1 else if a = 108 then 1 else 0
def turnF (a : Int32) : Int32 := if a = 116 then 1 else if a = 117 then -1 else 0
def figF (a : Int32) : Int32 := if walkF a = 0 then (if turnF a = 0 then (if a = 115 then 1 else if a = 119 then 1 else 0) else 1) else 1
def colF (a : Int32) : Int32 := if a = 1 then 1 else if a = 3 then -1 else 0
def rowF (a : Int32) : Int32 := if a = 0 then -1 else if a = 2 then 1 else 0
def wayF (a : Int32) : Int32 := if a = 98 then 2 else if a = 108 then 3 else if a = 114 then 1 else 0
def onF (x y : Int32) : Int32 := if x < 0 then 0 else if 16 ≤ x then 0 else if y < 0 then 0 else if 16 ≤ y then 0 else 1
def absF (x : Int32) : Int32 := if 0 ≤ x then x else 0 - x
def dsF (x y x2 y2 : Int32) : Int32 := absF (x - x2) + absF (y - y2)
def fmF (a : Int32) : Int32 := if 0 ≤ (a ^^^ 4) then a - a / 4 * 4 else if a - a / 4 * 4 = 0 then a - a / 4 * 4 else a - a / 4 * 4 + 4
def rtsF (x y f : Int32) : Int32 := if f = 0 then (if x = 0 then (if y = 0 then 1 else -1) else -1) else if f = 2 then 2 else 4
def minF (a b : Int32) : Int32 := if b < a then b else a
def maxF (a b : Int32) : Int32 := if a < b then b else a
section LF
variable {post : Int32 → Prop} {S : St} {a b x y x2 y2 : Int32}
theorem e_isWalk : w_H_isWalk post S a ↔ post (walkF a) := by simp only [w_H_isWalk, walkF, gite, gap post]
theorem e_turnOf : w_H_quartersTurnedBy post S a ↔ post (turnF a) := by simp only [w_H_quartersTurnedBy, turnF, gite, gap post]
theorem e_isFigure : w_H_isFigure post S a ↔ post (figF a) := by simp only [w_H_isFigure, e_isWalk, e_turnOf, figF, gite, gap post]
theorem e_columnStep : w_H_columnStep post S a ↔ post (colF a) := by simp only [w_H_columnStep, colF, gite, gap post]
theorem e_rowStep : w_H_rowStep post S a ↔ post (rowF a) := by simp only [w_H_rowStep, rowF, gite, gap post]
theorem e_wayOf : w_H_quartersToWayOf post S a ↔ post (wayF a) := by
  simp only [w_H_quartersToWayOf, wayF, gap post]
  by_cases h1 : a = 98
  · subst h1; simp
  · by_cases h2 : a = 108
    · subst h2; simp
    · by_cases h3 : a = 114
      · subst h3; simp
      · simp [h1, h2, h3]
theorem e_isOnFloor : w_H_isOnFloor post S x y ↔ post (onF x y) := by simp only [w_H_isOnFloor, onF, gite, gap post]
theorem e_distance : w_H_distance post S x y x2 y2 ↔ post (dsF x y x2 y2) := by simp only [w_H_distance, dsF, absF, forall_eq]
theorem e_floorMod : w_MA_floorMod post S a 4 ↔ post (fmF a) := by
  simp only [w_MA_floorMod, fmF, forall_eq, gite, gap post]
  exact ⟨fun h => h.2, fun h => ⟨by decide, h⟩⟩
theorem e_turned : w_H_turned post S a b ↔ post (fmF (a + b)) := by simp only [w_H_turned, e_floorMod]
theorem e_roundsToStart : w_D_roundsToStart post S x y a ↔ post (rtsF x y a) := by simp only [w_D_roundsToStart, rtsF, gite, gap post]
theorem e_size {c : Nat} : w_AL_size post S c ↔ post (sI S 2 c) := Iff.rfl
theorem e_checkIndex : w_OB_checkIndex post S a b ↔ (¬ a < 0 ∧ a < b ∧ post a) := by
  unfold w_OB_checkIndex w_PC_checkIndex
  constructor
  · rintro ⟨J, h1, h2, h3⟩
    have h0 : ¬ a < 0 := fun h => h1 (h2 h)
    have h4 := h3 h0
    have h5 : a < b := Classical.byContradiction fun h => h1 (h4.2 h)
    exact ⟨h0, h5, h4.1 h5⟩
  · rintro ⟨h1, h2, h3⟩
    exact ⟨False, id, h1, fun _ => ⟨fun _ => h3, fun h => h h2⟩⟩
end LF
/-- the first i below n with P -/
def fst' (P : Nat → Prop) [DecidablePred P] : Nat → Option Nat
  | 0 => none
  | n + 1 => match fst' P n with
    | some i => some i
    | none => if P n then some n else none
theorem fst_none {P : Nat → Prop} [DecidablePred P] {n : Nat} : fst' P n = none ↔ ∀ j, j < n → ¬ P j := by
  induction n with
  | zero => simp [fst']
  | succ n ih =>
    unfold fst'
    cases h : fst' P n with
    | some i =>
      simp only [reduceCtorEq, false_iff]
      intro h2
      have := ih.mpr (fun j hj => h2 j (by omega))
      rw [h] at this
      cases this
    | none =>
      have h1 := ih.mp h
      by_cases h3 : P n
      · simp only [h3, if_true, reduceCtorEq, false_iff]
        exact fun h2 => h2 n (by omega) h3
      · simp only [h3, if_false, true_iff]
        intro j hj
        rcases Nat.lt_or_ge j n with q | q
        · exact h1 j q
        · rw [show j = n by omega]; exact h3
theorem fst_some {P : Nat → Prop} [DecidablePred P] {n i : Nat} : fst' P n = some i ↔ i < n ∧ P i ∧ ∀ j, j < i → ¬ P j := by
  induction n with
  | zero => simp [fst']
  | succ n ih =>
    unfold fst'
    cases h : fst' P n with
    | some k =>
      rw [h] at ih
      simp only [Option.some.injEq] at ih ⊢
      constructor
      · intro e; have := ih.mp e; exact ⟨by omega, this.2⟩
      · rintro ⟨h1, h2, h3⟩
        rcases Nat.lt_or_ge i n with q | q
        · exact ih.mpr ⟨q, h2, h3⟩
        · have hk : k < n ∧ P k := by
            have : ∀ j, j < n → ¬ P j := fun j hj => h3 j (by omega)
            have h5 := fst_none.mpr this
            rw [h] at h5; cases h5
          exact absurd hk.2 (h3 k (by omega))
    | none =>
      have h1 := fst_none.mp h
      by_cases h3 : P n
      · simp only [h3, if_true, Option.some.injEq]
        constructor
        · rintro rfl; exact ⟨by omega, h3, h1⟩
        · rintro ⟨q1, q2, q3⟩
          rcases Nat.lt_or_ge i n with q | q
          · exact absurd q2 (h1 i q)
          · omega
      · simp only [h3, if_false, reduceCtorEq, false_iff]
        rintro ⟨q1, q2, q3⟩
        rcases Nat.lt_or_ge i n with q | q
        · exact h1 i q q2
        · exact h3 (by rw [show n = i by omega]; exact q2)
def fld {α : Type} (f : α → Nat → α) (a : α) : Nat → α
  | 0 => a
  | n + 1 => f (fld f a n) n
/-! ints that count -/
theorem n0 : (0 : Int32) = nI 0 := rfl
theorem nI_le_iff {a b : Nat} (ha : a < 2 ^ 31) (hb : b < 2 ^ 31) : nI a ≤ nI b ↔ a ≤ b := nI_leI ha hb
theorem up2_at {α : Type} {f : Nat → Nat → α} {i j : Nat} {v : α} : up2 f i j v i j = v := by simp [up2]
theorem up2_f {α : Type} {f : Nat → Nat → α} {i j i' j' : Nat} {v : α} (h : i' ≠ i) : up2 f i j v i' j' = f i' j' := by simp [up2, h]
theorem up2_a {α : Type} {f : Nat → Nat → α} {i j i' j' : Nat} {v : α} (h : j' ≠ j) : up2 f i j v i' j' = f i' j' := by simp [up2, h]
