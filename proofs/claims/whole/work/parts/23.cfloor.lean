/-! THE CLASS'S FLOOR -/
/-- a list: its object at tag L, its array at tag A, its elements (of kind k) at tag t -/
def LiS (S : St) (ad : Nat → Nat → Nat) (L A t k n : Nat) : Prop := isA S 0 (ad L 0) ∧ sI S 2 (ad L 0) = nI n ∧ n ≤ 8 ∧ (∀ i, i < n → isA S k (ad t i)) ∧
  (n = 0 ∧ sQ S 1 (ad L 0) = some (sX S) ∨ 0 < n ∧ sQ S 1 (ad L 0) = some (ad A 0) ∧ isA S 12 (ad A 0) ∧ sN S (ad A 0) = 10 ∧ ∀ i, i < n → sP S (ad A 0) i = some (ad t i))
/-- a floor with n dancers and m winders -/
def FL (S : St) (ad : Nat → Nat → Nat) (B n m : Nat) : Prop := isA S 3 (ad B 0) ∧ sQ S 21 (ad B 0) = some (ad (B + 1) 0) ∧ sQ S 22 (ad B 0) = some (ad (B + 3) 0) ∧ LiS S ad (B + 1) (B + 2) (B + 5) 2 n ∧ LiS S ad (B + 3) (B + 4) (B + 6) 5 m ∧
  (∀ j, j < m → sQ S 29 (ad (B + 6) j) = some (ad (B + 7) j) ∧ isA S 10 (ad (B + 7) j) ∧ sN S (ad (B + 7) j) = 8) ∧ ∀ i, i < n → sI S 6 (ad (B + 5) i) = nI i
/-- its dancers' dances and partners -/
def RF (S : St) (ad : Nat → Nat → Nat) (B n : Nat) (pt : Nat → Option Nat) (dn : Nat → Nat) : Prop := ∀ i, i < n → sQ S 12 (ad (B + 5) i) = some (ad 10 (dn i)) ∧ dn i < 8 ∧ sQ S 14 (ad (B + 5) i) = (pt i).map (ad (B + 5)) ∧ ∀ j, pt i = some j → j < n
/-- the eight dances -/
def DL (S : St) (ad : Nat → Nat → Nat) (dl : Nat → Nat) (df : Nat → Nat → Int32) : Prop := ∀ k, k < 8 → isA S 1 (ad 10 k) ∧ sI S 3 (ad 10 k) = nI k ∧ sI S 5 (ad 10 k) = nI (dl k) ∧ dl k ≤ 24 ∧ sQ S 4 (ad 10 k) = some (ad 11 k) ∧ isA S 9 (ad 11 k) ∧ sN S (ad 11 k) = 24 ∧ ∀ j, sR S (ad 11 k) j = df k j
def CF (S : St) (ad : Nat → Nat → Nat) (B n m : Nat) (pt : Nat → Option Nat) (dn dl : Nat → Nat) (df : Nat → Nat → Int32) : Prop := FL S ad B n m ∧ RF S ad B n pt dn ∧ DL S ad dl df
/-- int fields below 7 stay -/
def Ev (I I' : Nat → Nat → Int32) : Prop := ∀ f a, f < 7 → I' f a = I f a
theorem Ev.rf {I : Nat → Nat → Int32} : Ev I I := fun _ _ _ => rfl
theorem Ev.tr {I I' I'' : Nat → Nat → Int32} (h : Ev I I') (h2 : Ev I' I'') : Ev I I'' := fun f a hf => (h2 f a hf).trans (h f a hf)
theorem Ev.up {I I' : Nat → Nat → Int32} {f a : Nat} {v : Int32} (h : Ev I I') (hf : 7 ≤ f) : Ev I (up2 I' f a v) := fun f' a' hf' => by rw [up2_f (by omega)]; exact h f' a' hf'
section CFS
variable {S : St} {I I' R R' : Nat → Nat → Int32} {ad : Nat → Nat → Nat} {B n m L A t k : Nat} {pt : Nat → Option Nat} {dn dl : Nat → Nat} {df : Nat → Nat → Int32}
theorem LiS.ev (h : LiS (kS S I R) ad L A t k n) (e : Ev I I') : LiS (kS S I' R') ad L A t k n := ⟨h.1, (e 2 _ (by decide)).trans h.2.1, h.2.2⟩
theorem FL.ev (h : FL (kS S I R) ad B n m) (e : Ev I I') : FL (kS S I' R') ad B n m := ⟨h.1, h.2.1, h.2.2.1, h.2.2.2.1.ev e, h.2.2.2.2.1.ev e, h.2.2.2.2.2.1, fun i hi => (e 6 _ (by decide)).trans (h.2.2.2.2.2.2 i hi)⟩
theorem DL.ev (h : DL (kS S I R) ad dl df) (e : Ev I I') : DL (kS S I' R) ad dl df := fun k hk => ⟨(h k hk).1, (e 3 _ (by decide)).trans (h k hk).2.1, (e 5 _ (by decide)).trans (h k hk).2.2.1, (h k hk).2.2.2⟩
theorem CF.ev (h : CF (kS S I R) ad B n m pt dn dl df) (e : Ev I I') : CF (kS S I' R) ad B n m pt dn dl df := ⟨h.1.ev e, h.2.1, h.2.2.ev e⟩
end CFS
section CFL
variable {S : St} {ad : Nat → Nat → Nat} {B n m L A t k : Nat} {pt : Nat → Option Nat} {dn dl : Nat → Nat} {df : Nat → Nat → Int32}
theorem s_get {post : Option Nat → Prop} {i : Nat} (h : LiS S ad L A t k n) (hi : i < n) (hp : post (some (ad t i))) : w_AL_get post S (ad L 0) (nI i) := by
  obtain ⟨h1, h2, h3, h4, h5⟩ := h
  rcases h5 with ⟨h6, -⟩ | ⟨h0, h6, h7, h8, h9⟩
  · omega
  · unfold w_AL_get
    rw [e_checkIndex, h2]
    refine ⟨nI_pos (by omega), nI_lt hi (by omega), ?_⟩
    unfold w_AL_elementData
    simp only [forall_eq, h6, Option.some.injEq, exists_eq_left', h8, nI_clamp (show i < 2 ^ 31 by omega), h9 i hi]
    exact ⟨h7, vp_in_nI (by omega) (by decide), hp⟩
/-- what a place of a dance shows -/
def figO (dl : Nat → Nat) (df : Nat → Nat → Int32) (k : Nat) (p : Int32) : Int32 := if p < 0 then 119 else if nI (dl k) ≤ p then 119 else if 24 ≤ p then 119 else df k p.toNatClampNeg
theorem s_figureAt {post : Int32 → Prop} {p : Int32} (h : DL S ad dl df) (hk : k < 8) (hp : post (figO dl df k p)) : w_D_figureAt post S (ad 10 k) p := by
  obtain ⟨h1, h2, h3, h4, h5, h6, h7, h8⟩ := h k hk
  unfold figO at hp
  unfold w_D_figureAt
  by_cases c1 : p < 0
  · simp only [c1, if_true] at hp
    exact ⟨fun _ => hp, fun h => absurd c1 h⟩
  · simp only [c1, if_false] at hp
    refine ⟨fun h => absurd h c1, fun _ => ?_⟩
    rw [h3]
    by_cases c2 : nI (dl k) ≤ p
    · simp only [c2, if_true] at hp
      exact ⟨fun _ => hp, fun h => absurd c2 h⟩
    · simp only [c2, if_false] at hp
      refine ⟨fun h => absurd h c2, fun _ => ?_⟩
      simp only [forall_eq, h5, Option.some.injEq, exists_eq_left', h7, h6, true_and]
      have e24 : nI 24 = 24 := rfl
      rw [e24]
      by_cases c3 : 24 ≤ p
      · simp only [c3, if_true] at hp
        exact ⟨fun _ => hp, fun h => absurd c3 h⟩
      · simp only [c3, if_false] at hp
        refine ⟨fun h => absurd h c3, fun _ => ⟨?_, ?_⟩⟩
        · obtain ⟨j, hj, rfl⟩ := nI_of c1
          refine vp_in_nI ?_ (by decide)
          rw [← e24] at c3
          rcases Nat.lt_or_ge j 24 with q | q
          · exact q
          · exact absurd (nI_le q hj) c3
        · rw [h8]; exact hp
def nxtP (dl : Nat → Nat) (k : Nat) (p : Int32) : Int32 := if nI (dl k) ≤ p + 1 then 0 else p + 1
theorem s_placeBehind {post : Int32 → Prop} {p : Int32} (h : DL S ad dl df) (hk : k < 8) (hp : post (nxtP dl k p)) : w_D_placeBehind post S (ad 10 k) p := by
  unfold w_D_placeBehind
  rw [(h k hk).2.2.1, gite]
  unfold nxtP at hp
  exact (gap post).mp hp
end CFL
