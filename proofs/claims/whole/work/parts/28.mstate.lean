/-! THE REFERENCE'S STATE -/
def ptI (o : Option Nat) : Int32 := match o with
  | none => -1
  | some j => nI j
def mRow (f : Nat) : Prop := f = 7 ∨ f = 8 ∨ f = 9 ∨ f = 10 ∨ f = 11 ∨ f = 12 ∨ f = 13 ∨ f = 14 ∨ f = 15 ∨ f = 16 ∨ f = 17 ∨ f = 18 ∨ f = 20 ∨ f = 21
def mInt (f : Nat) : Prop := f = 7 ∨ f = 8 ∨ f = 9 ∨ f = 10 ∨ f = 11 ∨ f = 13 ∨ f = 15 ∨ f = 16 ∨ f = 17 ∨ f = 18
def mKind (f : Nat) : Nat := if f = 15 then 11 else 10
def mLen (f : Nat) : Nat := if f = 20 then 18 else if f = 21 then 24 else 8
def wFld (q : Nat) : Nat := ([26, 27, 28, 30, 31, 32] : List Nat).getD q 0
/-- the state at tag B of the reference at tag H: its rows -/
def ML (S : St) (ad : Nat → Nat → Nat) (B H : Nat) : Prop := isA S 7 (ad B 0) ∧ sQ S 55 (ad B 0) = some (ad H 0) ∧ isA S 8 (ad H 0) ∧
  (∀ f, mRow f → sQ S (f + 33) (ad B 0) = some (ad (B + f) 0) ∧ isA S (mKind f) (ad (B + f) 0) ∧ sN S (ad (B + f) 0) = mLen f) ∧
  (sQ S 59 (ad H 0) = some (ad (H + 1) 0) ∧ isA S 10 (ad (H + 1) 0) ∧ sN S (ad (H + 1) 0) = 192) ∧ (sQ S 60 (ad H 0) = some (ad (H + 2) 0) ∧ isA S 10 (ad (H + 2) 0) ∧ sN S (ad (H + 2) 0) = 8)
/-- the reference's dances -/
def MD (R : Nat → Nat → Int32) (ad : Nat → Nat → Nat) (H : Nat) (dl : Nat → Nat) (df : Nat → Nat → Int32) : Prop := ∀ k, k < 8 → R (ad (H + 2) 0) k = nI (dl k) ∧ 1 ≤ dl k ∧ dl k ≤ 24 ∧ ∀ j, j < dl k → R (ad (H + 1) 0) (24 * k + j) = df k j
/-- what a beat leaves alone -/
def MC (S : St) (I R : Nat → Nat → Int32) (ad : Nat → Nat → Nat) (B H n m : Nat) (pt : Nat → Option Nat) (dn dl : Nat → Nat) (df rd : Nat → Nat → Int32) : Prop := ML S ad B H ∧ n ≤ 8 ∧ m ≤ 3 ∧ I 39 (ad B 0) = nI n ∧ I 52 (ad B 0) = nI m ∧
  (∀ i, R (ad (B + 14) 0) i = (if i < n then ptI (pt i) else 0) ∧ R (ad (B + 12) 0) i = (if i < n then nI (dn i) else 0)) ∧ (∀ i, i < n → dn i < 8) ∧ (∀ j p, j < 3 → p < 8 → R (ad (B + 21) 0) (8 * j + p) = rd j p) ∧ MD R ad H dl df
/-- R has come from R0 by changes in the state at B alone -/
def Mk (ad : Nat → Nat → Nat) (B m : Nat) (R0 R g wg : Nat → Nat → Int32) : Prop := (∀ a, (∀ f, mInt f → a ≠ ad (B + f) 0) → a ≠ ad (B + 20) 0 → R a = R0 a) ∧ (∀ f i, mInt f → R (ad (B + f) 0) i = g f i) ∧
  (∀ j q, j < m → q < 6 → R (ad (B + 20) 0) (6 * j + q) = wg (wFld q) j)
theorem row_f {R : Nat → Nat → Int32} {a b i j : Nat} {v : Int32} (h : b ≠ a) : up2 R a j v b = R b := by
  funext q
  simp [up2, h]
def restF (g : Nat → Nat → Int32) (o : Option Nat) : Int32 := match o with
  | none => 0
  | some u => if canF g u = 0 then 1 else 0
section MKS
variable {S : St} {ad : Nat → Nat → Nat} {B H n m : Nat} {I R0 R g wg rd : Nat → Nat → Int32} {pt : Nat → Option Nat} {dn dl : Nat → Nat} {df : Nat → Nat → Int32} {d : Nat}
theorem Mk.up {f : Nat} {v : Int32} (hj : Inj ad) (h : Mk ad B m R0 R g wg) (hf : mInt f) : Mk ad B m R0 (up2 R (ad (B + f) 0) d v) (up2 g f d v) wg := by
  obtain ⟨h1, h2, h3⟩ := h
  have h20 : f ≠ 20 := by unfold mInt at hf; omega
  refine ⟨fun a k1 k2 => ?_, fun f' i hf' => ?_, fun j q k1 k2 => ?_⟩
  · rw [row_f (i := 0) (k1 f hf)]; exact h1 a k1 k2
  · simp only [up2, hj.iff, and_true, Nat.add_left_cancel_iff, h2 f' i hf']
  · rw [row_f (i := 0) (fun e => h20 (by have := (hj _ _ _ _ e).1; omega))]; exact h3 j q k1 k2
theorem Mk.cg {g' : Nat → Nat → Int32} (h : Mk ad B m R0 R g wg) (e : ∀ f i, mInt f → g f i = g' f i) : Mk ad B m R0 R g' wg := ⟨h.1, fun f i hf => (h.2.1 f i hf).trans (e f i hf), h.2.2⟩
theorem Mk.vw (h : Mk ad B m R0 R g wg) {f i : Nat} (hf : mInt f) : R (ad (B + f) 0) i = g f i := h.2.1 f i hf
theorem Mk.st (hj : Inj ad) (h : Mk ad B m R0 R g wg) {f : Nat} (hf : f = 12 ∨ f = 14 ∨ f = 21) : R (ad (B + f) 0) = R0 (ad (B + f) 0) := h.1 _ (fun f' hf' e => by have := (hj _ _ _ _ e).1; unfold mInt at hf'; omega) (fun e => by have := (hj _ _ _ _ e).1; omega)
theorem Mk.far (h : Mk ad B m R0 R g wg) (hj : Inj ad) {t : Nat} (ht : t < B + 7 ∨ B + 21 ≤ t) {i : Nat} : R (ad t i) = R0 (ad t i) := h.1 _ (fun f' hf' e => by have := (hj _ _ _ _ e).1; unfold mInt at hf'; omega) (fun e => by have := (hj _ _ _ _ e).1; omega)
theorem mLen_int {f : Nat} (hf : mInt f) : mLen f = 8 := by unfold mInt at hf; unfold mLen; rw [if_neg (by omega), if_neg (by omega)]
theorem mInt_row {f : Nat} (hf : mInt f) : mRow f := by unfold mInt at hf; unfold mRow; omega
theorem s_isTired {post : Int32 → Prop} (hC : MC S I R0 ad B H n m pt dn dl df rd) (hM : Mk ad B m R0 R g wg) (hd : d < n) (hp : post (spF (g 10 d) (g 11 d))) : w_S_isTired post (kS S I R) (ad B 0) (nI d) := by
  have hn := hC.2.1
  obtain ⟨a1, a2, a3⟩ := hC.1.2.2.2.1 10 (by unfold mRow; omega)
  obtain ⟨b1, b2, b3⟩ := hC.1.2.2.2.1 11 (by unfold mRow; omega)
  have a1 : sQ S 43 (ad B 0) = some (ad (B + 10) 0) := a1
  have b1 : sQ S 44 (ad B 0) = some (ad (B + 11) 0) := b1
  have a3 : sN S (ad (B + 10) 0) = 8 := a3
  have b3 : sN S (ad (B + 11) 0) = 8 := b3
  unfold w_S_isTired
  simp only [forall_eq, kS_Q, kS_A, kS_N, kS_R, a1, b1, a3, b3, Option.some.injEq, exists_eq_left', nI_clamp (show d < 2 ^ 31 by omega), hM.vw (show mInt 10 by unfold mInt; omega), hM.vw (show mInt 11 by unfold mInt; omega)]
  unfold spF at hp
  exact ⟨a2, vp_in_nI (by omega) (by decide), b2, vp_in_nI (by omega) (by decide), fun h => by rw [if_pos h] at hp; exact hp, fun h => by rw [if_neg h] at hp; exact hp⟩
theorem s_isResting {post : Int32 → Prop} {o : Option Nat} (hC : MC S I R0 ad B H n m pt dn dl df rd) (hM : Mk ad B m R0 R g wg) (ho : ∀ u, o = some u → u < n ∧ ∃ z : Nat, z ≤ 3 ∧ g 16 u = nI z) (hp : post (restF g o)) : w_S_isResting post (kS S I R) (ad B 0) (ptI o) := by
  have hn := hC.2.1
  obtain ⟨a1, a2, a3⟩ := hC.1.2.2.2.1 16 (by unfold mRow; omega)
  have a1 : sQ S 49 (ad B 0) = some (ad (B + 16) 0) := a1
  have a3 : sN S (ad (B + 16) 0) = 8 := a3
  unfold w_S_isResting
  cases o with
  | none => exact ⟨fun _ => hp, fun h => absurd rfl h⟩
  | some u =>
    obtain ⟨hu, z, hz, ez⟩ := ho u rfl
    have hp : post (if canF g u = 0 then 1 else 0) := hp
    have e1 : ptI (some u) = nI u := rfl
    have hne : ¬ nI u = -1 := fun e => by
      have h1 := nI_pos (n := u) (by omega)
      rw [e] at h1; exact h1 (by decide)
    rw [e1]
    refine ⟨fun h => absurd h hne, fun _ => ?_⟩
    simp only [forall_eq, kS_Q, kS_A, kS_N, kS_R, a1, a3, Option.some.injEq, exists_eq_left', nI_clamp (show u < 2 ^ 31 by omega), hM.vw (show mInt 16 by unfold mInt; omega)]
    refine ⟨a2, vp_in_nI (by omega) (by decide), fun h => ?_, fun h => ?_⟩
    · have hc : canF g u = 0 := by
        unfold canF
        rw [if_neg]
        intro e; rw [e] at h; exact absurd h (by decide)
      simp only [hc, if_true] at hp
      exact hp
    · have h0 : g 16 u = 0 := by
        rw [ez] at h ⊢
        rcases Nat.eq_zero_or_pos z with q | q
        · rw [q]; rfl
        · exact absurd (nI_lt q (by omega)) h
      have hc : canF g u = if spF (g 10 u) (g 11 u) = 0 then 1 else 0 := by unfold canF; rw [if_pos h0]
      refine s_isTired hC hM hu ⟨fun h1 => ?_, fun h1 => ?_⟩
      · rw [if_pos h1] at hc
        have : ¬ canF g u = 0 := by rw [hc]; decide
        simp only [this, if_false] at hp
        exact hp
      · rw [if_neg h1] at hc
        simp only [hc, if_true] at hp
        exact hp
theorem s_hit {post : St → Prop} (hj : Inj ad) (hC : MC S I R0 ad B H n m pt dn dl df rd) (hM : Mk ad B m R0 R g wg) (hd : d < n) (hp : ∀ R', Mk ad B m R0 R' (stg g d) wg → post (kS S I R')) : w_S_hit post (kS S I R) (ad B 0) (nI d) := by
  have hn := hC.2.1
  obtain ⟨a1, a2, a3⟩ := hC.1.2.2.2.1 16 (by unfold mRow; omega)
  obtain ⟨b1, b2, b3⟩ := hC.1.2.2.2.1 18 (by unfold mRow; omega)
  have a1 : sQ S 49 (ad B 0) = some (ad (B + 16) 0) := a1
  have b1 : sQ S 51 (ad B 0) = some (ad (B + 18) 0) := b1
  have a3 : sN S (ad (B + 16) 0) = 8 := a3
  have b3 : sN S (ad (B + 18) 0) = 8 := b3
  have h1 := hM.up (f := 16) (d := d) (v := 3) hj (by unfold mInt; omega)
  unfold w_S_hit
  simp only [forall_eq, kS_Q, kS_A, kS_N, kS_R, kS_pR, a1, b1, a3, b3, Option.some.injEq, exists_eq_left', nI_clamp (show d < 2 ^ 31 by omega), h1.vw (show mInt 18 by unfold mInt; omega)]
  exact ⟨a2, vp_in_nI (by omega) (by decide), b2, vp_in_nI (by omega) (by decide), vp_in_nI (by omega) (by decide), hp _ (h1.up hj (by unfold mInt; omega))⟩
theorem s_at {post : Int32 → Prop} {x y : Int32} (hC : MC S I R0 ad B H n m pt dn dl df rd) (hM : Mk ad B m R0 R g wg) (hdis : ∀ i j, i < n → j < n → g 7 i = g 7 j → g 8 i = g 8 j → i = j) (hp : post (ptI (whoF n g x y))) : w_S_at post (kS S I R) (ad B 0) x y := by
  have hn := hC.2.1
  obtain ⟨a1, a2, a3⟩ := hC.1.2.2.2.1 7 (by unfold mRow; omega)
  obtain ⟨b1, b2, b3⟩ := hC.1.2.2.2.1 8 (by unfold mRow; omega)
  have a1 : sQ S 40 (ad B 0) = some (ad (B + 7) 0) := a1
  have b1 : sQ S 41 (ad B 0) = some (ad (B + 8) 0) := b1
  have a3 : sN S (ad (B + 7) 0) = 8 := a3
  have b3 : sN S (ad (B + 8) 0) = 8 := b3
  have i39 := hC.2.2.2.1
  unfold w_S_at
  refine ⟨fun k v3 v => ∃ i, v = nI i ∧ k = n - i ∧ i ≤ n ∧ v3 = ptI (fst' (fun i => g 7 i = x ∧ g 8 i = y) i), ⟨n, 0, rfl, rfl, Nat.zero_le _, rfl⟩, ?_⟩
  rintro k v3 v ⟨i, rfl, rfl, hi, rfl⟩
  simp only [forall_eq, kS_Q, kS_A, kS_N, kS_R, kS_I, i39, a1, b1, a3, b3, Option.some.injEq, exists_eq_left', nI_clamp (show i < 2 ^ 31 by omega), hM.vw (show mInt 7 by unfold mInt; omega), hM.vw (show mInt 8 by unfold mInt; omega)]
  refine ⟨fun hc => ?_, fun hc => ?_⟩
  · have hi2 : i = n := by
      have := (nI_leI (by omega) (by omega)).mp hc
      omega
    subst hi2
    exact hp
  · have hlt : i < n := Nat.not_le.mp fun q => hc ((nI_leI (by omega) (by omega)).mpr q)
    have hno : ¬ (g 7 i = x ∧ g 8 i = y) → ptI (fst' (fun i => g 7 i = x ∧ g 8 i = y) i) = ptI (fst' (fun i => g 7 i = x ∧ g 8 i = y) (i + 1)) := by
      intro h
      rw [fst']
      cases hf : fst' (fun i => g 7 i = x ∧ g 8 i = y) i with
      | none => simp only [h, if_false]
      | some u => rfl
    refine ⟨a2, vp_in_nI (by omega) (by decide), fun v => v = ptI (fst' (fun i => g 7 i = x ∧ g 8 i = y) (i + 1)), ?_, fun h7 => ⟨b2, vp_in_nI (by omega) (by decide), fun h8 => ?_, fun h8 => ?_⟩, fun h7 => ?_⟩
    · rintro v rfl
      exact ⟨n - (i + 1), by omega, i + 1, nI_1 i, rfl, hlt, rfl⟩
    · have : fst' (fun i => g 7 i = x ∧ g 8 i = y) (i + 1) = some i := by
        refine fst_some.mpr ⟨by omega, ⟨h7, h8⟩, fun j hj hz => ?_⟩
        have := hdis j i (by omega) hlt (hz.1.trans h7.symm) (hz.2.trans h8.symm)
        omega
      rw [this]
      rfl
    · exact hno (fun z => h8 z.2)
    · exact hno (fun z => h7 z.1)
end MKS
