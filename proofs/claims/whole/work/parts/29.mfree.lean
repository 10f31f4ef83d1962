def inF (v a b : Int32) : Int32 := if v < a then 0 else if b < v then 0 else 1
theorem e_isIn {post : Int32 → Prop} {S : St} {v a b : Int32} : w_M_isIn post S v a b ↔ post (inF v a b) := by simp only [w_M_isIn, inF, gite, gap post]
theorem lt16 (x : Int32) : 15 < x ↔ 16 ≤ x := by
  rw [Int32.lt_iff_toInt_lt, Int32.le_iff_toInt_le]
  have h1 : (15 : Int32).toInt = 15 := rfl
  have h2 : (16 : Int32).toInt = 16 := rfl
  omega
theorem onF_in {x y : Int32} : onF x y = if inF x 0 15 = 0 then 0 else if inF y 0 15 = 0 then 0 else 1 := by
  unfold onF inF
  simp only [lt16]
  by_cases h1 : x < 0 <;> by_cases h2 : 16 ≤ x <;> by_cases h3 : y < 0 <;> by_cases h4 : 16 ≤ y <;> simp [h1, h2, h3, h4]
def inwM (n : Nat) (g : Nat → Nat → Int32) (x y : Int32) (d : Nat) (o : Option Nat) : Option Nat := match whoF n g x y with
  | none => none
  | some u => if u = d ∨ o = some u then none else some u
def isN (o : Option Nat) : Int32 := match o with
  | none => 1
  | some _ => 0
def frF (n : Nat) (g : Nat → Nat → Int32) (x y : Int32) (d : Nat) (o : Option Nat) : Int32 := if onF x y = 0 then 0 else isN (inwM n g x y d o)
theorem ptI_eq {o : Option Nat} {u : Nat} (ho : ∀ j, o = some j → j < 2 ^ 31) (hu : u < 2 ^ 31) : nI u = ptI o ↔ o = some u := by
  cases o with
  | none =>
    refine ⟨fun e => ?_, fun e => by cases e⟩
    have h1 := nI_pos hu
    rw [e] at h1
    exact absurd (show ptI none < 0 by decide) h1
  | some j =>
    show nI u = nI j ↔ _
    rw [nI_eq hu (ho j rfl), Option.some.injEq]
    exact ⟨fun e => e.symm, fun e => e.symm⟩
theorem ptI_none {o : Option Nat} (ho : ∀ j, o = some j → j < 2 ^ 31) : ptI o = -1 ↔ o = none := by
  cases o with
  | none => exact ⟨fun _ => rfl, fun _ => rfl⟩
  | some j =>
    refine ⟨fun e => ?_, fun e => by cases e⟩
    have h1 := nI_pos (ho j rfl)
    rw [show nI j = -1 from e] at h1
    exact absurd (show (-1 : Int32) < 0 by decide) h1
section MFR
variable {S : St} {ad : Nat → Nat → Nat} {B H n m : Nat} {I R0 R g wg rd : Nat → Nat → Int32} {pt : Nat → Option Nat} {dn dl : Nat → Nat} {df : Nat → Nat → Int32} {d : Nat} {o : Option Nat} {x y : Int32}
theorem s_isFree {post : Int32 → Prop} (hC : MC S I R0 ad B H n m pt dn dl df rd) (hM : Mk ad B m R0 R g wg) (hdis : ∀ i j, i < n → j < n → g 7 i = g 7 j → g 8 i = g 8 j → i = j) (hd : d < n) (ho : ∀ j, o = some j → j < n) (hp : post (frF n g x y d o)) : w_S_isFree post (kS S I R) (ad B 0) x y (nI d) (ptI o) := by
  have hn := hC.2.1
  unfold w_S_isFree
  refine s_at hC hM hdis ?_
  simp only [e_isIn]
  unfold frF inwM at hp
  rw [onF_in] at hp
  refine ⟨fun h => ?_, fun h => ⟨fun h2 => ?_, fun h2 => ?_⟩⟩
  · rw [if_pos h, if_pos rfl] at hp; exact hp
  · rw [if_neg h, if_pos h2, if_pos rfl] at hp; exact hp
  · rw [if_neg h, if_neg h2, if_neg (by decide)] at hp
    cases hw : whoF n g x y with
    | none =>
      rw [hw] at hp
      exact ⟨fun _ => hp, fun h => absurd rfl h⟩
    | some u =>
      have hu := whoF_lt hw
      rw [hw] at hp
      dsimp only at hp
      refine ⟨fun h => ?_, fun _ => ⟨fun h => ?_, fun h => ⟨fun h3 => ?_, fun h3 => ?_⟩⟩⟩
      · have := (ptI_none (o := some u) (fun j hj => by cases hj; omega)).mp h
        cases this
      · have : u = d := (nI_eq (by omega) (by omega)).mp h
        rw [if_pos (Or.inl this)] at hp
        exact hp
      · have := (ptI_eq (fun j hj => by have := ho j hj; omega) (show u < 2 ^ 31 by omega)).mp h3
        rw [if_pos (Or.inr this)] at hp
        exact hp
      · rw [if_neg (fun q => q.elim (fun q => h (by rw [q]; rfl)) (fun q => h3 ((ptI_eq (fun j hj => by have := ho j hj; omega) (show u < 2 ^ 31 by omega)).mpr q)))] at hp
        exact hp
theorem s_bumpM {post : St → Prop} (hj : Inj ad) (hC : MC S I R0 ad B H n m pt dn dl df rd) (hM : Mk ad B m R0 R g wg) (hdis : ∀ i j, i < n → j < n → g 7 i = g 7 j → g 8 i = g 8 j → i = j) (hd : d < n) (ho : ∀ j, o = some j → j < n) (hp : ∀ R', Mk ad B m R0 R' (stgO g (inwM n g x y d o)) wg → post (kS S I R')) : w_S_bump post (kS S I R) (ad B 0) x y (nI d) (ptI o) := by
  have hn := hC.2.1
  unfold w_S_bump
  refine s_at hC hM hdis ?_
  unfold inwM at hp
  cases hw : whoF n g x y with
  | none =>
    rw [hw] at hp
    exact ⟨fun _ => hp R hM, fun h => absurd rfl h⟩
  | some u =>
    have hu := whoF_lt hw
    rw [hw] at hp
    dsimp only at hp
    refine ⟨fun h => ?_, fun _ => ⟨fun h => ?_, fun h => ⟨fun h3 => ?_, fun h3 => ?_⟩⟩⟩
    · have := (ptI_none (o := some u) (fun j hj => by cases hj; omega)).mp h
      cases this
    · have : u = d := (nI_eq (by omega) (by omega)).mp h
      rw [if_pos (Or.inl this)] at hp
      exact hp R hM
    · have := (ptI_eq (fun j hj => by have := ho j hj; omega) (show u < 2 ^ 31 by omega)).mp h3
      rw [if_pos (Or.inr this)] at hp
      exact hp R hM
    · rw [if_neg (fun q => q.elim (fun q => h (by rw [q]; rfl)) (fun q => h3 ((ptI_eq (fun j hj => by have := ho j hj; omega) (show u < 2 ^ 31 by omega)).mpr q)))] at hp
      exact s_hit hj hC hM hu hp
def rm4 (a : Int32) : Int32 := a - a / 4 * 4
theorem s_finish {post : St → Prop} {q q2 : Int32} (hj : Inj ad) (hC : MC S I R0 ad B H n m pt dn dl df rd) (hM : Mk ad B m R0 R g wg) (hd : d < n) (hx : x = g 19 d) (hy : y = g 20 d) (hq : rm4 (g 9 d + q) = fmF (g 9 d + q2)) (hp : ∀ R', Mk ad B m R0 R' (goT g d q2) wg → post (kS S I R')) : w_S_finish post (kS S I R) (ad B 0) (nI d) x y q := by
  have hn := hC.2.1
  subst hx hy
  obtain ⟨a1, a2, a3⟩ := hC.1.2.2.2.1 7 (by unfold mRow; omega)
  obtain ⟨b1, b2, b3⟩ := hC.1.2.2.2.1 8 (by unfold mRow; omega)
  obtain ⟨c1, c2, c3⟩ := hC.1.2.2.2.1 9 (by unfold mRow; omega)
  obtain ⟨d1, d2, d3⟩ := hC.1.2.2.2.1 10 (by unfold mRow; omega)
  obtain ⟨e1, e2, e3⟩ := hC.1.2.2.2.1 11 (by unfold mRow; omega)
  obtain ⟨f1, f2, f3⟩ := hC.1.2.2.2.1 17 (by unfold mRow; omega)
  have a1 : sQ S 40 (ad B 0) = some (ad (B + 7) 0) := a1
  have b1 : sQ S 41 (ad B 0) = some (ad (B + 8) 0) := b1
  have c1 : sQ S 42 (ad B 0) = some (ad (B + 9) 0) := c1
  have d1 : sQ S 43 (ad B 0) = some (ad (B + 10) 0) := d1
  have e1 : sQ S 44 (ad B 0) = some (ad (B + 11) 0) := e1
  have f1 : sQ S 50 (ad B 0) = some (ad (B + 17) 0) := f1
  have a3 : sN S (ad (B + 7) 0) = 8 := a3
  have b3 : sN S (ad (B + 8) 0) = 8 := b3
  have c3 : sN S (ad (B + 9) 0) = 8 := c3
  have d3 : sN S (ad (B + 10) 0) = 8 := d3
  have e3 : sN S (ad (B + 11) 0) = 8 := e3
  have f3 : sN S (ad (B + 17) 0) = 8 := f3
  have hin : vp_in (nI d) 8 := vp_in_nI (by omega) (by decide)
  have h1 := hM.up (f := 7) (d := d) (v := g 19 d) hj (by unfold mInt; omega)
  have h2 := h1.up (f := 8) (d := d) (v := g 20 d) hj (by unfold mInt; omega)
  have h3 := h2.up (f := 9) (d := d) (v := fmF (g 9 d + q2)) hj (by unfold mInt; omega)
  have h4 := h3.up (f := 10) (d := d) (v := g 10 d - g 11 d) hj (by unfold mInt; omega)
  have h5 := h4.up (f := 17) (d := d) (v := g 17 d + 1) hj (by unfold mInt; omega)
  unfold w_S_finish
  simp only [forall_eq, kS_Q, kS_A, kS_N, kS_R, kS_pR, a1, b1, c1, d1, e1, f1, a3, b3, c3, d3, e3, f3, Option.some.injEq, exists_eq_left', nI_clamp (show d < 2 ^ 31 by omega), h2.vw (show mInt 9 by unfold mInt; omega)]
  have k9 : (up2 (up2 g 7 d (g 19 d)) 8 d (g 20 d)) 9 d = g 9 d := rfl
  rw [k9]
  have hq' : g 9 d + q - (g 9 d + q) / 4 * 4 = fmF (g 9 d + q2) := hq
  rw [hq']
  refine ⟨a2, hin, b2, hin, c2, hin, c2, hin, d2, hin, e2, hin, hin, ?_⟩
  rw [h3.vw (show mInt 10 by unfold mInt; omega), h3.vw (show mInt 11 by unfold mInt; omega)]
  refine ⟨f2, hin, hin, ?_⟩
  have k10 : (up2 (up2 (up2 g 7 d (g 19 d)) 8 d (g 20 d)) 9 d (fmF (g 9 d + q2))) 10 d = g 10 d := rfl
  have k11 : (up2 (up2 (up2 g 7 d (g 19 d)) 8 d (g 20 d)) 9 d (fmF (g 9 d + q2))) 11 d = g 11 d := rfl
  rw [k10, k11, h4.vw (show mInt 17 by unfold mInt; omega)]
  exact hp _ h5
end MFR
