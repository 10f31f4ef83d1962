/-- I has come from I0 by changes on the floor B alone; g, wg, bt are what it shows there -/
def Lk (ad : Nat → Nat → Nat) (B n m : Nat) (I0 I g wg : Nat → Nat → Int32) (bt : Int32) : Prop := Ev I0 I ∧ (∀ f a, (∀ i, i < n → a ≠ ad (B + 5) i) → (∀ j, j < m → a ≠ ad (B + 6) j) → a ≠ ad B 0 → I f a = I0 f a) ∧
  (∀ f i, 7 ≤ f → i < n → I f (ad (B + 5) i) = g f i) ∧ (∀ f j, 7 ≤ f → j < m → I f (ad (B + 6) j) = wg f j) ∧ I 23 (ad B 0) = bt
section LKS
variable {S : St} {ad : Nat → Nat → Nat} {B n m : Nat} {I0 I g wg g' R : Nat → Nat → Int32} {bt : Int32} {pt : Nat → Option Nat} {dn dl : Nat → Nat} {df : Nat → Nat → Int32}
theorem Lk.up {f i : Nat} {v : Int32} (hj : Inj ad) (h : Lk ad B n m I0 I g wg bt) (hf : 7 ≤ f) (hi : i < n) : Lk ad B n m I0 (up2 I f (ad (B + 5) i) v) (up2 g f i v) wg bt := by
  obtain ⟨h1, h2, h3, h4, h5⟩ := h
  refine ⟨h1.up hf, fun f' a k1 k2 k3 => ?_, fun f' i' k1 k2 => ?_, fun f' j k1 k2 => ?_, ?_⟩
  · rw [up2_a (k1 i hi)]; exact h2 f' a k1 k2 k3
  · simp only [up2, hj.iff, true_and, h3 f' i' k1 k2]
  · rw [up2_a (fun e => by have := (hj _ _ _ _ e).1; omega)]; exact h4 f' j k1 k2
  · rw [up2_a (fun e => by have := (hj _ _ _ _ e).1; omega)]; exact h5
theorem Lk.upw {f i : Nat} {v : Int32} (hj : Inj ad) (h : Lk ad B n m I0 I g wg bt) (hf : 7 ≤ f) (hi : i < m) : Lk ad B n m I0 (up2 I f (ad (B + 6) i) v) g (up2 wg f i v) bt := by
  obtain ⟨h1, h2, h3, h4, h5⟩ := h
  refine ⟨h1.up hf, fun f' a k1 k2 k3 => ?_, fun f' i' k1 k2 => ?_, fun f' j k1 k2 => ?_, ?_⟩
  · rw [up2_a (k2 i hi)]; exact h2 f' a k1 k2 k3
  · rw [up2_a (fun e => by have := (hj _ _ _ _ e).1; omega)]; exact h3 f' i' k1 k2
  · simp only [up2, hj.iff, true_and, h4 f' j k1 k2]
  · rw [up2_a (fun e => by have := (hj _ _ _ _ e).1; omega)]; exact h5
theorem Lk.upb {v : Int32} (hj : Inj ad) (h : Lk ad B n m I0 I g wg bt) : Lk ad B n m I0 (up2 I 23 (ad B 0) v) g wg v := by
  obtain ⟨h1, h2, h3, h4, h5⟩ := h
  refine ⟨h1.up (by decide), fun f' a k1 k2 k3 => ?_, fun f' i' k1 k2 => ?_, fun f' j k1 k2 => ?_, up2_at⟩
  · rw [up2_a k3]; exact h2 f' a k1 k2 k3
  · rw [up2_a (fun e => by have := (hj _ _ _ _ e).1; omega)]; exact h3 f' i' k1 k2
  · rw [up2_a (fun e => by have := (hj _ _ _ _ e).1; omega)]; exact h4 f' j k1 k2
theorem Lk.cg (h : Lk ad B n m I0 I g wg bt) (e : ∀ f i, g f i = g' f i) : Lk ad B n m I0 I g' wg bt := ⟨h.1, h.2.1, fun f i k1 k2 => (h.2.2.1 f i k1 k2).trans (e f i), h.2.2.2⟩
theorem s_who {post : Option Nat → Prop} {x y : Int32} (hC : CF (kS S I0 R) ad B n m pt dn dl df) (hL : Lk ad B n m I0 I g wg bt) (hp : post ((fst' (fun i => g 7 i = x ∧ g 8 i = y) n).map (ad (B + 5)))) : w_F_whoIsAt post (kS S I R) (ad B 0) x y := by
  have hC' := hC.ev hL.1
  obtain ⟨⟨f1, f2, f3, f4, f5, f6, f7⟩, -, -⟩ := hC'
  have hn : n ≤ 8 := f4.2.2.1
  unfold w_F_whoIsAt
  refine ⟨fun k v => ∃ i, v = nI i ∧ k = n - i ∧ i ≤ n ∧ ∀ j, j < i → ¬ (g 7 j = x ∧ g 8 j = y), ⟨n, 0, rfl, rfl, Nat.zero_le _, fun j hj => absurd hj (Nat.not_lt_zero j)⟩, ?_⟩
  rintro k v ⟨i, rfl, rfl, hi, hnot⟩
  simp only [forall_eq, f2, Option.some.injEq, exists_eq_left', e_size, f4.2.1]
  refine ⟨f4.1, fun hc => ?_, fun hc => ⟨f4.1, ?_⟩⟩
  · have hi2 : i = n := by
      have := (nI_leI (by omega) (by omega)).mp hc
      omega
    subst hi2
    rw [fst_none.mpr hnot] at hp
    exact hp
  · have hlt : i < n := Nat.not_le.mp fun q => hc ((nI_leI (by omega) (by omega)).mpr q)
    refine s_get f4 hlt ?_
    simp only [Option.some.injEq, exists_eq_left', kS_I, hL.2.2.1 7 i (by decide) hlt, hL.2.2.1 8 i (by decide) hlt, kS_A]
    refine ⟨f4.2.2.2.1 i hlt, _, id, fun h7 => ⟨fun h8 => ?_, fun h8 => ?_⟩, fun h7 => ?_⟩
    · rw [fst_some.mpr ⟨hlt, ⟨h7, h8⟩, hnot⟩] at hp
      exact hp
    · exact ⟨n - (i + 1), by omega, i + 1, nI_1 i, rfl, hlt, fun j hj2 => by
        rcases Nat.lt_or_ge j i with q | q
        · exact hnot j q
        · rw [show j = i by omega]; exact fun z => h8 z.2⟩
    · exact ⟨n - (i + 1), by omega, i + 1, nI_1 i, rfl, hlt, fun j hj2 => by
        rcases Nat.lt_or_ge j i with q | q
        · exact hnot j q
        · rw [show j = i by omega]; exact fun z => h7 z.1⟩
end LKS
