/-! the class's tape -/
theorem kfr {P : Nat → Prop} {S : St} {ad : Nat → Nat → Nat} {I R : Nat → Nat → Int32} (h : ∀ t i, P t → (∀ f, I f (ad t i) = sI S f (ad t i)) ∧ R (ad t i) = sR S (ad t i)) : Fr P S (kS S I R) ad ad :=
  ⟨⟨fun a ha => ⟨ha, rfl, rfl⟩, rfl⟩, fun t i hp _ => ⟨rfl, (h t i hp).1, fun _ => rfl, (h t i hp).2, rfl, rfl⟩⟩
section TAPE
variable {S : St} {ad : Nat → Nat → Nat} {tl n m : Nat} {tb dl dn : Nat → Nat} {df g wg rd : Nat → Nat → Int32} {pt : Nat → Option Nat} {bt : Int32}
/-- the tape alone changes -/
theorem HC.tape {I R : Nat → Nat → Int32} {tl' : Nat} {tb' : Nat → Nat} (hj : Inj ad) (h : HC S ad tl tb dl df n g pt dn bt m wg rd) (hI : ∀ f a, a ≠ ad 2 0 → I f a = sI S f a) (hR : ∀ a, a ≠ ad 3 0 → R a = sR S a) (ht : Htape I R ad tl' tb') : HC (kS S I R) ad tl' tb' dl df n g pt dn bt m wg rd ∧ Fr (fun t => 4 ≤ t) S (kS S I R) ad ad := by
  have hF : Fr (fun t => 4 ≤ t) S (kS S I R) ad ad := kfr (fun t i ht => ⟨fun f => hI f _ (fun e => by have := (hj _ _ _ _ e).1; omega), hR _ (fun e => by have := (hj _ _ _ _ e).1; omega)⟩)
  obtain ⟨a, b, c, ⟨d1, d2, d3⟩, ⟨e1, e2, e3⟩, f, n2, m2, g1, g2, g3⟩ := h
  refine ⟨⟨a, ht, c.fr hF (by decide) (by decide) (by decide), ⟨d1.fr hF (fun t h1 h2 => by omega), d2, d3.fr hF (by decide) (by decide)⟩, ⟨fun f i k1 k2 => ?_, fun f i k1 k2 => ?_, ?_⟩, fun j q hj' hq => ?_, n2, m2, g1, g2, g3.fr hF (fun t h1 h2 => by omega)⟩, hF⟩
  · rw [kS_I, hI _ _ (fun e => by have := (hj _ _ _ _ e).1; omega)]; exact e1 f i k1 k2
  · rw [kS_I, hI _ _ (fun e => by have := (hj _ _ _ _ e).1; omega)]; exact e2 f i k1 k2
  · rw [kS_I, hI _ _ (fun e => by have := (hj _ _ _ _ e).1; omega)]; exact e3
  · rw [kS_R, hR _ (fun e => by have := (hj _ _ _ _ e).1; omega)]; exact f j q hj' hq
theorem s_trim {post : Int32 → St → Prop} {px : String → St → Prop} {v : Int32} (hj : Inj ad) (h : HC S ad tl tb dl df n g pt dn bt m wg rd)
    (hok : ∀ k, k ≤ tl → v = nI k → ∀ S', HC S' ad k tb dl df n g pt dn bt m wg rd → Fr (fun t => 4 ≤ t) S S' ad ad → post v S') (hno : ¬ (∃ k, k ≤ tl ∧ v = nI k) → px "java/lang/IllegalArgumentException" S) : w_H_trim post px S (ad 1 0) v := by
  obtain ⟨⟨a1, a2, -, -, -, -, a7, -⟩, ⟨b1, b2, b3, b4⟩, -⟩ := id h
  unfold w_H_trim
  simp only [forall_eq, a2, Option.some.injEq, exists_eq_left', b1]
  refine ⟨fun hv => hno ?_, fun hv => ⟨a7, fun hl => ⟨a7, ?_⟩, fun hl => hno ?_⟩⟩
  · rintro ⟨k, hk, rfl⟩
    exact nI_pos (by omega) hv
  · obtain ⟨k, hk, rfl⟩ := nI_of hv
    have hkl : k ≤ tl := (nI_leI hk (by omega)).mp hl
    obtain ⟨h1, h2⟩ := h.tape (I := up2 (sI S) 25 (ad 2 0) (nI k)) (R := sR S) (tl' := k) (tb' := tb) hj (fun f a hne => up2_a hne) (fun a _ => rfl) ⟨up2_at, by omega, b3, fun j hj' => b4 j (by omega)⟩
    exact hok k hkl rfl _ h1 h2
  · rintro ⟨k, hk, rfl⟩
    exact hl (nI_le hk (by omega))
/-- the four bytes of a number -/
def byt (v : Int32) (j : Nat) : Nat := v.toBitVec.toNat / 2 ^ (24 - 8 * j) % 256
def tapeAdd (tl : Nat) (tb : Nat → Nat) (v : Int32) : Nat → Nat := fun j => if j < tl then tb j else if j < tl + 4 then byt v (j - tl) else 0
end TAPE
