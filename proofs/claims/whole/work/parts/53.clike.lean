/-! one becomes like another -/
/-- S' is S with the int fields F (and, if G, the dance) of y1 in a0 -/
def CP (S : St) (a0 y1 : Nat) (F : Nat → Prop) (G : Prop) (S' : St) : Prop := ∃ I' Q', S' = qS S I' Q' ∧ (∀ f a, a ≠ a0 → I' f a = sI S f a) ∧ (∀ f, ¬ F f → I' f a0 = sI S f a0) ∧ (∀ f, F f → I' f a0 = sI S f y1) ∧ (∀ f a, ¬ (f = 12 ∧ a = a0) → Q' f a = sQ S f a) ∧ (G → Q' 12 a0 = sQ S 12 y1)
section CPS
variable {S S' : St} {a0 y1 f : Nat} {F : Nat → Prop} {G : Prop}
theorem CP.rf : CP S a0 y1 (fun _ => False) False S := ⟨sI S, sQ S, rfl, fun _ _ _ => rfl, fun _ _ => rfl, fun _ h => h.elim, fun _ _ _ => rfl, fun h => h.elim⟩
theorem CP.i (hne : y1 ≠ a0) (h : CP S a0 y1 F G S') : CP S a0 y1 (fun f' => F f' ∨ f' = f) G (pI S' f a0 (sI S' f y1)) := by
  obtain ⟨I', Q', rfl, h1, h2, h3, h4, h5⟩ := h
  refine ⟨up2 I' f a0 (I' f y1), Q', rfl, fun f' a ha => (up2_a ha).trans (h1 f' a ha), fun f' hf => ?_, fun f' hf => ?_, h4, h5⟩
  · rw [up2_f (fun e => hf (Or.inr e))]
    exact h2 f' (fun q => hf (Or.inl q))
  · by_cases c : f' = f
    · subst c; rw [up2_at]; exact h1 f' y1 hne
    · rw [up2_f c]
      exact h3 f' (hf.elim id (fun q => absurd q c))
theorem CP.q (hne : y1 ≠ a0) (h : CP S a0 y1 F G S') : CP S a0 y1 F True (pQ S' 12 a0 (sQ S' 12 y1)) := by
  obtain ⟨I', Q', rfl, h1, h2, h3, h4, h5⟩ := h
  refine ⟨I', up2 Q' 12 a0 (Q' 12 y1), rfl, h1, h2, h3, fun f' a ha => (if_neg ha : up2 Q' 12 a0 (Q' 12 y1) f' a = _).trans (h4 f' a ha), fun _ => ?_⟩
  rw [up2_at]
  exact h4 12 y1 (fun e => hne e.2)
theorem CP.y (hne : y1 ≠ a0) (h : CP S a0 y1 F G S') : sI S' f y1 = sI S f y1 := by
  obtain ⟨I', Q', rfl, h1, -⟩ := h
  exact h1 f y1 hne
theorem CP.cg {F' : Nat → Prop} (h : CP S a0 y1 F G S') (e : ∀ f, F f ↔ F' f) : CP S a0 y1 F' G S' := by
  obtain ⟨I', Q', rfl, h1, h2, h3, h4, h5⟩ := h
  exact ⟨I', Q', rfl, h1, fun f hf => h2 f (fun q => hf ((e f).mp q)), fun f hf => h3 f ((e f).mpr hf), h4, h5⟩
theorem s_rbl {post : St → Prop} (hne : y1 ≠ a0) (ha : isA S 2 y1) (hb : gBo (sI S 15 y1)) (hp : ∀ S', CP S a0 y1 mInt True S' → post S') : w_R_becomeLike post S a0 (some y1) := by
  unfold w_R_becomeLike
  refine ⟨_, rfl, ha, ?_⟩
  intro S3 e3
  have h3 := CP.i (f := 7) hne (CP.rf (S := S) (a0 := a0))
  rw [← e3] at h3
  intro S4 e4
  have h4 := h3.i (f := 8) hne
  rw [← e4] at h4
  intro S5 e5
  have h5 := h4.i (f := 9) hne
  rw [← e5] at h5
  intro S6 e6
  have h6 := h5.i (f := 10) hne
  rw [← e6] at h6
  intro S7 e7
  have h7 := h6.i (f := 11) hne
  rw [← e7] at h7
  rintro _ rfl S9 e9
  have h9 := h7.q hne
  rw [← e9] at h9
  intro S10 e10
  have h10 := h9.i (f := 13) hne
  rw [← e10] at h10
  refine ⟨by rw [h10.y hne]; exact hb, ?_⟩
  intro S12 e12
  have h12 := h10.i (f := 15) hne
  rw [← e12] at h12
  intro S13 e13
  have h13 := h12.i (f := 16) hne
  rw [← e13] at h13
  intro S14 e14
  have h14 := h13.i (f := 17) hne
  rw [← e14] at h14
  intro S15 e15
  have h15 := h14.i (f := 18) hne
  rw [← e15] at h15
  refine hp S15 (h15.cg (fun f => ?_))
  unfold mInt
  simp only [false_or]
  omega
/-- the fields of a winder -/
def nFld (f : Nat) : Prop := f = 26 ∨ f = 27 ∨ f = 28 ∨ f = 30 ∨ f = 31 ∨ f = 32
theorem s_nbl {post : St → Prop} {r0 r1 : Nat} (hne : y1 ≠ a0) (hr : r1 ≠ r0) (ha : isA S 5 y1) (q0 : sQ S 29 a0 = some r0 ∧ isA S 10 r0 ∧ sN S r0 = 8) (q1 : sQ S 29 y1 = some r1 ∧ isA S 10 r1 ∧ sN S r1 = 8)
    (hp : ∀ I' R', (∀ f a, a ≠ a0 → I' f a = sI S f a) → (∀ f, ¬ nFld f → I' f a0 = sI S f a0) → (∀ f, nFld f → I' f a0 = sI S f y1) → (∀ a, a ≠ r0 → R' a = sR S a) → (∀ p, p < 8 → R' r0 p = sR S r1 p) → post (kS S I' R')) : w_N_becomeLike post S a0 (some y1) := by
  unfold w_N_becomeLike
  refine ⟨_, rfl, ha, ?_⟩
  intro S3 e3
  have h3 := CP.i (f := 26) hne (CP.rf (S := S) (a0 := a0))
  rw [← e3] at h3
  intro S4 e4
  have h4 := h3.i (f := 27) hne
  rw [← e4] at h4
  intro S5 e5
  have h5 := h4.i (f := 28) hne
  rw [← e5] at h5
  intro S6 e6
  have h6 := h5.i (f := 30) hne
  rw [← e6] at h6
  have h6 : ∃ I', S6 = kS S I' (sR S) ∧ (∀ f a, a ≠ a0 → I' f a = sI S f a) ∧ (∀ f, ¬ (f = 26 ∨ f = 27 ∨ f = 28 ∨ f = 30) → I' f a0 = sI S f a0) ∧ (∀ f, (f = 26 ∨ f = 27 ∨ f = 28 ∨ f = 30) → I' f a0 = sI S f y1) := by
    refine ⟨sI S6, by rw [e6, e5, e4, e3]; rfl, ?_⟩
    obtain ⟨I', Q', rfl, k1, k2, k3, k4, k5⟩ := h6
    simp only [false_or] at k2 k3
    exact ⟨k1, fun f hf => k2 f (fun q => hf (by omega)), fun f hf => k3 f (by omega)⟩
  clear h3 h4 h5 e3 e4 e5 e6
  obtain ⟨I6, rfl, k1, k2, k3⟩ := h6
  refine ⟨fun q S' u => ∃ i R', i ≤ 8 ∧ q = 8 - i ∧ u = nI i ∧ S' = kS S I6 R' ∧ (∀ a, a ≠ r0 → R' a = sR S a) ∧ ∀ p, p < i → R' r0 p = sR S r1 p, ⟨8, 0, sR S, by decide, rfl, rfl, rfl, fun _ _ => rfl, fun p hp => absurd hp (Nat.not_lt_zero p)⟩, ?_⟩
  rintro q S' _ ⟨i, R', hi, rfl, rfl, rfl, r2, r3⟩
  simp only [forall_eq, kS_Q, kS_A, kS_N, kS_R, kS_I, q0.1, q0.2.2, q1.1, q1.2.2, Option.some.injEq, exists_eq_left']
  refine ⟨q0.2.1, i = 8, fun h8 => ?_, fun c => ?_, fun c => ⟨q1.2.1, fun c2 => absurd c2 c, fun _ => ⟨q1.2.1, ?_, q0.2.1, ?_, 8 - (i + 1), ?_, i + 1, _, ?_, rfl, nI_1 i, rfl, fun a ha => ?_, fun p hp2 => ?_⟩⟩⟩
  · refine hp (up2 (up2 I6 31 a0 (I6 31 y1)) 32 a0 (up2 I6 31 a0 (I6 31 y1) 32 y1)) R' (fun f a ha => (up2_a ha).trans ((up2_a ha).trans (k1 f a ha))) (fun f hf => ?_) (fun f hf => ?_) r2 (fun p hp2 => r3 p (by omega))
    · unfold nFld at hf
      rw [up2_f (by omega), up2_f (by omega)]
      exact k2 f (by omega)
    · unfold nFld at hf
      by_cases c1 : f = 32
      · subst c1; rw [up2_at, up2_a hne]; exact k1 32 y1 hne
      · rw [up2_f c1]
        by_cases c2 : f = 31
        · subst c2; rw [up2_at]; exact k1 31 y1 hne
        · rw [up2_f c2]; exact k3 f (by omega)
  · have := (nI_leI (by decide) (by omega)).mp c
    omega
  · have : ¬ 8 ≤ i := fun q => c (nI_le q (by omega))
    exact vp_in_nI (by omega) (by decide)
  · have : ¬ 8 ≤ i := fun q => c (nI_le q (by omega))
    exact vp_in_nI (by omega) (by decide)
  · have : ¬ 8 ≤ i := fun q => c (nI_le q (by omega))
    omega
  · have : ¬ 8 ≤ i := fun q => c (nI_le q (by omega))
    omega
  · exact (row_g ha).trans (r2 a ha)
  · rw [nI_clamp (show i < 2 ^ 31 by omega)]
    by_cases c1 : p = i
    · subst c1; rw [up2_at, r2 r1 hr]
    · rw [up2_a c1]; exact r3 p (by omega)
end CPS
section FLQ
variable {S : St} {ad : Nat → Nat → Nat} {L A t k n m B : Nat} {I R : Nat → Nat → Int32} {Q : Nat → Nat → Option Nat}
theorem LiS.qs (h : LiS S ad L A t k n) (hI : ∀ a, I 2 a = sI S 2 a) (hQ : ∀ a, Q 1 a = sQ S 1 a) : LiS (qS S I Q) ad L A t k n := ⟨h.1, (hI _).trans h.2.1, h.2.2.1, h.2.2.2.1, h.2.2.2.2.elim (fun w => Or.inl ⟨w.1, (hQ _).trans w.2⟩) (fun w => Or.inr ⟨w.1, (hQ _).trans w.2.1, w.2.2⟩)⟩
theorem FL.qs (h : FL S ad B n m) (hI : ∀ f a, f < 7 → I f a = sI S f a) (hQ : ∀ f a, f ≠ 12 → f ≠ 14 → Q f a = sQ S f a) : FL (qS S I Q) ad B n m := ⟨h.1, (hQ 21 _ (by decide) (by decide)).trans h.2.1, (hQ 22 _ (by decide) (by decide)).trans h.2.2.1, h.2.2.2.1.qs (fun a => hI 2 a (by decide)) (fun a => hQ 1 a (by decide) (by decide)), h.2.2.2.2.1.qs (fun a => hI 2 a (by decide)) (fun a => hQ 1 a (by decide) (by decide)), fun j hj => ⟨(hQ 29 _ (by decide) (by decide)).trans (h.2.2.2.2.2.1 j hj).1, (h.2.2.2.2.2.1 j hj).2⟩, fun i hi => (hI 6 _ (by decide)).trans (h.2.2.2.2.2.2 i hi)⟩
end FLQ
