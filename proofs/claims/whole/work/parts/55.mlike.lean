/-! the reference's state ahead becomes like now -/
def CM (S : St) (I1 : Nat → Nat → Int32) (ad : Nat → Nat → Nat) (F : Nat → Prop) (S' : St) : Prop := ∃ R', S' = kS S I1 R' ∧ (∀ a, (∀ f, mRow f → a ≠ ad (75 + f) 0) → R' a = sR S a) ∧ (∀ f, mRow f → ¬ F f → R' (ad (75 + f) 0) = sR S (ad (75 + f) 0)) ∧ ∀ f, mRow f → F f → R' (ad (75 + f) 0) = va_cpy (sR S (ad (50 + f) 0)) (sR S (ad (75 + f) 0)) 0 0 (mLen f)
section CMS
variable {S S' : St} {ad : Nat → Nat → Nat} {tl n m : Nat} {tb dl dn : Nat → Nat} {df g wg rd I R I1 : Nat → Nat → Int32} {pt : Nat → Option Nat} {bt u v : Int32} {F : Nat → Prop}
theorem CM.st {f : Nat} (hj : Inj ad) (hf : mRow f) (h : CM S I1 ad F S') (hn : ¬ F f) : CM S I1 ad (fun f' => F f' ∨ f' = f) (pRow S' (ad (75 + f) 0) (va_cpy (sR S' (ad (50 + f) 0)) (sR S' (ad (75 + f) 0)) 0 0 (mLen f))) := by
  obtain ⟨R', rfl, h1, h2, h3⟩ := h
  have e50 : R' (ad (50 + f) 0) = sR S (ad (50 + f) 0) := h1 _ (fun f' hf' e => by have := (hj _ _ _ _ e).1; unfold mRow at hf hf'; omega)
  have e75 : R' (ad (75 + f) 0) = sR S (ad (75 + f) 0) := h2 f hf hn
  refine ⟨va_up R' (ad (75 + f) 0) (va_cpy (R' (ad (50 + f) 0)) (R' (ad (75 + f) 0)) 0 0 (mLen f)), rfl, fun a ha => ?_, fun f' hf' hn' => ?_, fun f' hf' hF => ?_⟩
  · exact (if_neg (ha f hf)).trans (h1 a ha)
  · exact (if_neg (fun e => hn' (Or.inr (by have := (hj _ _ _ _ e).1; omega)))).trans (h2 f' hf' (fun q => hn' (Or.inl q)))
  · by_cases c : f' = f
    · subst c
      refine (if_pos rfl).trans ?_
      rw [e50, e75]
    · exact (if_neg (fun e => c (by have := (hj _ _ _ _ e).1; omega))).trans (h3 f' hf' (hF.elim id (fun q => absurd q c)))
theorem cm_step {K : St → Prop} (f : Nat) (hj : Inj ad) (hM : ML S ad 50 100) (hA : ML S ad 75 100) (hf : mRow f) (hk : mKind f = 10) (h : CM S I1 ad F S') (hn : ¬ F f) (hK : ∀ S'', CM S I1 ad (fun f' => F f' ∨ f' = f) S'' → K S'') : ∀ o6 : Option Nat, o6 = sQ S' (f + 33) (ad 50 0) → ∀ o7 : Option Nat, o7 = sQ S' (f + 33) (ad 75 0) → w_S_copy K S' (ad 75 0) o6 o7 := by
  have h2 := h.st hj hf hn
  obtain ⟨R', rfl, -⟩ := h
  obtain ⟨a1, a2, a3⟩ := hM.2.2.2.1 f hf
  obtain ⟨b1, b2, b3⟩ := hA.2.2.2.1 f hf
  have a1 : sQ (kS S I1 R') (f + 33) (ad 50 0) = some (ad (50 + f) 0) := a1
  have b1 : sQ (kS S I1 R') (f + 33) (ad 75 0) = some (ad (75 + f) 0) := b1
  have a3 : sN (kS S I1 R') (ad (50 + f) 0) = mLen f := a3
  have b3 : sN (kS S I1 R') (ad (75 + f) 0) = mLen f := b3
  rw [hk] at a2 b2
  rintro _ rfl _ rfl
  rw [a1, b1]
  have hl : mLen f ≤ 24 := by
    unfold mLen
    split
    · decide
    · split <;> decide
  have c0 : (0 : Int32).toNatClampNeg = 0 := rfl
  unfold w_S_copy
  refine ⟨_, rfl, a2, _, rfl, b2, ?_⟩
  rw [a3, b3, c0, nI_clamp (show mLen f < 2 ^ 31 by omega)]
  refine ⟨⟨by decide, by decide, nI_pos (by omega), by omega, by omega, fun z hz => rfl⟩, ?_⟩
  rintro _ rfl
  exact hK _ h2
set_option maxHeartbeats 1000000 in
theorem s_mlike {post : St → Prop} (hj : Inj ad) (h : HM S ad tl tb dl df n g pt dn bt m wg rd) (hO : Ok n g pt dn dl) (hg0 : ∀ f i, mInt f → n ≤ i → g f i = 0)
    (hp : ∀ S', HM S' ad tl tb dl df n g pt dn bt m wg rd → MC S' (sI S') (sR S') ad 75 100 n m pt dn dl df rd → (∀ f i, mInt f → sR S' (ad (75 + f) 0) i = g f i) → (∀ j q, j < m → q < 6 → sR S' (ad 95 0) (6 * j + q) = wg (wFld q) j) → sI S' 38 (ad 75 0) = bt → Fr (fun t _ => t < 45) S S' ad ad → sI S' 56 (ad 100 0) = sI S 56 (ad 100 0) → post S') : w_S_become post S (ad 75 0) (some (ad 50 0)) := by
  have hM := h.mc.1
  have hA := h.2.2.2.2.1
  have hn := h.mc.2.1
  have n50 : ad 50 0 ≠ ad 75 0 := fun e => by have := (hj _ _ _ _ e).1; omega
  have e38 : sI S 38 (ad 50 0) = bt := h.2.2.2.2.2.2.2.2.2.2.1
  have e39 : sI S 39 (ad 50 0) = nI n := h.mc.2.2.2.1
  have e52 : sI S 52 (ad 50 0) = nI m := h.mc.2.2.2.2.1
  unfold w_S_become
  refine ⟨_, rfl, h.qS.2, ?_⟩
  intro S3 e3 S4 e4 S5 e5
  have h5 : CM S (up2 (up2 (up2 (sI S) 38 (ad 75 0) bt) 39 (ad 75 0) (nI n)) 52 (ad 75 0) (nI m)) ad (fun _ => False) S5 := by
    refine ⟨sR S, ?_, fun _ _ => rfl, fun _ _ _ => rfl, fun _ _ q => q.elim⟩
    have z1 : sI S3 39 (ad 50 0) = nI n := by rw [e3]; exact (sI_ne (by decide)).trans e39
    have z2 : sI S4 52 (ad 50 0) = nI m := by rw [e4]; refine (sI_ne (by decide)).trans ?_; rw [e3]; exact (sI_ne (by decide)).trans e52
    rw [e5, z2, e4, z1, e3, e38]
    rfl
  clear e3 e4 e5
  have i75 : ∀ f a, a ≠ ad 75 0 → (up2 (up2 (up2 (sI S) 38 (ad 75 0) bt) 39 (ad 75 0) (nI n)) 52 (ad 75 0) (nI m)) f a = sI S f a := fun f a ha => by rw [up2_a ha, up2_a ha, up2_a ha]
  have z38 : (up2 (up2 (up2 (sI S) 38 (ad 75 0) bt) 39 (ad 75 0) (nI n)) 52 (ad 75 0) (nI m)) 38 (ad 75 0) = bt := by rw [up2_f (by decide), up2_f (by decide), up2_at]
  have z39 : (up2 (up2 (up2 (sI S) 38 (ad 75 0) bt) 39 (ad 75 0) (nI n)) 52 (ad 75 0) (nI m)) 39 (ad 75 0) = nI n := by rw [up2_f (by decide), up2_at]
  have z52 : (up2 (up2 (up2 (sI S) 38 (ad 75 0) bt) 39 (ad 75 0) (nI n)) 52 (ad 75 0) (nI m)) 52 (ad 75 0) = nI m := up2_at
  generalize (up2 (up2 (up2 (sI S) 38 (ad 75 0) bt) 39 (ad 75 0) (nI n)) 52 (ad 75 0) (nI m)) = I1 at *
  refine cm_step 7 hj hM hA (by unfold mRow; omega) rfl h5 (by simp) (fun S8 h8 => ?_)
  refine cm_step 8 hj hM hA (by unfold mRow; omega) rfl h8 (by simp) (fun S11 h11 => ?_)
  refine cm_step 9 hj hM hA (by unfold mRow; omega) rfl h11 (by simp) (fun S14 h14 => ?_)
  refine cm_step 10 hj hM hA (by unfold mRow; omega) rfl h14 (by simp) (fun S17 h17 => ?_)
  refine cm_step 11 hj hM hA (by unfold mRow; omega) rfl h17 (by simp) (fun S20 h20 => ?_)
  refine cm_step 12 hj hM hA (by unfold mRow; omega) rfl h20 (by simp) (fun S23 h23 => ?_)
  refine cm_step 13 hj hM hA (by unfold mRow; omega) rfl h23 (by simp) (fun S26 h26 => ?_)
  refine cm_step 14 hj hM hA (by unfold mRow; omega) rfl h26 (by simp) (fun S29 h29 => ?_)
  have h37 := h29.st (f := 15) hj (by unfold mRow; omega) (by simp)
  have g65 : sR S29 (ad 65 0) = sR S (ad 65 0) := by
    obtain ⟨R', rfl, k1, -⟩ := h29
    exact k1 _ (fun f hf e => by have := (hj _ _ _ _ e).1; unfold mRow at hf; omega)
  have st : sQ S29 48 (ad 50 0) = some (ad 65 0) ∧ sQ S29 48 (ad 75 0) = some (ad 90 0) ∧ isA S29 11 (ad 65 0) ∧ isA S29 11 (ad 90 0) ∧ sN S29 (ad 65 0) = 8 ∧ sN S29 (ad 90 0) = 8 := by
    obtain ⟨R', rfl, -⟩ := h29
    obtain ⟨a1, a2, a3⟩ := hM.2.2.2.1 15 (by unfold mRow; omega)
    obtain ⟨b1, b2, b3⟩ := hA.2.2.2.1 15 (by unfold mRow; omega)
    exact ⟨a1, b1, a2, b2, a3, b3⟩
  have c0 : (0 : Int32).toNatClampNeg = 0 := rfl
  have c8 : (8 : Int32).toNatClampNeg = 8 := rfl
  intro o30 e30 o31 e31
  refine ⟨_, e30.trans st.1, _, e31.trans st.2.1, st.2.2.1, st.2.2.2.1, ?_⟩
  rw [c0, c8, st.2.2.2.2.1, st.2.2.2.2.2]
  refine ⟨⟨by decide, by decide, by decide, by decide, by decide, fun z hz => gBo_f ?_⟩, ?_⟩
  · have : sR S (ad 65 0) (0 + z) = g 15 (0 + z) := h.mk.vw (f := 15) (by unfold mInt; omega)
    rw [g65, this]
    by_cases c : 0 + z < n
    · exact (hO.1 (0 + z) c).2.2.2.2.2.2.1
    · exact Or.inl (hg0 15 _ (by unfold mInt; omega) (by omega))
  intro S37 e37
  rw [show mLen 15 = 8 from rfl] at h37
  rw [← (show S37 = _ from e37)] at h37
  clear e37 h29 e30 e31 g65 st
  refine cm_step 16 hj hM hA (by unfold mRow; omega) rfl h37 (by simp) (fun S40 h40 => ?_)
  refine cm_step 17 hj hM hA (by unfold mRow; omega) rfl h40 (by simp) (fun S43 h43 => ?_)
  refine cm_step 18 hj hM hA (by unfold mRow; omega) rfl h43 (by simp) (fun S46 h46 => ?_)
  refine cm_step 20 hj hM hA (by unfold mRow; omega) rfl h46 (by simp) (fun S49 h49 => ?_)
  refine cm_step 21 hj hM hA (by unfold mRow; omega) rfl h49 (by simp) (fun S52 h52 => ?_)
  obtain ⟨R', rfl, k1, -, k3⟩ := h52
  have k4 : ∀ f, mRow f → R' (ad (75 + f) 0) = va_cpy (sR S (ad (50 + f) 0)) (sR S (ad (75 + f) 0)) 0 0 (mLen f) := fun f hf => k3 f hf (by simp only [false_or]; unfold mRow at hf; omega)
  clear k3 h5 h8 h11 h14 h17 h20 h23 h26 h37 h40 h43 h46 h49
  have far : ∀ t, t < 82 ∨ 97 ≤ t → R' (ad t 0) = sR S (ad t 0) := fun t ht => k1 _ (fun f hf e => by have := (hj _ _ _ _ e).1; unfold mRow at hf; omega)
  obtain ⟨a1, a2, a3, a4, a5, a6, a7, ⟨d1, d2, d3, d4, d5, d6, d7, d8, d9⟩, a9, a10, a11, a12⟩ := id h
  have cp : ∀ f i, mRow f → i < mLen f → R' (ad (75 + f) 0) i = sR S (ad (50 + f) 0) i := fun f i hf hi => by rw [k4 f hf, pk_cpy_in (by omega) (by omega), Nat.zero_add, Nat.sub_zero]
  have co : ∀ f i, mRow f → mLen f ≤ i → R' (ad (75 + f) 0) i = sR S (ad (75 + f) 0) i := fun f i hf hi => by rw [k4 f hf, pk_cpy_out (by omega)]
  have full : ∀ f i, (mInt f ∨ f = 12 ∨ f = 14) → (8 ≤ i → sR S (ad (50 + f) 0) i = 0) → R' (ad (75 + f) 0) i = sR S (ad (50 + f) 0) i := fun f i hf h8 => by
    have hr : mRow f := by unfold mInt at hf; unfold mRow; omega
    have hl : mLen f = 8 := by unfold mInt at hf; unfold mLen; rw [if_neg (by omega), if_neg (by omega)]
    by_cases c : i < 8
    · exact cp f i hr (by omega)
    · rw [co f i hr (by omega), a12 f i hf (by omega), h8 (by omega)]
  refine hp _ ⟨a1, a2, a3, a4, a5, (i75 58 _ (fun e => by have := (hj _ _ _ _ e).1; omega)).trans a6, fun j hj' => ?_, ⟨d1, d2, d3, (i75 39 _ n50).trans d4, (i75 52 _ n50).trans d5, fun i => ?_, d7, fun j p hj' hp => ?_, fun k hk => ?_⟩, fun f i hf => ?_, fun j q hj' hq => ?_, (i75 38 _ n50).trans a11, fun f i hf hi => ?_⟩ ⟨hA, hn, d3, z39, z52, fun i => ⟨?_, ?_⟩, d7, fun j p hj' hp => ?_, fun k hk => ?_⟩ (fun f i hf => ?_) (fun j q hjm hq => ?_) z38 (kfr (fun t i ht => ⟨fun f => i75 f _ (fun e => by have := (hj _ _ _ _ e).1; omega), ?_⟩)) (i75 56 _ (fun e => by have := (hj _ _ _ _ e).1; omega))
  · rw [kS_R, far 103 (by decide)]; exact a7 j hj'
  · rw [kS_R, far (50 + 14) (by decide), far (50 + 12) (by decide)]; exact d6 i
  · rw [kS_R, far (50 + 21) (by decide)]; exact d8 j p hj' hp
  · rw [kS_R, far (100 + 2) (by decide), far (100 + 1) (by decide)]; exact d9 k hk
  · rw [kS_R, far (50 + f) (by unfold mInt at hf; omega)]; exact a9 f i hf
  · rw [kS_R, far 70 (by decide)]; exact a10 j q hj' hq
  · have hr : mRow f := by unfold mInt at hf; unfold mRow; omega
    have hl : mLen f = 8 := by unfold mInt at hf; unfold mLen; rw [if_neg (by omega), if_neg (by omega)]
    rw [kS_R, co f i hr (by omega)]; exact a12 f i hf hi
  · rw [kS_R]
    exact (full 14 i (Or.inr (Or.inr rfl)) (fun h8 => by
      refine (d6 i).1.trans ?_
      rw [if_neg (by omega)])).trans (d6 i).1
  · rw [kS_R]
    exact (full 12 i (Or.inr (Or.inl rfl)) (fun h8 => by
      refine (d6 i).2.trans ?_
      rw [if_neg (by omega)])).trans (d6 i).2
  · rw [kS_R]
    exact (cp 21 _ (by unfold mRow; omega) (by show 8 * j + p < 24; omega)).trans (d8 j p hj' hp)
  · rw [kS_R, far (100 + 2) (by decide), far (100 + 1) (by decide)]; exact d9 k hk
  · rw [kS_R]
    exact (full f i (Or.inl hf) (fun h8 => (a9 f i hf).trans (hg0 f i hf (by omega)))).trans (a9 f i hf)
  · rw [kS_R]
    exact (cp 20 _ (by unfold mRow; omega) (by show 6 * j + q < 18; omega)).trans (a10 j q hjm hq)
  · exact k1 _ (fun f hf e => by have := (hj _ _ _ _ e).1; unfold mRow at hf; omega)
end CMS
