/-! figure and drift -/
def drS (a : Int32 × Int32 × Int32) (fig : Int32) : Int32 × Int32 × Int32 := if walkF fig = 0 then (a.1, a.2.1, fmF (a.2.2 + turnF fig)) else (a.1 + colF (fmF (a.2.2 + wayF fig)), a.2.1 + rowF (fmF (a.2.2 + wayF fig)), fmF (a.2.2 + turnF fig))
def drA (df : Nat → Nat → Int32) (k i : Nat) : Int32 × Int32 × Int32 := fld (fun a p => drS a (df k p)) (0, 0, 0) i
def drO (a : Int32 × Int32 × Int32) (w : Nat) : Int32 := if w = 0 then a.1 else if w = 1 then a.2.1 else if w = 2 then a.2.2 else rtsF a.1 a.2.1 a.2.2
theorem drA_f {df : Nat → Nat → Int32} {k i : Nat} : ∃ f, f < 4 ∧ (drA df k i).2.2 = nI f := by
  induction i with
  | zero => exact ⟨0, by decide, rfl⟩
  | succ i ih =>
    obtain ⟨f, hf, ef⟩ := ih
    have e : (drA df k (i + 1)).2.2 = fmF ((drA df k i).2.2 + turnF (df k i)) := by
      show (drS (drA df k i) (df k i)).2.2 = _
      unfold drS
      split <;> rfl
    rw [e, ef, (turnC hf (df k i)).1]
    obtain ⟨-, w, hw, ew, -⟩ := turnC hf (df k i)
    exact ⟨(f + w) % 4, Nat.mod_lt _ (by decide), by rw [ew]; exact (dirC hf hw).2.2.2.2⟩
section CFIG
variable {S : St} {ad : Nat → Nat → Nat} {tl n m : Nat} {tb dl dn : Nat → Nat} {df g wg rd I R : Nat → Nat → Int32} {pt : Nat → Option Nat} {bt u v : Int32}
theorem HC.len (h : HC S ad tl tb dl df n g pt dn bt m wg rd) {k : Nat} (hk : k < 8) : dl k ≤ 24 ∧ sI S 5 (ad 10 k) = nI (dl k) := ⟨(h.2.2.2.1.2.2 k hk).2.2.2.1, (h.2.2.2.1.2.2 k hk).2.2.1⟩
theorem s_figure {post : Int32 → Prop} {px : String → Prop} (h : HC S ad tl tb dl df n g pt dn bt m wg rd)
    (hok : ∀ k p, k < 8 → v = nI k → p < dl k → u = nI p → post (df k p)) (hno : (¬ ∃ k p, k < 8 ∧ v = nI k ∧ p < dl k ∧ u = nI p) → px "java/lang/IndexOutOfBoundsException") : w_H_figure post px S (ad 1 0) v u := by
  unfold w_H_figure
  refine s_needD h (fun k hk e => ⟨fun c => hno ?_, fun c => ⟨_, rfl, h.aD hk, ?_⟩⟩) (fun c => hno (fun ⟨k, p, h1, h2, _⟩ => c ⟨k, h1, h2⟩))
  · rintro ⟨k, p, h1, h2, h3, rfl⟩
    exact nI_pos (by have := h.len h1; omega) c
  · obtain ⟨d1, d2⟩ := h.len hk
    obtain ⟨p, hp, rfl⟩ := nI_of c
    rw [d2]
    refine ⟨fun c2 => ?_, fun c2 => hno ?_⟩
    · have hlt : p < dl k := (nI_ltI hp (by omega)).mp c2
      refine s_figureAt h.2.2.2.1.2.2 hk ?_
      rw [figO_nI hlt d1]
      exact hok k p hk e hlt rfl
    · rintro ⟨k', p', h1, h2, h3, h4⟩
      have e1 : k = k' := (nI_eq (by omega) (by omega)).mp (e.symm.trans h2)
      subst e1
      have e2 : p = p' := (nI_eq hp (by omega)).mp h4
      subst e2
      exact c2 (nI_lt h3 (by omega))
theorem s_drift {post : Int32 → Prop} {px : String → Prop} (h : HC S ad tl tb dl df n g pt dn bt m wg rd)
    (hok : ∀ k w, k < 8 → v = nI k → w < 4 → u = nI w → post (drO (drA df k (dl k)) w)) (hno : (¬ ∃ k w, k < 8 ∧ v = nI k ∧ w < 4 ∧ u = nI w) → px "java/lang/IndexOutOfBoundsException") : w_H_drift post px S (ad 1 0) v u := by
  unfold w_H_drift
  refine s_needD h (fun k hk e => s_kind 4 (by decide) (fun w hw ew => ⟨_, rfl, h.aD hk, ?_⟩) (fun c => hno (fun ⟨k, w, _, _, h3, h4⟩ => c ⟨w, h3, h4⟩))) (fun c => hno (fun ⟨k, w, h1, h2, _⟩ => c ⟨k, h1, h2⟩))
  obtain ⟨d1, d2⟩ := h.len hk
  have hp := hok k w hk e hw ew
  subst ew
  unfold w_D_driftOf
  refine ⟨fun q a b c p => ∃ i, i ≤ dl k ∧ q = dl k - i ∧ p = nI i ∧ drA df k i = (a, b, c), ⟨dl k, 0, Nat.zero_le _, rfl, rfl, rfl⟩, ?_⟩
  rintro q a b c p ⟨i, hi, rfl, rfl, ea⟩
  rw [d2]
  refine ⟨fun hc => ?_, fun hc => ?_⟩
  · have : i = dl k := by
      have := (nI_leI (by omega) (by omega)).mp hc
      omega
    subst this
    rw [ea] at hp
    rcases (show w = 0 ∨ w = 1 ∨ w = 2 ∨ w = 3 by omega) with rfl | rfl | rfl | rfl
    · exact ⟨fun _ => hp, fun e => absurd e (by decide), fun e => absurd e (by decide), fun e => absurd rfl e⟩
    · exact ⟨fun e => absurd e (by decide), fun _ => hp, fun e => absurd e (by decide), fun _ e => absurd rfl e⟩
    · exact ⟨fun e => absurd e (by decide), fun e => absurd e (by decide), fun _ => hp, fun _ _ e => absurd rfl e⟩
    · exact ⟨fun e => absurd e (by decide), fun e => absurd e (by decide), fun e => absurd e (by decide), fun _ _ _ => e_roundsToStart.mpr hp⟩
  · have hlt : i < dl k := Nat.not_le.mp fun q => hc (nI_le q (by omega))
    refine s_figureAt h.2.2.2.1.2.2 hk ?_
    rw [figO_nI hlt d1]
    have e0 : drA df k (i + 1) = drS (drA df k i) (df k i) := rfl
    rw [ea] at e0
    generalize df k i = fig at e0 ⊢
    rw [e_isWalk]
    refine ⟨fun x y => (x, y) = ((drA df k (i + 1)).1, (drA df k (i + 1)).2.1), ?_, fun hw0 => ?_, fun hw0 => ?_⟩
    · intro x y hxy
      obtain ⟨rfl, rfl⟩ := Prod.mk.inj hxy
      rw [e_turnOf, e_turned]
      rintro _ rfl
      refine ⟨dl k - (i + 1), by omega, i + 1, hlt, rfl, nI_1 i, ?_⟩
      have : (drA df k (i + 1)).2.2 = fmF (c + turnF fig) := by
        rw [e0]
        unfold drS
        split <;> rfl
      rw [← this]
    · rw [e0]; unfold drS; rw [if_pos hw0]
    · rw [e_wayOf, e_turned, e_columnStep]
      rintro _ rfl
      rw [e_rowStep]
      rintro _ rfl
      rw [e0]; unfold drS; rw [if_neg hw0]
end CFIG
section MFIG
variable {S : St} {ad : Nat → Nat → Nat} {tl n m : Nat} {tb dl dn : Nat → Nat} {df g wg rd I R : Nat → Nat → Int32} {pt : Nat → Option Nat} {bt u v : Int32}
theorem HM.ln (h : HM S ad tl tb dl df n g pt dn bt m wg rd) : sQ S 60 (ad 100 0) = some (ad 102 0) ∧ isA S 10 (ad 102 0) ∧ sN S (ad 102 0) = 8 := h.mc.1.2.2.2.2.2
theorem HM.fg (h : HM S ad tl tb dl df n g pt dn bt m wg rd) : sQ S 59 (ad 100 0) = some (ad 101 0) ∧ isA S 10 (ad 101 0) ∧ sN S (ad 101 0) = 192 := h.mc.1.2.2.2.2.1
theorem HM.md (h : HM S ad tl tb dl df n g pt dn bt m wg rd) {k : Nat} (hk : k < 8) : sR S (ad 102 0) k = nI (dl k) ∧ 1 ≤ dl k ∧ dl k ≤ 24 ∧ ∀ j, j < dl k → sR S (ad 101 0) (24 * k + j) = df k j := h.mc.2.2.2.2.2.2.2.2 k hk
theorem s_mfigure {post : Int32 → St → Prop} (hj : Inj ad) (h : HM S ad tl tb dl df n g pt dn bt m wg rd)
    (hok : ∀ k p, k < 8 → v = nI k → p < dl k → u = nI p → ∀ S', MR S ad 0 tl tb dl df n g pt dn bt m wg rd S' → post (df k p) S') (hno : (¬ ∃ k p, k < 8 ∧ v = nI k ∧ p < dl k ∧ u = nI p) → ∀ S', MR S ad 1 tl tb dl df n g pt dn bt m wg rd S' → post 0 S') : w_M_figure post S (ad 100 0) v u := by
  unfold w_M_figure
  rintro S1 rfl
  have h1 : HM (pI S 56 (ad 100 0) 0) ad tl tb dl df n g pt dn bt m wg rd := h.th
  have f1 : Fr (fun t _ => t < 45) S (pI S 56 (ad 100 0) 0) ad ad := fr_th hj
  have e56 : sI (pI S 56 (ad 100 0) 0) 56 (ad 100 0) = 0 := th_at
  generalize pI S 56 (ad 100 0) 0 = S1 at *
  refine s_inR 0 7 (by decide) (by decide) (fun k _ hk e => ⟨w_M_no (fun r4 S5 => post r4 S5) S1 (ad 100 0) 1, id, fun c => absurd c (by decide), fun _ => ?_⟩) (fun c => ⟨w_M_no (fun r4 S5 => post r4 S5) S1 (ad 100 0) 1, id, fun _ => s_no hj h1 f1 (hno (fun ⟨k, p, hk, e, _⟩ => c ⟨k, Nat.zero_le _, by omega, e⟩)), fun c => absurd rfl c⟩)
  subst e
  obtain ⟨d1, d2, d3, d4⟩ := h1.md (show k < 8 by omega)
  refine fun o e => ⟨_, e.trans h1.ln.1, h1.ln.2.1, by rw [h1.ln.2.2]; exact vp_in_nI (by omega) (by decide), ?_⟩
  rw [nI_clamp (show k < 2 ^ 31 by omega), d1]
  refine s_inL (by omega) (fun p hp e => ⟨fun c => absurd c (by decide), fun _ => ?_⟩) (fun c => ⟨fun _ => s_no hj h1 f1 (hno ?_), fun c => absurd rfl c⟩)
  · subst e
    have e24 : (24 : Int32) * nI k + nI p = nI (24 * k + p) := by rw [show (24 : Int32) = nI 24 from rfl, pk_mul, nI_add]
    refine fun o e => ⟨_, e.trans h1.fg.1, h1.fg.2.1, by rw [h1.fg.2.2, e24]; exact vp_in_nI (by omega) (by decide), ?_⟩
    rw [e24, nI_clamp (show 24 * k + p < 2 ^ 31 by omega), d4 p hp]
    exact hok k p (by omega) rfl hp rfl S1 ⟨h1, e56, f1⟩
  · rintro ⟨k', p, h2, h3, h4, h5⟩
    have : k = k' := (nI_eq (by omega) (by omega)).mp h3
    subst this
    exact c ⟨p, h4, h5⟩
theorem s_mdrift {post : Int32 → St → Prop} (hj : Inj ad) (h : HM S ad tl tb dl df n g pt dn bt m wg rd)
    (hok : ∀ k w, k < 8 → v = nI k → w < 4 → u = nI w → ∀ S', MR S ad 0 tl tb dl df n g pt dn bt m wg rd S' → post (drO (drA df k (dl k)) w) S') (hno : (¬ ∃ k w, k < 8 ∧ v = nI k ∧ w < 4 ∧ u = nI w) → ∀ S', MR S ad 1 tl tb dl df n g pt dn bt m wg rd S' → post 0 S') : w_M_drift post S (ad 100 0) v u := by
  unfold w_M_drift
  rintro S1 rfl
  have h1 : HM (pI S 56 (ad 100 0) 0) ad tl tb dl df n g pt dn bt m wg rd := h.th
  have f1 : Fr (fun t _ => t < 45) S (pI S 56 (ad 100 0) 0) ad ad := fr_th hj
  have e56 : sI (pI S 56 (ad 100 0) 0) 56 (ad 100 0) = 0 := th_at
  generalize pI S 56 (ad 100 0) 0 = S1 at *
  refine s_inR 0 7 (by decide) (by decide) (fun k _ hk e => ⟨w_M_no (fun r4 S5 => post r4 S5) S1 (ad 100 0) 1, id, fun c => absurd c (by decide), fun _ => ?_⟩) (fun c => ⟨w_M_no (fun r4 S5 => post r4 S5) S1 (ad 100 0) 1, id, fun _ => s_no hj h1 f1 (hno (fun ⟨k, p, hk, e, _⟩ => c ⟨k, Nat.zero_le _, by omega, e⟩)), fun c => absurd rfl c⟩)
  refine s_inR 0 3 (by decide) (by decide) (fun w _ hw ew => ⟨fun c => absurd c (by decide), fun _ => ?_⟩) (fun c => ⟨fun _ => s_no hj h1 f1 (hno (fun ⟨k, w, _, _, hw, e⟩ => c ⟨w, Nat.zero_le _, by omega, e⟩)), fun c => absurd rfl c⟩)
  have hp := hok k w (by omega) e (by omega) ew S1 ⟨h1, e56, f1⟩
  subst e
  subst ew
  obtain ⟨d1, d2, d3, d4⟩ := h1.md (show k < 8 by omega)
  refine ⟨fun q a b c p => ∃ i, i ≤ dl k ∧ q = dl k - i ∧ p = nI i ∧ drA df k i = (a, b, c), ⟨dl k, 0, Nat.zero_le _, rfl, rfl, rfl⟩, ?_⟩
  rintro q a b c p ⟨i, hi, rfl, rfl, ea⟩
  refine fun o e => ⟨_, e.trans h1.ln.1, h1.ln.2.1, by rw [h1.ln.2.2]; exact vp_in_nI (by omega) (by decide), ?_⟩
  rw [nI_clamp (show k < 2 ^ 31 by omega), d1]
  refine ⟨fun hc => ?_, fun hc => ?_⟩
  · have : i = dl k := by
      have := (nI_leI (by omega) (by omega)).mp hc
      omega
    subst this
    rw [ea] at hp
    rcases (show w = 0 ∨ w = 1 ∨ w = 2 ∨ w = 3 by omega) with rfl | rfl | rfl | rfl
    · exact ⟨fun e => absurd e (by decide), fun _ => ⟨fun _ => hp, fun e => absurd rfl e⟩⟩
    · exact ⟨fun e => absurd e (by decide), fun _ => ⟨fun e => absurd e (by decide), fun _ => ⟨fun _ => hp, fun e => absurd rfl e⟩⟩⟩
    · exact ⟨fun e => absurd e (by decide), fun _ => ⟨fun e => absurd e (by decide), fun _ => ⟨fun e => absurd e (by decide), fun _ => hp⟩⟩⟩
    · refine ⟨fun _ => ?_, fun e => absurd (by decide) e⟩
      have hp : post (rtsF a b c) S1 := hp
      unfold rtsF at hp
      refine ⟨fun x => ⟨fun y => ⟨fun z => ?_, fun z => ?_⟩, fun y => ?_⟩, fun x => ⟨fun y => ?_, fun y => ?_⟩⟩
      · rw [if_pos x, if_pos y, if_pos z] at hp; exact hp
      · rw [if_pos x, if_pos y, if_neg z] at hp; exact hp
      · rw [if_pos x, if_neg y] at hp; exact hp
      · rw [if_neg x, if_pos y] at hp; exact hp
      · rw [if_neg x, if_neg y] at hp; exact hp
  · have hlt : i < dl k := Nat.not_le.mp fun q => hc (nI_le q (by omega))
    have e24 : (24 : Int32) * nI k + nI i = nI (24 * k + i) := by rw [show (24 : Int32) = nI 24 from rfl, pk_mul, nI_add]
    refine fun o e => ⟨_, e.trans h1.fg.1, h1.fg.2.1, by rw [h1.fg.2.2, e24]; exact vp_in_nI (by omega) (by decide), ?_⟩
    rw [e24, nI_clamp (show 24 * k + i < 2 ^ 31 by omega), d4 i hlt]
    rintro _ rfl
    have e0 : drA df k (i + 1) = drS (drA df k i) (df k i) := rfl
    obtain ⟨f, hf, ef⟩ := drA_f (df := df) (k := k) (i := i)
    rw [ea] at e0 ef
    have ef : c = nI f := ef
    subst ef
    generalize df k i = fig at e0 ⊢
    have ht := turnC hf fig
    refine ⟨fun x => x = wM fig, ?_, ?_, ?_⟩
    · rintro _ rfl
      refine ⟨fun x y => (x, y) = ((drA df k (i + 1)).1, (drA df k (i + 1)).2.1), ?_, fun hw0 => ?_, fun hw0 => ?_⟩
      · intro x y hxy
        obtain ⟨rfl, rfl⟩ := Prod.mk.inj hxy
        refine ⟨fun x => x = tM fig, ?_, fun h => ?_, fun h => ⟨fun h2 => ?_, fun h2 => ?_⟩⟩
        · rintro _ rfl _ rfl _ rfl
          refine ⟨dl k - (i + 1), by omega, i + 1, hlt, rfl, nI_1 i, ?_⟩
          have e1 : (drA df k (i + 1)).2.2 = fmF (nI f + turnF fig) := by
            rw [e0]
            unfold drS
            split <;> rfl
          have e2 : nI f + tM fig - (nI f + tM fig) / 4 * 4 = (drA df k (i + 1)).2.2 := by rw [e1, ht.1]; rfl
          rw [e2]
        · unfold tM; rw [if_pos h]
        · unfold tM; rw [if_neg h, if_pos h2]
        · unfold tM; rw [if_neg h, if_neg h2]
      · rw [e0]; unfold drS; rw [if_pos (wM_walk.1.mp hw0)]
      · have hw1 : ¬ walkF fig = 0 := fun q => hw0 (wM_walk.1.mpr q)
        obtain ⟨w', hw4, ew, ew2⟩ := wM_walk.2.1 hw1
        have hd := dirC hf hw4
        have e5 : nI f + wM fig - (nI f + wM fig) / 4 * 4 = rm4 (nI f + nI w') := by rw [ew]; rfl
        rw [e5]
        rintro _ rfl
        refine ⟨hd.2.2.2.1, ?_⟩
        rintro _ rfl _ rfl
        refine ⟨hd.2.2.2.1, ?_⟩
        rintro _ rfl
        rw [e0]; unfold drS; rw [if_neg hw1, ew2, hd.1, hd.2.1, hd.2.2.1]
    · intro h; unfold wM; rw [if_pos h]
    · intro h
      refine ⟨fun h2 => ?_, fun h2 => ⟨fun h3 => ?_, fun h3 => ⟨fun h4 => ?_, fun h4 => ?_⟩⟩⟩
      · unfold wM; rw [if_neg h, if_pos h2]
      · unfold wM; rw [if_neg h, if_neg h2, if_pos h3]
      · unfold wM; rw [if_neg h, if_neg h2, if_neg h3, if_pos h4]
      · unfold wM; rw [if_neg h, if_neg h2, if_neg h3, if_neg h4]
end MFIG
