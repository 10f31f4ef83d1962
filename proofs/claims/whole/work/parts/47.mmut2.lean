def ptM (pt : Nat → Option Nat) (o : Nat) : Nat → Option Nat := fun x => if x = o then none else pt x
theorem ptM2 {pt : Nat → Option Nat} {i j : Nat} : ptM (ptM pt i) j = ptN pt i j := by
  funext x
  unfold ptM ptN
  by_cases h1 : x = i <;> by_cases h2 : x = j <;> simp [h1, h2]
section MMUT2
variable {S S0 : St} {ad : Nat → Nat → Nat} {tl n m B : Nat} {tb dl dn : Nat → Nat} {df g wg rd I0 I R : Nat → Nat → Int32} {pt : Nat → Option Nat} {bt u v : Int32} {Q : Nat → Nat → Option Nat}
theorem s_mpair {post : Int32 → St → Prop} (hj : Inj ad) (h : HM S ad tl tb dl df n g pt dn bt m wg rd)
    (hpt : ∀ i j, i < n → pt i = some j → j < n)
    (hok : ∀ i j, i < n → v = nI i → j < n → u = nI j → i ≠ j → pt i = none → pt j = none → bsF g i j = 1 → ∀ S', MR S ad 0 tl tb dl df n (up2 g 15 j 1) (ptP pt i j) dn bt m wg rd S' → post (sumF n (up2 g 15 j 1) 2) S')
    (hno3 : ∀ i j, i < n → v = nI i → j < n → u = nI j → i ≠ j → ¬ (pt i = none ∧ pt j = none ∧ bsF g i j = 1) → ∀ S', MR S ad 3 tl tb dl df n g pt dn bt m wg rd S' → post 0 S')
    (hno2 : ∀ i, i < n → v = nI i → u = nI i → ∀ S', MR S ad 2 tl tb dl df n g pt dn bt m wg rd S' → post 0 S')
    (hno : (¬ ∃ i j, i < n ∧ v = nI i ∧ j < n ∧ u = nI j) → ∀ S', MR S ad 1 tl tb dl df n g pt dn bt m wg rd S' → post 0 S') : w_M_pair post S (ad 100 0) v u := by
  unfold w_M_pair
  rintro S1 rfl
  have h1 : HM (pI S 56 (ad 100 0) 0) ad tl tb dl df n g pt dn bt m wg rd := h.th
  have f1 : Fr (fun t _ => t < 45) S (pI S 56 (ad 100 0) 0) ad ad := fr_th hj
  have e56 : sI (pI S 56 (ad 100 0) 0) 56 (ad 100 0) = 0 := th_at
  generalize pI S 56 (ad 100 0) 0 = S1 at *
  have hn := h1.mc.2.1
  refine s_isDancer h1 (fun i hi e => ⟨w_M_no (fun r4 S5 => post r4 S5) S1 (ad 100 0) 1, id, fun c => absurd c (by decide), fun _ => ?_⟩) (fun c => ⟨w_M_no (fun r4 S5 => post r4 S5) S1 (ad 100 0) 1, id, fun _ => s_no hj h1 f1 (hno (fun ⟨k, p, hk, e, _⟩ => c ⟨k, hk, e⟩)), fun c => absurd rfl c⟩)
  refine s_isDancer h1 (fun j hjn ej => ⟨fun c => absurd c (by decide), fun _ => ⟨fun c => s_no hj h1 f1 (hno2 i hi e (c ▸ e)), fun c => ?_⟩⟩) (fun c => ⟨fun _ => s_no hj h1 f1 (hno (fun ⟨_, j, _, _, hk, e⟩ => c ⟨j, hk, e⟩)), fun c => absurd rfl c⟩)
  have hij : i ≠ j := fun q => c (by rw [e, ej, q])
  replace hok := hok i j hi e hjn ej hij
  replace hno3 := hno3 i j hi e hjn ej hij
  subst e
  subst ej
  have hin : vp_in (nI i) 8 := vp_in_nI (by omega) (by decide)
  have hjn8 : vp_in (nI j) 8 := vp_in_nI (by omega) (by decide)
  have pn : ∀ x, x < n → (ptI (pt x) = -1 ↔ pt x = none) := fun x hx => ptI_none (fun y hy => by have := hpt x y hx hy; omega)
  refine fun o eo => ⟨_, eo.trans h1.qS.1, h1.qS.2, fun o eo => ⟨_, eo.trans h1.r14.1, h1.r14.2.1, by rw [h1.r14.2.2]; exact hin, w_M_no (fun r15 S16 => post r15 S16) S1 (ad 100 0) 3, id, fun c1 => ?_, fun c1 => ?_⟩⟩
  · rw [nI_clamp (show i < 2 ^ 31 by omega), h1.v14 hi, pn i hi] at c1
    refine fun o eo => ⟨_, eo.trans h1.qS.1, h1.qS.2, fun o eo => ⟨_, eo.trans h1.r14.1, h1.r14.2.1, by rw [h1.r14.2.2]; exact hjn8, fun c2 => ?_, fun c2 => ?_⟩⟩
    · rw [nI_clamp (show j < 2 ^ 31 by omega), h1.v14 hjn, pn j hjn] at c2
      refine fun o eo => ⟨_, eo.trans h1.qS.1, h1.qS.2, ?_⟩
      refine s_mbeside (S := S1) (I := sI S1) (I0 := sR S1) (R := sR S1) h1.mc h1.mk hi hjn ⟨fun c3 => s_no hj h1 f1 (hno3 (fun q => by rw [q.2.2] at c3; exact absurd c3 (by decide))), fun c3 => ?_⟩
      have b1 : bsF g i j = 1 := by
        unfold bsF at c3 ⊢
        split
        · rfl
        · rename_i q; rw [if_neg q] at c3; exact absurd rfl c3
      replace hok := hok c1 c2 b1
      refine fun o eo => ⟨_, eo.trans h1.qS.1, h1.qS.2, fun o eo => ⟨_, eo.trans h1.r14.1, h1.r14.2.1, by rw [h1.r14.2.2]; exact hin, ?_⟩⟩
      intro S35 e35
      refine fun o eo => ⟨ad 50 0, ?_, ?_, fun o eo => ⟨ad 64 0, ?_, ?_, ?_, ?_⟩⟩
      · rw [eo, e35]; exact h1.qS.1
      · rw [e35]; exact h1.qS.2
      · rw [eo, e35]; exact h1.r14.1
      · rw [e35]; exact h1.r14.2.1
      · rw [e35]; show vp_in (nI j) (sN S1 (ad 64 0)); rw [h1.r14.2.2]; exact hjn8
      intro S43 e43
      refine fun o eo => ⟨ad 50 0, ?_, ?_, fun o eo => ⟨ad 65 0, ?_, ?_, ?_, ?_⟩⟩
      · rw [eo, e43, e35]; exact h1.qS.1
      · rw [e43, e35]; exact h1.qS.2
      · rw [eo, e43, e35]; exact h1.r15.1
      · rw [e43, e35]; exact h1.r15.2.1
      · rw [e43, e35]; show vp_in (nI j) (sN S1 (ad 65 0)); rw [h1.r15.2.2]; exact hjn8
      intro S51 e51
      have e51 : S51 = kS S1 (sI S1) (up2 (up2 (up2 (sR S1) (ad 64 0) i (nI j)) (ad 64 0) j (nI i)) (ad 65 0) j 1) := by
        rw [e51, e43, e35, nI_clamp (show i < 2 ^ 31 by omega), nI_clamp (show j < 2 ^ 31 by omega), show vp_nar .boolean 1 = 1 from rfl]
        rfl
      have k1 : HM S51 ad tl tb dl df n (up2 g 15 j 1) (ptP pt i j) dn bt m wg rd := by
        rw [e51]
        refine h1.rows hn h1.mc.2.2.1 rfl h1.mc.2.2.2.1 h1.mc.2.2.2.2.1 rfl (fun t ht => ?_) (fun x => ?_) (fun x => ?_) h1.mc.2.2.2.2.2.2.1 (fun j p h2 h3 => ?_) (fun f x hf => ?_) (fun j q h2 h3 => ?_)
        · rw [row_g (fun e => by have := (hj _ _ _ _ e).1; omega), row_g (fun e => by have := (hj _ _ _ _ e).1; omega), row_g (fun e => by have := (hj _ _ _ _ e).1; omega)]
        · rw [row_g (fun e => by have := (hj _ _ _ _ e).1; omega)]
          unfold ptP
          by_cases c4 : x = i
          · subst c4; rw [up2_a hij, up2_at, if_pos hi, if_pos rfl]; rfl
          · by_cases c5 : x = j
            · subst c5; rw [up2_at, if_pos hjn, if_neg c4, if_pos rfl]; rfl
            · rw [up2_a c5, up2_a c4, if_neg c4, if_neg c5]; exact (h1.mc.2.2.2.2.2.1 x).1
        · rw [row_g (fun e => by have := (hj _ _ _ _ e).1; omega), row_g (fun e => by have := (hj _ _ _ _ e).1; omega), row_g (fun e => by have := (hj _ _ _ _ e).1; omega)]; exact (h1.mc.2.2.2.2.2.1 x).2
        · rw [row_g (fun e => by have := (hj _ _ _ _ e).1; omega), row_g (fun e => by have := (hj _ _ _ _ e).1; omega), row_g (fun e => by have := (hj _ _ _ _ e).1; omega)]; exact h1.mc.2.2.2.2.2.2.2.1 j p h2 h3
        · by_cases c : f = 15
          · subst c
            by_cases c2 : x = j
            · subst c2; rw [up2_at]; exact up2_at.symm
            · rw [up2_a c2, row_g (fun e => by have := (hj _ _ _ _ e).1; omega), row_g (fun e => by have := (hj _ _ _ _ e).1; omega), up2_a c2]; exact h1.mk.vw hf
          · rw [row_g (fun e => by have := (hj _ _ _ _ e).1; omega), row_g (fun e => by have := (hj _ _ _ _ e).1; unfold mInt at hf; omega), row_g (fun e => by have := (hj _ _ _ _ e).1; unfold mInt at hf; omega), up2_f c]; exact h1.mk.vw hf
        · rw [row_g (fun e => by have := (hj _ _ _ _ e).1; omega), row_g (fun e => by have := (hj _ _ _ _ e).1; omega), row_g (fun e => by have := (hj _ _ _ _ e).1; omega)]; exact h1.mk.vww h2 h3
      have k2 : Fr (fun t _ => t < 45) S S51 ad ad := by
        rw [e51]
        exact ((f1.R (v := nI j) (j := i) (nam (t0 := 64) (i0 := 0) hj (by decide))).R (v := nI i) (j := j) (nam (t0 := 64) (i0 := 0) hj (by decide))).R (v := 1) (j := j) (nam (t0 := 65) (i0 := 0) hj (by decide))
      have k3 : sI S51 56 (ad 100 0) = 0 := by rw [e51]; exact e56
      clear e51 e43 e35
      refine fun o eo => ⟨_, eo.trans k1.qS.1, k1.qS.2, ?_⟩
      exact s_sum (S := S51) (I := sI S51) (R := sR S51) k1.mc k1.mk (hok S51 ⟨k1, k3, k2⟩)
    · rw [nI_clamp (show j < 2 ^ 31 by omega), h1.v14 hjn, pn j hjn] at c2
      exact s_no hj h1 f1 (hno3 (fun q => c2 q.2.1))
  · rw [nI_clamp (show i < 2 ^ 31 by omega), h1.v14 hi, pn i hi] at c1
    exact s_no hj h1 f1 (hno3 (fun q => c1 q.1))
/-- one stands alone -/
theorem HM.alone {b : Nat} (hj : Inj ad) (h1 : HM S ad tl tb dl df n g pt dn bt m wg rd) (hb : b < n) : HM (pR (pR S (ad 64 0) b (-1)) (ad 65 0) b 0) ad tl tb dl df n (up2 g 15 b 0) (ptM pt b) dn bt m wg rd := by
  refine HM.rows (S := S) (I := sI S) (R := up2 (up2 (sR S) (ad 64 0) b (-1)) (ad 65 0) b 0) h1 h1.mc.2.1 h1.mc.2.2.1 rfl h1.mc.2.2.2.1 h1.mc.2.2.2.2.1 rfl (fun t ht => ?_) (fun x => ?_) (fun x => ?_) h1.mc.2.2.2.2.2.2.1 (fun j p h2 h3 => ?_) (fun f x hf => ?_) (fun j q h2 h3 => ?_)
  · rw [row_g (fun e => by have := (hj _ _ _ _ e).1; omega), row_g (fun e => by have := (hj _ _ _ _ e).1; omega)]
  · rw [row_g (fun e => by have := (hj _ _ _ _ e).1; omega)]
    unfold ptM
    by_cases c4 : x = b
    · subst c4; rw [up2_at, if_pos hb, if_pos rfl]; rfl
    · rw [up2_a c4, if_neg c4]; exact (h1.mc.2.2.2.2.2.1 x).1
  · rw [row_g (fun e => by have := (hj _ _ _ _ e).1; omega), row_g (fun e => by have := (hj _ _ _ _ e).1; omega)]; exact (h1.mc.2.2.2.2.2.1 x).2
  · rw [row_g (fun e => by have := (hj _ _ _ _ e).1; omega), row_g (fun e => by have := (hj _ _ _ _ e).1; omega)]; exact h1.mc.2.2.2.2.2.2.2.1 j p h2 h3
  · by_cases c : f = 15
    · subst c
      by_cases c2 : x = b
      · subst c2; rw [up2_at]; exact up2_at.symm
      · rw [up2_a c2, row_g (fun e => by have := (hj _ _ _ _ e).1; omega), up2_a c2]; exact h1.mk.vw hf
    · rw [row_g (fun e => by have := (hj _ _ _ _ e).1; omega), row_g (fun e => by have := (hj _ _ _ _ e).1; unfold mInt at hf; omega), up2_f c]; exact h1.mk.vw hf
  · rw [row_g (fun e => by have := (hj _ _ _ _ e).1; omega), row_g (fun e => by have := (hj _ _ _ _ e).1; omega)]; exact h1.mk.vww h2 h3
theorem s_mpart {post : Int32 → St → Prop} (hj : Inj ad) (h : HM S ad tl tb dl df n g pt dn bt m wg rd)
    (hpt : ∀ i j, i < n → pt i = some j → j < n)
    (hok : ∀ i j, i < n → v = nI i → pt i = some j → ∀ S', MR S ad 0 tl tb dl df n (up2 (up2 g 15 i 0) 15 j 0) (ptN pt i j) dn bt m wg rd S' → post (nI j) S')
    (hno2 : ∀ i, i < n → v = nI i → pt i = none → ∀ S', MR S ad 2 tl tb dl df n g pt dn bt m wg rd S' → post 0 S')
    (hno : (¬ ∃ i, i < n ∧ v = nI i) → ∀ S', MR S ad 1 tl tb dl df n g pt dn bt m wg rd S' → post 0 S') : w_M_part post S (ad 100 0) v := by
  unfold w_M_part
  rintro S1 rfl
  have h1 : HM (pI S 56 (ad 100 0) 0) ad tl tb dl df n g pt dn bt m wg rd := h.th
  have f1 : Fr (fun t _ => t < 45) S (pI S 56 (ad 100 0) 0) ad ad := fr_th hj
  have e56 : sI (pI S 56 (ad 100 0) 0) 56 (ad 100 0) = 0 := th_at
  generalize pI S 56 (ad 100 0) 0 = S1 at *
  have hn := h1.mc.2.1
  refine s_isDancer h1 (fun i hi e => ⟨fun c => absurd c (by decide), fun _ => ?_⟩) (fun c => ⟨fun _ => s_no hj h1 f1 (hno c), fun c => absurd rfl c⟩)
  replace hok := fun j => hok i j hi e
  replace hno2 := hno2 i hi e
  subst e
  have hin : vp_in (nI i) 8 := vp_in_nI (by omega) (by decide)
  refine fun o eo => ⟨_, eo.trans h1.qS.1, h1.qS.2, fun o eo => ⟨_, eo.trans h1.r14.1, h1.r14.2.1, by rw [h1.r14.2.2]; exact hin, ?_⟩⟩
  rw [nI_clamp (show i < 2 ^ 31 by omega), h1.v14 hi]
  rintro _ rfl
  rw [ptI_none (fun y hy => by have := hpt i y hi hy; omega)]
  refine ⟨fun c => s_no hj h1 f1 (hno2 c), fun c => ?_⟩
  cases hp : pt i with
  | none => exact absurd hp c
  | some j =>
    have hjn := hpt i j hi hp
    replace hok := hok j hp
    have ej : ptI (some j) = nI j := rfl
    rw [ej]
    intro q S13 hq e13
    have w0 : TW S1 ad q 2 (fun x => if x = 0 then nI i else nI j) 0 S13 := by rw [e13]; exact TW.new hq
    clear e13
    refine ⟨by rw [w0.2.1]; exact vp_in_nI (n := 0) (by decide) (by decide), ?_⟩
    intro S16 e16
    have w1 : TW S1 ad q 2 (fun x => if x = 0 then nI i else nI j) 1 S16 := by rw [e16]; exact w0.st hq rfl
    clear e16
    refine ⟨by rw [w1.2.1]; exact vp_in_nI (n := 1) (by decide) (by decide), ?_⟩
    intro S18 e18
    have w2 : TW S1 ad q 2 (fun x => if x = 0 then nI i else nI j) 2 S18 := by rw [e18]; exact w1.st hq rfl
    clear e18
    rw [w2.2.1]
    rintro _ rfl
    have q64 : q ≠ ad 64 0 := fun e => hq (by rw [e]; exact h1.r14.2.1.1)
    have q65 : q ≠ ad 65 0 := fun e => hq (by rw [e]; exact h1.r15.2.1.1)
    have v0 : sR S18 q 0 = nI i := w2.2.2 0 (by decide)
    have v1 : sR S18 q 1 = nI j := w2.2.2 1 (by decide)
    refine ⟨fun k S' x => sN S' q = 2 ∧ sR S' q 0 = nI i ∧ sR S' q 1 = nI j ∧ sI S' 56 (ad 100 0) = 0 ∧ Fr (fun t _ => t < 45) S S' ad ad ∧ ((k = 2 ∧ x = 0 ∧ HM S' ad tl tb dl df n g pt dn bt m wg rd) ∨ (k = 1 ∧ x = 1 ∧ HM S' ad tl tb dl df n (up2 g 15 i 0) (ptM pt i) dn bt m wg rd) ∨ (k = 0 ∧ x = 2 ∧ HM S' ad tl tb dl df n (up2 (up2 g 15 i 0) 15 j 0) (ptN pt i j) dn bt m wg rd)), ⟨2, w2.2.1, v0, v1, (w2.ii h1.1).trans e56, f1.tr (w2.1.mono (fun _ _ _ => trivial)), Or.inl ⟨rfl, rfl, h1.mr w2⟩⟩, ?_⟩
    have step : ∀ (S2 : St) (g2 : Nat → Nat → Int32) (pt2 : Nat → Option Nat) (b : Nat), b < n → HM S2 ad tl tb dl df n g2 pt2 dn bt m wg rd → ∀ K : St → Prop, (∀ S', S' = pR (pR S2 (ad 64 0) b (-1)) (ad 65 0) b 0 → K S') → ∀ o28 : Option Nat, o28 = sQ S2 61 (ad 100 0) → ∃ y29 : Nat, o28 = some y29 ∧ isA S2 7 y29 ∧ ∀ o31 : Option Nat, o31 = sQ S2 47 y29 → ∃ y32 : Nat, o31 = some y32 ∧ isA S2 10 y32 ∧ vp_in (nI b) (sN S2 y32) ∧ ∀ S35 : St, S35 = pR S2 y32 ((nI b).toNatClampNeg) (-1) → ∀ o36 : Option Nat, o36 = sQ S35 61 (ad 100 0) → ∃ y37 : Nat, o36 = some y37 ∧ isA S35 7 y37 ∧ ∀ o39 : Option Nat, o39 = sQ S35 48 y37 → ∃ y40 : Nat, o39 = some y40 ∧ isA S35 11 y40 ∧ vp_in (nI b) (sN S35 y40) ∧ ∀ S43 : St, S43 = pR S35 y40 ((nI b).toNatClampNeg) (vp_nar .boolean 0) → K S43 := by
      intro S2 g2 pt2 b hb h2 K hK
      have hib : vp_in (nI b) 8 := vp_in_nI (by omega) (by decide)
      refine fun o eo => ⟨_, eo.trans h2.qS.1, h2.qS.2, fun o eo => ⟨_, eo.trans h2.r14.1, h2.r14.2.1, by rw [h2.r14.2.2]; exact hib, ?_⟩⟩
      rw [nI_clamp (show b < 2 ^ 31 by omega)]
      intro S35 e35
      refine fun o eo => ⟨ad 50 0, ?_, ?_, fun o eo => ⟨ad 65 0, ?_, ?_, ?_, ?_⟩⟩
      · rw [eo, e35]; exact h2.qS.1
      · rw [e35]; exact h2.qS.2
      · rw [eo, e35]; exact h2.r15.1
      · rw [e35]; exact h2.r15.2.1
      · rw [e35]; show vp_in (nI b) (sN S2 (ad 65 0)); rw [h2.r15.2.2]; exact hib
      intro S43 e43
      exact hK S43 (by rw [e43, e35]; rfl)
    rintro k S2 x ⟨n2, r0, r1, r56, f2, hx⟩
    rcases hx with ⟨rfl, rfl, h2⟩ | ⟨rfl, rfl, h2⟩ | ⟨rfl, rfl, h2⟩
    · refine ⟨fun c => absurd c (by decide), fun _ => ⟨by rw [n2]; exact vp_in_nI (n := 0) (by decide) (by decide), ?_⟩⟩
      have c0 : (0 : Int32).toNatClampNeg = 0 := rfl
      rw [c0, r0]
      rintro _ rfl
      refine step S2 _ _ i hi h2 _ (fun S' e' => ?_)
      have h3 := h2.alone hj hi
      rw [← e'] at h3
      rintro _ rfl
      refine ⟨1, by decide, by rw [e']; exact n2, by rw [e']; exact ((congrFun (row_g q65) 0).trans (congrFun (row_g q64) 0)).trans r0, by rw [e']; exact ((congrFun (row_g q65) 1).trans (congrFun (row_g q64) 1)).trans r1, by rw [e']; exact r56, ?_, Or.inr (Or.inl ⟨rfl, rfl, h3⟩)⟩
      rw [e']
      exact (f2.R (nam hj (by decide))).R (nam hj (by decide))
    · refine ⟨fun c => absurd c (by decide), fun _ => ⟨by rw [n2]; exact vp_in_nI (n := 1) (by decide) (by decide), ?_⟩⟩
      have c0 : (1 : Int32).toNatClampNeg = 1 := rfl
      rw [c0, r1]
      rintro _ rfl
      refine step S2 _ _ j hjn h2 _ (fun S' e' => ?_)
      have h3 := h2.alone hj hjn
      rw [← e', ptM2] at h3
      rintro _ rfl
      refine ⟨0, by decide, by rw [e']; exact n2, by rw [e']; exact ((congrFun (row_g q65) 0).trans (congrFun (row_g q64) 0)).trans r0, by rw [e']; exact ((congrFun (row_g q65) 1).trans (congrFun (row_g q64) 1)).trans r1, by rw [e']; exact r56, ?_, Or.inr (Or.inr ⟨rfl, rfl, h3⟩)⟩
      rw [e']
      exact (f2.R (nam hj (by decide))).R (nam hj (by decide))
    · exact ⟨fun _ => hok S2 ⟨h2, r56, f2⟩, fun c => absurd (by decide) c⟩
theorem s_mwind {post : Int32 → St → Prop} (hj : Inj ad) (h : HM S ad tl tb dl df n g pt dn bt m wg rd)
    (hok : ∀ i, i < n → v = nI i → ¬ u < (-200) → u ≤ 200 → ∀ S', MR S ad 0 tl tb dl df n (up2 g 10 i (wdF (g 10 i) u)) pt dn bt m wg rd S' → post (wdF (g 10 i) u) S')
    (hno2 : ∀ i, i < n → v = nI i → ¬ (¬ u < (-200) ∧ u ≤ 200) → ∀ S', MR S ad 2 tl tb dl df n g pt dn bt m wg rd S' → post 0 S')
    (hno : (¬ ∃ i, i < n ∧ v = nI i) → ∀ S', MR S ad 1 tl tb dl df n g pt dn bt m wg rd S' → post 0 S') : w_M_wind post S (ad 100 0) v u := by
  unfold w_M_wind
  rintro S1 rfl
  have h1 : HM (pI S 56 (ad 100 0) 0) ad tl tb dl df n g pt dn bt m wg rd := h.th
  have f1 : Fr (fun t _ => t < 45) S (pI S 56 (ad 100 0) 0) ad ad := fr_th hj
  have e56 : sI (pI S 56 (ad 100 0) 0) 56 (ad 100 0) = 0 := th_at
  generalize pI S 56 (ad 100 0) 0 = S1 at *
  have hn := h1.mc.2.1
  refine s_isDancer h1 (fun i hi e => ⟨fun c => absurd c (by decide), fun _ => ?_⟩) (fun c => ⟨fun _ => s_no hj h1 f1 (hno c), fun c => absurd rfl c⟩)
  replace hok := hok i hi e
  replace hno2 := hno2 i hi e
  subst e
  have hin : vp_in (nI i) 8 := vp_in_nI (by omega) (by decide)
  have hlt : (200 : Int32) < u ↔ ¬ u ≤ 200 := by
    rw [Int32.lt_iff_toInt_lt, Int32.le_iff_toInt_le]; omega
  unfold w_M_isIn
  rw [hlt]
  refine ⟨fun c => ⟨fun _ => s_no hj h1 f1 (hno2 (fun q => q.1 c)), fun c => absurd rfl c⟩, fun c => ⟨fun c2 => ⟨fun _ => s_no hj h1 f1 (hno2 (fun q => c2 q.2)), fun c => absurd rfl c⟩, fun c2 => ⟨fun c => absurd c (by decide), fun _ => ?_⟩⟩⟩
  replace hok := hok c (Classical.not_not.mp c2)
  refine fun o eo => ⟨_, eo.trans h1.qS.1, h1.qS.2, fun o7 e7 => fun o eo => ⟨_, eo.trans h1.qS.1, h1.qS.2, fun o eo => ⟨_, eo.trans h1.r10.1, h1.r10.2.1, by rw [h1.r10.2.2]; exact hin, ?_⟩⟩⟩
  have v10 : sR S1 (ad 60 0) i = g 10 i := h1.mk.vw (f := 10) (by unfold mInt; omega)
  rw [nI_clamp (show i < 2 ^ 31 by omega), v10]
  rintro v15 e15 v16 e16
  have e16 : v16 = wdF (g 10 i) u := by rw [e16, e15]; rfl
  refine ⟨_, e7.trans h1.r10.1, h1.r10.2.1, by rw [h1.r10.2.2]; exact hin, ?_⟩
  intro S20 e20
  rw [e16] at e20
  have k1 : HM S20 ad tl tb dl df n (up2 g 10 i (wdF (g 10 i) u)) pt dn bt m wg rd := by
    rw [e20]
    exact HM.mks (S := S1) (I := sI S1) (R := up2 (sR S1) (ad 60 0) i (wdF (g 10 i) u)) hj h1 (h1.mk.up (f := 10) hj (by unfold mInt; omega)) (fun _ _ _ => rfl) h1.2.2.2.2.2.2.2.2.2.2.1
  have k2 : Fr (fun t _ => t < 45) S S20 ad ad := by rw [e20]; exact f1.R (nam hj (by decide))
  have k3 : sI S20 56 (ad 100 0) = 0 := by rw [e20]; exact e56
  have k4 : sR S20 (ad 60 0) i = wdF (g 10 i) u := (k1.mk.vw (f := 10) (by unfold mInt; omega)).trans up2_at
  refine fun o eo => ⟨_, eo.trans k1.qS.1, k1.qS.2, fun o eo => ⟨_, eo.trans k1.r10.1, k1.r10.2.1, by rw [k1.r10.2.2]; exact hin, ?_⟩⟩
  rw [k4]
  exact hok S20 ⟨k1, k3, k2⟩
end MMUT2
