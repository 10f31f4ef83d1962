/-! the reference's calls that change who dances what, couples, springs, rounds; beats -/
section OKBT
variable {n m d : Nat} {g wg rd : Nat → Nat → Int32} {pt : Nat → Option Nat} {dn dl : Nat → Nat} {df : Nat → Nat → Int32}
theorem ok_bts (hn : n ≤ 8) (hO : Ok n g pt dn dl) (hW : OkW n m wg rd) (hl : ∀ i, i < n → dl (dn i) ≤ 24) (k : Nat) : Ok n (bts n m pt dn dl df rd g wg k).2.1 pt dn dl ∧ OkW n m (bts n m pt dn dl df rd g wg k).2.2 rd := by
  induction k with
  | zero => exact ⟨hO, hW⟩
  | succ k ih =>
    obtain ⟨h1, h2⟩ := ih
    obtain ⟨a1, -⟩ := ok_btA (df := df) h1 hl (Nat.le_refl n)
    obtain ⟨b1, b2, -⟩ := ok_btW hn a1 h2 (Nat.le_refl m)
    exact ⟨(ok_btZ b1 (k := n)).1, b2⟩
/-- who isn't there stays -/
def Sm (n : Nat) (g g' : Nat → Nat → Int32) : Prop := ∀ f i, n ≤ i → g' f i = g f i
theorem Sm.rf : Sm n g g := fun _ _ _ => rfl
theorem Sm.tr {g' g'' : Nat → Nat → Int32} (h : Sm n g g') (h2 : Sm n g' g'') : Sm n g g'' := fun f i hi => (h2 f i hi).trans (h f i hi)
theorem Sm.up {g' : Nat → Nat → Int32} {f : Nat} {v : Int32} (h : Sm n g g') (hd : d < n) : Sm n g (up2 g' f d v) := fun f' i hi => (up2_a (by omega)).trans (h f' i hi)
theorem Sm.sg {g' : Nat → Nat → Int32} {x y : Int32} (h : Sm n g g') (hd : d < n) : Sm n g (sg g' d x y) := (h.up hd).up hd
theorem Sm.stg {g' : Nat → Nat → Int32} (h : Sm n g g') (hd : d < n) : Sm n g (stg g' d) := (h.up hd).up hd
theorem Sm.stgO {g' : Nat → Nat → Int32} {o : Option Nat} (h : Sm n g g') (ho : ∀ u, o = some u → u < n) : Sm n g (stgO g' o) := by
  cases o with
  | none => exact h
  | some u => exact h.stg (ho u rfl)
theorem Sm.go {g' : Nat → Nat → Int32} {q : Int32} (h : Sm n g g') (hd : d < n) : Sm n g (goT g' d q) := ((((h.up hd).up hd).up hd).up hd).up hd
theorem Sm.aim {g' : Nat → Nat → Int32} {fig : Int32} (h : Sm n g g') (hd : d < n) (hp : ∀ j, pt d = some j → j < n) : Sm n g (aimF g' pt d fig) := by
  have h1 : Sm n g (aim1 g' d fig) := by
    unfold aim1
    split
    · exact h.sg hd
    · exact (h.sg hd).sg hd
  unfold aimF
  cases hq : pt d with
  | none => exact h1
  | some j =>
    have hjn := hp j hq
    dsimp only
    generalize aim1 g' d fig = g1 at h1
    unfold aim2
    split
    · split
      · exact ((h1.sg hjn).sg hd).sg hjn
      · split
        · exact h1.sg hjn
        · exact (h1.sg hjn).sg hjn
    · exact (h1.sg hjn).sg hjn
theorem Sm.perf {g' : Nat → Nat → Int32} (h : Sm n g g') (hd : d < n) (hp : ∀ j, pt d = some j → j < n) : Sm n g (perfF n pt dn dl df g' d).2 := by
  unfold perfF
  have h2 := Sm.aim (fig := figO dl df (dn d) (g' 13 d)) (h.up (f := 13) (v := nxtP dl (dn d) (g' 13 d)) hd) hd hp
  generalize aimF (up2 g' 13 d (nxtP dl (dn d) (g' 13 d))) pt d (figO dl df (dn d) (g' 13 d)) = g2 at h2
  unfold endF
  split
  · show Sm n g (goesF pt g2 d _)
    unfold goesF
    cases hq : pt d with
    | none => exact h2.go hd
    | some j => exact (h2.go hd).go (hp j hq)
  · exact (((h2.stg hd).stgO hp).stgO (fun u hu => inwF_lt hu)).stgO (fun u hu => inw2_lt hu)
theorem Sm.stA {a : Int32 × (Nat → Nat → Int32)} (h : Sm n g a.2) (hd : d < n) (hp : ∀ j, pt d = some j → j < n) : Sm n g (stepA n pt dn dl df a d).2 := by
  unfold stepA
  split
  · split
    · exact h
    · exact h.perf hd hp
  · exact h
theorem Sm.att {g' wg' : Nat → Nat → Int32} {j t : Nat} (h : Sm n g g') (ht : t < n) : Sm n g (attF (g', wg') j t).1 := by
  unfold attF
  dsimp only
  split
  · split
    · split
      · exact h
      · exact h
    · exact h.up ht
  · exact h
theorem Sm.stW {gw : (Nat → Nat → Int32) × (Nat → Nat → Int32)} {j : Nat} (hn : n ≤ 8) (h : Sm n g gw.1) : Sm n g (stepW n rd gw j).1 := by
  cases hd : dNO n (whoT gw.2 rd j) with
  | none => rw [stepW_none hd]; exact h
  | some t => rw [stepW_some hd]; exact Sm.att h (dNO_lt (by omega) hd).1
theorem sm_bts (hn : n ≤ 8) (hp : ∀ i j, i < n → pt i = some j → j < n) (k : Nat) : Sm n g (bts n m pt dn dl df rd g wg k).2.1 := by
  induction k with
  | zero => exact Sm.rf
  | succ k ih =>
    have hA : ∀ x, x ≤ n → Sm n g (fld (stepA n pt dn dl df) (0, (bts n m pt dn dl df rd g wg k).2.1) x).2 := by
      intro x hx
      induction x with
      | zero => exact ih
      | succ x ihx => exact Sm.stA (ihx (by omega)) (show x < n by omega) (fun j hq => hp x j (by omega) hq)
    have hB : ∀ x, Sm n g (fld (stepW n rd) ((btA n pt dn dl df (bts n m pt dn dl df rd g wg k).2.1).2, (bts n m pt dn dl df rd g wg k).2.2) x).1 := by
      intro x
      induction x with
      | zero => exact hA n (Nat.le_refl n)
      | succ x ihx => exact Sm.stW hn ihx
    have hZ : ∀ x, x ≤ n → Sm n g (fld stepZ (btW n m rd (btA n pt dn dl df (bts n m pt dn dl df rd g wg k).2.1).2 (bts n m pt dn dl df rd g wg k).2.2).1 x) := by
      intro x hx
      induction x with
      | zero => exact hB m
      | succ x ihx => exact (ihx (by omega)).up (show x < n by omega)
    exact hZ n (Nat.le_refl n)
end OKBT
section MMUT
variable {S S0 : St} {ad : Nat → Nat → Nat} {tl n m B : Nat} {tb dl dn : Nat → Nat} {df g wg rd I0 I R : Nat → Nat → Int32} {pt : Nat → Option Nat} {bt u v : Int32} {Q : Nat → Nat → Option Nat}
/-- the reference's state, with other rows -/
theorem HM.rows {n' m' : Nat} {g' wg' rd' : Nat → Nat → Int32} {pt' : Nat → Option Nat} {dn' : Nat → Nat} (h : HM S ad tl tb dl df n g pt dn bt m wg rd) (hn : n' ≤ 8) (hm : m' ≤ 3) (i58 : I 58 (ad 100 0) = sI S 58 (ad 100 0)) (i39 : I 39 (ad 50 0) = nI n') (i52 : I 52 (ad 50 0) = nI m') (i38 : I 38 (ad 50 0) = sI S 38 (ad 50 0)) (hR : ∀ t, (t < 57 ∨ 72 ≤ t) → R (ad t 0) = sR S (ad t 0))
    (h14 : ∀ i, R (ad 64 0) i = if i < n' then ptI (pt' i) else 0) (h12 : ∀ i, R (ad 62 0) i = if i < n' then nI (dn' i) else 0) (hdn : ∀ i, i < n' → dn' i < 8) (h21 : ∀ j p, j < 3 → p < 8 → R (ad 71 0) (8 * j + p) = rd' j p) (hg : ∀ f i, mInt f → R (ad (50 + f) 0) i = g' f i) (hw : ∀ j q, j < m' → q < 6 → R (ad 70 0) (6 * j + q) = wg' (wFld q) j) : HM (kS S I R) ad tl tb dl df n' g' pt' dn' bt m' wg' rd' := by
  obtain ⟨a1, a2, a3, a4, a5, a6, a7, ⟨c1, c2, c3, c4, c5, c6, c7, c8, c9⟩, a9, a10, a11, a12⟩ := h
  refine ⟨a1, a2, a3, a4, a5, i58.trans a6, fun j hj' => ?_, ⟨c1, hn, hm, i39, i52, fun i => ⟨h14 i, h12 i⟩, hdn, h21, fun k hk => ?_⟩, hg, hw, i38.trans a11, fun f i hf hi => ?_⟩
  · rw [kS_R, hR _ (by omega)]; exact a7 j hj'
  · rw [kS_R, hR _ (by omega), hR _ (by omega)]; exact c9 k hk
  · rw [kS_R, hR _ (by omega)]; exact a12 f i hf hi
theorem HM.v14 (h : HM S ad tl tb dl df n g pt dn bt m wg rd) {i : Nat} (hi : i < n) : sR S (ad 64 0) i = ptI (pt i) := ((h.mc.2.2.2.2.2.1 i).1).trans (if_pos hi)
theorem HM.v12 (h : HM S ad tl tb dl df n g pt dn bt m wg rd) {i : Nat} (hi : i < n) : sR S (ad 62 0) i = nI (dn i) := ((h.mc.2.2.2.2.2.1 i).2).trans (if_pos hi)
theorem HM.r12 (h : HM S ad tl tb dl df n g pt dn bt m wg rd) : sQ S 45 (ad 50 0) = some (ad 62 0) ∧ isA S 10 (ad 62 0) ∧ sN S (ad 62 0) = 8 := h.row (f := 12) (by unfold mRow; omega)
theorem HM.r13 (h : HM S ad tl tb dl df n g pt dn bt m wg rd) : sQ S 46 (ad 50 0) = some (ad 63 0) ∧ isA S 10 (ad 63 0) ∧ sN S (ad 63 0) = 8 := h.row (f := 13) (by unfold mRow; omega)
theorem HM.r14 (h : HM S ad tl tb dl df n g pt dn bt m wg rd) : sQ S 47 (ad 50 0) = some (ad 64 0) ∧ isA S 10 (ad 64 0) ∧ sN S (ad 64 0) = 8 := h.row (f := 14) (by unfold mRow; omega)
theorem HM.r15 (h : HM S ad tl tb dl df n g pt dn bt m wg rd) : sQ S 48 (ad 50 0) = some (ad 65 0) ∧ isA S 11 (ad 65 0) ∧ sN S (ad 65 0) = 8 := h.row (f := 15) (by unfold mRow; omega)
theorem HM.r10 (h : HM S ad tl tb dl df n g pt dn bt m wg rd) : sQ S 43 (ad 50 0) = some (ad 60 0) ∧ isA S 10 (ad 60 0) ∧ sN S (ad 60 0) = 8 := h.row (f := 10) (by unfold mRow; omega)
theorem s_mdance {post : Int32 → St → Prop} (hj : Inj ad) (h : HM S ad tl tb dl df n g pt dn bt m wg rd)
    (hok : ∀ i k, i < n → v = nI i → k < 8 → u = nI k → ∀ S', MR S ad 0 tl tb dl df n (up2 g 13 i 0) pt (dnC dn i k) bt m wg rd S' → post (nI (dn i)) S') (hno : (¬ ∃ i k, i < n ∧ v = nI i ∧ k < 8 ∧ u = nI k) → ∀ S', MR S ad 1 tl tb dl df n g pt dn bt m wg rd S' → post 0 S') : w_M_dance post S (ad 100 0) v u := by
  unfold w_M_dance
  rintro S1 rfl
  have h1 : HM (pI S 56 (ad 100 0) 0) ad tl tb dl df n g pt dn bt m wg rd := h.th
  have f1 : Fr (fun t _ => t < 45) S (pI S 56 (ad 100 0) 0) ad ad := fr_th hj
  have e56 : sI (pI S 56 (ad 100 0) 0) 56 (ad 100 0) = 0 := th_at
  generalize pI S 56 (ad 100 0) 0 = S1 at *
  have hn := h1.mc.2.1
  refine s_isDancer h1 (fun i hi e => ⟨w_M_no (fun r4 S5 => post r4 S5) S1 (ad 100 0) 1, id, fun c => absurd c (by decide), fun _ => ?_⟩) (fun c => ⟨w_M_no (fun r4 S5 => post r4 S5) S1 (ad 100 0) 1, id, fun _ => s_no hj h1 f1 (hno (fun ⟨k, p, hk, e, _⟩ => c ⟨k, hk, e⟩)), fun c => absurd rfl c⟩)
  refine s_inR 0 7 (by decide) (by decide) (fun k _ hk ek => ⟨fun c => absurd c (by decide), fun _ => ?_⟩) (fun c => ⟨fun _ => s_no hj h1 f1 (hno (fun ⟨_, k, _, _, hk, e⟩ => c ⟨k, Nat.zero_le _, by omega, e⟩)), fun c => absurd rfl c⟩)
  replace hok := hok i k hi e (by omega) ek
  subst e
  subst ek
  have hin : vp_in (nI i) 8 := vp_in_nI (by omega) (by decide)
  refine fun o eo => ⟨_, eo.trans h1.qS.1, h1.qS.2, fun o eo => ⟨_, eo.trans h1.r12.1, h1.r12.2.1, by rw [h1.r12.2.2]; exact hin, ?_⟩⟩
  rw [nI_clamp (show i < 2 ^ 31 by omega), h1.v12 hi]
  rintro _ rfl
  refine fun o eo => ⟨_, eo.trans h1.qS.1, h1.qS.2, fun o eo => ⟨_, eo.trans h1.r12.1, h1.r12.2.1, by rw [h1.r12.2.2]; exact hin, ?_⟩⟩
  intro S23 e23
  refine fun o eo => ⟨ad 50 0, ?_, ?_, fun o eo => ⟨ad 63 0, ?_, ?_, ?_, ?_⟩⟩
  · rw [eo, e23]; exact h1.qS.1
  · rw [e23]; exact h1.qS.2
  · rw [eo, e23]; exact h1.r13.1
  · rw [e23]; exact h1.r13.2.1
  · rw [e23]; show vp_in (nI i) (sN S1 (ad 63 0)); rw [h1.r13.2.2]; exact hin
  rintro S31 e31
  have e31 : S31 = kS S1 (sI S1) (up2 (up2 (sR S1) (ad 62 0) i (nI k)) (ad 63 0) i 0) := by rw [e31, e23]; rfl
  refine hok S31 ⟨?_, by rw [e31]; exact e56, ?_⟩
  · rw [e31]
    refine h1.rows hn h1.mc.2.2.1 rfl h1.mc.2.2.2.1 h1.mc.2.2.2.2.1 rfl (fun t ht => ?_) (fun x => ?_) (fun x => ?_) (fun x hx => ?_) (fun j p h2 h3 => ?_) (fun f x hf => ?_) (fun j q h2 h3 => ?_)
    · rw [row_g (fun e => by have := (hj _ _ _ _ e).1; omega), row_g (fun e => by have := (hj _ _ _ _ e).1; omega)]
    · rw [row_g (fun e => by have := (hj _ _ _ _ e).1; omega), row_g (fun e => by have := (hj _ _ _ _ e).1; omega)]; exact (h1.mc.2.2.2.2.2.1 x).1
    · rw [row_g (fun e => by have := (hj _ _ _ _ e).1; omega)]
      unfold dnC
      by_cases c : x = i
      · subst c; rw [up2_at, if_pos hi, if_pos rfl]
      · rw [up2_a c, if_neg c]; exact (h1.mc.2.2.2.2.2.1 x).2
    · unfold dnC
      split
      · omega
      · exact h1.mc.2.2.2.2.2.2.1 x hx
    · rw [row_g (fun e => by have := (hj _ _ _ _ e).1; omega), row_g (fun e => by have := (hj _ _ _ _ e).1; omega)]; exact h1.mc.2.2.2.2.2.2.2.1 j p h2 h3
    · by_cases c : f = 13
      · subst c
        by_cases c2 : x = i
        · subst c2; rw [up2_at]; exact up2_at.symm
        · rw [up2_a c2, row_g (fun e => by have := (hj _ _ _ _ e).1; omega), up2_a c2]; exact h1.mk.vw hf
      · rw [row_g (fun e => by have := (hj _ _ _ _ e).1; omega), row_g (fun e => by have := (hj _ _ _ _ e).1; unfold mInt at hf; omega), up2_f c]; exact h1.mk.vw hf
    · rw [row_g (fun e => by have := (hj _ _ _ _ e).1; omega), row_g (fun e => by have := (hj _ _ _ _ e).1; omega)]; exact h1.mk.vww h2 h3
  · rw [e31]
    exact (f1.R (v := nI k) (j := i) (nam (t0 := 62) (i0 := 0) hj (by decide))).R (v := 0) (j := i) (nam (t0 := 63) (i0 := 0) hj (by decide))
theorem s_mbeside {H i j : Nat} {post : Int32 → Prop} (hC : MC S I R ad B H n m pt dn dl df rd) (hM : Mk ad B m R I0 g wg) (hi : i < n) (hjn : j < n) (hp : post (bsF g i j)) : w_S_isBeside post (kS S I I0) (ad B 0) (nI i) (nI j) := by
  have hn := hC.2.1
  obtain ⟨a1, a2, a3⟩ := hC.1.2.2.2.1 7 (by unfold mRow; omega)
  obtain ⟨b1, b2, b3⟩ := hC.1.2.2.2.1 8 (by unfold mRow; omega)
  have a1 : sQ S 40 (ad B 0) = some (ad (B + 7) 0) := a1
  have b1 : sQ S 41 (ad B 0) = some (ad (B + 8) 0) := b1
  have a3 : sN S (ad (B + 7) 0) = 8 := a3
  have b3 : sN S (ad (B + 8) 0) = 8 := b3
  unfold w_S_isBeside
  simp only [forall_eq, kS_Q, kS_A, kS_N, kS_R, a1, b1, a3, b3, Option.some.injEq, exists_eq_left', nI_clamp (show i < 2 ^ 31 by omega), nI_clamp (show j < 2 ^ 31 by omega), hM.vw (show mInt 7 by unfold mInt; omega), hM.vw (show mInt 8 by unfold mInt; omega)]
  have ii : vp_in (nI i) 8 := vp_in_nI (by omega) (by decide)
  have ij : vp_in (nI j) 8 := vp_in_nI (by omega) (by decide)
  unfold bsF dsF absF at hp
  exact ⟨a2, ii, a2, ij, b2, ii, b2, ij, fun c => by rw [if_pos c] at hp; exact hp, fun c => by rw [if_neg c] at hp; exact hp⟩
end MMUT
