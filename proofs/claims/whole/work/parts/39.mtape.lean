/-! the reference's tape -/
/-- what a call of the reference leaves -/
def MR (S : St) (ad : Nat → Nat → Nat) (e : Int32) (tl : Nat) (tb dl : Nat → Nat) (df : Nat → Nat → Int32) (n : Nat) (g : Nat → Nat → Int32) (pt : Nat → Option Nat) (dn : Nat → Nat) (bt : Int32) (m : Nat) (wg rd : Nat → Nat → Int32) (S' : St) : Prop :=
  HM S' ad tl tb dl df n g pt dn bt m wg rd ∧ sI S' 56 (ad 100 0) = e ∧ Fr (fun t _ => t < 45) S S' ad ad
section MTAPE
variable {S S0 : St} {ad : Nat → Nat → Nat} {tl n m : Nat} {tb dl dn : Nat → Nat} {df g wg rd : Nat → Nat → Int32} {pt : Nat → Option Nat} {bt v : Int32}
theorem HM.tape {I R : Nat → Nat → Int32} {tl' : Nat} {tb' : Nat → Nat} (hj : Inj ad) (h : HM S ad tl tb dl df n g pt dn bt m wg rd) (hI : ∀ f a, f ≠ 58 → I f a = sI S f a) (hR : ∀ a, a ≠ ad 103 0 → R a = sR S a) (h1 : I 58 (ad 100 0) = nI tl') (h2 : ∀ j, j < tl' → R (ad 103 0) j = nI (tb' j)) : HM (kS S I R) ad tl' tb' dl df n g pt dn bt m wg rd := by
  obtain ⟨a1, a2, a3, a4, a5, a6, a7, ⟨c1, c2, c3, c4, c5, c6, c7, c8, c9⟩, a9, a10, a11, a12⟩ := h
  have r : ∀ t i, t ≠ 103 → R (ad t i) = sR S (ad t i) := fun t i ht => hR _ (fun e => ht (hj _ _ _ _ e).1)
  refine ⟨a1, a2, a3, a4, a5, h1, h2, ⟨c1, c2, c3, (hI 39 _ (by decide)).trans c4, (hI 52 _ (by decide)).trans c5, fun i => ?_, c7, fun j p hj' hp => ?_, fun k hk => ?_⟩, fun f i hf => ?_, fun j q hj' hq => ?_, (hI 38 _ (by decide)).trans a11, fun f i hf hi => ?_⟩
  · rw [kS_R, r _ _ (by decide), r _ _ (by decide)]; exact c6 i
  · rw [kS_R, r _ _ (by decide)]; exact c8 j p hj' hp
  · rw [kS_R, r _ _ (by decide), r _ _ (by decide)]; exact c9 k hk
  · rw [kS_R, r _ _ (by unfold mInt at hf; omega)]; exact a9 f i hf
  · rw [kS_R, r _ _ (by decide)]; exact a10 j q hj' hq
  · rw [kS_R, r _ _ (by unfold mInt at hf; omega)]; exact a12 f i hf hi
theorem s_no {post : Int32 → St → Prop} (hj : Inj ad) (h : HM S ad tl tb dl df n g pt dn bt m wg rd) (hF : Fr (fun t _ => t < 45) S0 S ad ad) (hp : ∀ S', MR S0 ad v tl tb dl df n g pt dn bt m wg rd S' → post 0 S') : w_M_no post S (ad 100 0) v := by
  unfold w_M_no
  rintro S' rfl
  exact hp _ ⟨h.th, th_at, hF.I (nam hj (by decide))⟩
theorem s_mtrim {post : Int32 → St → Prop} (hj : Inj ad) (h : HM S ad tl tb dl df n g pt dn bt m wg rd) (ht : tl ≤ 40)
    (hok : ∀ k, k ≤ tl → v = nI k → ∀ S', MR S ad 0 k tb dl df n g pt dn bt m wg rd S' → post v S') (hno : (¬ ∃ k, k ≤ tl ∧ v = nI k) → ∀ S', MR S ad 1 tl tb dl df n g pt dn bt m wg rd S' → post 0 S') : w_M_trim post S (ad 100 0) v := by
  unfold w_M_trim
  rintro S1 rfl
  have h1 : HM (pI S 56 (ad 100 0) 0) ad tl tb dl df n g pt dn bt m wg rd := h.th
  have f1 : Fr (fun t _ => t < 45) S (pI S 56 (ad 100 0) 0) ad ad := fr_th hj
  have e58 : sI (pI S 56 (ad 100 0) 0) 58 (ad 100 0) = nI tl := h1.2.2.2.2.2.1
  rw [e58]
  refine s_inR 0 tl (by decide) (by omega) (fun k _ hk e => ⟨fun c => absurd c (by decide), fun _ => ?_⟩) (fun c => ⟨fun _ => ?_, fun c => absurd rfl c⟩)
  · rintro S3 rfl
    refine hok k hk e _ ⟨HM.tape (S := pI S 56 (ad 100 0) 0) (I := up2 (up2 (sI S) 56 (ad 100 0) 0) 58 (ad 100 0) v) (R := sR S) hj h1 (fun f a hf => up2_f hf) (fun a _ => rfl) (up2_at.trans e) (fun j hj' => h1.2.2.2.2.2.2.1 j (by omega)), (sI_ne (by decide)).trans th_at, f1.I (nam hj (by decide))⟩
  · exact s_no hj h1 f1 (hno (fun ⟨k, hk, e⟩ => c ⟨k, Nat.zero_le _, hk, e⟩))
def m3V (i : Nat) : Int32 := if i = 0 then 3 else if i = 1 then 2 else if i = 2 then 1 else if i = 3 then 0 else -1
theorem m3VF : ∀ i : Fin 4, ¬ m3V i.1 < 0 ∧ m3V i.1 + (-1) = m3V (i.1 + 1) ∧ (((8 * m3V i.1) &&& 31).toBitVec.smod 32).toNat = 24 - 8 * i.1 := by decide +kernel
theorem s_mfeed {post : Int32 → St → Prop} {vs : Nat → Int32} (hj : Inj ad) (h : HM S ad tl tb dl df n g pt dn bt m wg rd) (ht : tl ≤ 40)
    (hok : tl + 20 ≤ 40 → ∀ S', MR S ad 0 (tl + 20) (tbN tl tb vs 5) dl df n g pt dn bt m wg rd S' → post (nI (tl + 20)) S') (hno : ¬ tl + 20 ≤ 40 → ∀ S', MR S ad 1 tl tb dl df n g pt dn bt m wg rd S' → post 0 S') : w_M_feed post S (ad 100 0) (vs 0) (vs 1) (vs 2) (vs 3) (vs 4) := by
  unfold w_M_feed
  rintro S1 rfl
  have h1 : HM (pI S 56 (ad 100 0) 0) ad tl tb dl df n g pt dn bt m wg rd := h.th
  have f1 : Fr (fun t _ => t < 45) S (pI S 56 (ad 100 0) 0) ad ad := fr_th hj
  have e58 : sI (pI S 56 (ad 100 0) 0) 58 (ad 100 0) = nI tl := h1.2.2.2.2.2.1
  have e56 : sI (pI S 56 (ad 100 0) 0) 56 (ad 100 0) = 0 := th_at
  generalize pI S 56 (ad 100 0) 0 = S1 at *
  have e20 : nI tl + 20 ≤ 40 ↔ tl + 20 ≤ 40 := by
    rw [show (20 : Int32) = nI 20 from rfl, nI_add]
    exact nI_leI (b := 40) (by omega) (by decide)
  rw [e58, e20]
  refine ⟨fun hc => ?_, fun hc => s_no hj h1 f1 (hno hc)⟩
  intro q S3 hq e3
  have F3 : Fr (fun _ _ => True) S1 S3 ad ad := by rw [e3]; exact Fr.rf.new hq
  have n3 : sN S3 q = 5 := by rw [e3]; exact len_new
  have r3 : sI S3 56 (ad 100 0) = 0 := (F3.i trivial h1.1).trans e56
  clear e3
  rw [n3]
  refine ⟨vp_in_nI (n := 0) (by decide) (by decide), ?_⟩
  rintro S6 rfl
  refine ⟨by show vp_in 1 (sN S3 q); rw [n3]; exact vp_in_nI (n := 1) (by decide) (by decide), ?_⟩
  rintro S8 rfl
  refine ⟨by show vp_in 2 (sN S3 q); rw [n3]; exact vp_in_nI (n := 2) (by decide) (by decide), ?_⟩
  rintro S10 rfl
  refine ⟨by show vp_in 3 (sN S3 q); rw [n3]; exact vp_in_nI (n := 3) (by decide) (by decide), ?_⟩
  rintro S12 rfl
  refine ⟨by show vp_in 4 (sN S3 q); rw [n3]; exact vp_in_nI (n := 4) (by decide) (by decide), ?_⟩
  intro S14 e14
  have n14 : sN S14 q = 5 := by rw [e14]; exact n3
  have r14 : sI S14 56 (ad 100 0) = 0 := by rw [e14]; exact r3
  have v14 : ∀ j, j < 5 → sR S14 q j = vs j := by
    intro j hj'
    rw [e14]
    rcases (show j = 0 ∨ j = 1 ∨ j = 2 ∨ j = 3 ∨ j = 4 by omega) with rfl | rfl | rfl | rfl | rfl
    · show up2 _ _ _ _ _ _ = _
      simp only [pR, sR, mS, up2]; rfl
    · simp only [pR, sR, mS, up2]; rfl
    · simp only [pR, sR, mS, up2]; rfl
    · simp only [pR, sR, mS, up2]; rfl
    · simp only [pR, sR, mS, up2]; rfl
  have F14 : Fr (fun _ _ => True) S1 S14 ad ad := by
    rw [e14]
    have F6 := F3.R (v := vs 0) (j := (0 : Int32).toNatClampNeg) (F3.tmp hq)
    have F8 := F6.R (v := vs 1) (j := (1 : Int32).toNatClampNeg) (F6.tmp hq)
    have F10 := F8.R (v := vs 2) (j := (2 : Int32).toNatClampNeg) (F8.tmp hq)
    have F12 := F10.R (v := vs 3) (j := (3 : Int32).toNatClampNeg) (F10.tmp hq)
    exact F12.R (v := vs 4) (j := (4 : Int32).toNatClampNeg) (F12.tmp hq)
  clear e14
  have h14 : HM S14 ad tl tb dl df n g pt dn bt m wg rd := h1.fr F14 (fun _ _ _ _ => trivial)
  have hqn : q ≠ ad 103 0 := fun e => hq (by rw [e]; exact h1.2.1.2.1.1)
  have f14 : Fr (fun t _ => t < 45) S S14 ad ad := f1.tr (F14.mono (fun _ _ _ => trivial))
  rintro _ rfl
  refine ⟨fun k S' u => ∃ o, o ≤ 5 ∧ k = 5 - o ∧ u = nI o ∧ HM S' ad (tl + 4 * o) (tbN tl tb vs o) dl df n g pt dn bt m wg rd ∧ Fr (fun t _ => t < 45) S S' ad ad ∧ (∀ j, j < 5 → sR S' q j = vs j) ∧ sN S' q = 5 ∧ sI S' 56 (ad 100 0) = 0, ⟨5, 0, by omega, rfl, rfl, h14, f14, v14, n14, r14⟩, ?_⟩
  rintro k S2 _ ⟨o, ho, rfl, rfl, h2, f2, v2, n2, r2⟩
  rw [n14]
  refine ⟨fun hc2 => ?_, fun hc2 => ?_⟩
  · have : o = 5 := by
      have := (nI_leI (by omega) (by omega)).mp hc2
      omega
    subst this
    rw [h2.2.2.2.2.2.1]
    exact hok hc _ ⟨h2, r2, f2⟩
  · have ho5 : o < 5 := Nat.not_le.mp fun c => hc2 (nI_le c (by omega))
    rw [n2, nI_clamp (show o < 2 ^ 31 by omega), v2 o ho5]
    refine ⟨vp_in_nI ho5 (by decide), ?_⟩
    rintro _ rfl
    refine ⟨fun k S' u => ∃ i, i ≤ 4 ∧ k = 4 - i ∧ u = m3V i ∧ HM S' ad (tl + 4 * o + i) (tapeA (tl + 4 * o) (tbN tl tb vs o) (vs o) i) dl df n g pt dn bt m wg rd ∧ Fr (fun t _ => t < 45) S S' ad ad ∧ (∀ j, j < 5 → sR S' q j = vs j) ∧ sN S' q = 5 ∧ sI S' 56 (ad 100 0) = 0, ⟨4, 0, by omega, rfl, rfl, ?_, f2, v2, n2, r2⟩, ?_⟩
    · exact h2.tape (I := sI S2) (R := sR S2) hj (fun _ _ _ => rfl) (fun _ _ => rfl) h2.2.2.2.2.2.1 (fun j hj' => by
        rw [h2.2.2.2.2.2.2.1 j hj']
        unfold tapeA
        rw [if_pos (by omega)])
    · rintro k S4 _ ⟨i, hi, rfl, rfl, h4, f4, v4, n4, r4⟩
      by_cases hi4 : i = 4
      · subst hi4
        refine ⟨fun _ => ?_, fun c => absurd (by decide) c⟩
        rintro _ rfl
        exact ⟨5 - (o + 1), by omega, o + 1, by omega, rfl, nI_1 o, h4, f4, v4, n4, r4⟩
      · obtain ⟨u1, u2, u3⟩ := m3VF ⟨i, by omega⟩
        simp only at u1 u2 u3
        refine ⟨fun c => absurd c u1, fun _ => ?_⟩
        intro o28 e28
        refine ⟨ad 103 0, e28.trans h4.2.1.1, h4.2.1.2.1, ?_⟩
        rw [h4.2.2.2.2.2.1, h4.2.1.2.2, nI_clamp (show tl + 4 * o + i < 2 ^ 31 by omega), byt_m (show i < 4 by omega) u3]
        refine ⟨vp_in_nI (by omega) (by decide), ?_⟩
        rintro _ rfl _ rfl _ rfl
        have e1 : sI (pR S4 (ad 103 0) (tl + 4 * o + i) (nI (byt (vs o) i))) 58 (ad 100 0) + 1 = nI (tl + 4 * o + (i + 1)) := by
          show sI S4 58 (ad 100 0) + 1 = _
          rw [h4.2.2.2.2.2.1, nI_1]; rfl
        rw [e1, u2]
        refine ⟨4 - (i + 1), by omega, i + 1, by omega, rfl, rfl, ?_, (f4.R (nam hj (by decide))).I (nam hj (by decide)), fun j hj' => ?_, n4, (sI_ne (by decide)).trans r4⟩
        · refine HM.tape (S := S4) (I := up2 (sI S4) 58 (ad 100 0) (nI (tl + 4 * o + (i + 1)))) (R := up2 (sR S4) (ad 103 0) (tl + 4 * o + i) (nI (byt (vs o) i))) hj h4 (fun f a hf => up2_f hf) (fun a hne => row_f (i := 0) hne) up2_at (fun j hj' => ?_)
          by_cases c : j = tl + 4 * o + i
          · subst c
            rw [up2_at]
            unfold tapeA
            rw [if_neg (by omega), if_pos (by omega), Nat.add_sub_cancel_left]
          · rw [up2_a c, h4.2.2.2.2.2.2.1 j (by omega)]
            unfold tapeA
            by_cases c2 : j < tl + 4 * o
            · rw [if_pos c2, if_pos c2]
            · rw [if_neg c2, if_neg c2, if_pos (by omega), if_pos (by omega)]
        · exact (congrFun (row_f (i := 0) hqn) j).trans (v4 j hj')
end MTAPE
