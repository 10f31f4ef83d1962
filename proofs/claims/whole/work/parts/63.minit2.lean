theorem txM9 : ∀ k : Fin 8, txL (9 + k.1) = txL k.1 ∧ txB (9 + k.1) = txB k.1 := by decide +kernel
def tb0 (_ : Nat) : Nat := 0
def g0 (_ _ : Nat) : Int32 := 0
def pt0 (_ : Nat) : Option Nat := none
def dn0 (_ : Nat) : Nat := 0
section MINIT2
variable {S S' : St} {ad ad' : Nat → Nat → Nat} {P : Nat → Nat → Prop} {B aM : Nat} {F : Nat → Prop}
/-- the reference, made -/
theorem MIp.hm {R : Nat → Nat → Int32} (h : MIp S ad aM 5) (hR : ∀ a, a ≠ ad 101 0 → a ≠ ad 102 0 → R a = sR S a) (hj : Inj ad) (h2 : ∀ k, k < 8 → R (ad 102 0) k = nI (dl0 k)) (h1 : ∀ k j, k < 8 → j < dl0 k → R (ad 101 0) (24 * k + j) = df0 k j) : HM (kS S (sI S) R) ad 0 tb0 dl0 df0 0 g0 pt0 dn0 0 0 g0 g0 := by
  obtain ⟨a, b, b2, c, d, e, g, u, w⟩ := h
  obtain ⟨d1, d2, d3⟩ := d (by decide)
  obtain ⟨e1, e2, e3⟩ := e (by decide)
  obtain ⟨g1, g2, g3⟩ := g (by decide)
  obtain ⟨u1, u2⟩ := u (by decide)
  obtain ⟨w1, w2⟩ := w (by decide)
  have ml : ∀ B, SI S ad B aM (fun _ => True) → ML S ad B 100 := fun B q => ⟨q.1, by rw [b2]; exact q.2.1, b, fun f hf => ⟨(q.2.2.2 f hf trivial).1, (q.2.2.2 f hf trivial).2.1, (q.2.2.2 f hf trivial).2.2.1⟩, ⟨e1, e2, e3⟩, g1, g2, g3⟩
  have rr : ∀ t, t ≠ 101 → t ≠ 102 → R (ad t 0) = sR S (ad t 0) := fun t h1 h2 => hR _ (fun e => h1 (hj _ _ _ _ e).1) (fun e => h2 (hj _ _ _ _ e).1)
  have r50 : ∀ f i, mRow f → R (ad (50 + f) 0) i = 0 := fun f i hf => by rw [rr _ (by unfold mRow at hf; omega) (by unfold mRow at hf; omega), (u2.2.2.2 f hf trivial).2.2.2]
  have r75 : ∀ f i, mRow f → R (ad (75 + f) 0) i = 0 := fun f i hf => by rw [rr _ (by unfold mRow at hf; omega) (by unfold mRow at hf; omega), (w2.2.2.2 f hf trivial).2.2.2]
  refine ⟨b, ⟨d1, d2, d3⟩, u1, w1, ml 75 w2, c 58, fun j hj => absurd hj (Nat.not_lt_zero j), ⟨ml 50 u2, by decide, by decide, u2.2.2.1 39, u2.2.2.1 52, fun i => ⟨?_, ?_⟩, fun i hi => absurd hi (Nat.not_lt_zero i), fun j p hj hp => r50 21 _ (by unfold mRow; omega), fun k hk => ?_⟩, fun f i hf => r50 f i (mInt_row hf), fun j q hj => absurd hj (Nat.not_lt_zero j), u2.2.2.1 38, fun f i hf hi => r75 f i (by unfold mInt at hf; unfold mRow; omega)⟩
  · exact (r50 14 i (by unfold mRow; omega)).trans (if_neg (Nat.not_lt_zero i)).symm
  · exact (r50 12 i (by unfold mRow; omega)).trans (if_neg (Nat.not_lt_zero i)).symm
  · obtain ⟨L1, L8⟩ := txLF ⟨k, hk⟩
    have L8 : txL k ≤ 8 := L8
    exact ⟨h2 k hk, L1, by show txL k ≤ 24; omega, fun j hj => h1 k j hk hj⟩
theorem s_Minit {post : St → Prop} (hj : Inj ad) (h : NW S ad 100 0 8 0) (hI : HI S ad 8) (hp : ∀ S' ad', Inj ad' → HI S' ad' 8 → HM S' ad' 0 tb0 dl0 df0 0 g0 pt0 dn0 0 0 g0 g0 → ad' 1 0 = ad 1 0 → ad' 100 0 = ad 100 0 → post S') : w_M_init post S (ad 100 0) := by
  obtain ⟨n1, n2, n3, n4, n5⟩ := h
  have M0 : MIp S ad (ad 100 0) 0 := ⟨hI, n1, rfl, n3, fun q => absurd q (by decide), fun q => absurd q (by decide), fun q => absurd q (by decide), fun q => absurd q (by decide), fun q => absurd q (by decide)⟩
  generalize hA : ad 100 0 = A at M0 hp ⊢
  generalize hA1 : ad 1 0 = A1 at hp
  clear n1 n2 n3 n4 n5 hI hA
  unfold w_M_init
  -- the tape
  refine s_new (t0 := 103) (i0 := 0) hj (fun S2 ad2 j2 f2 h2 => ?_)
  have M2 : MIp S2 ad2 A 0 := M0.fr f2 (fun t i ht z => by omega) (fun z => absurd z.1 (by decide)) (fun q => absurd q (by decide)) (fun q => absurd q (by decide)) (fun q => absurd q (by decide)) (fun q => absurd q (by decide)) (fun q => absurd q (by decide))
  have X2 : ad2 1 0 = A1 := ((f2.a (t := 1) (i := 0) (fun z => absurd z.1 (by decide)) M0.1.1.1).1).trans hA1
  have M4 := M2.st (t := 103) j2 (fun _ => ⟨rfl, h2.1, h2.2.1⟩) (fun q => absurd q (by decide)) (fun q => absurd q (by decide)) (fun q => absurd q (by decide)) (fun q => absurd q (by decide))
  intro S4 e4
  rw [← M2.2.2.1] at e4
  have M4 : MIp S4 ad2 A 1 := by rw [e4]; exact M4
  clear e4 M2 h2 f2 hA1 M0 hj
  -- figures
  refine s_new (t0 := 101) (i0 := 0) j2 (fun S6 ad6 j6 f6 h6 => ?_)
  have M6 : MIp S6 ad6 A 1 := M4.fr f6 (fun t i ht z => by omega) (fun z => absurd z.1 (by decide)) (fun _ z => absurd z.1 (by decide)) (fun q => absurd q (by decide)) (fun q => absurd q (by decide)) (fun q => absurd q (by decide)) (fun q => absurd q (by decide))
  have X6 : ad6 1 0 = A1 := ((f6.a (t := 1) (i := 0) (fun z => absurd z.1 (by decide)) M4.1.1.1).1).trans X2
  have M8 := M6.st (t := 101) j6 (fun q => absurd q (by decide)) (fun _ => ⟨rfl, h6.1, h6.2.1⟩) (fun q => absurd q (by decide)) (fun q => absurd q (by decide)) (fun q => absurd q (by decide))
  intro S8 e8
  rw [← M6.2.2.1] at e8
  have M8 : MIp S8 ad6 A 2 := by rw [e8]; exact M8
  clear e8 M6 h6 f6 X2 M4 j2
  -- lengths
  refine s_new (t0 := 102) (i0 := 0) j6 (fun S10 ad10 j10 f10 h10 => ?_)
  have M10 : MIp S10 ad10 A 2 := M8.fr f10 (fun t i ht z => by omega) (fun z => absurd z.1 (by decide)) (fun _ z => absurd z.1 (by decide)) (fun _ z => absurd z.1 (by decide)) (fun q => absurd q (by decide)) (fun q => absurd q (by decide)) (fun q => absurd q (by decide))
  have X10 : ad10 1 0 = A1 := ((f10.a (t := 1) (i := 0) (fun z => absurd z.1 (by decide)) M8.1.1.1).1).trans X6
  have M12 := M10.st (t := 102) j10 (fun q => absurd q (by decide)) (fun q => absurd q (by decide)) (fun _ => ⟨rfl, h10.1, h10.2.1⟩) (fun q => absurd q (by decide)) (fun q => absurd q (by decide))
  intro S12 e12
  rw [← M10.2.2.1] at e12
  have M12 : MIp S12 ad10 A 3 := by rw [e12]; exact M12
  clear e12 M10 h10 f10 X6 M8 j6
  -- the state now
  refine s_new (t0 := 50) (i0 := 0) j10 (fun S14 ad14 j14 f14 h14 => ?_)
  have M14 : MIp S14 ad14 A 3 := M12.fr f14 (fun t i ht z => by omega) (fun z => absurd z.1 (by decide)) (fun _ z => absurd z.1 (by decide)) (fun _ z => absurd z.1 (by decide)) (fun _ z => absurd z.1 (by decide)) (fun q => absurd q (by decide)) (fun q => absurd q (by decide))
  have X14 : ad14 1 0 = A1 := ((f14.a (t := 1) (i := 0) (fun z => absurd z.1 (by decide)) M12.1.1.1).1).trans X10
  refine s_Sinit (B := 50) (aM := A) j14 h14 (fun S16 ad16 j16 s16 f16 x16 => ?_)
  have M16 : MIp S16 ad16 A 3 := M14.fr f16 (fun t i ht => by unfold NB; omega) (by unfold NB; omega) (fun _ => by unfold NB; omega) (fun _ => by unfold NB; omega) (fun _ => by unfold NB; omega) (fun q => absurd q (by decide)) (fun q => absurd q (by decide))
  have X16 : ad16 1 0 = A1 := ((f16.a (t := 1) (i := 0) (by unfold NB; omega) M14.1.1.1).1).trans X14
  have M17 := M16.st (t := 50) j16 (fun q => absurd q (by decide)) (fun q => absurd q (by decide)) (fun q => absurd q (by decide)) (fun _ => ⟨rfl, s16⟩) (fun q => absurd q (by decide))
  intro S17 e17
  rw [← x16, ← M16.2.2.1] at e17
  have M17 : MIp S17 ad16 A 4 := by rw [e17]; exact M17
  clear e17 M16 s16 f16 x16 X14 M14 h14 f14 j14 X10 M12 j10
  -- the state ahead
  refine s_new (t0 := 75) (i0 := 0) j16 (fun S19 ad19 j19 f19 h19 => ?_)
  have M19 : MIp S19 ad19 A 4 := M17.fr f19 (fun t i ht z => by omega) (fun z => absurd z.1 (by decide)) (fun _ z => absurd z.1 (by decide)) (fun _ z => absurd z.1 (by decide)) (fun _ z => absurd z.1 (by decide)) (fun _ t h1 h2 z => by omega) (fun q => absurd q (by decide))
  have X19 : ad19 1 0 = A1 := ((f19.a (t := 1) (i := 0) (fun z => absurd z.1 (by decide)) M17.1.1.1).1).trans X16
  refine s_Sinit (B := 75) (aM := A) j19 h19 (fun S21 ad21 j21 s21 f21 x21 => ?_)
  have M21 : MIp S21 ad21 A 4 := M19.fr f21 (fun t i ht => by unfold NB; omega) (by unfold NB; omega) (fun _ => by unfold NB; omega) (fun _ => by unfold NB; omega) (fun _ => by unfold NB; omega) (fun _ t h1 h2 => by unfold NB; omega) (fun q => absurd q (by decide))
  have X21 : ad21 1 0 = A1 := ((f21.a (t := 1) (i := 0) (by unfold NB; omega) M19.1.1.1).1).trans X19
  have M22 := M21.st (t := 75) j21 (fun q => absurd q (by decide)) (fun q => absurd q (by decide)) (fun q => absurd q (by decide)) (fun q => absurd q (by decide)) (fun _ => ⟨rfl, s21⟩)
  intro S22 e22
  rw [← x21, ← M21.2.2.1] at e22
  have M22 : MIp S22 ad21 A 5 := by rw [e22]; exact M22
  clear e22 M21 s21 f21 x21 X19 M19 h19 f19 j19 X16 M17 j16
  have aM := M22.2.2.1
  obtain ⟨e1, e2, e3⟩ := M22.2.2.2.2.2.1 (by decide)
  obtain ⟨g1, g2, g3⟩ := M22.2.2.2.2.2.2.1 (by decide)
  rw [aM] at e1 g1
  refine ⟨fun q S' v => ∃ k R, k ≤ 8 ∧ q = 8 - k ∧ v = nI k ∧ S' = kS S22 (sI S22) R ∧ (∀ a, a ≠ ad21 101 0 → a ≠ ad21 102 0 → R a = sR S22 a) ∧ (∀ x, x < k → R (ad21 102 0) x = nI (dl0 x)) ∧ ∀ x j, x < k → j < dl0 x → R (ad21 101 0) (24 * x + j) = df0 x j, ⟨8, 0, sR S22, by decide, rfl, rfl, rfl, fun _ _ _ => rfl, fun x hx => absurd hx (Nat.not_lt_zero x), fun x j hx => absurd hx (Nat.not_lt_zero x)⟩, ?_⟩
  rintro q S' _ ⟨k, R, hk, rfl, rfl, rfl, r0, r2, r1⟩
  have e8 : (8 : Int32) ≤ nI k ↔ 8 ≤ k := nI_leI (a := 8) (by decide) (by omega)
  rw [e8]
  refine ⟨fun c => ?_, fun c => ?_⟩
  · have hm := M22.hm r0 j21 (fun x hx => r2 x (by omega)) (fun x j hx hjx => r1 x j (by omega) hjx)
    have fr : Fr (fun t _ => t ≠ 101 ∧ t ≠ 102) S22 (kS S22 (sI S22) R) ad21 ad21 := kfr (fun t i ht => ⟨fun _ => rfl, r0 _ (fun e => ht.1 (j21 _ _ _ _ e).1) (fun e => ht.2 (j21 _ _ _ _ e).1)⟩)
    exact hp _ ad21 j21 (M22.1.fr fr (fun t i ht => by omega) (by decide) (by decide) (fun i _ => by decide)) hm X21 aM
  · have hk8 : k < 8 := by omega
    obtain ⟨L1, L8⟩ := txLF ⟨k, hk8⟩
    have L8 : txL k ≤ 8 := L8
    obtain ⟨t9, b9⟩ := txM9 ⟨k, hk8⟩
    have t9 : txL (9 + k) = txL k := t9
    have b9 : txB (9 + k) = txB k := b9
    have hin : vp_in (nI k) 8 := vp_in_nI hk8 (by decide)
    have g1' : sQ (kS S22 (sI S22) R) 60 A = some (ad21 102 0) := g1
    have g3' : sN (kS S22 (sI S22) R) (ad21 102 0) = 8 := g3
    intro o25 e25
    refine ⟨hin, ?_⟩
    rw [nI_clamp (show k < 2 ^ 31 by omega)]
    refine e_slen (by rw [t9]; omega) ?_
    rw [t9]
    refine ⟨_, e25.trans g1', g2, by rw [g3']; exact hin, ?_⟩
    rintro _ rfl
    refine ⟨fun q S' v => ∃ i R2, i ≤ txL k ∧ q = txL k - i ∧ v = nI i ∧ S' = kS S22 (sI S22) R2 ∧ (∀ a, a ≠ ad21 101 0 → a ≠ ad21 102 0 → R2 a = sR S22 a) ∧ (∀ x, x < k + 1 → R2 (ad21 102 0) x = nI (dl0 x)) ∧ (∀ x j, x < k → j < dl0 x → R2 (ad21 101 0) (24 * x + j) = df0 x j) ∧ ∀ j, j < i → R2 (ad21 101 0) (24 * k + j) = df0 k j, ⟨txL k, 0, up2 R (ad21 102 0) k (nI (txL k)), Nat.zero_le _, rfl, rfl, rfl, fun a h1 h2 => (row_g h2).trans (r0 a h1 h2), fun x hx => ?_, fun x j hx hjx => ?_, fun j hj => absurd hj (Nat.not_lt_zero j)⟩, ?_⟩
    · by_cases cx : x = k
      · subst cx; exact up2_at
      · rw [up2_a cx]; exact r2 x (by omega)
    · rw [row_g (fun e => by have := (j21 _ _ _ _ e).1; omega)]; exact r1 x j hx hjx
    · rintro q S' _ ⟨i, R2, hi, rfl, rfl, rfl, s0, s2, s1, si⟩
      have lk : R2 (ad21 102 0) k = nI (txL k) := s2 k (by omega)
      refine fun o e => ⟨_, e.trans g1, g2, by rw [show sN (kS S22 (sI S22) R2) (ad21 102 0) = 8 from g3]; exact hin, ?_⟩
      rw [show sR (kS S22 (sI S22) R2) (ad21 102 0) k = nI (txL k) from lk]
      refine ⟨fun c => ?_, fun c => ?_⟩
      · have hik : i = txL k := by
          have := (nI_leI (by omega) (by omega)).mp c
          omega
        rintro _ rfl
        refine ⟨8 - (k + 1), by omega, k + 1, R2, by omega, rfl, nI_1 k, rfl, s0, s2, fun x j hx hjx => ?_⟩
        by_cases cx : x = k
        · subst cx
          exact si j (by rw [hik]; exact hjx)
        · exact s1 x j (by omega) hjx
      · have hlt : i < txL k := Nat.not_le.mp fun q => c (nI_le q (by omega))
        intro o40 e40
        refine ⟨hin, ?_⟩
        obtain ⟨c', hc1, hc2⟩ := txBF ⟨k, hk8⟩ ⟨i, by omega⟩
        have e24 : (24 : Int32) * nI k + nI i = nI (24 * k + i) := by rw [show (24 : Int32) = nI 24 from rfl, pk_mul, nI_add]
        refine s_charAt (by rw [t9]; exact L8) (by rw [t9]; exact hlt) c'.2 (by rw [b9]; exact hc1) ⟨_, e40.trans e1, e2, ?_⟩
        rw [show sN (kS S22 (sI S22) R2) (ad21 101 0) = 192 from e3, e24, nI_clamp (show 24 * k + i < 2 ^ 31 by omega)]
        refine ⟨vp_in_nI (by omega) (by decide), ?_⟩
        rintro _ rfl _ rfl
        refine ⟨txL k - (i + 1), by omega, i + 1, up2 R2 (ad21 101 0) (24 * k + i) (nI c'.1), hlt, rfl, nI_1 i, rfl, fun a h1 h2 => (row_g h1).trans (s0 a h1 h2), fun x hx => ?_, fun x j hx hjx => ?_, fun j hj => ?_⟩
        · rw [row_g (fun e => by have := (j21 _ _ _ _ e).1; omega)]; exact s2 x hx
        · have : txL x ≤ 8 := (txLF ⟨x, by omega⟩).2
          have hjx' : j < txL x := hjx
          rw [up2_a (by omega)]; exact s1 x j hx hjx
        · by_cases cj : j = i
          · subst cj
            rw [up2_at]
            unfold df0
            rw [if_pos hlt]
            exact hc1.symm
          · rw [up2_a (by omega)]; exact si j (by omega)
end MINIT2
