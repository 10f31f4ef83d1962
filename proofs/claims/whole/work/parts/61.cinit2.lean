def TB (S : St) (ad : Nat → Nat → Nat) : Prop := isA S 4 (ad 2 0) ∧ sQ S 24 (ad 2 0) = some (ad 3 0) ∧ sI S 25 (ad 2 0) = 0 ∧ isA S 9 (ad 3 0) ∧ sN S (ad 3 0) = 40
/-- the hall under way -/
def HIp (S : St) (ad : Nat → Nat → Nat) (p : Nat) : Prop := isA S 6 (ad 1 0) ∧ (1 ≤ p → sQ S 33 (ad 1 0) = some (ad 2 0) ∧ TB S ad) ∧ (2 ≤ p → sQ S 34 (ad 1 0) = some (ad 4 0) ∧ LiS S ad 4 5 10 1 0) ∧ (3 ≤ p → sQ S 35 (ad 1 0) = some (ad 10 0) ∧ DLk S ad 0) ∧ (4 ≤ p → sQ S 36 (ad 1 0) = some (ad 20 0) ∧ FL S ad 20 0 0 ∧ sI S 23 (ad 20 0) = 0) ∧ (5 ≤ p → sQ S 37 (ad 1 0) = some (ad 30 0) ∧ FL S ad 30 0 0)
section CINIT2
variable {S S' : St} {ad ad' : Nat → Nat → Nat} {P : Nat → Nat → Prop}
theorem TB.fr (h : Fr P S S' ad ad') (p2 : P 2 0) (p3 : P 3 0) (g : TB S ad) : TB S' ad' := by
  obtain ⟨b1, b2, b3, b4, b5⟩ := g
  exact ⟨(h.a p2 b1).2.1, h.qs p2 b1 p3 b4 b2, (h.i p2 b1).trans b3, (h.a p3 b4).2.1, (h.a p3 b4).2.2.trans b5⟩
theorem HIp.fr {p : Nat} (h : Fr P S S' ad ad') (q1 : P 1 0) (q2 : 1 ≤ p → P 2 0 ∧ P 3 0) (q4 : 2 ≤ p → P 4 0 ∧ P 5 0) (q10 : 3 ≤ p → P 10 0 ∧ P 11 0) (q20 : 4 ≤ p → ∀ t i, 20 ≤ t → t ≤ 27 → P t i) (q30 : 5 ≤ p → ∀ t i, 30 ≤ t → t ≤ 37 → P t i) (g : HIp S ad p) : HIp S' ad' p := by
  obtain ⟨a, b, c, d, e, f⟩ := g
  refine ⟨(h.a q1 a).2.1, fun hp => ?_, fun hp => ?_, fun hp => ?_, fun hp => ?_, fun hp => ?_⟩
  · obtain ⟨x1, x2⟩ := b hp
    exact ⟨h.qs q1 a (q2 hp).1 x2.1 x1, x2.fr h (q2 hp).1 (q2 hp).2⟩
  · obtain ⟨x1, x2⟩ := c hp
    exact ⟨h.qs q1 a (q4 hp).1 x2.1 x1, x2.fr h (q4 hp).1 (q4 hp).2 (fun i hi => absurd hi (Nat.not_lt_zero i))⟩
  · obtain ⟨x1, x2⟩ := d hp
    exact ⟨h.qs q1 a (q10 hp).1 x2.1 x1, x2.fr h (q10 hp).1 (q10 hp).2⟩
  · obtain ⟨x1, x2, x3⟩ := e hp
    have z := q20 hp 20 0 (by decide) (by decide)
    exact ⟨h.qs q1 a z x2.1 x1, x2.fr h (fun t i hu => q20 hp t i (by unfold FU at hu; omega) (by unfold FU at hu; omega)), (h.i z x2.1).trans x3⟩
  · obtain ⟨x1, x2⟩ := f hp
    have z := q30 hp 30 0 (by decide) (by decide)
    exact ⟨h.qs q1 a z x2.1 x1, x2.fr h (fun t i hu => q30 hp t i (by unfold FU at hu; omega) (by unfold FU at hu; omega))⟩
/-- one field of the hall more -/
theorem HIp.st {p t : Nat} (hj : Inj ad) (h : HIp S ad p) (h1 : 1 ≤ p + 1 → p + 1 < 2 → t = 2 ∧ TB S ad) (h2 : p + 1 = 2 → t = 4 ∧ LiS S ad 4 5 10 1 0) (h3 : p + 1 = 3 → t = 10 ∧ DLk S ad 0) (h4 : p + 1 = 4 → t = 20 ∧ FL S ad 20 0 0 ∧ sI S 23 (ad 20 0) = 0) (h5 : p + 1 = 5 → t = 30 ∧ FL S ad 30 0 0) : HIp (pQ S (p + 33) (ad 1 0) (some (ad t 0))) ad (p + 1) := by
  have f : Fr (ex 1 0) S (pQ S (p + 33) (ad 1 0) (some (ad t 0))) ad ad := Fr.rf.Q (nam (t0 := 1) (i0 := 0) hj (fun z => z ⟨rfl, rfl⟩))
  have nx : ∀ t i, t ≠ 1 → ex 1 0 t i := fun t i ht z => ht z.1
  obtain ⟨a, b, c, d, e, g⟩ := h
  have at0 : sQ (pQ S (p + 33) (ad 1 0) (some (ad t 0))) (p + 33) (ad 1 0) = some (ad t 0) := up2_at
  refine ⟨a, fun hp => ?_, fun hp => ?_, fun hp => ?_, fun hp => ?_, fun hp => ?_⟩
  · by_cases q : p = 0
    · subst q
      obtain ⟨rfl, x⟩ := h1 (by omega) (by omega)
      exact ⟨at0, x.fr f (nx _ _ (by decide)) (nx _ _ (by decide))⟩
    · obtain ⟨x1, x2⟩ := b (by omega)
      exact ⟨(sQ_ne (by omega)).trans x1, x2.fr f (nx _ _ (by decide)) (nx _ _ (by decide))⟩
  · by_cases q : p = 1
    · subst q
      obtain ⟨rfl, x⟩ := h2 rfl
      exact ⟨at0, x.fr f (nx _ _ (by decide)) (nx _ _ (by decide)) (fun i _ => nx _ _ (by decide))⟩
    · obtain ⟨x1, x2⟩ := c (by omega)
      exact ⟨(sQ_ne (by omega)).trans x1, x2.fr f (nx _ _ (by decide)) (nx _ _ (by decide)) (fun i _ => nx _ _ (by decide))⟩
  · by_cases q : p = 2
    · subst q
      obtain ⟨rfl, x⟩ := h3 rfl
      exact ⟨at0, x.fr f (nx _ _ (by decide)) (nx _ _ (by decide))⟩
    · obtain ⟨x1, x2⟩ := d (by omega)
      exact ⟨(sQ_ne (by omega)).trans x1, x2.fr f (nx _ _ (by decide)) (nx _ _ (by decide))⟩
  · by_cases q : p = 3
    · subst q
      obtain ⟨rfl, x, y⟩ := h4 rfl
      exact ⟨at0, x.fr f (fun t i hu => nx _ _ (by unfold FU at hu; omega)), y⟩
    · obtain ⟨x1, x2, x3⟩ := e (by omega)
      exact ⟨(sQ_ne (by omega)).trans x1, x2.fr f (fun t i hu => nx _ _ (by unfold FU at hu; omega)), x3⟩
  · by_cases q : p = 4
    · subst q
      obtain ⟨rfl, x⟩ := h5 rfl
      exact ⟨at0, x.fr f (fun t i hu => nx _ _ (by unfold FU at hu; omega))⟩
    · obtain ⟨x1, x2⟩ := g (by omega)
      exact ⟨(sQ_ne (by omega)).trans x1, x2.fr f (fun t i hu => nx _ _ (by unfold FU at hu; omega))⟩
theorem s_Tinit {post : St → Prop} (hj : Inj ad) (h : NW S ad 2 0 4 0) (hp : ∀ S' ad', Inj ad' → TB S' ad' → Fr (fun t i => ¬ (t = 2 ∧ i = 0) ∧ ¬ (t = 3 ∧ i = 0)) S S' ad ad' → ad' 2 0 = ad 2 0 → post S') : w_T_init post S (ad 2 0) := by
  unfold w_T_init
  obtain ⟨n1, n2, n3, n4, n5⟩ := h
  refine s_new (t0 := 3) (i0 := 0) hj (fun S2 ad2 j2 f2 h2 => ?_)
  obtain ⟨b1, b2, b3, b4, b5⟩ := h2
  have p : ex 3 0 2 0 := fun z => absurd z.1 (by decide)
  have x : ad2 2 0 = ad 2 0 := (f2.a p n1).1
  have a2 : isA S2 4 (ad2 2 0) := (f2.a p n1).2.1
  have i2 : sI S2 25 (ad2 2 0) = 0 := (f2.i p n1).trans (n3 25)
  rw [← x]
  rintro S4 rfl
  refine hp _ ad2 j2 ⟨a2, up2_at, i2, b1, b2⟩ ((f2.mono (fun t i z => z.2)).tr ((Fr.rf.Q (nam (P := ex 2 0) (t0 := 2) (i0 := 0) j2 (fun z => z ⟨rfl, rfl⟩))).mono (fun t i z => z.1))) x
theorem s_Hinit {post : St → Prop} (hj : Inj ad) (h : NW S ad 1 0 6 0) (hp : ∀ S' ad', Inj ad' → HI S' ad' 8 → ad' 1 0 = ad 1 0 → post S') : w_H_init post S (ad 1 0) := by
  have hI : HIp S ad 0 := ⟨h.1, fun q => absurd q (by decide), fun q => absurd q (by decide), fun q => absurd q (by decide), fun q => absurd q (by decide), fun q => absurd q (by decide)⟩
  generalize hA : ad 1 0 = A at hp ⊢
  clear h
  have no : ∀ {k : Nat} {q : Prop}, ¬ (k + 1 ≤ k) := fun h => absurd h (by omega)
  unfold w_H_init
  -- the tape
  refine s_new (t0 := 2) (i0 := 0) hj (fun S2 ad2 j2 f2 h2 => ?_)
  have A2 : ad2 1 0 = A := ((f2.a (t := 1) (i := 0) (fun z => absurd z.1 (by decide)) hI.1).1).trans hA
  have I2 : HIp S2 ad2 0 := hI.fr f2 (fun z => absurd z.1 (by decide)) (fun q => absurd q (by decide)) (fun q => absurd q (by decide)) (fun q => absurd q (by decide)) (fun q => absurd q (by decide)) (fun q => absurd q (by decide))
  clear hI hA f2 hj
  refine s_Tinit j2 h2 (fun S4 ad4 j4 t4 f4 x4 => ?_)
  have A4 : ad4 1 0 = A := ((f4.a (t := 1) (i := 0) ⟨fun z => absurd z.1 (by decide), fun z => absurd z.1 (by decide)⟩ I2.1).1).trans A2
  have I4 : HIp S4 ad4 0 := I2.fr f4 ⟨fun z => absurd z.1 (by decide), fun z => absurd z.1 (by decide)⟩ (fun q => absurd q (by decide)) (fun q => absurd q (by decide)) (fun q => absurd q (by decide)) (fun q => absurd q (by decide)) (fun q => absurd q (by decide))
  have I5 := I4.st (t := 2) j4 (fun _ _ => ⟨rfl, t4⟩) (fun q => absurd q (by decide)) (fun q => absurd q (by decide)) (fun q => absurd q (by decide)) (fun q => absurd q (by decide))
  intro S5 e5
  rw [← x4, ← A4] at e5
  have I5 : HIp S5 ad4 1 := by rw [e5]; exact I5
  clear e5 I4 I2 f4 x4 t4 h2 A2 j2
  -- the list of dances
  refine s_new (t0 := 4) (i0 := 0) j4 (fun S7 ad7 j7 f7 h7 => ?_)
  refine s_ALinit j7 h7 5 10 1 (fun S9 l9 f9 => ?_)
  have f79 := f7.tr f9
  have A7 : ad7 1 0 = A := ((f79.a (t := 1) (i := 0) (fun z => absurd z.1 (by decide)) I5.1).1).trans A4
  have I9 : HIp S9 ad7 1 := I5.fr f79 (fun z => absurd z.1 (by decide)) (fun _ => ⟨fun z => absurd z.1 (by decide), fun z => absurd z.1 (by decide)⟩) (fun q => absurd q (by decide)) (fun q => absurd q (by decide)) (fun q => absurd q (by decide)) (fun q => absurd q (by decide))
  have I10 := I9.st (t := 4) j7 (fun _ q => absurd q (by decide)) (fun _ => ⟨rfl, l9⟩) (fun q => absurd q (by decide)) (fun q => absurd q (by decide)) (fun q => absurd q (by decide))
  intro S10 e10
  rw [← A7] at e10
  have I10 : HIp S10 ad7 2 := by rw [e10]; exact I10
  clear e10 I9 I5 f79 f9 f7 l9 h7 A4 j4
  -- the first dance
  refine s_new (t0 := 10) (i0 := 0) j7 (fun S12 ad12 j12 f12 h12 => ?_)
  have I12 : HIp S12 ad12 2 := I10.fr f12 (fun z => absurd z.1 (by decide)) (fun _ => ⟨fun z => absurd z.1 (by decide), fun z => absurd z.1 (by decide)⟩) (fun _ => ⟨fun z => absurd z.1 (by decide), fun z => absurd z.1 (by decide)⟩) (fun q => absurd q (by decide)) (fun q => absurd q (by decide)) (fun q => absurd q (by decide))
  have A12 : ad12 1 0 = A := ((f12.a (t := 1) (i := 0) (fun z => absurd z.1 (by decide)) I10.1).1).trans A7
  refine s_Dinit (k := 0) j12 (by decide) h12 (fun S14 ad14 j14 d14 f14 x14 => ?_)
  have nn : ∀ t, t ≠ 10 → t ≠ 11 → ¬ (t = 10 ∧ (0 : Nat) = 0) ∧ ¬ (t = 11 ∧ (0 : Nat) = 0) := fun t h1 h2 => ⟨fun z => h1 z.1, fun z => h2 z.1⟩
  have I14 : HIp S14 ad14 2 := I12.fr f14 (nn 1 (by decide) (by decide)) (fun _ => ⟨nn 2 (by decide) (by decide), nn 3 (by decide) (by decide)⟩) (fun _ => ⟨nn 4 (by decide) (by decide), nn 5 (by decide) (by decide)⟩) (fun q => absurd q (by decide)) (fun q => absurd q (by decide)) (fun q => absurd q (by decide))
  have A14 : ad14 1 0 = A := ((f14.a (t := 1) (i := 0) (nn 1 (by decide) (by decide)) I12.1).1).trans A12
  have I15 := I14.st (t := 10) j14 (fun _ q => absurd q (by decide)) (fun q => absurd q (by decide)) (fun _ => ⟨rfl, d14⟩) (fun q => absurd q (by decide)) (fun q => absurd q (by decide))
  intro S15 e15
  rw [← x14, ← A14] at e15
  have I15 : HIp S15 ad14 3 := by rw [e15]; exact I15
  clear e15 I14 I12 I10 f14 f12 d14 h12 A12 A7 j12 j7 x14
  -- the floor now
  refine s_new (t0 := 20) (i0 := 0) j14 (fun S17 ad17 j17 f17 h17 => ?_)
  have I17 : HIp S17 ad17 3 := I15.fr f17 (fun z => absurd z.1 (by decide)) (fun _ => ⟨fun z => absurd z.1 (by decide), fun z => absurd z.1 (by decide)⟩) (fun _ => ⟨fun z => absurd z.1 (by decide), fun z => absurd z.1 (by decide)⟩) (fun _ => ⟨fun z => absurd z.1 (by decide), fun z => absurd z.1 (by decide)⟩) (fun q => absurd q (by decide)) (fun q => absurd q (by decide))
  have A17 : ad17 1 0 = A := ((f17.a (t := 1) (i := 0) (fun z => absurd z.1 (by decide)) I15.1).1).trans A14
  refine s_Finit (B := 20) j17 h17 (fun S19 ad19 j19 l19 b19 f19 x19 => ?_)
  have I19 : HIp S19 ad19 3 := I17.fr f19 (by decide) (fun _ => by decide) (fun _ => by decide) (fun _ => by decide) (fun q => absurd q (by decide)) (fun q => absurd q (by decide))
  have A19 : ad19 1 0 = A := ((f19.a (t := 1) (i := 0) (by decide) I17.1).1).trans A17
  have I20 := I19.st (t := 20) j19 (fun _ q => absurd q (by decide)) (fun q => absurd q (by decide)) (fun q => absurd q (by decide)) (fun _ => ⟨rfl, l19, b19⟩) (fun q => absurd q (by decide))
  intro S20 e20
  rw [← x19, ← A19] at e20
  have I20 : HIp S20 ad19 4 := by rw [e20]; exact I20
  clear e20 I19 I17 I15 f19 f17 l19 b19 h17 A17 A14 j17 j14 x19
  -- the floor ahead
  refine s_new (t0 := 30) (i0 := 0) j19 (fun S22 ad22 j22 f22 h22 => ?_)
  have I22 : HIp S22 ad22 4 := I20.fr f22 (fun z => absurd z.1 (by decide)) (fun _ => ⟨fun z => absurd z.1 (by decide), fun z => absurd z.1 (by decide)⟩) (fun _ => ⟨fun z => absurd z.1 (by decide), fun z => absurd z.1 (by decide)⟩) (fun _ => ⟨fun z => absurd z.1 (by decide), fun z => absurd z.1 (by decide)⟩) (fun _ t i h1 h2 z => by omega) (fun q => absurd q (by decide))
  have A22 : ad22 1 0 = A := ((f22.a (t := 1) (i := 0) (fun z => absurd z.1 (by decide)) I20.1).1).trans A19
  refine s_Finit (B := 30) j22 h22 (fun S24 ad24 j24 l24 b24 f24 x24 => ?_)
  have I24 : HIp S24 ad24 4 := I22.fr f24 (by decide) (fun _ => by decide) (fun _ => by decide) (fun _ => by decide) (fun _ t i h1 h2 => by omega) (fun q => absurd q (by decide))
  have A24 : ad24 1 0 = A := ((f24.a (t := 1) (i := 0) (by decide) I22.1).1).trans A22
  have I25 := I24.st (t := 30) j24 (fun _ q => absurd q (by decide)) (fun q => absurd q (by decide)) (fun q => absurd q (by decide)) (fun q => absurd q (by decide)) (fun _ => ⟨rfl, l24⟩)
  intro S25 e25
  rw [← x24, ← A24] at e25
  have I25 : HIp S25 ad24 5 := by rw [e25]; exact I25
  clear e25 I24 I22 I20 f24 f22 l24 b24 h22 A22 A19 j22 j19 x24
  obtain ⟨u1, u2, u3, u4, u5, u6⟩ := I25
  obtain ⟨v1, w1⟩ := u2 (by decide)
  obtain ⟨v2, w2⟩ := u3 (by decide)
  obtain ⟨v3, w3⟩ := u4 (by decide)
  obtain ⟨v4, w4, y4⟩ := u5 (by decide)
  obtain ⟨v5, w5⟩ := u6 (by decide)
  have H0 : HI S25 ad24 0 := ⟨⟨u1, v1, v2, v3, v4, v5⟩, w1, w2, w3, fun x hx => absurd hx (Nat.not_lt_zero x), w4, y4, w5⟩
  intro o26 e26 o27 e27
  rw [← A24] at e26 e27
  rw [v2] at e26
  rw [v3] at e27
  rw [e27]
  refine ⟨_, e26, w2.1, s_dadd j24 H0 (by decide) w3 (fun S31 ad31 j31 h31 x31 => ?_)⟩
  refine s_dnext j31 h31 (by decide) (by decide) (x31.trans A24) (fun S40 ad40 j40 h40 x40 => ?_)
  refine s_dnext j40 h40 (by decide) (by decide) x40 (fun S49 ad49 j49 h49 x49 => ?_)
  refine s_dnext j49 h49 (by decide) (by decide) x49 (fun S58 ad58 j58 h58 x58 => ?_)
  refine s_dnext j58 h58 (by decide) (by decide) x58 (fun S67 ad67 j67 h67 x67 => ?_)
  refine s_dnext j67 h67 (by decide) (by decide) x67 (fun S76 ad76 j76 h76 x76 => ?_)
  refine s_dnext j76 h76 (by decide) (by decide) x76 (fun S85 ad85 j85 h85 x85 => ?_)
  exact s_dnext j85 h85 (by decide) (by decide) x85 (fun S94 ad94 j94 h94 x94 => hp S94 ad94 j94 h94 x94)
end CINIT2
