/-! how the class's hall is made -/
def dl0 (k : Nat) : Nat := txL k
def df0 (k j : Nat) : Int32 := if j < txL k then (txB k).getD j 0 else 0
theorem txLF : ∀ k : Fin 8, 1 ≤ txL k.1 ∧ txL k.1 ≤ 8 := by decide +kernel
theorem txBF : ∀ k : Fin 8, ∀ j : Fin 8, ∃ c : Fin 128, (txB k.1).getD j.1 0 = nI c.1 ∧ vp_nar .byte ((nI c.1).toInt8.toInt32) = nI c.1 := by decide +kernel
theorem e_slen {post : Int32 → Prop} {S : St} {t : Nat} (h : txL t < 2 ^ 31) (hp : post (nI (txL t))) : w_ST_length post S t := by
  unfold w_ST_length w_ST_coder
  refine ⟨fun c => absurd c (by decide), fun _ => ?_⟩
  show post ((nI (txL t)) >>> ((0 : Int32) &&& 31))
  rw [pk_shrN h _ 0 (by decide), Nat.pow_zero, Nat.div_one]
  exact hp
theorem sQ_ne {S : St} {f f' a b : Nat} {v : Option Nat} (h : f' ≠ f) : sQ (pQ S f a v) f' b = sQ S f' b := up2_f h
/-- the dance k is made -/
def DLk (S : St) (ad : Nat → Nat → Nat) (k : Nat) : Prop := isA S 1 (ad 10 k) ∧ sI S 3 (ad 10 k) = nI k ∧ sI S 5 (ad 10 k) = nI (dl0 k) ∧ sQ S 4 (ad 10 k) = some (ad 11 k) ∧ isA S 9 (ad 11 k) ∧ sN S (ad 11 k) = 24 ∧ ∀ j, sR S (ad 11 k) j = df0 k j
/-- something new at t, i -/
def NW (S : St) (ad : Nat → Nat → Nat) (t i k n : Nat) : Prop := isA S k (ad t i) ∧ sN S (ad t i) = n ∧ (∀ f, sI S f (ad t i) = 0) ∧ (∀ f, sQ S f (ad t i) = none) ∧ sR S (ad t i) = fun _ => 0
def ex (t0 i0 : Nat) : Nat → Nat → Prop := fun t i => ¬ (t = t0 ∧ i = i0)
section CINIT
variable {S S' : St} {ad ad' : Nat → Nat → Nat} {P : Nat → Nat → Prop}
theorem s_new {t0 i0 k n : Nat} {K : Nat → St → Prop} (hj : Inj ad) (hK : ∀ S' ad', Inj ad' → Fr (ex t0 i0) S S' ad ad' → NW S' ad' t0 i0 k n → K (ad' t0 i0) S') : ∀ (q : Nat) (S' : St), q ∉ sL S → S' = pNew S q k n → K q S' := by
  rintro q S' hq rfl
  have e : sw ad t0 i0 q t0 i0 = q := sw_at
  have h := hK (pNew S q k n) (sw ad t0 i0 q) (sw_inj hj) (Fr.sw hq)
  rw [e] at h
  refine h ⟨?_, ?_, fun f => ?_, fun f => ?_, ?_⟩
  · rw [e]; exact isA_new
  · rw [e]; exact len_new
  · rw [e]; exact if_pos rfl
  · rw [e]; exact if_pos rfl
  · rw [e]; exact if_pos rfl
theorem DLk.fr {k : Nat} (h : Fr P S S' ad ad') (p1 : P 10 k) (p2 : P 11 k) (g : DLk S ad k) : DLk S' ad' k := by
  obtain ⟨a1, a2, a3, a4, a5, a6, a7⟩ := g
  exact ⟨(h.a p1 a1).2.1, (h.i p1 a1).trans a2, (h.i p1 a1).trans a3, h.qs p1 a1 p2 a5 a4, (h.a p2 a5).2.1, (h.a p2 a5).2.2.trans a6, fun j => by rw [h.r p2 a5]; exact a7 j⟩
/-- a dance is made -/
theorem s_Dinit {post : St → Prop} {k : Nat} (hj : Inj ad) (hk : k < 8) (h : NW S ad 10 k 1 0) (hp : ∀ S' ad', Inj ad' → DLk S' ad' k → Fr (fun t i => ¬ (t = 10 ∧ i = k) ∧ ¬ (t = 11 ∧ i = k)) S S' ad ad' → ad' 10 k = ad 10 k → post S') : w_D_init post S (ad 10 k) (nI k) k := by
  unfold w_D_init
  obtain ⟨n1, n2, n3, n4, n5⟩ := h
  refine s_new (t0 := 11) (i0 := k) hj (fun S2 ad2 j2 f2 h2 => ?_)
  obtain ⟨b1, b2, b3, b4, b5⟩ := h2
  have e10 : ad2 10 k = ad 10 k := (f2.a (t := 10) (i := k) (fun z => absurd z.1 (by decide)) n1).1
  have a2 : isA S2 1 (ad2 10 k) := (f2.a (t := 10) (i := k) (fun z => absurd z.1 (by decide)) n1).2.1
  have i5 : sI S2 5 (ad2 10 k) = 0 := (f2.i (t := 10) (i := k) (fun z => absurd z.1 (by decide)) n1).trans (n3 5)
  rw [← e10]
  intro S4 e4 S5 e5
  have e5 : S5 = qS S2 (up2 (sI S2) 3 (ad2 10 k) (nI k)) (up2 (sQ S2) 4 (ad2 10 k) (some (ad2 11 k))) := by rw [e5, e4]; rfl
  have f5 : Fr (fun t i => ¬ (t = 10 ∧ i = k) ∧ ¬ (t = 11 ∧ i = k)) S2 S5 ad2 ad2 := by
    rw [e5]
    exact ⟨⟨fun a ha => ⟨ha, rfl, rfl⟩, rfl⟩, fun t i ht _ => ⟨rfl, fun f => up2_a (fun e => ht.1 (j2 _ _ _ _ e)), fun f => up2_a (fun e => ht.1 (j2 _ _ _ _ e)), rfl, rfl, rfl⟩⟩
  have a5 : isA S5 1 (ad2 10 k) ∧ isA S5 9 (ad2 11 k) ∧ sN S5 (ad2 11 k) = 24 ∧ sQ S5 4 (ad2 10 k) = some (ad2 11 k) ∧ sI S5 3 (ad2 10 k) = nI k ∧ sI S5 5 (ad2 10 k) = 0 ∧ sR S5 (ad2 11 k) = fun _ => 0 := by
    rw [e5]
    exact ⟨a2, b1, b2, up2_at, up2_at, (up2_f (show (5 : Nat) ≠ 3 by decide) : up2 (sI S2) 3 (ad2 10 k) (nI k) 5 (ad2 10 k) = _).trans i5, b5⟩
  clear e5 e4
  obtain ⟨c1, c2, c3, c4, c5, c6, c7⟩ := a5
  obtain ⟨L1, L8⟩ := txLF ⟨k, hk⟩
  have L8 : txL k ≤ 8 := L8
  have f2' : Fr (fun t i => ¬ (t = 10 ∧ i = k) ∧ ¬ (t = 11 ∧ i = k)) S S2 ad ad2 := f2.mono (fun t i z => z.2)
  refine ⟨fun q S' v => ∃ i I' R', i ≤ txL k ∧ q = txL k - i ∧ v = nI i ∧ S' = kS S5 I' R' ∧ (∀ f a, ¬ (f = 5 ∧ a = ad2 10 k) → I' f a = sI S5 f a) ∧ I' 5 (ad2 10 k) = nI i ∧ (∀ a, a ≠ ad2 11 k → R' a = sR S5 a) ∧ ∀ j, R' (ad2 11 k) j = if j < i then (txB k).getD j 0 else 0, ⟨txL k, 0, sI S5, sR S5, Nat.zero_le _, rfl, rfl, rfl, fun _ _ _ => rfl, c6, fun _ _ => rfl, fun j => by rw [c7, if_neg (by omega)]⟩, ?_⟩
  rintro q S' _ ⟨i, I', R', hi, rfl, rfl, rfl, i1, i2, r1, r2⟩
  refine e_slen (by omega) ⟨fun c => ?_, fun c => ?_⟩
  · have : i = txL k := by
      have := (nI_leI (by omega) (by omega)).mp c
      omega
    subst this
    refine hp _ ad2 j2 ⟨c1, (i1 3 _ (fun z => absurd z.1 (by decide))).trans c5, i2, c4, c2, c3, r2⟩ ((f2'.tr f5).tr (kfr (fun t i ht => ⟨fun f => i1 f _ (fun z => ht.1 (j2 _ _ _ _ z.2)), r1 _ (fun e => ht.2 (j2 _ _ _ _ e))⟩))) e10
  · have hlt : i < txL k := Nat.not_le.mp fun q => c (nI_le q (by omega))
    have q4 : sQ (kS S5 I' R') 4 (ad2 10 k) = some (ad2 11 k) := c4
    refine fun o e => ⟨_, e.trans q4, c2, ?_⟩
    have n24 : sN (kS S5 I' R') (ad2 11 k) = 24 := c3
    rw [n24]
    refine ⟨fun c => absurd c (nI_ge (by omega) (by decide)), fun _ => fun o12 e12 => ?_⟩
    obtain ⟨c', hc1, hc2⟩ := txBF ⟨k, hk⟩ ⟨i, by omega⟩
    refine s_charAt L8 hlt c'.2 hc1 ⟨_, e12.trans q4, c2, ?_⟩
    rw [n24, hc2, nI_clamp (show i < 2 ^ 31 by omega)]
    refine ⟨vp_in_nI (by omega) (by decide), ?_⟩
    rintro _ rfl _ rfl _ rfl
    refine ⟨txL k - (i + 1), by omega, i + 1, up2 I' 5 (ad2 10 k) (nI i + 1), up2 R' (ad2 11 k) i (nI c'.1), hlt, rfl, nI_1 i, rfl, fun f a ha => (if_neg ha : up2 I' 5 (ad2 10 k) (nI i + 1) f a = _).trans (i1 f a ha), ?_, fun a ha => (row_g ha).trans (r1 a ha), fun j => ?_⟩
    · rw [up2_at, nI_1]
    · by_cases cj : j = i
      · subst cj; rw [up2_at, if_pos (by omega)]; exact hc1.symm
      · rw [up2_a cj, r2 j]
        by_cases c2 : j < i
        · rw [if_pos c2, if_pos (by omega)]
        · rw [if_neg c2, if_neg (by omega)]
/-- an empty list is made -/
theorem s_ALinit {post : St → Prop} {L : Nat} (hj : Inj ad) (h : NW S ad L 0 0 0) (A t k : Nat) (hp : ∀ S', LiS S' ad L A t k 0 → Fr (ex L 0) S S' ad ad → post S') : w_AL_init post S (ad L 0) := by
  unfold w_AL_init w_AB_init w_AC_init
  obtain ⟨n1, n2, n3, n4, n5⟩ := h
  intro S1 e1 S2 e2
  refine hp S2 ⟨?_, ?_, by decide, fun i hi => absurd hi (Nat.not_lt_zero i), Or.inl ⟨rfl, ?_⟩⟩ ?_
  · rw [e2, e1]; exact n1
  · rw [e2, e1]
    show sI (pI S 0 (ad L 0) 0) 2 (ad L 0) = nI 0
    exact (sI_ne (by decide)).trans (n3 2)
  · rw [e2, e1]; exact up2_at
  · rw [e2, e1]
    exact (Fr.rf.I (nam (t0 := L) (i0 := 0) hj (fun z => z ⟨rfl, rfl⟩))).Q (nam (t0 := L) (i0 := 0) hj (fun z => z ⟨rfl, rfl⟩))
/-- an empty floor is made -/
theorem s_Finit {post : St → Prop} {B : Nat} (hj : Inj ad) (h : NW S ad B 0 3 0) (hp : ∀ S' ad', Inj ad' → FL S' ad' B 0 0 → sI S' 23 (ad' B 0) = 0 → Fr (fun t _ => t < B ∨ B + 8 ≤ t) S S' ad ad' → ad' B 0 = ad B 0 → post S') : w_F_init post S (ad B 0) := by
  unfold w_F_init
  obtain ⟨n1, n2, n3, n4, n5⟩ := h
  refine s_new (t0 := B + 1) (i0 := 0) hj (fun S2 ad2 j2 f2 h2 => ?_)
  refine s_ALinit j2 h2 (B + 2) (B + 5) 2 (fun S4 l4 f4 => ?_)
  intro S5 e5
  have pB : ex (B + 1) 0 B 0 := fun z => by omega
  have a4 : isA S4 3 (ad2 B 0) := (f4.a pB (f2.a pB n1).2.1).2.1
  have x2 : ad2 B 0 = ad B 0 := (f2.a pB n1).1
  have i4 : ∀ f, sI S4 f (ad2 B 0) = 0 := fun f => ((f4.i pB (f2.a pB n1).2.1).trans (f2.i pB n1)).trans (n3 f)
  rw [← x2] at e5 ⊢
  have f5 : Fr (ex B 0) S4 S5 ad2 ad2 := by rw [e5]; exact Fr.rf.Q (nam (t0 := B) (i0 := 0) j2 (fun z => z ⟨rfl, rfl⟩))
  have a5 : isA S5 3 (ad2 B 0) ∧ sQ S5 21 (ad2 B 0) = some (ad2 (B + 1) 0) ∧ ∀ f, sI S5 f (ad2 B 0) = 0 := by rw [e5]; exact ⟨a4, up2_at, i4⟩
  have l5 : LiS S5 ad2 (B + 1) (B + 2) (B + 5) 2 0 := l4.fr f5 (fun z => by omega) (fun z => by omega) (fun i hi => absurd hi (Nat.not_lt_zero i))
  clear e5 l4 a4 i4
  obtain ⟨a5, q5, i5⟩ := a5
  refine s_new (t0 := B + 3) (i0 := 0) j2 (fun S7 ad7 j7 f7 h7 => ?_)
  refine s_ALinit j7 h7 (B + 4) (B + 6) 5 (fun S9 l9 f9 => ?_)
  intro S10 e10
  have pB : ex (B + 3) 0 B 0 := fun z => by omega
  have p1 : ex (B + 3) 0 (B + 1) 0 := fun z => by omega
  have p2 : ex (B + 3) 0 (B + 2) 0 := fun z => by omega
  have f79 : Fr (ex (B + 3) 0) S5 S9 ad2 ad7 := f7.tr f9
  have a9 : isA S9 3 (ad7 B 0) := (f79.a pB a5).2.1
  have x7 : ad7 B 0 = ad2 B 0 := (f79.a pB a5).1
  have i9 : ∀ f, sI S9 f (ad7 B 0) = 0 := fun f => (f79.i pB a5).trans (i5 f)
  have q9 : sQ S9 21 (ad7 B 0) = some (ad7 (B + 1) 0) := f79.qs pB a5 p1 l5.1 q5
  have l9' : LiS S9 ad7 (B + 1) (B + 2) (B + 5) 2 0 := l5.fr f79 p1 p2 (fun i hi => absurd hi (Nat.not_lt_zero i))
  rw [← x7] at e10
  have f10 : Fr (ex B 0) S9 S10 ad7 ad7 := by rw [e10]; exact Fr.rf.Q (nam (t0 := B) (i0 := 0) j7 (fun z => z ⟨rfl, rfl⟩))
  have k10 : isA S10 3 (ad7 B 0) ∧ sQ S10 21 (ad7 B 0) = some (ad7 (B + 1) 0) ∧ sQ S10 22 (ad7 B 0) = some (ad7 (B + 3) 0) ∧ ∀ f, sI S10 f (ad7 B 0) = 0 := by
    rw [e10]
    refine ⟨a9, ?_, up2_at, i9⟩
    exact (sQ_ne (by decide)).trans q9
  obtain ⟨k1, k2, k3, k4⟩ := k10
  refine hp S10 ad7 j7 ⟨k1, k2, k3, l9'.fr f10 (fun z => by omega) (fun z => by omega) (fun i hi => absurd hi (Nat.not_lt_zero i)), l9.fr f10 (fun z => by omega) (fun z => by omega) (fun i hi => absurd hi (Nat.not_lt_zero i)), fun j hj => absurd hj (Nat.not_lt_zero j), fun i hi => absurd hi (Nat.not_lt_zero i)⟩ (k4 23) ?_ (x7.trans x2)
  exact ((((f2.tr f4).mono (P' := fun t _ => t < B ∨ B + 8 ≤ t) (fun t i ht z => by omega)).tr (f5.mono (fun t i ht z => by omega))).tr (f79.mono (fun t i ht z => by omega))).tr (f10.mono (fun t i ht z => by omega))
/-- the hall with k dances in its list -/
def HI (S : St) (ad : Nat → Nat → Nat) (k : Nat) : Prop := (isA S 6 (ad 1 0) ∧ sQ S 33 (ad 1 0) = some (ad 2 0) ∧ sQ S 34 (ad 1 0) = some (ad 4 0) ∧ sQ S 35 (ad 1 0) = some (ad 10 0) ∧ sQ S 36 (ad 1 0) = some (ad 20 0) ∧ sQ S 37 (ad 1 0) = some (ad 30 0)) ∧
  (isA S 4 (ad 2 0) ∧ sQ S 24 (ad 2 0) = some (ad 3 0) ∧ sI S 25 (ad 2 0) = 0 ∧ isA S 9 (ad 3 0) ∧ sN S (ad 3 0) = 40) ∧ LiS S ad 4 5 10 1 k ∧ DLk S ad 0 ∧ (∀ x, x < k → DLk S ad x) ∧ FL S ad 20 0 0 ∧ sI S 23 (ad 20 0) = 0 ∧ FL S ad 30 0 0
theorem HI.fr {k : Nat} (h : Fr P S S' ad ad') (p : ∀ t i, t < 4 ∨ 20 ≤ t ∧ t < 40 → P t i) (p4 : P 4 0) (p5 : P 5 0) (p10 : ∀ i, i < k ∨ i = 0 → P 10 i ∧ P 11 i) (g : HI S ad k) : HI S' ad' k := by
  obtain ⟨⟨a1, a2, a3, a4, a5, a6⟩, ⟨b1, b2, b3, b4, b5⟩, c, d, e, f, f2, f3⟩ := g
  have q1 := p 1 0 (by omega)
  have q2 := p 2 0 (by omega)
  have q3 := p 3 0 (by omega)
  have q20 := p 20 0 (by omega)
  have q30 := p 30 0 (by omega)
  exact ⟨⟨(h.a q1 a1).2.1, h.qs q1 a1 q2 b1 a2, h.qs q1 a1 p4 c.1 a3, h.qs q1 a1 (p10 0 (Or.inr rfl)).1 d.1 a4, h.qs q1 a1 q20 f.1 a5, h.qs q1 a1 q30 f3.1 a6⟩, ⟨(h.a q2 b1).2.1, h.qs q2 b1 q3 b4 b2, (h.i q2 b1).trans b3, (h.a q3 b4).2.1, (h.a q3 b4).2.2.trans b5⟩, c.fr h p4 p5 (fun i hi => (p10 i (Or.inl hi)).1), d.fr h (p10 0 (Or.inr rfl)).1 (p10 0 (Or.inr rfl)).2, fun x hx => (e x hx).fr h (p10 x (Or.inl hx)).1 (p10 x (Or.inl hx)).2, f.fr h (fun t i hu => p t i (by unfold FU at hu; omega)), (h.i q20 f.1).trans f2, f3.fr h (fun t i hu => p t i (by unfold FU at hu; omega))⟩
/-- the dance k goes into the list -/
theorem s_dadd {K : St → Prop} {k : Nat} (hj : Inj ad) (h : HI S ad k) (hk : k < 8) (hd : DLk S ad k) (hK : ∀ S' ad', Inj ad' → HI S' ad' (k + 1) → ad' 1 0 = ad 1 0 → K S') : w_AL_add1 (fun (r : Int32) (S' : St) => K S') S (ad 4 0) (some (ad 10 k)) := by
  obtain ⟨a, b, c, d, e, f, f2, f3⟩ := h
  refine s_add1 hj c hk hd.1 (Or.inl rfl) (by decide) (fun S' ad' j' l' fr e4 => ?_)
  have p : ∀ t i, t ≠ 4 → t ≠ 5 → NL 4 5 t i := fun t i h1 h2 => ⟨fun z => h1 z.1, fun z => h2 z.1⟩
  obtain ⟨a1, a2, a3, a4, a5, a6⟩ := a
  obtain ⟨b1, b2, b3, b4, b5⟩ := b
  have q1 := p 1 0 (by decide) (by decide)
  have q2 := p 2 0 (by decide) (by decide)
  have q3 := p 3 0 (by decide) (by decide)
  have q20 := p 20 0 (by decide) (by decide)
  have q30 := p 30 0 (by decide) (by decide)
  have q10 : ∀ i, NL 4 5 10 i := fun i => p 10 i (by decide) (by decide)
  have q11 : ∀ i, NL 4 5 11 i := fun i => p 11 i (by decide) (by decide)
  refine hK S' ad' j' ⟨⟨(fr.a q1 a1).2.1, fr.qs q1 a1 q2 b1 a2, by rw [fr.q q1 a1, a3, e4], fr.qs q1 a1 (q10 0) d.1 a4, fr.qs q1 a1 q20 f.1 a5, fr.qs q1 a1 q30 f3.1 a6⟩, ⟨(fr.a q2 b1).2.1, fr.qs q2 b1 q3 b4 b2, (fr.i q2 b1).trans b3, (fr.a q3 b4).2.1, (fr.a q3 b4).2.2.trans b5⟩, l', d.fr fr (q10 0) (q11 0), fun x hx => ?_, f.fr fr (fun t i hu => p t i (by unfold FU at hu; omega) (by unfold FU at hu; omega)), (fr.i q20 f.1).trans f2, f3.fr fr (fun t i hu => p t i (by unfold FU at hu; omega) (by unfold FU at hu; omega))⟩ (fr.a q1 a1).1
  by_cases cx : x = k
  · subst cx; exact hd.fr fr (q10 x) (q11 x)
  · exact (e x (by omega)).fr fr (q10 x) (q11 x)
theorem s_dnext {K : St → Prop} {a0 k : Nat} (hj : Inj ad) (h : HI S ad k) (hk1 : 1 ≤ k) (hk : k < 8) (ha : ad 1 0 = a0) (hK : ∀ S' ad', Inj ad' → HI S' ad' (k + 1) → ad' 1 0 = a0 → K S') : ∀ o32 : Option Nat, o32 = sQ S 34 a0 → ∀ (q33 : Nat) (S34 : St), q33 ∉ sL S → S34 = pNew S q33 1 0 → w_D_init (fun (S36 : St) => ∃ y37 : Nat, o32 = some y37 ∧ isA S36 0 y37 ∧ w_AL_add1 (fun (r39 : Int32) (S40 : St) => K S40) S36 y37 (some q33)) S34 q33 (nI k) k := by
  subst ha
  intro o32 e32
  rw [h.1.2.2.1] at e32
  refine s_new (t0 := 10) (i0 := k) hj (fun S2 ad2 j2 f2 h2 => ?_)
  have hi2 : HI S2 ad2 k := h.fr f2 (fun t i ht z => by omega) (fun z => by omega) (fun z => by omega) (fun i hi => ⟨fun z => by omega, fun z => by omega⟩)
  refine s_Dinit j2 hk h2 (fun S3 ad3 j3 d3 f3 e10 => ?_)
  have hi3 : HI S3 ad3 k := hi2.fr f3 (fun t i ht => ⟨fun z => by omega, fun z => by omega⟩) ⟨fun z => by omega, fun z => by omega⟩ ⟨fun z => by omega, fun z => by omega⟩ (fun i hi => ⟨⟨fun z => by omega, fun z => by omega⟩, ⟨fun z => by omega, fun z => by omega⟩⟩)
  have x4 : ad3 4 0 = ad 4 0 := ((f3.a (t := 4) (i := 0) ⟨fun z => absurd z.1 (by decide), fun z => absurd z.1 (by decide)⟩ hi2.2.2.1.1).1).trans (f2.a (t := 4) (i := 0) (fun z => absurd z.1 (by decide)) h.2.2.1.1).1
  have x1 : ad3 1 0 = ad 1 0 := ((f3.a (t := 1) (i := 0) ⟨fun z => absurd z.1 (by decide), fun z => absurd z.1 (by decide)⟩ hi2.1.1).1).trans (f2.a (t := 1) (i := 0) (fun z => absurd z.1 (by decide)) h.1.1).1
  refine ⟨ad3 4 0, by rw [e32, x4], hi3.2.2.1.1, ?_⟩
  rw [← e10]
  exact s_dadd j3 hi3 hk d3 (fun S' ad' j' h' e' => hK S' ad' j' h' (e'.trans x1))
end CINIT
