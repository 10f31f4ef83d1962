section LIKE
variable {S : St} {ad : Nat → Nat → Nat} {tl n m B : Nat} {tb dl dn : Nat → Nat} {df g wg rd I R : Nat → Nat → Int32} {pt : Nat → Option Nat} {bt u v : Int32}
theorem s_dNOf {post : Option Nat → Prop} {i : Nat} (hF : FL S ad B n m) (hi : i < n) (hp : post (some (ad (B + 5) i))) : w_F_dancerOrNull post S (ad B 0) (nI i) := by
  obtain ⟨f1, f2, f3, f4, f5, f6, f7⟩ := hF
  have hn : n ≤ 8 := f4.2.2.1
  unfold w_F_dancerOrNull
  refine ⟨fun c => absurd c (nI_pos (by omega)), fun _ => fun o e => ⟨_, e.trans f2, f4.1, ?_⟩⟩
  rw [e_size, f4.2.1]
  exact ⟨fun c => absurd c (nI_ge hi (by omega)), fun _ => fun o e => ⟨_, e.trans f2, f4.1, s_get f4 hi ⟨_, rfl, f4.2.2.2.1 i hi, hp⟩⟩⟩
/-- the dancers of the floor ahead, copied -/
def D30 (S : St) (ad : Nat → Nat → Nat) (n : Nat) (pt : Nat → Option Nat) (dn : Nat → Nat) (g : Nat → Nat → Int32) : Prop := ∀ x, x < n → sQ S 12 (ad 35 x) = some (ad 10 (dn x)) ∧ sQ S 14 (ad 35 x) = (pt x).map (ad 35) ∧ ∀ f, mInt f → sI S f (ad 35 x) = g f x
def P0 : Nat → Nat → Prop := fun t _ => t < 31 ∨ 38 ≤ t
theorem HC.rfn (h : HC S ad tl tb dl df n g pt dn bt m wg rd) {i : Nat} (hi : i < n) : dn i < 8 := (h.2.2.2.1.2.1 i hi).2.1
theorem D30.fr {P : Nat → Nat → Prop} {S' : St} {ad' : Nat → Nat → Nat} (hf : Fr P S S' ad ad') (hA : ∀ x, x < n → isA S 2 (ad 35 x)) (hD : ∀ k, k < 8 → isA S 1 (ad 10 k)) (hdn : ∀ i, i < n → dn i < 8) (hpt : ∀ i j, i < n → pt i = some j → j < n) (p35 : ∀ x, x < n → P 35 x) (p10 : ∀ k, P 10 k) (h : D30 S ad n pt dn g) : D30 S' ad' n pt dn g := by
  intro x hx
  obtain ⟨a1, a2, a3⟩ := h x hx
  refine ⟨hf.qs (p35 x hx) (hA x hx) (p10 _) (hD _ (hdn x hx)) a1, ?_, fun f hf' => (hf.i (p35 x hx) (hA x hx)).trans (a3 f hf')⟩
  rw [hf.q (p35 x hx) (hA x hx), a2]
  cases hp : pt x with
  | none => rfl
  | some j => exact congrArg some (hf.a (p35 j (hpt x j hx hp)) (hA j (hpt x j hx hp))).1.symm
/-- the floor ahead behind its winders -/
theorem e_like {I' R' : Nat → Nat → Int32} (hj : Inj ad) (h : HC S ad tl tb dl df n g pt dn bt m wg rd) (hF : FL S ad 30 n m) (hD : D30 S ad n pt dn g) (hpt : ∀ i j, i < n → pt i = some j → j < n) (hb : sI S 23 (ad 30 0) = bt)
    (i1 : ∀ f a, (∀ x, x < m → a ≠ ad 36 x) → I' f a = sI S f a) (i2 : ∀ f a, ¬ nFld f → I' f a = sI S f a) (r1 : ∀ a, (∀ x, x < m → a ≠ ad 37 x) → R' a = sR S a) (hx : ∀ x, x < m → (∀ f, nFld f → I' f (ad 36 x) = wg f x) ∧ ∀ p, p < 8 → R' (ad 37 x) p = rd x p) :
    HC (kS S I' R') ad tl tb dl df n g pt dn bt m wg rd ∧ CF (kS S I' R') ad 30 n m pt dn dl df ∧ Lk ad 30 n m I' I' (fun f i => if i < n then I' f (ad 35 i) else g f i) (fun f j => I' f (ad 36 j)) bt ∧ RR R' ad 30 m rd ∧ (∀ f i, mInt f → (if i < n then I' f (ad 35 i) else g f i) = g f i) ∧ (∀ q j, q < 6 → j < m → I' (wFld q) (ad 36 j) = wg (wFld q) j) ∧ Fr (fun t _ => t < 36 ∨ 38 ≤ t) S (kS S I' R') ad ad := by
  have ii : ∀ f t i, t ≠ 36 → I' f (ad t i) = sI S f (ad t i) := fun f t i ht => i1 f _ (fun x _ e => ht (hj _ _ _ _ e).1)
  have rr : ∀ t i, t ≠ 37 → R' (ad t i) = sR S (ad t i) := fun t i ht => r1 _ (fun x _ e => ht (hj _ _ _ _ e).1)
  have fr : Fr (fun t _ => t < 36 ∨ 38 ≤ t) S (kS S I' R') ad ad := kfr (fun t i ht => ⟨fun f => ii f t i (by omega), rr t i (by omega)⟩)
  have ev : Ev (sI S) I' := fun f a hf => i2 f a (fun q => by unfold nFld at q; omega)
  have fl : FL (kS S I' R') ad 30 n m := FL.ev (S := S) (I := sI S) (R := sR S) hF ev
  have hc : HC (kS S I' R') ad tl tb dl df n g pt dn bt m wg rd := h.frG fr (fun t i ht _ _ => by omega) (Nat.le_refl n) (Nat.le_refl m) fl
  refine ⟨hc, ⟨fl, fun i hi => ?_, hc.2.2.2.1.2.2⟩, ⟨Ev.rf, fun _ _ _ _ _ => rfl, fun f i hf hi => ?_, fun f j _ _ => rfl, ?_⟩, fun j p hjm hp => (hx j hjm).2 p hp, fun f i hf => ?_, fun q j hq hjm => ?_, fr⟩
  · obtain ⟨a1, a2, a3⟩ := hD i hi
    exact ⟨a1, h.rfn hi, a2, fun j hp => hpt i j hi hp⟩
  · exact (if_pos hi).symm
  · rw [ii 23 30 0 (by decide)]; exact hb
  · by_cases c : i < n
    · rw [if_pos c, ii f 35 i (by decide)]
      exact (hD i c).2.2 f hf
    · rw [if_neg c]
  · refine (hx j hjm).1 _ ?_
    rcases (show q = 0 ∨ q = 1 ∨ q = 2 ∨ q = 3 ∨ q = 4 ∨ q = 5 by omega) with rfl | rfl | rfl | rfl | rfl | rfl <;> (unfold nFld; decide)
set_option maxHeartbeats 4000000 in
theorem s_like {post : St → Prop} (hj : Inj ad) (h : HC S ad tl tb dl df n g pt dn bt m wg rd) (hO : Ok n g pt dn dl) (hm3 : m ≤ 3)
    (hp : ∀ S' ad' g2 wg2, Inj ad' → HC S' ad' tl tb dl df n g pt dn bt m wg rd → CF (kS S' (sI S') (sR S')) ad' 30 n m pt dn dl df → Lk ad' 30 n m (sI S') (sI S') g2 wg2 bt → RR (sR S') ad' 30 m rd → (∀ f i, mInt f → g2 f i = g f i) → (∀ q j, q < 6 → j < m → wg2 (wFld q) j = wg (wFld q) j) → Fr (fun t _ => t < 30 ∨ 38 ≤ t) S S' ad ad' → ad' 30 0 = ad 30 0 → post S') : w_F_startLike post S (ad 30 0) (some (ad 20 0)) := by
  have hn := h.n8
  have hpt : ∀ i j, i < n → pt i = some j → j < n := fun i j hi hq => (hO.2.2.1 i j hi hq).1
  obtain ⟨n2, m2, hn2, hm2, g3⟩ := h.2.2.2.2.2.2
  unfold w_F_startLike
  refine ⟨_, rfl, h.qF.2, ?_⟩
  intro S3 e3
  have eb : sI S 23 (ad 20 0) = bt := h.2.2.2.2.1.2.2
  rw [eb] at e3
  have h3 : HC S3 ad tl tb dl df n g pt dn bt m wg rd := by
    obtain ⟨b1, b2, b3, b4⟩ := h.2.1
    rw [e3]
    refine HC.kk (S := S) (I := up2 (sI S) 23 (ad 30 0) bt) (R := sR S) h (fun a => up2_f (by decide)) (fun a => up2_f (by decide)) ⟨(up2_f (by decide)).trans b1, b2, b3, b4⟩ (fun k hk => ?_) ⟨fun f i k1 k2 => ?_, fun f j k1 k2 => ?_, ?_⟩ h.2.2.2.2.2.1
    · obtain ⟨x1, x2, x3, x4⟩ := h.2.2.2.1.2.2 k hk
      exact ⟨x1, by rw [kS_I, up2_f (by decide)]; exact x2, by rw [kS_I, up2_f (by decide)]; exact x3, x4⟩
    · rw [up2_a (fun e => by have := (hj _ _ _ _ e).1; omega)]; exact h.vw k1 k2
    · rw [up2_a (fun e => by have := (hj _ _ _ _ e).1; omega)]; exact h.2.2.2.2.1.2.1 f j k1 k2
    · rw [up2_a (fun e => by have := (hj _ _ _ _ e).1; omega)]; exact eb
  have b3 : sI S3 23 (ad 30 0) = bt := by rw [e3]; exact up2_at
  have F3 : FL S3 ad 30 n2 m2 := by
    rw [e3]
    exact FL.ev (S := S) (I := sI S) (I' := up2 (sI S) 23 (ad 30 0) bt) (R := sR S) (R' := sR S) g3 (fun f a hf => up2_f (by omega))
  have R3 : Fr (fun t _ => t ≠ 30) S S3 ad ad := by rw [e3]; exact Fr.rf.I (nam (t0 := 30) (i0 := 0) hj (fun q => q rfl))
  clear e3 g3
  refine fun o e => ⟨_, e.trans F3.2.1, F3.2.2.2.1.1, ?_⟩
  rw [e_size, F3.2.2.2.1.2.1]
  refine ⟨fun q S' v kc ks => ∃ i ad', i ≤ n ∧ n2 ≤ i ∧ q = n - i ∧ v = nI i ∧ kc = 2 * (i - n2) ∧ ks = 25 * (i - n2) ∧ Inj ad' ∧ HC S' ad' tl tb dl df n g pt dn bt m wg rd ∧ FL S' ad' 30 i m2 ∧ Fr P0 S3 S' ad ad', ⟨n - n2, n2, ad, hn2, Nat.le_refl _, rfl, rfl, by omega, by omega, hj, h3, F3, Fr.rf⟩, ?_⟩
  rintro q S1 _ _ _ ⟨i, ad1, hi, hi2, rfl, rfl, rfl, rfl, j1, h1, F1, R1⟩
  have e20 : ad1 20 0 = ad 20 0 := (R1.a (t := 20) (i := 0) (Or.inl (by decide)) h3.qF.2).1
  have e30 : ad1 30 0 = ad 30 0 := (R1.a (t := 30) (i := 0) (Or.inl (by decide)) F3.1).1
  have e01 : ad1 1 0 = ad 1 0 := (R1.a (t := 1) (i := 0) (Or.inl (by decide)) h3.1.1).1
  have b1 : sI S1 23 (ad1 30 0) = bt := (R1.i (t := 30) (i := 0) (Or.inl (by decide)) F3.1).trans b3
  have L1 : LiS S1 ad1 21 22 25 2 n := h1.2.2.2.1.1.2.2.2.1
  have q21 : sQ S1 21 (ad1 20 0) = some (ad1 21 0) := h1.2.2.2.1.1.2.1
  rw [← e20, ← e30]
  refine ⟨⟨by omega, by omega⟩, fun o e => ⟨_, e.trans q21, L1.1, ?_⟩⟩
  rw [e_size, L1.2.1]
  refine ⟨fun hc => ?_, fun hc => ?_⟩
  · -- the dancers are there: they are copied
    have hin : i = n := by
      have := (nI_leI (by omega) (by omega)).mp hc
      omega
    rw [hin] at F1
    have RA : Fr (fun t _ => t < 30 ∨ 38 ≤ t) S S1 ad ad1 := (R3.mono (P' := fun t _ => t < 30 ∨ 38 ≤ t) (fun t x ht z => by omega)).tr (R1.mono (fun t x ht => by unfold P0; omega))
    have z30 := e30
    clear R1 R3 h3 F3 b3 hc L1 q21 e20 e30 h
    have q31 : sQ S1 21 (ad1 30 0) = some (ad1 31 0) := F1.2.1
    refine ⟨fun q S' v => ∃ i I' Q', i ≤ n ∧ q = n - i ∧ v = nI i ∧ S' = qS S1 I' Q' ∧ (∀ f a, (∀ x, x < n → a ≠ ad1 35 x) → I' f a = sI S1 f a) ∧ (∀ f a, f < 7 → I' f a = sI S1 f a) ∧ (∀ f a, (∀ x, x < n → a ≠ ad1 35 x) → Q' f a = sQ S1 f a) ∧ (∀ f a, f ≠ 12 → f ≠ 14 → Q' f a = sQ S1 f a) ∧ ∀ x, x < i → Q' 12 (ad1 35 x) = some (ad1 10 (dn x)) ∧ Q' 14 (ad1 35 x) = (pt x).map (ad1 35) ∧ ∀ f, mInt f → I' f (ad1 35 x) = g f x, ⟨n, 0, sI S1, sQ S1, Nat.zero_le _, rfl, rfl, rfl, fun _ _ _ => rfl, fun _ _ _ => rfl, fun _ _ _ => rfl, fun _ _ _ _ => rfl, fun x hx => absurd hx (Nat.not_lt_zero x)⟩, ?_⟩
    rintro q S2 _ ⟨x, I', Q', hx, rfl, rfl, rfl, i1, i2, q1, q2, hD⟩
    have F2 : FL (qS S1 I' Q') ad1 30 n m2 := F1.qs i2 q2
    have F20 : FL (qS S1 I' Q') ad1 20 n m := h1.2.2.2.1.1.qs i2 q2
    have L2 : LiS (qS S1 I' Q') ad1 31 32 35 2 n := F2.2.2.2.1
    have L20 : LiS (qS S1 I' Q') ad1 21 22 25 2 n := F20.2.2.2.1
    have k31 : sQ (qS S1 I' Q') 21 (ad1 30 0) = some (ad1 31 0) := F2.2.1
    have k21 : sQ (qS S1 I' Q') 21 (ad1 20 0) = some (ad1 21 0) := F20.2.1
    refine fun o e => ⟨_, e.trans k31, L2.1, ?_⟩
    rw [e_size, L2.2.1]
    refine ⟨x = n, fun hxn => ?_, fun c => ?_, fun c => fun o e => ⟨_, e.trans k21, L20.1, ?_⟩⟩
    · -- the dancers are copied: winders
      have hk : 2 * (i - n2) = 2 * (n - n2) ∧ 25 * (i - n2) = 25 * (n - n2) := ⟨by rw [hin], by rw [hin]⟩
      rw [hk.1, hk.2]
      generalize hS2 : qS S1 I' Q' = S2 at *
      have A2 : ∀ k a, isA S1 k a → isA S2 k a := fun k a q => by rw [← hS2]; exact q
      have f2 : Fr (fun t _ => t ≠ 35) S1 S2 ad1 ad1 := by
        rw [← hS2]
        exact ⟨⟨fun a ha => ⟨ha, rfl, rfl⟩, rfl⟩, fun t y ht _ => ⟨rfl, fun f => i1 f _ (fun z _ e => ht (j1 _ _ _ _ e).1), fun f => q1 f _ (fun z _ e => ht (j1 _ _ _ _ e).1), rfl, rfl, rfl⟩⟩
      have hD2 : D30 S2 ad1 n pt dn g := by
        rw [← hS2]
        intro y hy
        exact hD y (by omega)
      have h2 : HC S2 ad1 tl tb dl df n g pt dn bt m wg rd := h1.frG f2 (fun t y ht _ _ => by omega) (Nat.le_refl n) hm2 F2
      have b2 : sI S2 23 (ad1 30 0) = bt := (f2.i (t := 30) (i := 0) (by decide) F1.1).trans b1
      have R2 : Fr (fun t _ => t < 30 ∨ 38 ≤ t) S S2 ad ad1 := RA.tr (f2.mono (fun t y ht => by omega))
      clear hD i1 i2 q1 q2 hS2 L2 L20 k31 k21 F20 f2 A2 RA q31 b1 F1 h1
      refine fun o e => ⟨_, e.trans F2.2.2.1, F2.2.2.2.2.1.1, ?_⟩
      rw [e_size, F2.2.2.2.2.1.2.1]
      refine ⟨fun q S' v kc ks => ∃ j ad', j ≤ m ∧ m2 ≤ j ∧ q = m - j ∧ v = nI j ∧ kc = 2 * (n - n2) + 3 * (j - m2) ∧ ks = 25 * (n - n2) + 25 * (j - m2) ∧ Inj ad' ∧ HC S' ad' tl tb dl df n g pt dn bt m wg rd ∧ FL S' ad' 30 n j ∧ D30 S' ad' n pt dn g ∧ sI S' 23 (ad' 30 0) = bt ∧ Fr (fun t _ => t < 31 ∨ 38 ≤ t) S2 S' ad1 ad', ⟨m - m2, m2, ad1, hm2, Nat.le_refl _, rfl, rfl, by omega, by omega, j1, h2, F2, hD2, b2, Fr.rf⟩, ?_⟩
      rintro q S4 _ _ _ ⟨j, ad4, hjm, hj2, rfl, rfl, rfl, rfl, j4, h4, F4, D4, b4, R4⟩
      have e20 : ad4 20 0 = ad1 20 0 := (R4.a (t := 20) (i := 0) (Or.inl (by decide)) h2.qF.2).1
      have e30 : ad4 30 0 = ad1 30 0 := (R4.a (t := 30) (i := 0) (Or.inl (by decide)) F2.1).1
      have e04 : ad4 1 0 = ad1 1 0 := (R4.a (t := 1) (i := 0) (Or.inl (by decide)) h2.1.1).1
      rw [← e20, ← e30]
      have F20 : FL S4 ad4 20 n m := h4.2.2.2.1.1
      have q22 : sQ S4 22 (ad4 20 0) = some (ad4 23 0) := F20.2.2.1
      have L20 : LiS S4 ad4 23 24 26 5 m := F20.2.2.2.2.1
      refine ⟨⟨by omega, by omega⟩, fun o e => ⟨_, e.trans q22, L20.1, ?_⟩⟩
      rw [e_size, L20.2.1]
      refine ⟨fun c => ?_, fun c => ?_⟩
      · -- the winders are copied
        have hjm2 : j = m := by
          have := (nI_leI (by omega) (by omega)).mp c
          omega
        rw [hjm2] at F4
        have q33 : sQ S4 22 (ad4 30 0) = some (ad4 33 0) := F4.2.2.1
        have L33 : LiS S4 ad4 33 34 36 5 m := F4.2.2.2.2.1
        refine ⟨fun q S' v => ∃ j I' R', j ≤ m ∧ q = m - j ∧ v = nI j ∧ S' = kS S4 I' R' ∧ (∀ f a, (∀ x, x < m → a ≠ ad4 36 x) → I' f a = sI S4 f a) ∧ (∀ f a, ¬ nFld f → I' f a = sI S4 f a) ∧ (∀ a, (∀ x, x < m → a ≠ ad4 37 x) → R' a = sR S4 a) ∧ ∀ x, x < j → (∀ f, nFld f → I' f (ad4 36 x) = wg f x) ∧ ∀ p, p < 8 → R' (ad4 37 x) p = rd x p, ⟨m, 0, sI S4, sR S4, Nat.zero_le _, rfl, rfl, rfl, fun _ _ _ => rfl, fun _ _ _ => rfl, fun _ _ => rfl, fun x hx => absurd hx (Nat.not_lt_zero x)⟩, ?_⟩
        rintro q S5 _ ⟨y, I5, R5, hy, rfl, rfl, rfl, i1, i2, r1, hx5⟩
        have z33 : I5 2 (ad4 33 0) = nI m := (i2 2 _ (fun q => by unfold nFld at q; omega)).trans L33.2.1
        have z23 : I5 2 (ad4 23 0) = nI m := (i2 2 _ (fun q => by unfold nFld at q; omega)).trans L20.2.1
        have M33 : LiS (kS S4 I5 R5) ad4 33 34 36 5 m := ⟨L33.1, z33, L33.2.2⟩
        have M23 : LiS (kS S4 I5 R5) ad4 23 24 26 5 m := ⟨L20.1, z23, L20.2.2⟩
        have done : y = m → post (kS S4 I5 R5) := fun hym => by
          obtain ⟨u1, u2, u3, u4, u5, u6, u7⟩ := e_like j4 h4 F4 D4 hpt b4 i1 i2 r1 (fun x hx => hx5 x (by omega))
          exact hp _ ad4 _ _ j4 u1 u2 u3 u4 u5 u6 ((R2.tr (R4.mono (fun t x ht => by omega))).tr (u7.mono (fun t x ht => by omega))) (e30.trans z30)
        refine fun o e => ⟨_, e.trans q33, M33.1, ?_⟩
        rw [e_size, M33.2.1]
        refine ⟨fun c => done ?_, fun c => fun o e => ⟨_, e.trans q22, M23.1, ?_⟩⟩
        · have := (nI_leI (by omega) (by omega)).mp c
          omega
        rw [e_size, M23.2.1]
        refine ⟨fun c2 => absurd c2 c, fun _ => ?_⟩
        have hym : y < m := Nat.not_le.mp fun q => c (nI_le q (by omega))
        refine fun o e => ⟨_, e.trans q33, M33.1, s_get M33 hym ⟨_, rfl, M33.2.2.2.1 y hym, fun o e => ⟨_, e.trans q22, M23.1, s_get M23 hym ⟨_, rfl, M23.2.2.2.1 y hym, ?_⟩⟩⟩⟩
        have n1 : ad4 26 y ≠ ad4 36 y := fun e => by have := (j4 _ _ _ _ e).1; omega
        have n2 : ad4 27 y ≠ ad4 37 y := fun e => by have := (j4 _ _ _ _ e).1; omega
        refine s_nbl (S := kS S4 I5 R5) n1 n2 (M23.2.2.2.1 y hym) (F4.2.2.2.2.2.1 y hym) (F20.2.2.2.2.2.1 y hym) (fun I6 R6 g1 g2 g3 g4 g5 => ?_)
        have g1 : ∀ f a, a ≠ ad4 36 y → I6 f a = I5 f a := g1
        have g2 : ∀ f, ¬ nFld f → I6 f (ad4 36 y) = I5 f (ad4 36 y) := g2
        have g3 : ∀ f, nFld f → I6 f (ad4 36 y) = I5 f (ad4 26 y) := g3
        have g4 : ∀ a, a ≠ ad4 37 y → R6 a = R5 a := g4
        have g5 : ∀ p, p < 8 → R6 (ad4 37 y) p = R5 (ad4 27 y) p := g5
        rintro _ rfl
        refine ⟨m - (y + 1), by omega, y + 1, I6, R6, hym, rfl, nI_1 y, rfl, fun f a ha => (g1 f a (ha y hym)).trans (i1 f a ha), fun f a hf => ?_, fun a ha => (g4 a (ha y hym)).trans (r1 a ha), fun x hx => ?_⟩
        · by_cases ca : a = ad4 36 y
          · subst ca; exact (g2 f hf).trans (i2 f _ hf)
          · exact (g1 f a ca).trans (i2 f a hf)
        · by_cases cx : x = y
          · subst cx
            refine ⟨fun f hf => ?_, fun p hp2 => ?_⟩
            · rw [g3 f hf, i1 f _ (fun z _ e => by have := (j4 _ _ _ _ e).1; omega)]
              exact h4.2.2.2.2.1.2.1 f x (by unfold nFld at hf; omega) hym
            · rw [g5 p hp2, r1 _ (fun z _ e => by have := (j4 _ _ _ _ e).1; omega)]
              exact h4.2.2.2.2.2.1 x p hym hp2
          · obtain ⟨t1, t2⟩ := hx5 x (by omega)
            refine ⟨fun f hf => (g1 f _ (fun e => cx (j4 _ _ _ _ e).2)).trans (t1 f hf), fun p hp2 => ?_⟩
            rw [g4 _ (fun e => cx (j4 _ _ _ _ e).2)]
            exact t2 p hp2
      · -- one winder more
        have hlt : j < m := Nat.not_le.mp fun q => c (nI_le q (by omega))
        intro o58 e58
        refine ⟨⟨by omega, by omega⟩, ?_⟩
        intro q S60 hq e60
        have q33 : sQ S4 22 (ad4 30 0) = some (ad4 33 0) := F4.2.2.1
        rw [q33] at e58
        have j5 : Inj (sw ad4 36 j q) := sw_inj j4
        have R5 : Fr (fun t x => ¬ (t = 36 ∧ x = j)) S4 S60 ad4 (sw ad4 36 j q) := by rw [e60]; exact Fr.sw hq
        have xq : sw ad4 36 j q 36 j = q := sw_at
        have k5 : isA S60 5 q := by rw [e60]; exact isA_new (S := S4) (n := 0)
        clear e60
        have x33 : sw ad4 36 j q 33 0 = ad4 33 0 := (R5.a (t := 33) (i := 0) (fun z => absurd z.1 (by decide)) F4.2.2.2.2.1.1).1
        have x20 : sw ad4 36 j q 20 0 = ad4 20 0 := (R5.a (t := 20) (i := 0) (fun z => absurd z.1 (by decide)) h4.qF.2).1
        have x30 : sw ad4 36 j q 30 0 = ad4 30 0 := (R5.a (t := 30) (i := 0) (fun z => absurd z.1 (by decide)) F4.1).1
        rw [← x33] at e58
        generalize sw ad4 36 j q = ad5 at *
        subst xq
        refine ⟨⟨by omega, by omega⟩, ?_⟩
        unfold w_N_init
        intro q2 S2' hq2 e2
        have a36 : ad5 36 j ≠ q2 := fun e => hq2 (by rw [← e]; exact k5.1)
        have j6 : Inj (sw ad5 37 j q2) := sw_inj j5
        have R6 : Fr (fun t x => ¬ (t = 37 ∧ x = j)) S60 S2' ad5 (sw ad5 37 j q2) := by rw [e2]; exact Fr.sw hq2
        have xq2 : sw ad5 37 j q2 37 j = q2 := sw_at
        have x36 : sw ad5 37 j q2 36 j = ad5 36 j := sw_ne (fun e => absurd e.1 (by decide)) a36
        have k6 : isA S2' 5 (ad5 36 j) := by rw [e2]; exact gle_isA (gle_new hq2) k5
        have k37 : isA S2' 10 q2 := by rw [e2]; exact isA_new (S := S60) (n := 8)
        have n37 : sN S2' q2 = 8 := by rw [e2]; exact len_new (S := S60) (k := 10)
        have y33 : sw ad5 37 j q2 33 0 = ad5 33 0 := (R6.a (t := 33) (i := 0) (fun z => absurd z.1 (by decide)) (R5.a (t := 33) (i := 0) (fun z => absurd z.1 (by decide)) F4.2.2.2.2.1.1).2.1).1
        have RR5 : Fr (fun t x => ¬ (t = 36 ∧ x = j) ∧ ¬ (t = 37 ∧ x = j)) S4 S2' ad4 (sw ad5 37 j q2) := (R5.mono (fun t i z => z.1)).tr (R6.mono (fun t i z => z.2))
        clear e2
        rw [← y33] at e58
        rw [← x36] at k6 ⊢
        clear x33 x20 x30 y33 R5 R6 k5 j5 hq hq2 a36
        generalize sw ad5 37 j q2 = ad6 at *
        subst xq2
        clear x36
        intro S63 e63
        have nm := nam (P := fun t x => ¬ (t = 36 ∧ x = j) ∧ ¬ (t = 37 ∧ x = j)) (S := S2') (ad := ad6) (t0 := 36) (i0 := j) j6 (fun z => z.1 ⟨rfl, rfl⟩)
        have R7 : Fr (fun t x => ¬ (t = 36 ∧ x = j) ∧ ¬ (t = 37 ∧ x = j)) S2' S63 ad6 ad6 := by
          rw [e63]
          exact Fr.rf.Q nm
        have o29 : sQ S63 29 (ad6 36 j) = some (ad6 37 j) := by rw [e63]; exact up2_at
        have k7 : isA S63 5 (ad6 36 j) := gle_isA R7.1 k6
        have k7' : isA S63 10 (ad6 37 j) := gle_isA R7.1 k37
        have n7 : sN S63 (ad6 37 j) = 8 := (gle_len R7.1 k37).trans n37
        clear e63
        have R8 := RR5.tr R7
        have F6 : FL S63 ad6 30 n j := F4.fr R8 (fun t x hu => ⟨fun z => by unfold FU at hu; omega, fun z => by unfold FU at hu; omega⟩)
        have h6 : HC S63 ad6 tl tb dl df n g pt dn bt m wg rd := h4.frG R8 (fun t x ht _ _ => ⟨fun z => by omega, fun z => by omega⟩) (Nat.le_refl n) hjm F6
        have D6 : D30 S63 ad6 n pt dn g := D30.fr R8 (fun x hx => F4.2.2.2.1.2.2.2.1 x hx) (fun k hk => h4.aD hk) (fun i hi => h4.rfn hi) hpt (fun x _ => ⟨fun z => absurd z.1 (by decide), fun z => absurd z.1 (by decide)⟩) (fun k => ⟨fun z => absurd z.1 (by decide), fun z => absurd z.1 (by decide)⟩) D4
        have b6 : sI S63 23 (ad6 30 0) = bt := (R8.i (t := 30) (i := 0) ⟨fun z => absurd z.1 (by decide), fun z => absurd z.1 (by decide)⟩ F4.1).trans b4
        refine ⟨_, e58, F6.2.2.2.2.1.1, ⟨by omega, by omega⟩, ?_⟩
        refine s_addN (B := 30) j6 F6 (by omega) k7 ⟨o29, k7', n7⟩ (fun S' ad' j' hF hf => ?_)
        have hc' : HC S' ad' tl tb dl df n g pt dn bt m wg rd := h6.frG hf (fun t x ht _ _ => ⟨fun z => by omega, fun z => by omega⟩) (Nat.le_refl n) hlt hF
        have D' : D30 S' ad' n pt dn g := D30.fr hf (fun x hx => F6.2.2.2.1.2.2.2.1 x hx) (fun k hk => h6.aD hk) (fun i hi => h6.rfn hi) hpt (fun x _ => ⟨fun z => absurd z.1 (by decide), fun z => absurd z.1 (by decide)⟩) (fun k => ⟨fun z => absurd z.1 (by decide), fun z => absurd z.1 (by decide)⟩) D6
        have b' : sI S' 23 (ad' 30 0) = bt := (hf.i (t := 30) (i := 0) ⟨fun z => absurd z.1 (by decide), fun z => absurd z.1 (by decide)⟩ F6.1).trans b6
        rintro _ rfl
        exact ⟨m - (j + 1), by omega, j + 1, ad', hlt, by omega, rfl, nI_1 j, by omega, by omega, j', hc', hF, D', b', R4.tr ((R8.mono (fun t x ht => ⟨fun z => by omega, fun z => by omega⟩)).tr (hf.mono (fun t x ht => ⟨fun z => by omega, fun z => by omega⟩)))⟩
    · have := (nI_leI (by omega) (by omega)).mp c
      omega
    · have hlt : x < n := Nat.not_le.mp fun q => c (nI_le q (by omega))
      rw [e_size, L20.2.1]
      refine ⟨fun c2 => absurd c2 c, fun _ => fun o e => ⟨_, e.trans k21, L20.1, s_get L20 hlt ⟨_, rfl, L20.2.2.2.1 x hlt, fun o e => ⟨_, e.trans k31, L2.1, s_get L2 hlt ⟨_, rfl, L2.2.2.2.1 x hlt, ?_⟩⟩⟩⟩⟩
      have hne : ad1 25 x ≠ ad1 35 x := fun e => by have := (j1 _ _ _ _ e).1; omega
      have o25 : ∀ f y, I' f (ad1 25 y) = sI S1 f (ad1 25 y) := fun f y => i1 f _ (fun z _ e => by have := (j1 _ _ _ _ e).1; omega)
      have p25 : ∀ f y, Q' f (ad1 25 y) = sQ S1 f (ad1 25 y) := fun f y => q1 f _ (fun z _ e => by have := (j1 _ _ _ _ e).1; omega)
      refine s_rbl hne (L20.2.2.2.1 x hlt) ?_ (fun S90 hcp => ?_)
      · have : sI (qS S1 I' Q') 15 (ad1 25 x) = g 15 x := (o25 15 x).trans (h1.vw (by decide) hlt)
        rw [this]
        exact (hO.1 x hlt).2.2.2.2.2.2.1
      obtain ⟨I2, Q2, rfl, c1, c2, c3, c4, c5⟩ := hcp
      have c1 : ∀ f a, a ≠ ad1 35 x → I2 f a = I' f a := c1
      have c2 : ∀ f, ¬ mInt f → I2 f (ad1 35 x) = I' f (ad1 35 x) := c2
      have c3 : ∀ f, mInt f → I2 f (ad1 35 x) = I' f (ad1 25 x) := c3
      have c4 : ∀ f a, ¬ (f = 12 ∧ a = ad1 35 x) → Q2 f a = Q' f a := c4
      have c5 : Q2 12 (ad1 35 x) = Q' 12 (ad1 25 x) := c5 trivial
      have d2 : ∀ f a, f < 7 → I2 f a = sI S1 f a := fun f a hf => by
        by_cases ca : a = ad1 35 x
        · subst ca
          exact (c2 f (fun z => by unfold mInt at z; omega)).trans (i2 f _ hf)
        · exact (c1 f a ca).trans (i2 f a hf)
      have d4 : ∀ f a, f ≠ 12 → f ≠ 14 → Q2 f a = sQ S1 f a := fun f a h12 h14 => (c4 f a (fun z => h12 z.1)).trans (q2 f a h12 h14)
      have e9 : qS (qS S1 I' Q') I2 Q2 = qS S1 I2 Q2 := rfl
      rw [e9]
      have F3 : FL (qS S1 I2 Q2) ad1 30 n m2 := F1.qs d2 d4
      have k3 : sQ (qS S1 I2 Q2) 21 (ad1 30 0) = some (ad1 31 0) := F3.2.1
      obtain ⟨r1, r2, r3, r4⟩ := h1.rf hlt
      have k14 : sQ (qS S1 I2 Q2) 14 (ad1 25 x) = (pt x).map (ad1 25) := (c4 14 _ (fun z => absurd z.1 (by decide))).trans ((p25 14 x).trans r3)
      refine fun o e => ⟨_, e.trans k3, F3.2.2.2.1.1, s_get F3.2.2.2.1 hlt ⟨_, rfl, F3.2.2.2.1.2.2.2.1 x hlt, ?_⟩⟩
      intro o97 e97
      rw [k14] at e97
      refine ⟨fun k => k = (pt x).map (ad1 35), ?_, fun c => ?_, fun y102 c => ?_⟩
      · rintro _ rfl _ rfl _ rfl
        refine ⟨n - (x + 1), by omega, x + 1, I2, up2 Q2 14 (ad1 35 x) ((pt x).map (ad1 35)), hlt, rfl, nI_1 x, rfl, fun f a ha => (c1 f a (ha x hlt)).trans (i1 f a ha), d2, fun f a ha => ?_, fun f a h12 h14 => (up2_f h14).trans (d4 f a h12 h14), fun y hy => ?_⟩
        · rw [up2_a (ha x hlt), c4 f a (fun z => ha x hlt z.2)]; exact q1 f a ha
        · by_cases cy : y = x
          · subst cy
            refine ⟨?_, up2_at, fun f hf => ?_⟩
            · rw [up2_f (by decide), c5, p25]; exact r1
            · rw [c3 f hf, o25]; exact h1.vw (by unfold mInt at hf; omega) hlt
          · have ny : ad1 35 y ≠ ad1 35 x := fun e => cy (j1 _ _ _ _ e).2
            obtain ⟨t1, t2, t3⟩ := hD y (by omega)
            refine ⟨?_, ?_, fun f hf => (c1 f _ ny).trans (t3 f hf)⟩
            · rw [up2_a ny, c4 _ _ (fun z => ny z.2)]; exact t1
            · rw [up2_a ny, c4 _ _ (fun z => ny z.2)]; exact t2
      · rw [c] at e97
        cases hq : pt x with
        | none => rfl
        | some j => rw [hq] at e97; cases e97
      · rw [c] at e97
        cases hq : pt x with
        | none => rw [hq] at e97; cases e97
        | some j =>
          rw [hq] at e97
          cases e97
          have hjn := r4 j hq
          have k14' : sQ (qS S1 I2 Q2) 14 (ad1 25 x) = some (ad1 25 j) := by rw [k14, hq]; rfl
          refine fun o e => ⟨_, e.trans k14', gle_isA (S := S1) ⟨fun a ha => ⟨ha, rfl, rfl⟩, rfl⟩ (h1.aR hjn), ?_⟩
          have e6 : sI (qS S1 I2 Q2) 6 (ad1 25 j) = nI j := (d2 6 _ (by decide)).trans (h1.2.2.2.1.1.2.2.2.2.2.2 j hjn)
          rw [e6]
          exact s_dNOf F3 hjn rfl
  · -- one dancer more
    have hlt : i < n := Nat.not_le.mp fun q => hc (nI_le q (by omega))
    intro o109 e109
    refine ⟨⟨by omega, by omega⟩, ?_⟩
    intro q S111 hq e111
    have j2 : Inj (sw ad1 35 i q) := sw_inj j1
    have R2 : Fr (fun t x => ¬ (t = 35 ∧ x = i)) S1 S111 ad1 (sw ad1 35 i q) := by rw [e111]; exact Fr.sw hq
    have xq : sw ad1 35 i q 35 i = q := sw_at
    have k2 : isA S111 2 q := by rw [e111]; exact isA_new (S := S1) (n := 0)
    clear e111
    have x20 : sw ad1 35 i q 20 0 = ad1 20 0 := (R2.a (t := 20) (i := 0) (fun z => absurd z.1 (by decide)) h1.qF.2).1
    have x31 : sw ad1 35 i q 31 0 = ad1 31 0 := (R2.a (t := 31) (i := 0) (fun z => absurd z.1 (by decide)) F1.2.2.2.1.1).1
    have q30 : sQ S1 21 (ad1 30 0) = some (ad1 31 0) := F1.2.1
    rw [q30, ← x31] at e109
    rw [← x20]
    clear x31 x20
    generalize sw ad1 35 i q = ad2 at *
    subst xq
    have F2 : FL S111 ad2 30 i m2 := F1.fr R2 (fun t x hu z => by unfold FU at hu; omega)
    have h2 : HC S111 ad2 tl tb dl df n g pt dn bt m wg rd := h1.frG R2 (fun t x ht _ _ z => by omega) (Nat.le_of_lt hlt) hm2 F2
    have L2 : LiS S111 ad2 21 22 25 2 n := h2.2.2.2.1.1.2.2.2.1
    have q21 : sQ S111 21 (ad2 20 0) = some (ad2 21 0) := h2.2.2.2.1.1.2.1
    refine fun o e => ⟨_, e.trans q21, L2.1, s_get L2 hlt ⟨_, rfl, h2.aR hlt, ?_⟩⟩
    intro o120 e120
    unfold w_R_init
    intro S4 e4 S5 e5 S6 e6 S121 e121
    have nm := nam (P := fun t x => ¬ (t = 35 ∧ x = i)) (S := S111) (ad := ad2) (t0 := 35) (i0 := i) j2 (fun z => z ⟨rfl, rfl⟩)
    have R3' : Fr (fun t x => ¬ (t = 35 ∧ x = i)) S111 S121 ad2 ad2 := by
      rw [e121, e6, e5, e4]
      exact (((Fr.rf.I nm).I nm).I nm).Q nm
    have n121 : sI S121 6 (ad2 35 i) = nI i := by rw [e121, e6]; exact up2_at
    have k121 : isA S121 2 (ad2 35 i) := gle_isA R3'.1 k2
    clear e121 e6 e5 e4
    have F121 : FL S121 ad2 30 i m2 := F2.fr R3' (fun t x hu z => by unfold FU at hu; omega)
    have h121 : HC S121 ad2 tl tb dl df n g pt dn bt m wg rd := h2.frG R3' (fun t x ht _ _ z => by omega) (Nat.le_of_lt hlt) hm2 F121
    refine ⟨_, e109, F121.2.2.2.1.1, ⟨by omega, by omega⟩, ?_⟩
    refine s_addR (B := 30) j2 F121 (by omega) k121 n121 (fun S' ad' j' hF hf => ?_)
    have RR1 : Fr P0 S1 S' ad1 ad' := ((R2.tr R3').mono (P' := P0) (fun t x ht z => by unfold P0 at ht; omega)).tr (hf.mono (fun t x ht => by unfold P0 at ht; exact ⟨fun z => by omega, fun z => by omega⟩))
    have hc' : HC S' ad' tl tb dl df n g pt dn bt m wg rd := h121.frG hf (fun t x ht _ _ => ⟨fun z => by omega, fun z => by omega⟩) (by omega) hm2 hF
    rintro _ rfl
    exact ⟨n - (i + 1), by omega, i + 1, ad', hlt, by omega, rfl, nI_1 i, by omega, by omega, j', hc', hF, R1.tr RR1⟩
end LIKE
