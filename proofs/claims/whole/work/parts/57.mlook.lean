/-! looking ahead, in the reference -/
theorem Ok.cgI {n : Nat} {g g' : Nat → Nat → Int32} {pt : Nat → Option Nat} {dn dl : Nat → Nat} (h : Ok n g pt dn dl) (e : ∀ f i, mInt f → g' f i = g f i) : Ok n g' pt dn dl := by
  obtain ⟨h1, h2, h3, h4⟩ := h
  have e7 : ∀ i, g' 7 i = g 7 i := fun i => e 7 i (by unfold mInt; omega)
  have e8 : ∀ i, g' 8 i = g 8 i := fun i => e 8 i (by unfold mInt; omega)
  have e15 : ∀ i, g' 15 i = g 15 i := fun i => e 15 i (by unfold mInt; omega)
  refine ⟨fun i hi => ?_, fun i j hi hj a b => ?_, fun i j hi hp => ?_, fun i hi hp => ?_⟩
  · unfold OkD
    rw [e7, e8, e 9 i (by unfold mInt; omega), e 10 i (by unfold mInt; omega), e 11 i (by unfold mInt; omega), e 13 i (by unfold mInt; omega), e15, e 16 i (by unfold mInt; omega)]
    exact h1 i hi
  · rw [e7, e7] at a
    rw [e8, e8] at b
    exact h2 i j hi hj a b
  · unfold bes
    rw [e7, e7, e8, e8]
    exact h3 i j hi hp
  · rw [e15]
    exact h4 i hi hp
theorem OkW.cgI {n m : Nat} {wg wg' rd : Nat → Nat → Int32} (h : OkW n m wg rd) (e : ∀ q j, q < 6 → j < m → wg' (wFld q) j = wg (wFld q) j) : OkW n m wg' rd := by
  intro j hj
  have e26 : wg' 26 j = wg 26 j := e 0 j (by decide) hj
  have e27 : wg' 27 j = wg 27 j := e 1 j (by decide) hj
  have e28 : wg' 28 j = wg 28 j := e 2 j (by decide) hj
  have e30 : wg' 30 j = wg 30 j := e 3 j (by decide) hj
  have e31 : wg' 31 j = wg 31 j := e 4 j (by decide) hj
  rw [e26, e27, e28, e30, e31]
  exact h j hj
section MLOOK
variable {S S1 : St} {ad : Nat → Nat → Nat} {tl n m : Nat} {tb dl dn : Nat → Nat} {df g wg rd I0 I R g2 wg2 gk wgk : Nat → Nat → Int32} {pt : Nat → Option Nat} {bt u v : Int32}
theorem HM.mb {k : Nat} {S' : St} (hj : Inj ad) (h : HM S ad tl tb dl df n g pt dn bt m wg rd) (hC : MC S (sI S) (sR S) ad 75 100 n m pt dn dl df rd) (hb : MB S ad 75 m bt gk wgk k S') (hz : ∀ f i, mInt f → 8 ≤ i → gk f i = 0) : HM S' ad tl tb dl df n g pt dn bt m wg rd ∧ Fr (fun t _ => t < 45) S S' ad ad ∧ sI S' 56 (ad 100 0) = sI S 56 (ad 100 0) ∧ MC S' (sI S') (sR S') ad 75 100 n m pt dn dl df rd ∧ Mk ad 75 m (sR S') (sR S') gk wgk := by
  obtain ⟨I', R', rfl, i1, i2, hM⟩ := hb
  have ii : ∀ f t i, t ≠ 75 → I' f (ad t i) = sI S f (ad t i) := fun f t i ht => i1 f _ (fun q => ht (hj _ _ _ _ q.2).1)
  have far : ∀ t i, t < 82 ∨ 96 ≤ t → R' (ad t i) = sR S (ad t i) := fun t i ht => funext fun _ => congrFun (hM.far hj (t := t) (i := i) (by omega)) _
  have st : ∀ f, f = 12 ∨ f = 14 ∨ f = 21 → R' (ad (75 + f) 0) = sR S (ad (75 + f) 0) := fun f hf => hM.st hj hf
  obtain ⟨a1, a2, a3, a4, a5, a6, a7, ⟨c1, c2, c3, c4, c5, c6, c7, c8, c9⟩, a9, a10, a11, a12⟩ := id h
  obtain ⟨d1, d2, d3, d4, d5, d6, d7, d8, d9⟩ := id hC
  refine ⟨⟨a1, a2, a3, a4, a5, (ii 58 100 0 (by decide)).trans a6, fun j hj' => ?_, ⟨c1, c2, c3, (ii 39 50 0 (by decide)).trans c4, (ii 52 50 0 (by decide)).trans c5, fun i => ?_, c7, fun j p hj' hp => ?_, fun k hk => ?_⟩, fun f i hf => ?_, fun j q hj' hq => ?_, (ii 38 50 0 (by decide)).trans a11, fun f i hf hi => ?_⟩, kfr (fun t i ht => ⟨fun f => ii f t i (by omega), far t i (by omega)⟩), ii 56 100 0 (by decide), ⟨d1, d2, d3, (i1 39 _ (fun q => absurd q.1 (by decide))).trans d4, (i1 52 _ (fun q => absurd q.1 (by decide))).trans d5, fun i => ?_, d7, fun j p hj' hp => ?_, fun k hk => ?_⟩, fun _ _ _ => rfl, hM.2.1, hM.2.2⟩
  · rw [kS_R, far 103 0 (by decide)]; exact a7 j hj'
  · rw [kS_R, far (50 + 14) 0 (by decide), far (50 + 12) 0 (by decide)]; exact c6 i
  · rw [kS_R, far (50 + 21) 0 (by decide)]; exact c8 j p hj' hp
  · rw [kS_R, far (100 + 2) 0 (by decide), far (100 + 1) 0 (by decide)]; exact c9 k hk
  · rw [kS_R, far (50 + f) 0 (by unfold mInt at hf; omega)]; exact a9 f i hf
  · rw [kS_R, far 70 0 (by decide)]; exact a10 j q hj' hq
  · rw [kS_R]
    by_cases c : mInt f
    · rw [hM.vw c]; exact hz f i c hi
    · rw [st f ((hf.resolve_left c).elim Or.inl (fun q => Or.inr (Or.inl q)))]; exact a12 f i hf hi
  · rw [kS_R, st 14 (by omega), st 12 (by omega)]; exact d6 i
  · rw [kS_R, st 21 (by omega)]; exact d8 j p hj' hp
  · rw [kS_R, far (100 + 2) 0 (by decide), far (100 + 1) 0 (by decide)]; exact d9 k hk
/-- what the reference needs to look ahead as the class does -/
def AH (n m : Nat) (g wg g2 wg2 : Nat → Nat → Int32) : Prop := (∀ f i, mInt f → g2 f i = g f i) ∧ (∀ q j, q < 6 → j < m → wg2 (wFld q) j = wg (wFld q) j) ∧ ∀ f i, mInt f → n ≤ i → g f i = 0
theorem ah_z (hn : n ≤ 8) (hO : Ok n g pt dn dl) (ha : AH n m g wg g2 wg2) (k : Nat) {f i : Nat} (hf : mInt f) (hi : 8 ≤ i) : (bts n m pt dn dl df rd g2 wg2 k).2.1 f i = 0 := by
  have := sm_bts (m := m) (df := df) (dl := dl) (dn := dn) (rd := rd) (g := g2) (wg := wg2) hn (fun i j hi hp => (hO.2.2.1 i j hi hp).1) k f i (by omega)
  rw [this, ha.1 f i hf]
  exact ha.2.2 f i hf (by omega)
/-- the state ahead, made like now, and its beats -/
theorem s_mahead {post : St → Prop} (hj : Inj ad) (h : HM S ad tl tb dl df n g pt dn bt m wg rd) (hO : Ok n g pt dn dl) (ha : AH n m g wg g2 wg2)
    (hp : ∀ S', HM S' ad tl tb dl df n g pt dn bt m wg rd → MC S' (sI S') (sR S') ad 75 100 n m pt dn dl df rd → MB S' ad 75 m bt g2 wg2 0 S' → Fr (fun t _ => t < 45) S S' ad ad → sI S' 56 (ad 100 0) = sI S 56 (ad 100 0) → post S') : w_S_become post S (ad 75 0) (some (ad 50 0)) := by
  refine s_mlike hj h hO ha.2.2 (fun S' h1 h2 h3 h4 h5 h6 h7 => hp S' h1 h2 ⟨sI S', sR S', rfl, fun _ _ _ => rfl, ?_, fun _ _ _ => rfl, fun f i hf => (h3 f i hf).trans (ha.1 f i hf).symm, fun j q hjm hq => (h4 j q hjm hq).trans (ha.2.1 q j hq hjm).symm⟩ h6 h7)
  rw [nI_0, Int32.add_zero]
  exact h5
theorem s_mforesee {post : Int32 → St → Prop} {x : Int32} (hj : Inj ad) (h : HM S ad tl tb dl df n g pt dn bt m wg rd) (hO : Ok n g pt dn dl) (hW : OkW n m wg rd) (ha : AH n m g wg g2 wg2)
    (hok : ∀ i w k, i < n → v = nI i → w < 5 → x = nI w → 1 ≤ k → k ≤ 200 → u = nI k → ∀ S', MR S ad 0 tl tb dl df n g pt dn bt m wg rd S' → post (if w = 4 then G2 n m pt dn dl df rd g2 wg2 k 18 i - g 18 i else tellF (G2 n m pt dn dl df rd g2 wg2 k) pt dn i w) S')
    (hno2 : (∃ i w, i < n ∧ v = nI i ∧ w < 5 ∧ x = nI w) → (¬ ∃ k, 1 ≤ k ∧ k ≤ 200 ∧ u = nI k) → ∀ S', MR S ad 2 tl tb dl df n g pt dn bt m wg rd S' → post 0 S')
    (hno : (¬ ∃ i w, i < n ∧ v = nI i ∧ w < 5 ∧ x = nI w) → ∀ S', MR S ad 1 tl tb dl df n g pt dn bt m wg rd S' → post 0 S') : w_M_foresee post S (ad 100 0) v u x := by
  unfold w_M_foresee
  rintro S1 rfl
  have h1 : HM (pI S 56 (ad 100 0) 0) ad tl tb dl df n g pt dn bt m wg rd := h.th
  have f1 : Fr (fun t _ => t < 45) S (pI S 56 (ad 100 0) 0) ad ad := fr_th hj
  have e56 : sI (pI S 56 (ad 100 0) 0) 56 (ad 100 0) = 0 := th_at
  generalize pI S 56 (ad 100 0) 0 = S1 at *
  have hn := h1.mc.2.1
  have hl : ∀ i, i < n → dl (dn i) ≤ 24 := fun i hi => (h1.md (h1.mc.2.2.2.2.2.2.1 i hi)).2.2.1
  refine s_isDancer h1 (fun i hi e => ⟨w_M_no (fun r4 S5 => post r4 S5) S1 (ad 100 0) 1, id, fun c => absurd c (by decide), fun _ => ?_⟩) (fun c => ⟨w_M_no (fun r4 S5 => post r4 S5) S1 (ad 100 0) 1, id, fun _ => s_no hj h1 f1 (hno (fun ⟨k, p, hk, e, _⟩ => c ⟨k, hk, e⟩)), fun c => absurd rfl c⟩)
  refine s_inR 0 4 (by decide) (by decide) (fun w _ hw ew => ⟨fun c => absurd c (by decide), fun _ => ?_⟩) (fun c => ⟨fun _ => s_no hj h1 f1 (hno (fun ⟨_, k, _, _, hk, e⟩ => c ⟨k, Nat.zero_le _, by omega, e⟩)), fun c => absurd rfl c⟩)
  refine s_inR 1 200 (by decide) (by decide) (fun k hk1 hk2 ek => ⟨fun c => absurd c (by decide), fun _ => ?_⟩) (fun c => ⟨fun _ => s_no hj h1 f1 (hno2 ⟨i, w, hi, e, by omega, ew⟩ c), fun c => absurd rfl c⟩)
  replace hok := hok i w k hi e (by omega) ew hk1 hk2 ek
  subst e
  subst ew
  subst ek
  have hi8 : i < 8 := by omega
  refine fun o8 e8 o9 e9 => ⟨_, e8.trans h1.qA.1, h1.qA.2, ?_⟩
  rw [e9, h1.qS.1]
  refine s_mahead hj h1 hO ha (fun S2 h2 C2 b2 F2 r2 => ?_)
  refine ⟨fun q S' x => ∃ j, j ≤ k ∧ q = k - j ∧ x = nI j ∧ MB S2 ad 75 m bt (bts n m pt dn dl df rd g2 wg2 j).2.1 (bts n m pt dn dl df rd g2 wg2 j).2.2 j S', ⟨k, 0, Nat.zero_le _, rfl, rfl, b2⟩, ?_⟩
  rintro q S' _ ⟨j, hjk, rfl, rfl, hb⟩
  obtain ⟨h3, F3, r3, C3, M3⟩ := h2.mb hj C2 hb (fun f i hf hi => ah_z hn hO ha j hf hi)
  refine ⟨fun c => ?_, fun c => ?_⟩
  · have : j = k := by
      have := (nI_leI (by omega) (by omega)).mp c
      omega
    subst this
    generalize hG : G2 n m pt dn dl df rd g2 wg2 j = gk at hok
    have hG' : (bts n m pt dn dl df rd g2 wg2 j).2.1 = gk := hG
    rw [hG'] at M3
    intro q15 S16 hq e16
    have w0 : TW S' ad q15 5 (fun w => if w = 4 then gk 18 i - g 18 i else tellF gk pt dn i w) 0 S16 := by rw [e16]; exact TW.new hq
    clear e16
    have qA := h3.qA.1
    have hL := C3.1
    refine told_step h3.1 qA hL hq w0 i hi8 (by decide) (by decide) 7 ⟨by unfold mRow; omega, rfl, rfl⟩ (M3.vw (by unfold mInt; omega)) (fun S26 w1 => ?_)
    refine told_step h3.1 qA hL hq w1 i hi8 (by decide) (by decide) 8 ⟨by unfold mRow; omega, rfl, rfl⟩ (M3.vw (by unfold mInt; omega)) (fun S35 w2 => ?_)
    refine told_step h3.1 qA hL hq w2 i hi8 (by decide) (by decide) 9 ⟨by unfold mRow; omega, rfl, rfl⟩ (M3.vw (by unfold mInt; omega)) (fun S44 w3 => ?_)
    refine told_step h3.1 qA hL hq w3 i hi8 (by decide) (by decide) 10 ⟨by unfold mRow; omega, rfl, rfl⟩ (M3.vw (by unfold mInt; omega)) (fun S53 w4 => ?_)
    obtain ⟨x1, x2, x3⟩ := hL.2.2.2.1 18 (by unfold mRow; omega)
    obtain ⟨y1, y2, y3⟩ := h3.row (f := 18) (by unfold mRow; omega)
    have x1 : sQ S' 51 (ad 75 0) = some (ad 93 0) := x1
    have y1 : sQ S' 51 (ad 50 0) = some (ad 68 0) := y1
    have x2 : isA S' 10 (ad 93 0) := x2
    have y2 : isA S' 10 (ad 68 0) := y2
    have x3 : sN S' (ad 93 0) = 8 := x3
    have y3 : sN S' (ad 68 0) = 8 := y3
    have hin : vp_in (nI i) 8 := vp_in_nI hi8 (by decide)
    refine fun o e => ⟨_, (e.trans (w4.qq h3.1)).trans qA, (w4.a hL.1).1, fun o e => ⟨_, (e.trans (w4.qq hL.1)).trans x1, (w4.a x2).1, by rw [(w4.a x2).2, x3]; exact hin, fun o e => ⟨_, (e.trans (w4.qq h3.1)).trans h3.qS.1, (w4.a h3.qS.2).1, fun o e => ⟨_, (e.trans (w4.qq h3.qS.2)).trans y1, (w4.a y2).1, by rw [(w4.a y2).2, y3]; exact hin, by rw [w4.2.1]; exact vp_in_nI (n := 4) (by decide) (by decide), ?_⟩⟩⟩⟩
    have z1 : sR S53 (ad 93 0) i = gk 18 i := by rw [w4.r x2]; exact M3.vw (f := 18) (by unfold mInt; omega)
    have z2 : sR S53 (ad 68 0) i = g 18 i := by rw [w4.r y2]; exact h3.mk.vw (f := 18) (by unfold mInt; omega)
    rw [nI_clamp (show i < 2 ^ 31 by omega), z1, z2]
    intro S69 e69
    have w5 : TW S' ad q15 5 (fun w => if w = 4 then gk 18 i - g 18 i else tellF gk pt dn i w) 5 S69 := by rw [e69]; exact w4.st hq rfl
    clear e69
    rw [w5.2.1, nI_clamp (show w < 2 ^ 31 by omega), w5.2.2 w (by omega)]
    exact ⟨vp_in_nI (by omega) (by decide), hok S69 ⟨h3.mr w5, ((w5.ii h3.1).trans r3).trans (r2.trans e56), (f1.tr F2).tr (F3.tr (w5.1.mono (fun _ _ _ => trivial)))⟩⟩
  · have hlt : j < k := Nat.not_le.mp fun q => c (nI_le q (by omega))
    refine fun o e => ⟨_, e.trans h3.qA.1, h3.qA.2, ?_⟩
    obtain ⟨o1, o2⟩ := ok_bts (m := m) (df := df) (rd := rd) (wg := wg2) hn (hO.cgI ha.1) (hW.cgI ha.2.1) hl j
    refine s_mb1 hj C2 (by decide) o1 o2 hb (fun S3 r er h4 => ?_)
    rintro _ rfl
    exact ⟨k - (j + 1), by omega, j + 1, hlt, rfl, nI_1 j, h4⟩
theorem s_mfirst {post : Int32 → St → Prop} (hj : Inj ad) (h : HM S ad tl tb dl df n g pt dn bt m wg rd) (hO : Ok n g pt dn dl) (hW : OkW n m wg rd) (ha : AH n m g wg g2 wg2)
    (hok : ∀ k, 1 ≤ k → k ≤ 200 → u = nI k → ∀ S', MR S ad 0 tl tb dl df n g pt dn bt m wg rd S' → post (ptI (stp n g (G2 n m pt dn dl df rd g2 wg2) k)) S')
    (hno : (¬ ∃ k, 1 ≤ k ∧ k ≤ 200 ∧ u = nI k) → ∀ S', MR S ad 1 tl tb dl df n g pt dn bt m wg rd S' → post 0 S') : w_M_firstToStop post S (ad 100 0) u := by
  unfold w_M_firstToStop
  rintro S1 rfl
  have h1 : HM (pI S 56 (ad 100 0) 0) ad tl tb dl df n g pt dn bt m wg rd := h.th
  have f1 : Fr (fun t _ => t < 45) S (pI S 56 (ad 100 0) 0) ad ad := fr_th hj
  have e56 : sI (pI S 56 (ad 100 0) 0) 56 (ad 100 0) = 0 := th_at
  generalize pI S 56 (ad 100 0) 0 = S1 at *
  have hn := h1.mc.2.1
  have hl : ∀ i, i < n → dl (dn i) ≤ 24 := fun i hi => (h1.md (h1.mc.2.2.2.2.2.2.1 i hi)).2.2.1
  refine s_inR 1 200 (by decide) (by decide) (fun k hk1 hk2 ek => ⟨fun c => absurd c (by decide), fun _ => ?_⟩) (fun c => ⟨fun _ => s_no hj h1 f1 (hno c), fun c => absurd rfl c⟩)
  replace hok := hok k hk1 hk2 ek
  subst ek
  refine fun o8 e8 o9 e9 => ⟨_, e8.trans h1.qA.1, h1.qA.2, ?_⟩
  rw [e9, h1.qS.1]
  refine s_mahead hj h1 hO ha (fun S2 h2 C2 b2 F2 r2 => ?_)
  refine ⟨fun q S' y x => ∃ j, j ≤ k ∧ q = k - j ∧ x = nI j ∧ y = ptI (stp n g (G2 n m pt dn dl df rd g2 wg2) j) ∧ MB S2 ad 75 m bt (bts n m pt dn dl df rd g2 wg2 j).2.1 (bts n m pt dn dl df rd g2 wg2 j).2.2 j S', ⟨k, 0, Nat.zero_le _, rfl, rfl, rfl, b2⟩, ?_⟩
  rintro q S' _ _ ⟨j, hjk, rfl, rfl, rfl, hb⟩
  obtain ⟨h3, F3, r3, C3, M3⟩ := h2.mb hj C2 hb (fun f i hf hi => ah_z hn hO ha j hf hi)
  have hmr : MR S ad 0 tl tb dl df n g pt dn bt m wg rd S' := ⟨h3, r3.trans (r2.trans e56), (f1.tr F2).tr F3⟩
  refine ⟨fun c => ?_, fun c => ?_⟩
  · have : j = k := by
      have := (nI_leI (by omega) (by omega)).mp c
      omega
    subst this
    exact hok S' hmr
  · have hlt : j < k := Nat.not_le.mp fun q => c (nI_le q (by omega))
    have hs1 : ∀ i, stp n g (G2 n m pt dn dl df rd g2 wg2) j = some i → i < 2 ^ 31 := fun i hi => by have := stp_lt hi; omega
    rw [ptI_none hs1]
    refine ⟨fun hs => ?_, fun hs => ?_⟩
    · refine fun o e => ⟨_, e.trans h3.qA.1, h3.qA.2, ?_⟩
      obtain ⟨o1, o2⟩ := ok_bts (m := m) (df := df) (rd := rd) (wg := wg2) hn (hO.cgI ha.1) (hW.cgI ha.2.1) hl j
      refine s_mb1 hj C2 (by decide) o1 o2 hb (fun S3 r er hb4 => ?_)
      obtain ⟨h4, F4, r4, C4, M4⟩ := h2.mb hj C2 hb4 (fun f i hf hi => ah_z hn hO ha (j + 1) hf hi)
      refine fun o e => ⟨_, e.trans h4.qS.1, h4.qS.2, ?_⟩
      rw [h4.mc.2.2.2.1]
      rintro _ rfl
      have es : stp n g (G2 n m pt dn dl df rd g2 wg2) (j + 1) = fsp n g (bts n m pt dn dl df rd g2 wg2 (j + 1)).2.1 := stp_s hs
      generalize (bts n m pt dn dl df rd g2 wg2 (j + 1)).2.1 = gk at M4 es
      have em : ptI (stp n g (G2 n m pt dn dl df rd g2 wg2) j) = ptI none := by rw [hs]
      rw [em]
      refine ⟨fun q y x => ∃ d o, d ≤ n ∧ q = d ∧ x = nI d - 1 ∧ y = ptI o ∧ (∀ i, o = some i → d ≤ i ∧ i < n ∧ (¬ spF (gk 10 i) (gk 11 i) = 0 ∧ spF (g 10 i) (g 11 i) = 0) ∧ ∀ z, d ≤ z → z < i → ¬ (¬ spF (gk 10 z) (gk 11 z) = 0 ∧ spF (g 10 z) (g 11 z) = 0)) ∧ (o = none → ∀ z, d ≤ z → z < n → ¬ (¬ spF (gk 10 z) (gk 11 z) = 0 ∧ spF (g 10 z) (g 11 z) = 0)), ⟨n, n, none, Nat.le_refl n, rfl, rfl, rfl, (fun i q => by cases q), (fun _ z h1 h2 => by omega)⟩, ?_⟩
      rintro d _ _ ⟨_, o, hd, rfl, rfl, rfl, ho1, ho2⟩
      cases d with
      | zero =>
        refine ⟨fun _ => ?_, fun c => absurd (by decide) c⟩
        rintro _ rfl
        refine ⟨k - (j + 1), by omega, j + 1, hlt, rfl, nI_1 j, ?_, hb4⟩
        rw [es]
        congr 1
        cases o with
        | none => exact (fst_none.mpr (fun z hz => ho2 rfl z (Nat.zero_le _) hz)).symm
        | some i =>
          obtain ⟨-, p2, p3, p4⟩ := ho1 i rfl
          exact (fst_some.mpr ⟨p2, p3, fun z hz => p4 z (Nat.zero_le _) hz⟩).symm
      | succ d =>
        rw [nI_pred]
        refine ⟨fun c => absurd c (nI_pos (by omega)), fun _ => ?_⟩
        have step : ∀ y, ((∃ o', y = ptI o' ∧ (∀ i, o' = some i → d ≤ i ∧ i < n ∧ (¬ spF (gk 10 i) (gk 11 i) = 0 ∧ spF (g 10 i) (g 11 i) = 0) ∧ ∀ z, d ≤ z → z < i → ¬ (¬ spF (gk 10 z) (gk 11 z) = 0 ∧ spF (g 10 z) (g 11 z) = 0)) ∧ (o' = none → ∀ z, d ≤ z → z < n → ¬ (¬ spF (gk 10 z) (gk 11 z) = 0 ∧ spF (g 10 z) (g 11 z) = 0)))) → ∃ nx, nx < d + 1 ∧ ∃ d' o', d' ≤ n ∧ nx = d' ∧ nI d + -1 = nI d' - 1 ∧ y = ptI o' ∧ (∀ i, o' = some i → d' ≤ i ∧ i < n ∧ (¬ spF (gk 10 i) (gk 11 i) = 0 ∧ spF (g 10 i) (g 11 i) = 0) ∧ ∀ z, d' ≤ z → z < i → ¬ (¬ spF (gk 10 z) (gk 11 z) = 0 ∧ spF (g 10 z) (g 11 z) = 0)) ∧ (o' = none → ∀ z, d' ≤ z → z < n → ¬ (¬ spF (gk 10 z) (gk 11 z) = 0 ∧ spF (g 10 z) (g 11 z) = 0)) := by
          rintro y ⟨o', q1, q2, q3⟩
          exact ⟨d, Nat.lt_succ_self d, d, o', by omega, rfl, (Int32.sub_eq_add_neg _ _).symm, q1, q2, q3⟩
        have stay : ¬ (¬ spF (gk 10 d) (gk 11 d) = 0 ∧ spF (g 10 d) (g 11 d) = 0) → (∃ o', ptI o = ptI o' ∧ (∀ i, o' = some i → d ≤ i ∧ i < n ∧ (¬ spF (gk 10 i) (gk 11 i) = 0 ∧ spF (g 10 i) (g 11 i) = 0) ∧ ∀ z, d ≤ z → z < i → ¬ (¬ spF (gk 10 z) (gk 11 z) = 0 ∧ spF (g 10 z) (g 11 z) = 0)) ∧ (o' = none → ∀ z, d ≤ z → z < n → ¬ (¬ spF (gk 10 z) (gk 11 z) = 0 ∧ spF (g 10 z) (g 11 z) = 0))) := fun hno => ⟨o, rfl, fun i hi => by
          obtain ⟨p1, p2, p3, p4⟩ := ho1 i hi
          refine ⟨by omega, p2, p3, fun z z1 z2 => ?_⟩
          by_cases cz : z = d
          · rw [cz]; exact hno
          · exact p4 z (by omega) z2, fun hi z z1 z2 => by
          by_cases cz : z = d
          · rw [cz]; exact hno
          · exact ho2 hi z (by omega) z2⟩
        refine fun o24 e24 => ⟨_, e24.trans h4.qA.1, h4.qA.2, ?_⟩
        refine s_isTired (S := S3) (I := sI S3) (R := sR S3) C4 M4 (show d < n by omega) ?_
        refine ⟨fun y => ∃ o', y = ptI o' ∧ (∀ i, o' = some i → d ≤ i ∧ i < n ∧ (¬ spF (gk 10 i) (gk 11 i) = 0 ∧ spF (g 10 i) (g 11 i) = 0) ∧ ∀ z, d ≤ z → z < i → ¬ (¬ spF (gk 10 z) (gk 11 z) = 0 ∧ spF (g 10 z) (g 11 z) = 0)) ∧ (o' = none → ∀ z, d ≤ z → z < n → ¬ (¬ spF (gk 10 z) (gk 11 z) = 0 ∧ spF (g 10 z) (g 11 z) = 0)), ?_, fun c1 => ?_, fun c1 => fun o31 e31 => ⟨_, e31.trans h4.qS.1, h4.qS.2, ?_⟩⟩
        · rintro y hy _ rfl
          exact step y hy
        · exact stay (fun q => q.1 c1)
        · refine s_isTired (S := S3) (I := sI S3) (R := sR S3) h4.mc h4.mk (show d < n by omega) ⟨fun c2 => ?_, fun c2 => ?_⟩
          · refine ⟨some d, rfl, fun i hi => ?_, fun q => by cases q⟩
            cases hi
            exact ⟨Nat.le_refl d, by omega, ⟨c1, c2⟩, fun z z1 z2 => by omega⟩
          · exact stay (fun q => c2 q.2)
    · cases hq : stp n g (G2 n m pt dn dl df rd g2 wg2) j with
      | none => exact absurd hq hs
      | some i =>
        replace hok := hok S' hmr
        rw [stp_m hq (Nat.le_of_lt hlt)] at hok
        exact hok
theorem s_mmeet {post : Int32 → St → Prop} {x : Int32} (hj : Inj ad) (h : HM S ad tl tb dl df n g pt dn bt m wg rd) (hO : Ok n g pt dn dl) (hW : OkW n m wg rd) (ha : AH n m g wg g2 wg2)
    (hok : ∀ a b k, a < n → v = nI a → b < n → u = nI b → a ≠ b → 1 ≤ k → k ≤ 200 → x = nI k → ∀ S', MR S ad 0 tl tb dl df n g pt dn bt m wg rd S' → post (ptI (mtF (G2 n m pt dn dl df rd g2 wg2) a b k)) S')
    (hno2 : ∀ a b, a < n → v = nI a → b < n → u = nI b → ¬ (a ≠ b ∧ ∃ k, 1 ≤ k ∧ k ≤ 200 ∧ x = nI k) → ∀ S', MR S ad 2 tl tb dl df n g pt dn bt m wg rd S' → post 0 S')
    (hno : (¬ ∃ a b, a < n ∧ v = nI a ∧ b < n ∧ u = nI b) → ∀ S', MR S ad 1 tl tb dl df n g pt dn bt m wg rd S' → post 0 S') : w_M_meet post S (ad 100 0) v u x := by
  unfold w_M_meet
  rintro S1 rfl
  have h1 : HM (pI S 56 (ad 100 0) 0) ad tl tb dl df n g pt dn bt m wg rd := h.th
  have f1 : Fr (fun t _ => t < 45) S (pI S 56 (ad 100 0) 0) ad ad := fr_th hj
  have e56 : sI (pI S 56 (ad 100 0) 0) 56 (ad 100 0) = 0 := th_at
  generalize pI S 56 (ad 100 0) 0 = S1 at *
  have hn := h1.mc.2.1
  have hl : ∀ i, i < n → dl (dn i) ≤ 24 := fun i hi => (h1.md (h1.mc.2.2.2.2.2.2.1 i hi)).2.2.1
  refine s_isDancer h1 (fun a ha2 ea => ⟨w_M_no (fun r4 S5 => post r4 S5) S1 (ad 100 0) 1, id, fun c => absurd c (by decide), fun _ => ?_⟩) (fun c => ⟨w_M_no (fun r4 S5 => post r4 S5) S1 (ad 100 0) 1, id, fun _ => s_no hj h1 f1 (hno (fun ⟨k, p, hk, e, _⟩ => c ⟨k, hk, e⟩)), fun c => absurd rfl c⟩)
  refine s_isDancer h1 (fun b hb eb => ⟨fun c => absurd c (by decide), fun _ => ⟨w_M_no (fun r8 S9 => post r8 S9) S1 (ad 100 0) 2, id, fun c => ?_, fun c => ?_⟩⟩) (fun c => ⟨fun _ => s_no hj h1 f1 (hno (fun ⟨_, k, _, _, hk, e⟩ => c ⟨k, hk, e⟩)), fun c => absurd rfl c⟩)
  · refine s_no hj h1 f1 (hno2 a b ha2 ea hb eb (fun q => q.1 ?_))
    rw [ea, eb] at c
    exact (nI_eq (by omega) (by omega)).mp c
  have hab : a ≠ b := fun q => c (by rw [ea, eb, q])
  refine s_inR 1 200 (by decide) (by decide) (fun k hk1 hk2 ek => ⟨fun c => absurd c (by decide), fun _ => ?_⟩) (fun c => ⟨fun _ => s_no hj h1 f1 (hno2 a b ha2 ea hb eb (fun r => c r.2)), fun c => absurd rfl c⟩)
  replace hok := hok a b k ha2 ea hb eb hab hk1 hk2 ek
  subst ea
  subst eb
  subst ek
  refine fun o8 e8 o9 e9 => ⟨_, e8.trans h1.qA.1, h1.qA.2, ?_⟩
  rw [e9, h1.qS.1]
  refine s_mahead hj h1 hO ha (fun S2 h2 C2 b2 F2 r2 => ?_)
  refine ⟨fun q S' x => ∃ j, j ≤ k ∧ q = k - j ∧ x = nI j ∧ MB S2 ad 75 m bt (bts n m pt dn dl df rd g2 wg2 j).2.1 (bts n m pt dn dl df rd g2 wg2 j).2.2 j S' ∧ ∀ y, y < j → ¬ bsF (G2 n m pt dn dl df rd g2 wg2 y) a b = 1, ⟨k, 0, Nat.zero_le _, rfl, rfl, b2, fun y hy => absurd hy (Nat.not_lt_zero y)⟩, ?_⟩
  rintro q S' _ ⟨j, hjk, rfl, rfl, hb2, hnot⟩
  obtain ⟨h3, F3, r3, C3, M3⟩ := h2.mb hj C2 hb2 (fun f i hf hi => ah_z hn hO ha j hf hi)
  have hmr : MR S ad 0 tl tb dl df n g pt dn bt m wg rd S' := ⟨h3, r3.trans (r2.trans e56), (f1.tr F2).tr F3⟩
  refine fun o e => ⟨_, e.trans h3.qA.1, h3.qA.2, ?_⟩
  refine s_mbeside (S := S') (I := sI S') (I0 := sR S') (R := sR S') C3 M3 ha2 hb ?_
  have e1 : bsF (bts n m pt dn dl df rd g2 wg2 j).2.1 a b = bsF (G2 n m pt dn dl df rd g2 wg2 j) a b := rfl
  rw [e1]
  refine ⟨bsF (G2 n m pt dn dl df rd g2 wg2 j) a b = 1 ∨ (bsF (G2 n m pt dn dl df rd g2 wg2 j) a b = 0 ∧ j = k), fun hJ => fun o e => ⟨_, e.trans h3.qA.1, h3.qA.2, ?_⟩, fun c0 => ⟨fun c1 => Or.inr ⟨c0, ?_⟩, fun c1 => ?_⟩, fun c0 => Or.inl (bsF_01.elim (fun q => absurd q c0) id)⟩
  · refine s_mbeside (S := S') (I := sI S') (I0 := sR S') (R := sR S') C3 M3 ha2 hb ?_
    rw [e1]
    replace hok := hok S' hmr
    rcases hJ with c1 | ⟨c0, hjk2⟩
    · rw [c1]
      have : mtF (G2 n m pt dn dl df rd g2 wg2) a b k = some j := fst_some.mpr ⟨by omega, c1, hnot⟩
      rw [this] at hok
      exact ⟨fun c => absurd c (by decide), fun _ => hok⟩
    · rw [c0]
      have : mtF (G2 n m pt dn dl df rd g2 wg2) a b k = none := fst_none.mpr (fun y hy => by
        by_cases cy : y = j
        · rw [cy, c0]; decide
        · exact hnot y (by omega))
      rw [this] at hok
      exact ⟨fun _ => hok, fun c => absurd rfl c⟩
  · have := (nI_leI (by omega) (by omega)).mp c1
    omega
  · have hlt : j < k := Nat.not_le.mp fun q => c1 (nI_le q (by omega))
    refine fun o e => ⟨_, e.trans h3.qA.1, h3.qA.2, ?_⟩
    obtain ⟨o1, o2⟩ := ok_bts (m := m) (df := df) (rd := rd) (wg := wg2) hn (hO.cgI ha.1) (hW.cgI ha.2.1) hl j
    refine s_mb1 hj C2 (by decide) o1 o2 hb2 (fun S3 r er h4 => ?_)
    rintro _ rfl
    refine ⟨k - (j + 1), by omega, j + 1, hlt, rfl, nI_1 j, h4, fun y hy => ?_⟩
    by_cases cy : y = j
    · rw [cy, c0]; decide
    · exact hnot y (by omega)
end MLOOK
