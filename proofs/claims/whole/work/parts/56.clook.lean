/-! looking ahead, in the class -/
def G2 (n m : Nat) (pt : Nat → Option Nat) (dn dl : Nat → Nat) (df rd g wg : Nat → Nat → Int32) (k : Nat) : Nat → Nat → Int32 := (bts n m pt dn dl df rd g wg k).2.1
def fsp (n : Nat) (g gk : Nat → Nat → Int32) : Option Nat := fst' (fun i => ¬ spF (gk 10 i) (gk 11 i) = 0 ∧ spF (g 10 i) (g 11 i) = 0) n
/-- who stops first in k beats -/
def stp (n : Nat) (g : Nat → Nat → Int32) (G : Nat → Nat → Nat → Int32) : Nat → Option Nat
  | 0 => none
  | k + 1 => match stp n g G k with
    | some i => some i
    | none => fsp n g (G (k + 1))
theorem stp_s {n : Nat} {g : Nat → Nat → Int32} {G : Nat → Nat → Nat → Int32} {k : Nat} (h : stp n g G k = none) : stp n g G (k + 1) = fsp n g (G (k + 1)) := by
  show (match stp n g G k with | some i => some i | none => fsp n g (G (k + 1))) = _
  rw [h]
theorem stp_m {n : Nat} {g : Nat → Nat → Int32} {G : Nat → Nat → Nat → Int32} {k i j : Nat} (h : stp n g G k = some i) (hk : k ≤ j) : stp n g G j = some i := by
  induction j with
  | zero => rw [show k = 0 by omega] at h; exact h
  | succ j ih =>
    rcases Nat.lt_or_ge k (j + 1) with q | q
    · show (match stp n g G j with | some i => some i | none => fsp n g (G (j + 1))) = _
      rw [ih (by omega)]
    · rw [show k = j + 1 by omega] at h; exact h
theorem stp_lt {n : Nat} {g : Nat → Nat → Int32} {G : Nat → Nat → Nat → Int32} {k i : Nat} (h : stp n g G k = some i) : i < n := by
  induction k with
  | zero => cases h
  | succ k ih =>
    cases hs : stp n g G k with
    | some j =>
      rw [stp_m hs (Nat.le_succ k)] at h
      cases h
      exact ih hs
    | none =>
      rw [stp_s hs] at h
      exact (fst_some.mp h).1
/-- behind how many beats both meet -/
def mtF (G : Nat → Nat → Nat → Int32) (a b k : Nat) : Option Nat := fst' (fun j => bsF (G j) a b = 1) (k + 1)
section CLOOK
variable {S : St} {ad : Nat → Nat → Nat} {tl n m B : Nat} {tb dl dn : Nat → Nat} {df g wg rd I0 I R g2 wg2 : Nat → Nat → Int32} {pt : Nat → Option Nat} {bt u v : Int32}
theorem HC.lk30 {g' wg' : Nat → Nat → Int32} {bt' : Int32} (hj : Inj ad) (h : HC S ad tl tb dl df n g pt dn bt m wg rd) (hC : CF (kS S (sI S) (sR S)) ad 30 n m pt dn dl df) (hL : Lk ad 30 n m (sI S) I g' wg' bt') : HC (kS S I (sR S)) ad tl tb dl df n g pt dn bt m wg rd ∧ Fr (fun t _ => t < 30 ∨ 38 ≤ t) S (kS S I (sR S)) ad ad := by
  obtain ⟨l1, l2, l3⟩ := hL
  have far : ∀ t i f, (t ≠ 30 ∧ t ≠ 35 ∧ t ≠ 36) → I f (ad t i) = sI S f (ad t i) := fun t i f ht => l2 f _ (fun i _ e => ht.2.1 (hj _ _ _ _ e).1) (fun i _ e => ht.2.2 (hj _ _ _ _ e).1) (fun e => ht.1 (hj _ _ _ _ e).1)
  have fr : Fr (fun t _ => t ≠ 30 ∧ t ≠ 35 ∧ t ≠ 36) S (kS S I (sR S)) ad ad := kfr (fun t i ht => ⟨fun f => far t i f ht, rfl⟩)
  have a30 : isA S 3 (ad 30 0) := hC.1.1
  have q37 : sQ S 37 (ad 1 0) = some (ad 30 0) := h.1.2.2.2.2.2.1
  obtain ⟨⟨a1, a2, a3, a4, a5, a6, a7, a8, a9, a10, a11, a12⟩, ⟨b1, b2, b3, b4⟩, cc, ⟨d1, d2, d3⟩, ⟨e1, e2, e3⟩, ff, -⟩ := id h
  have lis : ∀ {L A t k n : Nat}, LiS S ad L A t k n → LiS (kS S I (sR S)) ad L A t k n := fun q => ⟨q.1, (l1 2 _ (by decide)).trans q.2.1, q.2.2⟩
  refine ⟨⟨⟨a1, a2, a3, a4, a5, a6, a7, a8, a9, a10, a11, a12⟩, ⟨(far 2 0 25 (by decide)).trans b1, b2, b3, b4⟩, lis cc, ⟨d1.ev l1, d2, d3.ev l1⟩, ⟨fun f i k1 k2 => (far 25 i f (by decide)).trans (e1 f i k1 k2), fun f j k1 k2 => (far 26 j f (by decide)).trans (e2 f j k1 k2), (far 20 0 23 (by decide)).trans e3⟩, ff, n, m, Nat.le_refl n, Nat.le_refl m, FL.ev (S := S) (I := sI S) (R := sR S) hC.1 l1⟩, fr.mono (fun t i ht => by omega)⟩
theorem HC.q37 (h : HC S ad tl tb dl df n g pt dn bt m wg rd) : sQ S 37 (ad 1 0) = some (ad 30 0) ∧ isA S 3 (ad 30 0) := by
  refine ⟨h.1.2.2.2.2.2.1, ?_⟩
  obtain ⟨n2, m2, -, -, g3⟩ := h.2.2.2.2.2.2
  exact g3.1
/-- what a call that looks ahead leaves -/
def CL (S : St) (ad : Nat → Nat → Nat) (tl : Nat) (tb dl : Nat → Nat) (df : Nat → Nat → Int32) (n : Nat) (g : Nat → Nat → Int32) (pt : Nat → Option Nat) (dn : Nat → Nat) (bt : Int32) (m : Nat) (wg rd : Nat → Nat → Int32) (g2 wg2 : Nat → Nat → Int32) (S' : St) (ad' : Nat → Nat → Nat) : Prop :=
  Inj ad' ∧ HC S' ad' tl tb dl df n g pt dn bt m wg rd ∧ Fr (fun t _ => t < 30 ∨ 38 ≤ t) S S' ad ad' ∧ (∀ f i, mInt f → g2 f i = g f i) ∧ ∀ q j, q < 6 → j < m → wg2 (wFld q) j = wg (wFld q) j
theorem s_foresee {post : Int32 → St → Prop} {px : String → St → Prop} {x : Int32} (hj : Inj ad) (h : HC S ad tl tb dl df n g pt dn bt m wg rd) (hO : Ok n g pt dn dl) (hm3 : m ≤ 3)
    (hok : ∀ i w k, i < n → v = nI i → w < 5 → x = nI w → 1 ≤ k → k ≤ 200 → u = nI k → ∀ S' ad' g2 wg2, CL S ad tl tb dl df n g pt dn bt m wg rd g2 wg2 S' ad' → post (if w = 4 then G2 n m pt dn dl df rd g2 wg2 k 18 i - g 18 i else tellF (G2 n m pt dn dl df rd g2 wg2 k) pt dn i w) S')
    (hno2 : (∃ i w, i < n ∧ v = nI i ∧ w < 5 ∧ x = nI w) → (¬ ∃ k, 1 ≤ k ∧ k ≤ 200 ∧ u = nI k) → px "java/lang/IllegalArgumentException" S)
    (hno : (¬ ∃ i w, i < n ∧ v = nI i ∧ w < 5 ∧ x = nI w) → px "java/lang/IndexOutOfBoundsException" S) : w_H_foresee post px S (ad 1 0) v u x := by
  unfold w_H_foresee
  have hn := h.n8
  refine s_needR h (fun i hi e => s_kind 5 (by decide) (fun w hw ew => s_beats (fun k hk1 hk2 ek => ?_) (fun c => hno2 ⟨i, w, hi, e, hw, ew⟩ c)) (fun c => hno (fun ⟨i, w, _, _, h3, h4⟩ => c ⟨w, h3, h4⟩))) (fun c => hno (fun ⟨i, w, h1, h2, _⟩ => c ⟨i, h1, h2⟩))
  replace hok := hok i w k hi e hw ew hk1 hk2 ek
  subst e
  subst ew
  subst ek
  refine fun o e o4 e4 => ⟨_, e.trans h.q37.1, h.q37.2, ?_⟩
  rw [e4, h.qF.1]
  refine s_like hj h hO hm3 (fun S1 ad1 g2 wg2 j1 h1 C1 L1 R1 eg ew F1 e30 => ?_)
  have e01 : ad1 1 0 = ad 1 0 := (F1.a (t := 1) (i := 0) (Or.inl (by decide)) h.1.1).1
  have e25 : ad1 25 i = ad 25 i := (F1.a (t := 25) (i := i) (Or.inl (by decide)) (h.aR hi)).1
  rw [← e01, ← e25]
  refine ⟨fun q S' x => ∃ j I', j ≤ k ∧ q = k - j ∧ x = nI j ∧ S' = kS S1 I' (sR S1) ∧ Lk ad1 30 n m (sI S1) I' (bts n m pt dn dl df rd g2 wg2 j).2.1 (bts n m pt dn dl df rd g2 wg2 j).2.2 (bt + nI j), ⟨k, 0, sI S1, Nat.zero_le _, rfl, rfl, rfl, ?_⟩, ?_⟩
  · rw [nI_0, Int32.add_zero]; exact L1
  rintro q S' _ ⟨j, I', hjk, rfl, rfl, rfl, hL⟩
  obtain ⟨z1, z2⟩ := h1.lk30 j1 C1 hL
  refine ⟨fun c => ?_, fun c => ?_⟩
  · have : j = k := by
      have := (nI_leI (by omega) (by omega)).mp c
      omega
    subst this
    replace hok := hok (kS S1 I' (sR S1)) ad1 g2 wg2 ⟨j1, z1, F1.tr z2, eg, ew⟩
    refine fun o e => ⟨_, e.trans z1.q37.1, z1.q37.2, ?_⟩
    refine s_dNO (B := 30) C1 hL.1 ?_
    rw [dNO_nI hn hi]
    refine ⟨(fun c => by cases c), fun y c => ?_⟩
    cases c
    have hA : isA (kS S1 I' (sR S1)) 2 (ad1 35 i) := C1.1.2.2.2.1.2.2.2.1 i hi
    have ew4 : nI w = 4 ↔ w = 4 := nI_eq (b := 4) (by omega) (by decide)
    rw [ew4]
    refine ⟨fun c4 => ⟨hA, _, rfl, z1.aR hi, ?_⟩, fun c4 => ⟨hA, ?_⟩⟩
    · rw [if_pos c4] at hok
      have y1 : sI (kS S1 I' (sR S1)) 18 (ad1 35 i) = (bts n m pt dn dl df rd g2 wg2 j).2.1 18 i := hL.vw (by decide) hi
      have y2 : sI (kS S1 I' (sR S1)) 18 (ad1 25 i) = g 18 i := z1.vw (by decide) hi
      rw [y1, y2]
      exact hok
    · rw [if_neg c4] at hok
      exact s_tell (B := 30) C1 hL hi (by omega) hok
  · have hlt : j < k := Nat.not_le.mp fun q => c (nI_le q (by omega))
    refine fun o e => ⟨_, e.trans z1.q37.1, z1.q37.2, s_beat j1 C1 R1 hL (fun I2 h2 => ?_)⟩
    rintro _ rfl
    refine ⟨k - (j + 1), by omega, j + 1, I2, hlt, rfl, nI_1 j, rfl, ?_⟩
    rw [← nI_1, ← Int32.add_assoc]
    exact h2
theorem s_fsp {post : Int32 → Prop} {g' wg' : Nat → Nat → Int32} {bt' : Int32} (hj : Inj ad) (h : HC (kS S I R) ad tl tb dl df n g pt dn bt m wg rd) (hC : CF (kS S I0 R) ad 30 n m pt dn dl df) (hL : Lk ad 30 n m I0 I g' wg' bt') (hp : post (ptI (fsp n g g'))) : w_F_firstNewlySpentSince post (kS S I R) (ad 30 0) (some (ad 20 0)) := by
  have hn := h.n8
  have C2 := hC.ev hL.1
  have F30 : FL (kS S I R) ad 30 n m := C2.1
  have F20 : FL (kS S I R) ad 20 n m := h.2.2.2.1.1
  have q30 : sQ (kS S I R) 21 (ad 30 0) = some (ad 31 0) := F30.2.1
  have q20 : sQ (kS S I R) 21 (ad 20 0) = some (ad 21 0) := F20.2.1
  have L30 : LiS (kS S I R) ad 31 32 35 2 n := F30.2.2.2.1
  have L20 : LiS (kS S I R) ad 21 22 25 2 n := F20.2.2.2.1
  unfold w_F_firstNewlySpentSince
  refine ⟨fun q x => ∃ i, i ≤ n ∧ q = n - i ∧ x = nI i ∧ ∀ j, j < i → ¬ (¬ spF (g' 10 j) (g' 11 j) = 0 ∧ spF (g 10 j) (g 11 j) = 0), ⟨n, 0, Nat.zero_le _, rfl, rfl, fun j hj => absurd hj (Nat.not_lt_zero j)⟩, ?_⟩
  rintro q _ ⟨i, hi, rfl, rfl, hnot⟩
  refine fun o e => ⟨_, e.trans q30, L30.1, ?_⟩
  rw [e_size, L30.2.1]
  have fin : i = n → post (-1) := fun hin => by
    subst hin
    have : fsp i g g' = none := fst_none.mpr hnot
    rw [this] at hp
    exact hp
  refine ⟨fun c => fin ?_, fun c => ⟨_, rfl, h.qF.2, fun o e => ⟨_, e.trans q20, L20.1, ?_⟩⟩⟩
  · have := (nI_leI (by omega) (by omega)).mp c
    omega
  rw [e_size, L20.2.1]
  refine ⟨fun c2 => absurd c2 c, fun _ => ?_⟩
  have hlt : i < n := Nat.not_le.mp fun q => c (nI_le q (by omega))
  refine fun o e => ⟨_, e.trans q30, L30.1, s_get L30 hlt ⟨_, rfl, L30.2.2.2.1 i hlt, ?_⟩⟩
  rw [e_isSpent]
  have v10 : sI (kS S I R) 10 (ad 35 i) = g' 10 i := hL.vw (by decide) hlt
  have v11 : sI (kS S I R) 11 (ad 35 i) = g' 11 i := hL.vw (by decide) hlt
  rw [v10, v11]
  have next : ¬ (¬ spF (g' 10 i) (g' 11 i) = 0 ∧ spF (g 10 i) (g 11 i) = 0) → ∃ nx, nx < n - i ∧ ∃ i', i' ≤ n ∧ nx = n - i' ∧ nI i + 1 = nI i' ∧ ∀ j, j < i' → ¬ (¬ spF (g' 10 j) (g' 11 j) = 0 ∧ spF (g 10 j) (g 11 j) = 0) := fun hno => ⟨n - (i + 1), by omega, i + 1, hlt, rfl, nI_1 i, fun j hj2 => by
    rcases Nat.lt_or_ge j i with w | w
    · exact hnot j w
    · rw [show j = i by omega]; exact hno⟩
  refine ⟨¬ (¬ spF (g' 10 i) (g' 11 i) = 0 ∧ spF (g 10 i) (g 11 i) = 0), fun hno v21 e21 => by rw [e21]; exact next hno, fun c1 q => q.1 c1, fun c1 => fun o e => ⟨_, e.trans q20, L20.1, s_get L20 hlt ⟨_, rfl, L20.2.2.2.1 i hlt, ?_⟩⟩⟩
  rw [e_isSpent]
  have w10 : sI (kS S I R) 10 (ad 25 i) = g 10 i := h.vw (by decide) hlt
  have w11 : sI (kS S I R) 11 (ad 25 i) = g 11 i := h.vw (by decide) hlt
  rw [w10, w11]
  refine ⟨fun c2 => ?_, fun c2 q => c2 q.2⟩
  have : fsp n g g' = some i := fst_some.mpr ⟨hlt, ⟨c1, c2⟩, hnot⟩
  rw [this] at hp
  exact hp
theorem s_firstToStop {post : Int32 → St → Prop} {px : String → St → Prop} (hj : Inj ad) (h : HC S ad tl tb dl df n g pt dn bt m wg rd) (hO : Ok n g pt dn dl) (hm3 : m ≤ 3)
    (hok : ∀ k, 1 ≤ k → k ≤ 200 → u = nI k → ∀ S' ad' g2 wg2, CL S ad tl tb dl df n g pt dn bt m wg rd g2 wg2 S' ad' → post (ptI (stp n g (G2 n m pt dn dl df rd g2 wg2) k)) S')
    (hno : (¬ ∃ k, 1 ≤ k ∧ k ≤ 200 ∧ u = nI k) → px "java/lang/IllegalArgumentException" S) : w_H_firstToStop post px S (ad 1 0) u := by
  unfold w_H_firstToStop
  have hn := h.n8
  refine s_beats (fun k hk1 hk2 ek => ?_) hno
  replace hok := hok k hk1 hk2 ek
  subst ek
  refine fun o e o4 e4 => ⟨_, e.trans h.q37.1, h.q37.2, ?_⟩
  rw [e4, h.qF.1]
  refine s_like hj h hO hm3 (fun S1 ad1 g2 wg2 j1 h1 C1 L1 R1 eg ew F1 e30 => ?_)
  have e01 : ad1 1 0 = ad 1 0 := (F1.a (t := 1) (i := 0) (Or.inl (by decide)) h.1.1).1
  rw [← e01]
  refine ⟨fun q S' x => ∃ j I', j ≤ k ∧ q = k - j ∧ x = nI j ∧ S' = kS S1 I' (sR S1) ∧ Lk ad1 30 n m (sI S1) I' (bts n m pt dn dl df rd g2 wg2 j).2.1 (bts n m pt dn dl df rd g2 wg2 j).2.2 (bt + nI j) ∧ stp n g (G2 n m pt dn dl df rd g2 wg2) j = none, ⟨k, 0, sI S1, Nat.zero_le _, rfl, rfl, rfl, ?_, rfl⟩, ?_⟩
  · rw [nI_0, Int32.add_zero]; exact L1
  rintro q S' _ ⟨j, I', hjk, rfl, rfl, rfl, hL, hs⟩
  obtain ⟨z1, z2⟩ := h1.lk30 j1 C1 hL
  refine ⟨fun c => ?_, fun c => ?_⟩
  · have : j = k := by
      have := (nI_leI (by omega) (by omega)).mp c
      omega
    subst this
    replace hok := hok (kS S1 I' (sR S1)) ad1 g2 wg2 ⟨j1, z1, F1.tr z2, eg, ew⟩
    rw [hs] at hok
    exact hok
  · have hlt : j < k := Nat.not_le.mp fun q => c (nI_le q (by omega))
    refine fun o e => ⟨_, e.trans z1.q37.1, z1.q37.2, s_beat j1 C1 R1 hL (fun I2 h2 => ?_)⟩
    have h2 : Lk ad1 30 n m (sI S1) I2 (bts n m pt dn dl df rd g2 wg2 (j + 1)).2.1 (bts n m pt dn dl df rd g2 wg2 (j + 1)).2.2 (bt + nI (j + 1)) := by
      rw [← nI_1, ← Int32.add_assoc]
      exact h2
    obtain ⟨y1, y2⟩ := h1.lk30 j1 C1 h2
    intro o13 e13 o14 e14
    refine ⟨_, e13.trans y1.q37.1, y1.q37.2, ?_⟩
    rw [e14, y1.qF.1]
    refine s_fsp j1 y1 C1 h2 ?_
    have es : stp n g (G2 n m pt dn dl df rd g2 wg2) (j + 1) = fsp n g (bts n m pt dn dl df rd g2 wg2 (j + 1)).2.1 := stp_s hs
    cases hf : fsp n g (bts n m pt dn dl df rd g2 wg2 (j + 1)).2.1 with
    | none =>
      rw [hf] at es
      refine ⟨fun _ => ?_, fun c => absurd (by decide) c⟩
      rintro _ rfl
      exact ⟨k - (j + 1), by omega, j + 1, I2, hlt, rfl, nI_1 j, rfl, h2, es⟩
    | some i =>
      rw [hf] at es
      have hi := stp_lt es
      replace hok := hok (kS S1 I2 (sR S1)) ad1 g2 wg2 ⟨j1, y1, F1.tr y2, eg, ew⟩
      rw [stp_m es hlt] at hok
      exact ⟨fun c => absurd c (nI_pos (by omega)), fun _ => hok⟩
theorem s_areBeside {post : Int32 → Prop} {g' wg' : Nat → Nat → Int32} {bt' : Int32} {a b : Nat} (hC : CF (kS S I0 R) ad B n m pt dn dl df) (hL : Lk ad B n m I0 I g' wg' bt') (ha : a < n) (hb : b < n) (hp : post (bsF g' a b)) : w_F_areBeside post (kS S I R) (ad B 0) (nI a) (nI b) := by
  have hn : n ≤ 8 := hC.1.2.2.2.1.2.2.1
  unfold w_F_areBeside
  refine s_dNO hC hL.1 ?_
  rw [dNO_nI hn ha]
  refine s_dNO hC hL.1 ?_
  rw [dNO_nI hn hb]
  refine ⟨(fun c => by cases c), fun y c => ?_⟩
  cases c
  refine ⟨(fun c => by cases c), fun y c => ?_⟩
  cases c
  refine ⟨hC.1.2.2.2.1.2.2.2.1 a ha, s_beside hC hL ha hb ?_⟩
  unfold bsF at hp ⊢
  split
  · rename_i q; rw [if_pos q] at hp; exact ⟨fun c => absurd c (by decide), fun _ => hp⟩
  · rename_i q; rw [if_neg q] at hp; exact ⟨fun _ => hp, fun c => absurd rfl c⟩
theorem bsF_01 {g' : Nat → Nat → Int32} {a b : Nat} : bsF g' a b = 0 ∨ bsF g' a b = 1 := by
  unfold bsF
  split
  · exact Or.inr rfl
  · exact Or.inl rfl
theorem s_meet {post : Int32 → St → Prop} {px : String → St → Prop} {x : Int32} (hj : Inj ad) (h : HC S ad tl tb dl df n g pt dn bt m wg rd) (hO : Ok n g pt dn dl) (hm3 : m ≤ 3)
    (hok : ∀ a b k, a < n → v = nI a → b < n → u = nI b → a ≠ b → 1 ≤ k → k ≤ 200 → x = nI k → ∀ S' ad' g2 wg2, CL S ad tl tb dl df n g pt dn bt m wg rd g2 wg2 S' ad' → post (ptI (mtF (G2 n m pt dn dl df rd g2 wg2) a b k)) S')
    (hno2 : ∀ a b, a < n → v = nI a → b < n → u = nI b → ¬ (a ≠ b ∧ ∃ k, 1 ≤ k ∧ k ≤ 200 ∧ x = nI k) → px "java/lang/IllegalArgumentException" S)
    (hno : (¬ ∃ a b, a < n ∧ v = nI a ∧ b < n ∧ u = nI b) → px "java/lang/IndexOutOfBoundsException" S) : w_H_meet post px S (ad 1 0) v u x := by
  unfold w_H_meet
  have hn := h.n8
  refine s_needR h (fun a ha ea => s_needR h (fun b hb eb => ⟨fun c => hno2 a b ha ea hb eb (fun q => q.1 ?_), fun c => ?_⟩) (fun c => hno (fun ⟨i, k, _, _, h3, h4⟩ => c ⟨k, h3, h4⟩))) (fun c => hno (fun ⟨i, k, h1, h2, _⟩ => c ⟨i, h1, h2⟩))
  · rw [ea, eb] at c
    exact (nI_eq (by omega) (by omega)).mp c
  have hab : a ≠ b := fun q => c (by rw [ea, eb, q])
  refine s_beats (fun k hk1 hk2 ek => ?_) (fun q => hno2 a b ha ea hb eb (fun r => q r.2))
  replace hok := hok a b k ha ea hb eb hab hk1 hk2 ek
  subst ea
  subst eb
  subst ek
  refine fun o e o4 e4 => ⟨_, e.trans h.q37.1, h.q37.2, ?_⟩
  rw [e4, h.qF.1]
  refine s_like hj h hO hm3 (fun S1 ad1 g2 wg2 j1 h1 C1 L1 R1 eg ew F1 e30 => ?_)
  have e01 : ad1 1 0 = ad 1 0 := (F1.a (t := 1) (i := 0) (Or.inl (by decide)) h.1.1).1
  rw [← e01]
  refine fun o e => ⟨_, e.trans h1.q37.1, h1.q37.2, ?_⟩
  have b0 : bsF g2 a b = bsF (G2 n m pt dn dl df rd g2 wg2 0) a b := rfl
  refine s_areBeside (S := S1) (I := sI S1) (R := sR S1) (B := 30) C1 L1 ha hb ⟨fun c0 => ?_, fun c0 => ?_⟩
  · refine ⟨fun q S' x => ∃ j I', 1 ≤ j ∧ j ≤ k + 1 ∧ q = k + 1 - j ∧ x = nI j ∧ S' = kS S1 I' (sR S1) ∧ Lk ad1 30 n m (sI S1) I' (bts n m pt dn dl df rd g2 wg2 (j - 1)).2.1 (bts n m pt dn dl df rd g2 wg2 (j - 1)).2.2 (bt + nI (j - 1)) ∧ ∀ y, y < j → ¬ bsF (G2 n m pt dn dl df rd g2 wg2 y) a b = 1, ⟨k, 1, sI S1, Nat.le_refl _, by omega, by omega, rfl, rfl, ?_, fun y hy => ?_⟩, ?_⟩
    · rw [nI_0, Int32.add_zero]; exact L1
    · rw [show y = 0 by omega, ← b0, c0]; decide
    rintro q S' _ ⟨j, I', hj1, hjk, rfl, rfl, rfl, hL, hnot⟩
    obtain ⟨z1, z2⟩ := h1.lk30 j1 C1 hL
    have ej : nI k < nI j ↔ k < j := nI_ltI (by omega) (by omega)
    rw [ej]
    refine ⟨fun c => ?_, fun c => ?_⟩
    · have : j = k + 1 := by omega
      subst this
      replace hok := hok (kS S1 I' (sR S1)) ad1 g2 wg2 ⟨j1, z1, F1.tr z2, eg, ew⟩
      have : mtF (G2 n m pt dn dl df rd g2 wg2) a b k = none := fst_none.mpr hnot
      rw [this] at hok
      exact hok
    · refine fun o e => ⟨_, e.trans z1.q37.1, z1.q37.2, s_beat j1 C1 R1 hL (fun I2 h2 => ?_)⟩
      have h2 : Lk ad1 30 n m (sI S1) I2 (bts n m pt dn dl df rd g2 wg2 (j - 1 + 1)).2.1 (bts n m pt dn dl df rd g2 wg2 (j - 1 + 1)).2.2 (bt + nI (j - 1 + 1)) := by
        rw [← nI_1, ← Int32.add_assoc]
        exact h2
      rw [show j - 1 + 1 = j by omega] at h2
      obtain ⟨y1, y2⟩ := h1.lk30 j1 C1 h2
      refine fun o e => ⟨_, e.trans y1.q37.1, y1.q37.2, ?_⟩
      refine s_areBeside (B := 30) C1 h2 ha hb ⟨fun c3 => ?_, fun c3 => ?_⟩
      · rintro _ rfl
        refine ⟨k + 1 - (j + 1), by omega, j + 1, I2, by omega, by omega, rfl, nI_1 j, rfl, by rw [Nat.add_sub_cancel]; exact h2, fun y hy => ?_⟩
        by_cases cy : y = j
        · subst cy
          have c3 : bsF (G2 n m pt dn dl df rd g2 wg2 y) a b = 0 := c3
          rw [c3]; decide
        · exact hnot y (by omega)
      · replace hok := hok (kS S1 I2 (sR S1)) ad1 g2 wg2 ⟨j1, y1, F1.tr y2, eg, ew⟩
        have c4 : bsF (G2 n m pt dn dl df rd g2 wg2 j) a b = 1 := (bsF_01).elim (fun q => absurd q c3) id
        have : mtF (G2 n m pt dn dl df rd g2 wg2) a b k = some j := fst_some.mpr ⟨by omega, c4, hnot⟩
        rw [this] at hok
        exact hok
  · replace hok := hok S1 ad1 g2 wg2 ⟨j1, h1, F1, eg, ew⟩
    have c4 : bsF (G2 n m pt dn dl df rd g2 wg2 0) a b = 1 := (bsF_01).elim (fun q => absurd q c0) id
    have : mtF (G2 n m pt dn dl df rd g2 wg2) a b k = some 0 := fst_some.mpr ⟨by omega, c4, fun y hy => absurd hy (Nat.not_lt_zero y)⟩
    rw [this] at hok
    exact hok
end CLOOK
