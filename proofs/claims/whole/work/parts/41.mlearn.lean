/-! the reference learns -/
theorem chTxt : ∀ c : Fin 128, (((nI c.1 &&& 255).toUInt32 % 65536).toInt32) = nI c.1 := by decide +kernel
theorem s_charAt {post : Int32 → Prop} {S : St} {t i c : Nat} (hL : txL t ≤ 8) (hi : i < txL t) (hc : c < 128) (e : (txB t).getD i 0 = nI c) (hp : post (nI c)) : w_ST_charAt post S t (nI i) := by
  have hn : narrow .char (.int (nI c)) = .int (nI c) := (pk_charN (by omega)).1
  unfold w_ST_charAt w_ST_isLatin1
  refine ⟨fun h => absurd h (by decide), fun _ => ⟨fun _ => ⟨fun h => absurd h (by decide), fun _ => ?_⟩, fun h => absurd rfl h⟩⟩
  unfold w_SL_charAt w_ST_checkIndex
  rw [nI_clamp (show i < 2 ^ 31 by omega), e, chTxt ⟨c, hc⟩]
  intro o1
  exact ⟨False, id, fun h => absurd h (nI_pos (by omega)), fun _ => ⟨fun _ => ⟨vp_in_nI hi (by omega), hn, hn, hp⟩, fun h => absurd (nI_lt hi (by omega)) h⟩⟩
def chN (k : Nat) : Nat := ([102, 98, 108, 114, 116, 117, 115, 119] : List Nat).getD k 0
def figU (v : Int32) (i : Nat) : Int32 := fld (fun a k => if a = 0 then (if nI (chN k) = v then 1 else 0) else 1) 0 i
theorem chNF : ∀ k : Fin 8, chN k.1 < 128 ∧ (txB 8).getD k.1 0 = nI (chN k.1) := by decide +kernel
theorem figU_01 {v : Int32} {i : Nat} : figU v i = 0 ∨ figU v i = 1 := by
  cases i with
  | zero => exact Or.inl rfl
  | succ i =>
    show (if figU v i = 0 then (if nI (chN i) = v then (1 : Int32) else 0) else 1) = 0 ∨ (if figU v i = 0 then (if nI (chN i) = v then (1 : Int32) else 0) else 1) = 1
    split
    · split
      · exact Or.inr rfl
      · exact Or.inl rfl
    · exact Or.inr rfl
theorem s_mfig {post : Int32 → Prop} {S : St} {v : Int32} (hp : post (figU v 8)) : w_M_isFigure post S v := by
  unfold w_M_isFigure
  refine ⟨fun q r u => ∃ i, i ≤ 8 ∧ q = 8 - i ∧ u = nI i ∧ r = figU v i, ⟨8, 0, by decide, rfl, rfl, rfl⟩, ?_⟩
  rintro q r u ⟨i, hi, rfl, rfl, rfl⟩
  have e8 : (8 : Int32) ≤ nI i ↔ 8 ≤ i := nI_leI (a := 8) (by decide) (by omega)
  rw [e8]
  refine ⟨fun c => ?_, fun c => ?_⟩
  · have : i = 8 := by omega
    subst this
    exact ⟨figU_01, hp⟩
  · have e0 : figU v (i + 1) = if figU v i = 0 then (if nI (chN i) = v then (1 : Int32) else 0) else 1 := rfl
    obtain ⟨c1, c2⟩ := chNF ⟨i, by omega⟩
    refine ⟨fun k => k = figU v (i + 1), ?_, figU v (i + 1) = 1, fun h => h.symm, fun h0 => ?_, fun h0 => ?_⟩
    · rintro _ rfl _ rfl
      exact ⟨8 - (i + 1), by omega, i + 1, by omega, rfl, nI_1 i, rfl⟩
    · refine s_charAt (by decide) (show i < txL 8 from (show i < 8 by omega)) c1 c2 ⟨fun e => ?_, fun e => ?_⟩
      · rw [e0, if_pos h0, if_pos e]
      · rw [e0, if_pos h0, if_neg e]
    · rw [e0, if_neg h0]
theorem figUM : ∀ b : Fin 256, (figU (nI b.1) 8 = 0 ↔ figF (sbt b.1) = 0) ∧ (¬ figF (sbt b.1) = 0 → sbt b.1 = nI b.1) := by decide +kernel
def lrn (r0 : Int32) (tb : Nat → Nat) (i : Nat) : Int32 := fld (fun a k => if a = 0 then 0 else if figU (nI (tb k)) 8 = 0 then 0 else 1) r0 i
theorem lrn_0 {r0 : Int32} {tb : Nat → Nat} {i : Nat} (h01 : r0 = 0 ∨ r0 = 1) (hb : ∀ j, tb j < 256) : (lrn r0 tb i = 0 ↔ ¬ (r0 = 1 ∧ ∀ j, j < i → ¬ figF (sbt (tb j)) = 0)) := by
  induction i with
  | zero =>
    show r0 = 0 ↔ _
    rcases h01 with h | h
    · rw [h]; simp
    · rw [h]; simp
  | succ i ih =>
    have e0 : lrn r0 tb (i + 1) = if lrn r0 tb i = 0 then 0 else if figU (nI (tb i)) 8 = 0 then 0 else 1 := rfl
    have hf := (figUM ⟨tb i, hb i⟩).1
    simp only at hf
    rw [e0]
    by_cases c : lrn r0 tb i = 0
    · rw [if_pos c]
      refine ⟨fun _ q => (ih.mp c) ⟨q.1, fun j hj => q.2 j (by omega)⟩, fun _ => rfl⟩
    · rw [if_neg c]
      have c2 : r0 = 1 ∧ ∀ j, j < i → ¬ figF (sbt (tb j)) = 0 := Classical.byContradiction fun q => c (ih.mpr q)
      by_cases c3 : figU (nI (tb i)) 8 = 0
      · rw [if_pos c3]
        exact ⟨fun _ q => q.2 i (by omega) (hf.mp c3), fun _ => rfl⟩
      · rw [if_neg c3]
        refine ⟨fun h => absurd h (by decide), fun q => absurd ⟨c2.1, fun j hj => ?_⟩ q⟩
        rcases Nat.lt_or_ge j i with w | w
        · exact c2.2 j w
        · rw [show j = i by omega]; exact fun z => c3 (hf.mpr z)
theorem lrn_dOk {tl : Nat} {tb : Nat → Nat} (ht : tl ≤ 40) (hb : ∀ j, tb j < 256) : lrn (inF (nI tl) 1 24) tb tl = 0 ↔ ¬ dOk tl tb := by
  rw [lrn_0 inF_01 hb]
  have h1 := inF_rg (v := nI tl) (lo := 1) (hi := 24) (by decide) (by decide)
  have e : inF (nI tl) 1 24 = 1 ↔ 1 ≤ tl ∧ tl ≤ 24 := by
    constructor
    · intro h
      have : ∃ k, 1 ≤ k ∧ k ≤ 24 ∧ nI tl = nI k := Classical.byContradiction fun c => by
        have h2 : inF (nI tl) 1 24 = 0 := h1.mpr c
        rw [h] at h2
        exact absurd h2 (by decide)
      obtain ⟨k, k1, k2, ek⟩ := this
      have := (nI_eq (by omega) (by omega)).mp ek
      omega
    · rintro ⟨a, b⟩
      rcases inF_01 (v := nI tl) (a := 1) (b := 24) with h | h
      · exact absurd ⟨tl, a, b, rfl⟩ (h1.mp h)
      · exact h
  rw [e]
  unfold dOk
  exact not_congr ⟨fun q => ⟨q.1.1, q.1.2, q.2⟩, fun q => ⟨⟨q.1, q.2.1⟩, q.2.2⟩⟩
section MLEARN
variable {S : St} {ad : Nat → Nat → Nat} {tl n m k : Nat} {tb dl dn : Nat → Nat} {df g wg rd I R : Nat → Nat → Int32} {pt : Nat → Option Nat} {bt v : Int32}
/-- the reference behind changes of its state -/
theorem HM.mks {g' wg' : Nat → Nat → Int32} {bt' : Int32} (hj : Inj ad) (h : HM S ad tl tb dl df n g pt dn bt m wg rd) (hM : Mk ad 50 m (sR S) R g' wg') (hI : ∀ f a, (f = 58 ∨ f = 39 ∨ f = 52) → I f a = sI S f a) (hb : I 38 (ad 50 0) = bt') : HM (kS S I R) ad tl tb dl df n g' pt dn bt' m wg' rd := by
  obtain ⟨a1, a2, a3, a4, a5, a6, a7, ⟨c1, c2, c3, c4, c5, c6, c7, c8, c9⟩, a9, a10, a11, a12⟩ := h
  refine ⟨a1, a2, a3, a4, a5, (hI 58 _ (by omega)).trans a6, fun j hj' => ?_, ⟨c1, c2, c3, (hI 39 _ (by omega)).trans c4, (hI 52 _ (by omega)).trans c5, fun i => ?_, c7, fun j p hj' hp => ?_, fun k hk => ?_⟩, fun f i hf => hM.vw hf, fun j q hj' hq => hM.vww hj' hq, hb, fun f i hf hi => ?_⟩
  · rw [kS_R, hM.far hj (t := 103) (Or.inr (by decide))]; exact a7 j hj'
  · rw [kS_R, hM.st hj (Or.inr (Or.inl rfl)), hM.st hj (Or.inl rfl)]; exact c6 i
  · rw [kS_R, hM.st hj (Or.inr (Or.inr rfl))]; exact c8 j p hj' hp
  · rw [kS_R, hM.far hj (t := 100 + 2) (Or.inr (by decide)), hM.far hj (t := 100 + 1) (Or.inr (by decide))]; exact c9 k hk
  · rw [kS_R, hM.far hj (t := 75 + f) (Or.inr (by omega))]; exact a12 f i hf hi
theorem fr_mk (hj : Inj ad) {g' wg' : Nat → Nat → Int32} {B : Nat} (hB : 45 ≤ B) (hM : Mk ad B m (sR S) R g' wg') (hI : ∀ f a, (∀ t i, t < 45 → a ≠ ad t i) ∨ I f a = sI S f a) : Fr (fun t _ => t < 45) S (kS S I R) ad ad := kfr (fun t i ht => ⟨fun f => (hI f (ad t i)).elim (fun q => absurd rfl (q t i ht)) id, funext fun _ => congrFun (hM.1 _ (fun f hf e => by have := (hj _ _ _ _ e).1; unfold mInt at hf; omega) (fun e => by have := (hj _ _ _ _ e).1; omega)) _⟩)
theorem s_mlearn {post : Int32 → St → Prop} (hj : Inj ad) (h : HM S ad tl tb dl df n g pt dn bt m wg rd) (ht : tl ≤ 40) (hb : ∀ j, tb j < 256)
    (hok : ∀ k, k < 8 → v = nI k → dOk tl tb → ∀ S', MR S ad 0 0 tb (lrL dl k tl) (lrF df k tl tb) n (fld (rsF k tl dn) g n) pt dn bt m wg rd S' → post (nI tl) S')
    (hbad : ∀ k, k < 8 → v = nI k → ¬ dOk tl tb → ∀ S', MR S ad 0 0 tb dl df n g pt dn bt m wg rd S' → post (-1) S')
    (hno : (¬ ∃ k, k < 8 ∧ v = nI k) → ∀ S', MR S ad 1 tl tb dl df n g pt dn bt m wg rd S' → post 0 S') : w_M_learn post S (ad 100 0) v := by
  unfold w_M_learn
  rintro S1 rfl
  have h1 : HM (pI S 56 (ad 100 0) 0) ad tl tb dl df n g pt dn bt m wg rd := h.th
  have f1 : Fr (fun t _ => t < 45) S (pI S 56 (ad 100 0) 0) ad ad := fr_th hj
  have e56 : sI (pI S 56 (ad 100 0) 0) 56 (ad 100 0) = 0 := th_at
  generalize pI S 56 (ad 100 0) 0 = S1 at *
  refine s_inR 0 7 (by decide) (by decide) (fun k _ hk e => ⟨fun c => absurd c (by decide), fun _ => ?_⟩) (fun c => ⟨fun _ => s_no hj h1 f1 (hno (fun ⟨k, hk, e⟩ => c ⟨k, Nat.zero_le _, by omega, e⟩)), fun c => absurd rfl c⟩)
  have hk8 : k < 8 := by omega
  subst e
  rw [h1.2.2.2.2.2.1]
  rintro _ rfl S5 e5
  have h5 : HM S5 ad 0 tb dl df n g pt dn bt m wg rd := by
    rw [e5]
    exact HM.tape (S := S1) (I := up2 (sI S1) 58 (ad 100 0) 0) (R := sR S1) hj h1 (fun f a hf => up2_f hf) (fun _ _ => rfl) up2_at (fun j hj' => absurd hj' (Nat.not_lt_zero j))
  have f5 : Fr (fun t _ => t < 45) S S5 ad ad := by rw [e5]; exact f1.I (nam hj (by decide))
  have r5 : sI S5 56 (ad 100 0) = 0 := by rw [e5]; exact (sI_ne (by decide)).trans e56
  have t5 : ∀ j, j < tl → sR S5 (ad 103 0) j = nI (tb j) := by rw [e5]; exact h1.2.2.2.2.2.2.1
  clear e5
  rw [e_isIn]
  refine ⟨fun q r u => ∃ i, i ≤ tl ∧ q = tl - i ∧ u = nI i ∧ r = lrn (inF (nI tl) 1 24) tb i, ⟨tl, 0, Nat.zero_le _, rfl, rfl, rfl⟩, ?_⟩
  rintro q r u ⟨i, hi, rfl, rfl, rfl⟩
  refine ⟨fun c => ?_, fun c => ?_⟩
  · have : i = tl := by
      have := (nI_leI (by omega) (by omega)).mp c
      omega
    subst this
    rw [lrn_dOk ht hb]
    refine ⟨fun hd => hbad k hk8 rfl hd S5 ⟨h5, r5, f5⟩, fun hd => ?_⟩
    have hd : dOk i tb := Classical.not_not.mp hd
    obtain ⟨t1, t24, tf⟩ := id hd
    have hrow := h5.mc.1
    obtain ⟨m1, m2, m3, m4, ⟨k1, k2, k3⟩, l1, l2, l3⟩ := hrow
    have hn := h5.mc.2.1
    have k3 : sN S5 (ad 101 0) = 192 := k3
    have k1 : sQ S5 59 (ad 100 0) = some (ad 101 0) := k1
    have l1 : sQ S5 60 (ad 100 0) = some (ad 102 0) := l1
    have l3 : sN S5 (ad 102 0) = 8 := l3
    intro o10 e10
    refine ⟨_, e10.trans l1, l2, by rw [l3]; exact vp_in_nI hk8 (by decide), ?_⟩
    rintro S14 e14
    rw [nI_clamp (show k < 2 ^ 31 by omega)] at e14
    have e24 : (24 : Int32) * nI k = nI (24 * k) := by rw [show (24 : Int32) = nI 24 from rfl, pk_mul]
    have c0 : (0 : Int32).toNatClampNeg = 0 := rfl
    rw [e24, nI_clamp (show 24 * k < 2 ^ 31 by omega), nI_clamp (show i < 2 ^ 31 by omega), c0]
    have q57 : sQ S14 57 (ad 100 0) = some (ad 103 0) := by rw [e14]; exact h5.2.1.1
    have q59 : sQ S14 59 (ad 100 0) = some (ad 101 0) := by rw [e14]; exact k1
    have n103 : sN S14 (ad 103 0) = 40 := by rw [e14]; exact h5.2.1.2.2
    have n101 : sN S14 (ad 101 0) = 192 := by rw [e14]; exact k3
    rintro o15 e15 o16 e16
    refine ⟨_, e15.trans q57, _, e16.trans q59, by rw [e14]; exact h5.2.1.2.1, by rw [e14]; exact k2, ⟨by decide, nI_pos (by omega), nI_pos (by omega), by rw [n103]; omega, by rw [n101]; omega, fun z hz => rfl⟩, ?_⟩
    have e22 : ∀ S22, S22 = pRow S14 (ad 101 0) (va_cpy (sR S14 (ad 103 0)) (sR S14 (ad 101 0)) 0 (24 * k) i) → S22 = kS S5 (sI S5) (va_up (up2 (sR S5) (ad 102 0) k (nI i)) (ad 101 0) (va_cpy (sR S14 (ad 103 0)) (sR S14 (ad 101 0)) 0 (24 * k) i)) := by
      intro S22 e
      rw [e, e14]
      rfl
    intro S22 e
    have e := e22 S22 e
    have q103 : sR S14 (ad 103 0) = sR S5 (ad 103 0) := by rw [e14]; exact row_g (fun e => by have := (hj _ _ _ _ e).1; omega)
    have q101 : sR S14 (ad 101 0) = sR S5 (ad 101 0) := by rw [e14]; exact row_g (fun e => by have := (hj _ _ _ _ e).1; omega)
    rw [q103, q101] at e
    clear e22 q103 q101 e16 e15 e14
    have hR : ∀ t, t ≠ 101 → t ≠ 102 → sR S22 (ad t 0) = sR S5 (ad t 0) := by
      intro t x1 x2
      rw [e]
      exact (if_neg (fun e => x1 (hj _ _ _ _ e).1)).trans (row_g (fun e => x2 (hj _ _ _ _ e).1))
    have h22 : HM S22 ad 0 tb (lrL dl k i) (lrF df k i tb) n g pt dn bt m wg rd := by
      obtain ⟨a1, a2, a3, a4, a5, a6, a7, ⟨c1, c2, c3, c4, c5, c6, c7, c8, c9⟩, a9, a10, a11, a12⟩ := h5
      have hR2 := hR
      rw [e] at hR2 ⊢
      refine ⟨a1, a2, a3, a4, a5, a6, fun j hj' => absurd hj' (Nat.not_lt_zero j), ⟨c1, c2, c3, c4, c5, fun i => ?_, c7, fun j p hj' hp => ?_, fun k' hk' => ?_⟩, fun f i hf => ?_, fun j q hj' hq => ?_, a11, fun f i hf hi => ?_⟩
      · rw [hR2 _ (by decide) (by decide), hR2 _ (by decide) (by decide)]; exact c6 i
      · rw [hR2 _ (by decide) (by decide)]; exact c8 j p hj' hp
      · obtain ⟨d1, d2, d3, d4⟩ := c9 k' hk'
        have y2 : (va_up (up2 (sR S5) (ad 102 0) k (nI i)) (ad 101 0) (va_cpy (sR S5 (ad 103 0)) (sR S5 (ad 101 0)) 0 (24 * k) i)) (ad 102 0) = up2 (sR S5) (ad 102 0) k (nI i) (ad 102 0) := if_neg (fun e => by have := (hj _ _ _ _ e).1; omega)
        have y1 : (va_up (up2 (sR S5) (ad 102 0) k (nI i)) (ad 101 0) (va_cpy (sR S5 (ad 103 0)) (sR S5 (ad 101 0)) 0 (24 * k) i)) (ad 101 0) = va_cpy (sR S5 (ad 103 0)) (sR S5 (ad 101 0)) 0 (24 * k) i := if_pos rfl
        rw [kS_R, y2, y1]
        unfold lrL lrF
        by_cases c : k' = k
        · subst c
          rw [up2_at, if_pos rfl]
          refine ⟨rfl, t1, t24, fun j hj' => ?_⟩
          rw [pk_cpy_in (by omega) (by omega), show 0 + (24 * k' + j - 24 * k') = j by omega, t5 j hj', if_pos ⟨rfl, hj'⟩]
          exact ((figUM ⟨tb j, hb j⟩).2 (tf j hj')).symm
        · rw [up2_a c, if_neg c]
          refine ⟨d1, d2, d3, fun j hj' => ?_⟩
          rw [pk_cpy_out (by omega), if_neg (fun q => c q.1)]
          exact d4 j hj'
      · rw [hR2 _ (by unfold mInt at hf; omega) (by unfold mInt at hf; omega)]; exact a9 f i hf
      · rw [hR2 _ (by decide) (by decide)]; exact a10 j q hj' hq
      · rw [hR2 _ (by unfold mInt at hf; omega) (by unfold mInt at hf; omega)]; exact a12 f i hf hi
    have f22 : Fr (fun t _ => t < 45) S S22 ad ad := by
      rw [e]
      exact f5.tr (kfr (fun t i ht => ⟨fun f => rfl, (if_neg (fun e => by have := (hj _ _ _ _ e).1; omega)).trans (row_g (fun e => by have := (hj _ _ _ _ e).1; omega))⟩))
    have r22 : sI S22 56 (ad 100 0) = 0 := by rw [e]; exact r5
    clear e hR
    refine ⟨fun q S' u => ∃ d R', d ≤ n ∧ q = n - d ∧ u = nI d ∧ S' = kS S22 (sI S22) R' ∧ Mk ad 50 m (sR S22) R' (fld (rsF k i dn) g d) wg, ⟨n, 0, sR S22, Nat.zero_le _, rfl, rfl, rfl, h22.mk⟩, ?_⟩
    rintro q S' u ⟨d, R', hd2, rfl, rfl, rfl, hM⟩
    obtain ⟨x1, x2, x3⟩ := h22.row (f := 12) (by unfold mRow; omega)
    obtain ⟨y1, y2, y3⟩ := h22.row (f := 13) (by unfold mRow; omega)
    have x1 : sQ S22 45 (ad 50 0) = some (ad 62 0) := x1
    have y1 : sQ S22 46 (ad 50 0) = some (ad 63 0) := y1
    have x3 : sN S22 (ad 62 0) = 8 := x3
    have y3 : sN S22 (ad 63 0) = 8 := y3
    have v12 : ∀ d, d < n → R' (ad 62 0) d = nI (dn d) := fun d hd => by
      have z := congrFun (hM.st hj (f := 12) (Or.inl rfl)) d
      have w := (h22.mc.2.2.2.2.2.1 d).2
      rw [if_pos hd] at w
      exact z.trans w
    have v13 : R' (ad 63 0) d = fld (rsF k i dn) g d 13 d := hM.vw (f := 13) (by unfold mInt; omega)
    have i39 : sI S22 39 (ad 50 0) = nI n := h22.mc.2.2.2.1
    have q61 := h22.qS.1
    have a61 := h22.qS.2
    have e0 : fld (rsF k i dn) g (d + 1) = rsF k i dn (fld (rsF k i dn) g d) d := rfl
    simp only [forall_eq, kS_Q, kS_A, kS_N, kS_R, kS_I, q61, i39, x1, y1, x3, y3, Option.some.injEq, exists_eq_left', nI_clamp (show d < 2 ^ 31 by omega), v13]
    refine ⟨a61, fun c2 => ?_, fun c2 => ⟨a61, ?_⟩⟩
    · have : d = n := by
        have := (nI_leI (by omega) (by omega)).mp c2
        omega
      subst this
      exact hok k hk8 rfl hd _ ⟨h22.mks hj hM (fun _ _ _ => rfl) h22.2.2.2.2.2.2.2.2.2.2.1, r22, f22.tr (fr_mk hj (by decide) hM (fun f a => Or.inr rfl))⟩
    · have hdn : d < n := Nat.not_le.mp fun q => c2 (nI_le q (by omega))
      have hin : vp_in (nI d) 8 := vp_in_nI (by omega) (by decide)
      rw [v12 d hdn, nI_eq (show dn d < 2 ^ 31 by have := h22.mc.2.2.2.2.2.2.1 d hdn; omega) (show k < 2 ^ 31 by omega)]
      generalize fld (rsF k i dn) g d = g1 at hM e0 v13 ⊢
      refine ⟨x2, hin, fun S' => ∃ R', S' = kS S22 (sI S22) R' ∧ Mk ad 50 m (sR S22) R' (rsF k i dn g1 d) wg, ?_, fun hk2 => ⟨a61, y2, hin, fun h13 => ⟨_, rfl, ?_⟩, fun h13 => ⟨a61, y2, hin, _, rfl, ?_⟩⟩, fun hk2 => ⟨_, rfl, ?_⟩⟩
      · rintro _ ⟨R2, rfl, h2⟩
        exact ⟨n - (d + 1), by omega, d + 1, R2, hdn, rfl, nI_1 d, rfl, by rw [e0]; exact h2⟩
      · unfold rsF; rw [if_pos hk2, if_pos h13]; exact hM
      · unfold rsF; rw [if_pos hk2, if_neg h13]; exact hM.up (f := 13) (d := d) (v := 0) hj (by unfold mInt; omega)
      · unfold rsF; rw [if_neg hk2]; exact hM
  · have hlt : i < tl := Nat.not_le.mp fun q => c (nI_le q (by omega))
    have e0 : lrn (inF (nI tl) 1 24) tb (i + 1) = if lrn (inF (nI tl) 1 24) tb i = 0 then 0 else if figU (nI (tb i)) 8 = 0 then 0 else 1 := rfl
    refine ⟨fun x => x = lrn (inF (nI tl) 1 24) tb (i + 1), ?_, lrn (inF (nI tl) 1 24) tb (i + 1) = 0, fun h => h.symm, fun h0 => ?_, fun h0 => ?_⟩
    · rintro _ rfl _ rfl
      exact ⟨tl - (i + 1), by omega, i + 1, hlt, rfl, nI_1 i, rfl⟩
    · rw [e0, if_pos h0]
    · refine fun o e => ⟨_, e.trans h5.2.1.1, h5.2.1.2.1, by rw [h5.2.1.2.2]; exact vp_in_nI (by omega) (by decide), ?_⟩
      rw [nI_clamp (show i < 2 ^ 31 by omega), t5 i hlt]
      refine s_mfig ⟨fun h2 => ?_, fun h2 => ?_⟩
      · rw [e0, if_neg h0, if_pos h2]
      · show (1 : Int32) = _
        rw [e0, if_neg h0, if_neg h2]
end MLEARN
