/-! the class learns -/
/-- the tape is a dance -/
def dOk (tl : Nat) (tb : Nat → Nat) : Prop := 1 ≤ tl ∧ tl ≤ 24 ∧ ∀ j, j < tl → ¬ figF (sbt (tb j)) = 0
/-- who stands behind the end begins anew -/
def rsF (k L : Nat) (dn : Nat → Nat) (g : Nat → Nat → Int32) (i : Nat) : Nat → Nat → Int32 := if dn i = k then (if g 13 i < nI L then g else up2 g 13 i 0) else g
def lrL (dl : Nat → Nat) (k tl : Nat) : Nat → Nat := fun k' => if k' = k then tl else dl k'
def lrF (df : Nat → Nat → Int32) (k tl : Nat) (tb : Nat → Nat) : Nat → Nat → Int32 := fun k' j => if k' = k ∧ j < tl then sbt (tb j) else df k' j
section CLEARN
variable {S : St} {ad : Nat → Nat → Nat} {tl n m B k : Nat} {tb dl dn : Nat → Nat} {df g wg rd I0 I R : Nat → Nat → Int32} {pt : Nat → Option Nat} {bt v : Int32}
/-- the hall, with other numbers -/
theorem HC.kk {tl' : Nat} {tb' dl' : Nat → Nat} {df' g' wg' rd' : Nat → Nat → Int32} {bt' : Int32} (h : HC S ad tl tb dl df n g pt dn bt m wg rd) (h2 : ∀ a, I 2 a = sI S 2 a) (h6 : ∀ a, I 6 a = sI S 6 a) (ht : Htape I R ad tl' tb') (hD : DL (kS S I R) ad dl' df') (hV : Vw I ad 20 n m g' wg' bt') (hR : RR R ad 20 m rd') : HC (kS S I R) ad tl' tb' dl' df' n g' pt dn bt' m wg' rd' := by
  obtain ⟨a, b, c, ⟨d1, d2, d3⟩, e, f, n2, m2, g1, g2, g3⟩ := h
  have l : ∀ {L A t k n : Nat}, LiS S ad L A t k n → LiS (kS S I R) ad L A t k n := fun q => ⟨q.1, (h2 _).trans q.2.1, q.2.2⟩
  have fl : ∀ {B n m : Nat}, FL S ad B n m → FL (kS S I R) ad B n m := fun q => ⟨q.1, q.2.1, q.2.2.1, l q.2.2.2.1, l q.2.2.2.2.1, q.2.2.2.2.2.1, fun i hi => (h6 _).trans (q.2.2.2.2.2.2 i hi)⟩
  exact ⟨a, ht, l c, ⟨fl d1, d2, hD⟩, hV, hR, n2, m2, g1, g2, fl g3⟩
theorem HC.lk (h : HC S ad tl tb dl df n g pt dn bt m wg rd) : Lk ad 20 n m (sI S) (sI S) g wg bt := ⟨Ev.rf, fun _ _ _ _ _ => rfl, h.2.2.2.2.1⟩
theorem HC.cf (h : HC S ad tl tb dl df n g pt dn bt m wg rd) : CF (kS S (sI S) (sR S)) ad 20 n m pt dn dl df := h.2.2.2.1
/-- the hall behind changes on its floor -/
theorem HC.lks {g' wg' : Nat → Nat → Int32} {bt' : Int32} (hj : Inj ad) (h : HC S ad tl tb dl df n g pt dn bt m wg rd) (hL : Lk ad 20 n m (sI S) I g' wg' bt') : HC (kS S I (sR S)) ad tl tb dl df n g' pt dn bt' m wg' rd ∧ Fr (fun t _ => 27 ≤ t) S (kS S I (sR S)) ad ad := by
  obtain ⟨l1, l2, l3⟩ := hL
  have far : ∀ t i f, (t ≠ 20 ∧ t ≠ 25 ∧ t ≠ 26) → I f (ad t i) = sI S f (ad t i) := fun t i f ht => l2 f _ (fun i _ e => ht.2.1 (hj _ _ _ _ e).1) (fun i _ e => ht.2.2 (hj _ _ _ _ e).1) (fun e => ht.1 (hj _ _ _ _ e).1)
  obtain ⟨b1, b2, b3, b4⟩ := h.2.1
  refine ⟨h.kk (fun a => l1 2 a (by decide)) (fun a => l1 6 a (by decide)) ⟨(far 2 0 25 (by decide)).trans b1, b2, b3, b4⟩ (DL.ev (S := S) (I := sI S) h.2.2.2.1.2.2 l1) l3 h.2.2.2.2.2.1, kfr (fun t i ht => ⟨fun f => far t i f (by omega), rfl⟩)⟩
theorem s_isDance {post : Int32 → Prop} (h : HC S ad tl tb dl df n g pt dn bt m wg rd) (hok : dOk tl tb → post 1) (hno : ¬ dOk tl tb → post 0) : w_T_isDance post S (ad 2 0) := by
  obtain ⟨-, -, -, -, -, -, a7, a8, a9, a10, -⟩ := h.1
  obtain ⟨b1, b2, b3, b4⟩ := h.2.1
  unfold w_T_isDance
  simp only [b1]
  have e1 : nI tl < 1 ↔ tl < 1 := nI_ltI (b := 1) (by omega) (by decide)
  have e24 : nI tl ≤ 24 ↔ tl ≤ 24 := nI_leI (b := 24) (by omega) (by decide)
  rw [e1, e24]
  refine ⟨fun c => hno (fun d => by have := d.1; omega), fun c => ⟨fun c2 => ?_, fun c2 => hno (fun d => c2 d.2.1)⟩⟩
  refine ⟨fun k u => ∃ i, i ≤ tl ∧ k = tl - i ∧ u = nI i ∧ ∀ j, j < i → ¬ figF (sbt (tb j)) = 0, ⟨tl, 0, Nat.zero_le _, rfl, rfl, fun j hj => absurd hj (Nat.not_lt_zero j)⟩, ?_⟩
  rintro k _ ⟨i, hi, rfl, rfl, hf⟩
  simp only [forall_eq, a8, Option.some.injEq, exists_eq_left', a10]
  refine ⟨fun c3 => ?_, fun c3 => ⟨a9, fun c4 => ?_, fun c4 => ⟨a9, vp_in_nI ?_ (by decide), ?_⟩⟩⟩
  · have : i = tl := by
      have := (nI_leI (by omega) (by omega)).mp c3
      omega
    subst this
    exact hok ⟨by omega, c2, hf⟩
  · have := (nI_leI (by omega) (by omega)).mp c4
    omega
  · have : ¬ 40 ≤ i := fun q => c4 (nI_le q (by omega))
    omega
  · have hlt : i < tl := Nat.not_le.mp fun q => c3 (nI_le q (by omega))
    rw [e_isFigure, nI_clamp (show i < 2 ^ 31 by omega), b4 i hlt]
    refine ⟨fun c5 => hno (fun d => d.2.2 i hlt c5), fun c5 => ⟨tl - (i + 1), by omega, i + 1, hlt, rfl, nI_1 i, fun j hj => ?_⟩⟩
    rcases Nat.lt_or_ge j i with q | q
    · exact hf j q
    · rw [show j = i by omega]; exact c5
theorem s_restart {post : St → Prop} (hj : Inj ad) (hC : CF (kS S I0 R) ad B n m pt dn dl df) (hL : Lk ad B n m I0 I g wg bt) (hk : k < 8) (hp : ∀ I', Lk ad B n m I0 I' (fld (rsF k (dl k) dn) g n) wg bt → post (kS S I' R)) : w_F_restartBehindTheEndOf post (kS S I R) (ad B 0) (some (ad 10 k)) := by
  obtain ⟨⟨f1, f2, f3, f4, f5, f6, f7⟩, rf, dd⟩ := id hC
  have f2 : sQ S 21 (ad B 0) = some (ad (B + 1) 0) := f2
  have hn : n ≤ 8 := f4.2.2.1
  have hA : ∀ i, i < n → isA S 2 (ad (B + 5) i) := f4.2.2.2.1
  have a1 : isA S 0 (ad (B + 1) 0) := f4.1
  have aD : isA S 1 (ad 10 k) := (dd k hk).1
  unfold w_F_restartBehindTheEndOf
  refine ⟨fun q S' v => ∃ i I', S' = kS S I' R ∧ v = nI i ∧ q = n - i ∧ i ≤ n ∧ Lk ad B n m I0 I' (fld (rsF k (dl k) dn) g i) wg bt, ⟨n, 0, I, rfl, rfl, rfl, Nat.zero_le _, hL⟩, ?_⟩
  rintro q S' v ⟨i, I1, rfl, rfl, rfl, hi, hL1⟩
  have z1 : I1 2 (ad (B + 1) 0) = nI n := (hL1.1 2 _ (by decide)).trans f4.2.1
  have z5 : I1 5 (ad 10 k) = nI (dl k) := (hL1.1 5 _ (by decide)).trans (dd k hk).2.2.1
  simp only [forall_eq, kS_Q, kS_A, f2, Option.some.injEq, exists_eq_left', e_size, kS_I, z1, z5]
  refine ⟨a1, fun hc => ?_, fun hc => ⟨a1, ?_⟩⟩
  · have hi2 : i = n := by
      have := (nI_leI (by omega) (by omega)).mp hc
      omega
    subst hi2
    exact hp I1 hL1
  · have hlt : i < n := Nat.not_le.mp fun q => hc ((nI_leI (by omega) (by omega)).mpr q)
    refine s_get ((hC.ev hL1.1).1.2.2.2.1) hlt ?_
    obtain ⟨r1, r2, -⟩ := rf i hlt
    have r1 : sQ S 12 (ad (B + 5) i) = some (ad 10 (dn i)) := r1
    simp only [Option.some.injEq, exists_eq_left', r1, hj.iff, true_and, hL1.vw (show 7 ≤ 13 by decide) hlt]
    have e0 : fld (rsF k (dl k) dn) g (i + 1) = rsF k (dl k) dn (fld (rsF k (dl k) dn) g i) i := rfl
    generalize fld (rsF k (dl k) dn) g i = g1 at hL1 e0 ⊢
    refine ⟨hA i hlt, fun S' => ∃ I', S' = kS S I' R ∧ Lk ad B n m I0 I' (rsF k (dl k) dn g1 i) wg bt, ?_, fun hd => ⟨aD, fun h13 => ⟨I1, rfl, ?_⟩, fun h13 => ⟨_, rfl, ?_⟩⟩, fun hd => ⟨I1, rfl, ?_⟩⟩
    · rintro _ ⟨I2, rfl, hL2⟩
      exact ⟨n - (i + 1), by omega, i + 1, I2, rfl, nI_1 i, rfl, hlt, by rw [e0]; exact hL2⟩
    · unfold rsF; rw [if_pos hd, if_pos h13]; exact hL1
    · unfold rsF; rw [if_pos hd, if_neg h13]; exact hL1.up hj (by decide) hlt
    · unfold rsF; rw [if_neg hd]; exact hL1
theorem s_takeFrom {post : Int32 → St → Prop} (hj : Inj ad) (h : HC S ad tl tb dl df n g pt dn bt m wg rd) (hk : k < 8)
    (hok : dOk tl tb → ∀ R', (∀ a, a ≠ ad 11 k → R' a = sR S a) → (∀ j, R' (ad 11 k) j = lrF df k tl tb k j) → post 1 (kS S (up2 (sI S) 5 (ad 10 k) (nI tl)) R')) (hno : ¬ dOk tl tb → post 0 S) : w_D_takeFrom post S (ad 10 k) (some (ad 2 0)) := by
  obtain ⟨-, -, -, -, -, -, a7, a8, a9, a10, -⟩ := h.1
  obtain ⟨b1, b2, b3, b4⟩ := h.2.1
  obtain ⟨d1, d2, d3, d4, d5, d6, d7, d8⟩ := h.2.2.2.1.2.2 k hk
  unfold w_D_takeFrom
  refine ⟨_, rfl, a7, s_isDance h (fun hd => ⟨fun c => absurd c (by decide), fun _ => ?_⟩) (fun hd => ⟨fun _ => hno hd, fun c => absurd rfl c⟩)⟩
  obtain ⟨t1, t24, tf⟩ := id hd
  simp only [forall_eq, d5, Option.some.injEq, exists_eq_left', b1, d7]
  have e24 : ¬ nI 24 < nI tl := nI_nlt t24 (by decide)
  rw [if_neg e24]
  refine ⟨d6, fun q S' u => ∃ i R', i ≤ tl ∧ q = tl - i ∧ u = nI i ∧ S' = kS S (up2 (sI S) 5 (ad 10 k) (nI tl)) R' ∧ (∀ a, a ≠ ad 11 k → R' a = sR S a) ∧ ∀ j, R' (ad 11 k) j = lrF df k i tb k j, ⟨tl, 0, sR S, Nat.zero_le _, rfl, rfl, rfl, fun _ _ => rfl, fun j => ?_⟩, ?_⟩
  · unfold lrF
    rw [if_neg (by omega)]
    exact d8 j
  · rintro q S' _ ⟨i, R', hi, rfl, rfl, rfl, r1, r2⟩
    have z5 : up2 (sI S) 5 (ad 10 k) (nI tl) 5 (ad 10 k) = nI tl := up2_at
    simp only [forall_eq, kS_Q, kS_A, kS_N, kS_R, kS_I, z5, d5, a8, Option.some.injEq, exists_eq_left', d7, a10]
    by_cases hit : i = tl
    · subst hit
      exact ⟨fun _ => hok hd R' r1 r2, fun c => absurd (nI_le (Nat.le_refl _) (by omega)) c⟩
    · have hlt : i < tl := by omega
      have c1 : ¬ nI tl ≤ nI i := nI_ge hlt (by omega)
      have c2 : ¬ nI 24 ≤ nI i := nI_ge (by omega) (by decide)
      have c3 : ¬ nI 40 ≤ nI i := nI_ge (by omega) (by decide)
      refine ⟨fun c => absurd c c1, fun _ => ⟨d6, fun c => absurd c c2, fun _ => ⟨a9, fun c => absurd c c3, fun _ => ⟨a9, vp_in_nI (by omega) (by decide), d6, vp_in_nI (by omega) (by decide), tl - (i + 1), by omega, i + 1, up2 R' (ad 11 k) i (sbt (tb i)), hlt, rfl, nI_1 i, ?_, fun a ha => (row_f (i := 0) ha).trans (r1 a ha), fun j => ?_⟩⟩⟩⟩
      · rw [nI_clamp (show i < 2 ^ 31 by omega), r1 (ad 3 0) (fun e => by have := (hj _ _ _ _ e).1; omega), b4 i hlt]
        rw [show vp_nar .byte (sbt (tb i)) = sbt (tb i) from pk_vb _]
        rfl
      · unfold lrF
        by_cases c : j = i
        · subst c
          rw [up2_at, if_pos ⟨rfl, by omega⟩]
        · rw [up2_a c, r2]
          unfold lrF
          by_cases c4 : j < i
          · rw [if_pos ⟨rfl, c4⟩, if_pos ⟨rfl, by omega⟩]
          · rw [if_neg (fun q => c4 q.2), if_neg (fun q => by omega)]
theorem s_learn {post : Int32 → St → Prop} {px : String → St → Prop} (hj : Inj ad) (h : HC S ad tl tb dl df n g pt dn bt m wg rd)
    (hok : ∀ k, k < 8 → v = nI k → dOk tl tb → ∀ S', HC S' ad 0 tb (lrL dl k tl) (lrF df k tl tb) n (fld (rsF k tl dn) g n) pt dn bt m wg rd → Fr (fun t _ => 27 ≤ t) S S' ad ad → post (nI tl) S')
    (hbad : ∀ k, k < 8 → v = nI k → ¬ dOk tl tb → ∀ S', HC S' ad 0 tb dl df n g pt dn bt m wg rd → Fr (fun t _ => 27 ≤ t) S S' ad ad → post (-1) S')
    (hno : (¬ ∃ k, k < 8 ∧ v = nI k) → px "java/lang/IndexOutOfBoundsException" S) : w_H_learn post px S (ad 1 0) v := by
  unfold w_H_learn
  refine s_needD h (fun k hk ev => ?_) hno
  obtain ⟨b1, b2, b3, b4⟩ := h.2.1
  refine fun o3 e3 => ⟨_, rfl, h.aD hk, ?_⟩
  rw [e3, h.q33.1]
  refine s_takeFrom hj h hk (fun hd R' r1 r2 => ?_) (fun hd => ?_)
  · generalize hI : up2 (sI S) 5 (ad 10 k) (nI tl) = I7
    have k1 : HC (kS S (up2 I7 25 (ad 2 0) 0) R') ad 0 tb (lrL dl k tl) (lrF df k tl tb) n g pt dn bt m wg rd := by
      refine h.kk (fun a => ?_) (fun a => ?_) ⟨up2_at, by decide, b3, fun j hj' => absurd hj' (Nat.not_lt_zero j)⟩ (fun k' hk' => ?_) ⟨fun f i h1 h2 => ?_, fun f i h1 h2 => ?_, ?_⟩ (fun j p h1 h2 => ?_)
      · rw [up2_f (by decide), ← hI, up2_f (by decide)]
      · rw [up2_f (by decide), ← hI, up2_f (by decide)]
      · obtain ⟨d1, d2, d3, d4, d5, d6, d7, d8⟩ := h.2.2.2.1.2.2 k' hk'
        refine ⟨d1, ?_, ?_, ?_, d5, d6, d7, fun j => ?_⟩
        · rw [kS_I, up2_f (by decide), ← hI, up2_f (by decide)]; exact d2
        · rw [kS_I, up2_f (by decide), ← hI]
          unfold lrL
          by_cases c : k' = k
          · rw [c, up2_at, if_pos rfl]
          · rw [up2_a (fun e => c (hj _ _ _ _ e).2), if_neg c]; exact d3
        · unfold lrL
          split
          · exact hd.2.1
          · exact d4
        · rw [kS_R]
          by_cases c : k' = k
          · rw [c]; exact r2 j
          · rw [r1 _ (fun e => c (hj _ _ _ _ e).2), d8]
            unfold lrF
            rw [if_neg (fun q => c q.1)]
      · rw [up2_a (fun e => by have := (hj _ _ _ _ e).1; omega), ← hI, up2_f (by omega)]; exact h.2.2.2.2.1.1 f i h1 h2
      · rw [up2_a (fun e => by have := (hj _ _ _ _ e).1; omega), ← hI, up2_f (by omega)]; exact h.2.2.2.2.1.2.1 f i h1 h2
      · rw [up2_f (by decide), ← hI, up2_f (by decide)]; exact h.2.2.2.2.1.2.2
      · rw [r1 _ (fun e => by have := (hj _ _ _ _ e).1; omega)]; exact h.2.2.2.2.2.1 j p h1 h2
    have f1 : Fr (fun t _ => 27 ≤ t) S (kS S (up2 I7 25 (ad 2 0) 0) R') ad ad := kfr (fun t i ht => ⟨fun f => by
      rw [up2_a (fun e => by have := (hj _ _ _ _ e).1; omega), ← hI, up2_a (fun e => by have := (hj _ _ _ _ e).1; omega)], r1 _ (fun e => by have := (hj _ _ _ _ e).1; omega)⟩)
    refine fun o9 e9 => ⟨_, e9.trans h.q33.1, h.q33.2, ?_⟩
    intro S12 e12
    have e12 : S12 = kS S (up2 I7 25 (ad 2 0) 0) R' := e12
    rw [← e12] at k1 f1
    clear e12
    refine ⟨fun c => absurd c (by decide), fun _ => fun o e => ⟨_, e.trans k1.qF.1, k1.qF.2, ?_⟩⟩
    refine s_restart (S := S12) (I0 := sI S12) (I := sI S12) (R := sR S12) (B := 20) hj k1.cf k1.lk hk (fun I' hL => ?_)
    have el : lrL dl k tl k = tl := if_pos rfl
    rw [el] at hL
    obtain ⟨q1, q2⟩ := k1.lks hj hL
    have e5 : sI (kS S12 I' (sR S12)) 5 (ad 10 k) = nI tl := ((q1.2.2.2.1.2.2 k hk).2.2.1).trans (by rw [el])
    rw [e5]
    exact hok k hk ev hd _ q1 (f1.tr q2)
  · refine fun o9 e9 => ⟨_, e9.trans h.q33.1, h.q33.2, ?_⟩
    rintro S12 rfl
    refine ⟨fun _ => ?_, fun c => absurd rfl c⟩
    obtain ⟨q1, q2⟩ := h.tape (I := up2 (sI S) 25 (ad 2 0) 0) (R := sR S) (tl' := 0) (tb' := tb) hj (fun f a hne => up2_a hne) (fun _ _ => rfl) ⟨up2_at, by decide, b3, fun j hj' => absurd hj' (Nat.not_lt_zero j)⟩
    exact hbad k hk ev hd _ q1 (q2.mono (fun t _ ht => by omega))
end CLEARN
