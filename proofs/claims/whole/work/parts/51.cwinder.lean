/-! a winder comes -/
def wnR (x y s : Int32) : Prop := (∃ a, a < 16 ∧ x = nI a) ∧ (∃ b, b < 16 ∧ y = nI b) ∧ ∃ k, 1 ≤ k ∧ k ≤ 100 ∧ s = nI k
def wnG (wg : Nat → Nat → Int32) (m : Nat) (x y s : Int32) : Nat → Nat → Int32 := fun k i => if i = m then (if k = 26 then x else if k = 27 then y else if k = 28 then s else 0) else wg k i
section CWIN
variable {S : St} {ad : Nat → Nat → Nat} {tl n m : Nat} {tb dl dn : Nat → Nat} {df g wg rd I R : Nat → Nat → Int32} {pt : Nat → Option Nat} {bt u v : Int32}
theorem s_addWinder {post : Int32 → St → Prop} {px : String → St → Prop} {x y s : Int32} (hj : Inj ad) (h : HC S ad tl tb dl df n g pt dn bt m wg rd) (hrd : m < 3 → ∀ p, p < 8 → rd m p = 0)
    (hok : wnR x y s → m < 3 → ∀ S' ad', Inj ad' → HC S' ad' tl tb dl df n g pt dn bt (m + 1) (wnG wg m x y s) rd → Fr (fun t _ => 30 ≤ t) S S' ad ad' → ad' 1 0 = ad 1 0 → post (nI m) S')
    (hno2 : wnR x y s → ¬ m < 3 → px "java/lang/IllegalStateException" S)
    (hno : ¬ wnR x y s → px "java/lang/IllegalArgumentException" S) : w_H_addWinder post px S (ad 1 0) x y s := by
  unfold w_H_addWinder
  have hm : m ≤ 8 := h.2.2.2.1.1.2.2.2.2.1.2.2.1
  refine s_floor (fun a b ha hb ea eb => ⟨fun q => absurd q (by decide), fun _ => ⟨fun q => hno ?_, fun c1 => ⟨fun c9 => ?_, fun q => hno ?_⟩⟩⟩) (fun q => ⟨fun _ => hno (fun r => q ⟨r.1, r.2.1⟩), fun q => absurd rfl q⟩)
  · rintro ⟨-, -, k, hk, hk2, rfl⟩
    exact nI_nlt (b := 1) hk (by omega) q
  · have hr : wnR x y s := ⟨⟨a, ha, ea⟩, ⟨b, hb, eb⟩, rgM (lo := 1) (hi := 100) (by decide) (by decide) c1 c9⟩
    replace hok := hok hr
    replace hno2 := hno2 hr
    have l1 : LiS S ad 23 24 26 5 m := h.2.2.2.1.1.2.2.2.2.1
    have q22 : sQ S 22 (ad 20 0) = some (ad 23 0) := h.2.2.2.1.1.2.2.1
    refine fun o eo => ⟨_, eo.trans h.qF.1, h.qF.2, fun o eo => ⟨_, eo.trans q22, l1.1, ?_⟩⟩
    rw [e_size, l1.2.1]
    have e3 : nI m < 3 ↔ m < 3 := nI_ltI (b := 3) (by omega) (by decide)
    rw [e3]
    refine ⟨fun hm3 => ?_, fun q => hno2 q⟩
    replace hok := hok hm3
    replace hrd := hrd hm3
    intro q S11 hq e11
    have a1 : ad 1 0 ≠ q := fun e => hq (by rw [← e]; exact h.1.1.1)
    have j1 : Inj (sw ad 26 m q) := sw_inj hj
    have x1 : sw ad 26 m q 1 0 = ad 1 0 := sw_ne (fun e => absurd e.1 (by decide)) a1
    have F11 : Fr (fun t i => ¬ (t = 26 ∧ i = m)) S S11 ad (sw ad 26 m q) := by rw [e11]; exact Fr.sw hq
    have xq : sw ad 26 m q 26 m = q := sw_at
    have i11 : ∀ k, sI S11 k q = 0 := fun k => by rw [e11]; exact if_pos rfl
    have k11 : isA S11 5 q := by rw [e11]; exact isA_new (S := S) (n := 0)
    clear e11
    rw [← x1]
    generalize sw ad 26 m q = ad1 at *
    subst xq
    unfold w_N_init
    intro q2 S2 hq2 e2
    have a2 : ad1 1 0 ≠ q2 := fun e => hq2 (by rw [← e, x1]; exact (F11.1.1 _ h.1.1.1).1)
    have a26 : ad1 26 m ≠ q2 := fun e => hq2 (by rw [← e]; exact k11.1)
    have j2 : Inj (sw ad1 27 m q2) := sw_inj j1
    have x2 : sw ad1 27 m q2 1 0 = ad1 1 0 := sw_ne (fun e => absurd e.1 (by decide)) a2
    have x26 : sw ad1 27 m q2 26 m = ad1 26 m := sw_ne (fun e => absurd e.1 (by decide)) a26
    have F2 : Fr (fun t i => ¬ (t = 27 ∧ i = m)) S11 S2 ad1 (sw ad1 27 m q2) := by rw [e2]; exact Fr.sw hq2
    have xq2 : sw ad1 27 m q2 27 m = q2 := sw_at
    have i2 : ∀ k, sI S2 k (ad1 26 m) = 0 := fun k => by rw [e2]; exact (if_neg a26).trans (i11 k)
    have k2 : isA S2 5 (ad1 26 m) := by rw [e2]; exact gle_isA (gle_new hq2) k11
    have k27 : isA S2 10 q2 := by rw [e2]; exact isA_new (S := S11) (n := 8)
    have n27 : sN S2 q2 = 8 := by rw [e2]; exact len_new (S := S11) (k := 10)
    have r27 : sR S2 q2 = fun _ => 0 := by rw [e2]; exact if_pos rfl
    have FF : Fr (fun t i => ¬ (t = 26 ∧ i = m) ∧ ¬ (t = 27 ∧ i = m)) S S2 ad (sw ad1 27 m q2) := (F11.mono (fun t i z => z.1)).tr (F2.mono (fun t i z => z.2))
    clear e2
    rw [← x26] at i2 k2 ⊢
    rw [← x2] at x1 ⊢
    clear x2 F11 F2 k11 i11 j1 a1 a2 a26 hq hq2
    generalize sw ad1 27 m q2 = ad2 at *
    subst xq2
    clear x26
    have pU : ∀ t i, t < 45 → (t = 25 → i < n) → (t = 26 ∨ t = 27 → i < m) → ¬ (t = 26 ∧ i = m) ∧ ¬ (t = 27 ∧ i = m) := fun t i _ _ h3 => ⟨fun e => by have := h3 (Or.inl e.1); omega, fun e => by have := h3 (Or.inr e.1); omega⟩
    intro S13 e13 S15 e15 S16 e16 S17 e17
    have nm := nam (P := fun t i => ¬ (t = 26 ∧ i = m) ∧ ¬ (t = 27 ∧ i = m)) (S := S2) (ad := ad2) (t0 := 26) (i0 := m) j2 (fun z => z.1 ⟨rfl, rfl⟩)
    have F17 : Fr (fun t i => ¬ (t = 26 ∧ i = m) ∧ ¬ (t = 27 ∧ i = m)) S2 S17 ad2 ad2 := by
      rw [e17, e16, e15, e13]
      exact (((Fr.rf.Q nm).I nm).I nm).I nm
    have h17 : HC S17 ad2 tl tb dl df n g pt dn bt m wg rd := h.fr (FF.tr F17) pU
    have i17 : ∀ k, 7 ≤ k → sI S17 k (ad2 26 m) = wnG wg m x y s k m := by
      intro k hk
      rw [e17, e16, e15, e13]
      unfold wnG
      rw [if_pos rfl]
      simp only [sI, pI, pQ, mS, up2, and_true]
      have z := i2 k
      simp only [sI] at z
      by_cases c28 : k = 28
      · subst c28; simp
      · by_cases c27 : k = 27
        · subst c27; simp
        · by_cases c26 : k = 26
          · subst c26; simp
          · simp [c28, c27, c26, z]
    have o29 : sQ S17 29 (ad2 26 m) = some (ad2 27 m) := by
      rw [e17, e16, e15, e13]
      exact up2_at
    have k17 : isA S17 5 (ad2 26 m) := gle_isA F17.1 k2
    have k17' : isA S17 10 (ad2 27 m) := gle_isA F17.1 k27
    have n17 : sN S17 (ad2 27 m) = 8 := (gle_len F17.1 k27).trans n27
    have r17 : sR S17 (ad2 27 m) = fun _ => 0 := by rw [e17, e16, e15, e13]; exact r27
    clear e17 e16 e15 e13
    have q22 : sQ S17 22 (ad2 20 0) = some (ad2 23 0) := h17.2.2.2.1.1.2.2.1
    refine fun o eo => ⟨_, eo.trans h17.qF.1, h17.qF.2, fun o eo => ⟨_, eo.trans q22, h17.2.2.2.1.1.2.2.2.2.1.1, ?_⟩⟩
    refine s_addN (B := 20) j2 h17.2.2.2.1.1 (by omega) k17 ⟨o29, k17', n17⟩ (fun S' ad' j' hF hf => ?_)
    have p : ∀ t i, t ≠ 23 → t ≠ 24 → NL 23 24 t i := fun t i h1 h2 => ⟨fun q => h1 q.1, fun q => h2 q.1⟩
    have xx : ad' 1 0 = ad2 1 0 := (hf.a (p 1 0 (by decide) (by decide)) h17.1.1).1
    refine hok S' ad' j' ?_ (((FF.tr F17).mono (P' := fun t _ => 30 ≤ t) (fun t i ht => ⟨fun q => by omega, fun q => by omega⟩)).tr (hf.mono (fun t i ht => p t i (by omega) (by omega)))) (xx.trans x1)
    obtain ⟨⟨a1, a2, a3, a4, a5, a6, a7, a8, a9, a10, a11, a12⟩, ⟨b1, b2, b3, b4⟩, cc, ⟨d1, d2, d3⟩, ⟨e1, e2, e3⟩, ff, n2, m2, g1, g2, g3⟩ := id h17
    have q1 : ∀ i, NL 23 24 1 i := fun i => p 1 i (by decide) (by decide)
    have q2 : ∀ i, NL 23 24 2 i := fun i => p 2 i (by decide) (by decide)
    have q3 : ∀ i, NL 23 24 3 i := fun i => p 3 i (by decide) (by decide)
    have q4 : ∀ i, NL 23 24 4 i := fun i => p 4 i (by decide) (by decide)
    have q10 : ∀ i, NL 23 24 10 i := fun i => p 10 i (by decide) (by decide)
    have q20 : ∀ i, NL 23 24 20 i := fun i => p 20 i (by decide) (by decide)
    have q25 : ∀ i, NL 23 24 25 i := fun i => p 25 i (by decide) (by decide)
    have q26 : ∀ i, NL 23 24 26 i := fun i => p 26 i (by decide) (by decide)
    have q27 : ∀ i, NL 23 24 27 i := fun i => p 27 i (by decide) (by decide)
    have q30 : ∀ i, NL 23 24 30 i := fun i => p 30 i (by decide) (by decide)
    have q40 : ∀ i, NL 23 24 40 i := fun i => p 40 i (by decide) (by decide)
    have hA := d1.2.2.2.1.2.2.2.1
    refine ⟨⟨(hf.a (q1 0) a1).2.1, hf.qs (q1 0) a1 (q2 0) a7 a2, hf.qs (q1 0) a1 (q4 0) cc.1 a3, hf.qs (q1 0) a1 (q10 0) (d3 0 (by decide)).1 a4, hf.qs (q1 0) a1 (q20 0) d1.1 a5, hf.qs (q1 0) a1 (q30 0) g3.1 a6, (hf.a (q2 0) a7).2.1, hf.qs (q2 0) a7 (q3 0) a9 a8, (hf.a (q3 0) a9).2.1, (hf.a (q3 0) a9).2.2.trans a10, (hf.a (q40 0) a11).2.1, (hf.a (q40 0) a11).2.2.trans a12⟩, ⟨(hf.i (q2 0) a7).trans b1, b2, b3, fun j hj => by rw [hf.r (q3 0) a9]; exact b4 j hj⟩, cc.fr hf (q4 0) (p 5 0 (by decide) (by decide)) (fun i _ => q10 i), ⟨hF, fun i hi => ?_, d3.fr hf (fun t i h1 h2 => p t i (by omega) (by omega))⟩, ⟨fun k i k1 k2 => ?_, fun k i k1 k2 => ?_, (hf.i (q20 0) d1.1).trans e3⟩, fun j w hj hw => ?_, n2, m2, g1, by omega, g3.fr hf (fun t i hu => p t i (by unfold FU at hu; omega) (by unfold FU at hu; omega))⟩
    · obtain ⟨r1, r2, r3, r4⟩ := d2 i hi
      refine ⟨hf.qs (q25 i) (hA i hi) (q10 _) (d3 _ r2).1 r1, r2, ?_, r4⟩
      rw [hf.q (q25 i) (hA i hi), r3]
      cases hp : pt i with
      | none => rfl
      | some j => exact congrArg some (hf.a (q25 j) (hA j (r4 j hp))).1.symm
    · exact (hf.i (q25 i) (hA i k2)).trans (e1 k i k1 k2)
    · by_cases ci : i = m
      · subst ci; exact (hf.i (q26 i) k17).trans (i17 k k1)
      · rw [hf.i (q26 i) (d1.2.2.2.2.1.2.2.2.1 i (by omega)), e2 k i k1 (by omega)]
        unfold wnG
        rw [if_neg ci]
    · by_cases cj : j = m
      · subst cj
        rw [hf.r (t := 27) (i := j) (q27 j) k17', r17, hrd w hw]
      · rw [hf.r (t := 27) (i := j) (q27 j) (d1.2.2.2.2.2.1 j (by omega)).2.1]
        exact ff j w (by omega) hw
  · rintro ⟨-, -, k, hk, hk2, rfl⟩
    exact q (nI_le (b := 100) hk2 (by decide))
end CWIN
