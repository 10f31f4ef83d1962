/-! who comes -/
def cmR (x y f c : Int32) : Prop := (∃ a, a < 16 ∧ x = nI a) ∧ (∃ b, b < 16 ∧ y = nI b) ∧ (∃ k, k < 4 ∧ f = nI k) ∧ ∃ k, 1 ≤ k ∧ k ≤ 9 ∧ c = nI k
def cmG (g : Nat → Nat → Int32) (n : Nat) (x y f c : Int32) : Nat → Nat → Int32 := fun k i => if i = n then (if k = 7 then x else if k = 8 then y else if k = 9 then f else if k = 10 then 100 else if k = 11 then c else 0) else g k i
theorem rgL {v : Int32} {N : Nat} (hN : N < 2 ^ 31) (h0 : ¬ v < 0) (h : ¬ nI N ≤ v) : ∃ k, k < N ∧ v = nI k := by
  obtain ⟨j, hj, rfl⟩ := nI_of h0
  exact ⟨j, Nat.not_le.mp fun q => h (nI_le q hj), rfl⟩
theorem rgM {v : Int32} {lo hi : Nat} (hl : lo < 2 ^ 31) (hh : hi < 2 ^ 31) (h0 : ¬ v < nI lo) (h : v ≤ nI hi) : ∃ k, lo ≤ k ∧ k ≤ hi ∧ v = nI k := by
  have h1 : ¬ v < 0 := fun c => h0 (by
    have := nI_pos' hl
    rw [Int32.lt_iff_toInt_lt] at c ⊢
    rw [Int32.le_iff_toInt_le] at this
    omega)
  obtain ⟨j, hj, rfl⟩ := nI_of h1
  exact ⟨j, Nat.not_lt.mp fun q => h0 (nI_lt q hl), (nI_leI hj hh).mp h, rfl⟩
section CCOME
variable {S : St} {ad : Nat → Nat → Nat} {tl n m : Nat} {tb dl dn : Nat → Nat} {df g wg rd I R : Nat → Nat → Int32} {pt : Nat → Option Nat} {bt u v : Int32}
theorem s_come {post : Int32 → St → Prop} {px : String → St → Prop} {x y f c : Int32} (hj : Inj ad) (h : HC S ad tl tb dl df n g pt dn bt m wg rd)
    (hok : cmR x y f c → n < 8 → whoF n g x y = none → ∀ S' ad', Inj ad' → HC S' ad' tl tb dl df (n + 1) (cmG g n x y f c) (ptM pt n) (dnC dn n 0) bt m wg rd → Fr (fun t _ => 30 ≤ t) S S' ad ad' → ad' 1 0 = ad 1 0 → post (nI n) S')
    (hno2 : cmR x y f c → ¬ (n < 8 ∧ whoF n g x y = none) → px "java/lang/IllegalStateException" S)
    (hno : ¬ cmR x y f c → px "java/lang/IllegalArgumentException" S) : w_H_come post px S (ad 1 0) x y f c := by
  unfold w_H_come
  have hn := h.n8
  refine s_floor (fun a b ha hb ea eb => ⟨fun q => absurd q (by decide), fun _ => ⟨fun q => hno ?_, fun f0 => ⟨fun q => hno ?_, fun f4 => ⟨fun q => hno ?_, fun c1 => ⟨fun c9 => ?_, fun q => hno ?_⟩⟩⟩⟩⟩) (fun q => ⟨fun _ => hno (fun r => q ⟨r.1, r.2.1⟩), fun q => absurd rfl q⟩)
  · rintro ⟨-, -, ⟨k, hk, rfl⟩, -⟩
    exact nI_pos (by omega) q
  · rintro ⟨-, -, ⟨k, hk, rfl⟩, -⟩
    exact nI_ge (b := 4) hk (by decide) q
  · rintro ⟨-, -, -, k, hk, hk2, rfl⟩
    exact nI_nlt (b := 1) hk (by omega) q
  · have hr : cmR x y f c := ⟨⟨a, ha, ea⟩, ⟨b, hb, eb⟩, rgL (N := 4) (by decide) f0 f4, rgM (lo := 1) (hi := 9) (by decide) (by decide) c1 c9⟩
    replace hok := hok hr
    replace hno2 := hno2 hr
    have l1 : LiS S ad 21 22 25 2 n := h.2.2.2.1.1.2.2.2.1
    have q21 : sQ S 21 (ad 20 0) = some (ad 21 0) := h.2.2.2.1.1.2.1
    refine fun o eo => ⟨_, eo.trans h.qF.1, h.qF.2, fun o eo => ⟨_, eo.trans q21, l1.1, ?_⟩⟩
    rw [e_size, l1.2.1]
    have e8 : (8 : Int32) ≤ nI n ↔ 8 ≤ n := nI_leI (a := 8) (by decide) (by omega)
    rw [e8]
    refine ⟨fun q => hno2 (fun r => by omega), fun q => fun o eo => ⟨_, eo.trans h.qF.1, h.qF.2, ?_⟩⟩
    have hn8 : n < 8 := by omega
    refine s_who (S := S) (I := sI S) (R := sR S) h.cf h.lk ?_
    have ew : fst' (fun i => g 7 i = x ∧ g 8 i = y) n = whoF n g x y := rfl
    rw [ew]
    cases hw : whoF n g x y with
    | some i => exact ⟨(fun q => by cases q), fun _ _ => hno2 (fun r => by rw [hw] at r; cases r.2)⟩
    | none =>
      refine ⟨fun _ => ?_, fun y q => by cases q⟩
      replace hok := hok hn8 hw
      intro q S14 hq e14
      have a1 : ad 1 0 ≠ q := fun e => hq (by rw [← e]; exact h.1.1.1)
      have j1 : Inj (sw ad 25 n q) := sw_inj hj
      have x1 : sw ad 25 n q 1 0 = ad 1 0 := sw_ne (fun e => absurd e.1 (by decide)) a1
      have F14 : Fr (fun t i => ¬ (t = 25 ∧ i = n)) S S14 ad (sw ad 25 n q) := by rw [e14]; exact Fr.sw hq
      have xq : sw ad 25 n q 25 n = q := sw_at
      have i14 : ∀ k, sI S14 k q = 0 := fun k => by rw [e14]; exact if_pos rfl
      have o14 : ∀ k, sQ S14 k q = none := fun k => by rw [e14]; exact if_pos rfl
      have k14 : isA S14 2 q := by rw [e14]; exact isA_new (S := S) (n := 0)
      clear e14
      rw [← x1]
      generalize sw ad 25 n q = ad1 at *
      subst xq
      have pU : ∀ t i, t < 45 → (t = 25 → i < n) → (t = 26 ∨ t = 27 → i < m) → ¬ (t = 25 ∧ i = n) := fun t i _ h2 _ e => by have := h2 e.1; omega
      have h14 : HC S14 ad1 tl tb dl df n g pt dn bt m wg rd := h.fr F14 pU
      have q35 : sQ S14 35 (ad1 1 0) = some (ad1 10 0) := h14.1.2.2.2.1
      have q21 : sQ S14 21 (ad1 20 0) = some (ad1 21 0) := h14.2.2.2.1.1.2.1
      have l14 : LiS S14 ad1 21 22 25 2 n := h14.2.2.2.1.1.2.2.2.1
      refine fun o eo => ⟨_, eo.trans h14.qF.1, h14.qF.2, fun o eo => ⟨_, eo.trans q21, l14.1, ?_⟩⟩
      rw [e_size, l14.2.1]
      intro o23 e23
      unfold w_R_init
      intro S1 e1 S2 e2 S3 e3 S24 e24 S26 e26 S27 e27 S28 e28 S29 e29
      rw [e23, q35] at e24
      have nm := nam (P := fun t i => ¬ (t = 25 ∧ i = n)) (S := S14) (ad := ad1) (t0 := 25) (i0 := n) j1 (fun z => z ⟨rfl, rfl⟩)
      have F29 : Fr (fun t i => ¬ (t = 25 ∧ i = n)) S14 S29 ad1 ad1 := by
        rw [e29, e28, e27, e26, e24, e3, e2, e1]
        exact (((((((Fr.rf.I nm).I nm).I nm).Q nm).I nm).I nm).I nm).I nm
      have h29 : HC S29 ad1 tl tb dl df n g pt dn bt m wg rd := h14.fr F29 pU
      have i29 : ∀ k, 7 ≤ k → sI S29 k (ad1 25 n) = cmG g n x y f c k n := by
        intro k hk
        rw [e29, e28, e27, e26, e24, e3, e2, e1]
        unfold cmG
        rw [if_pos rfl]
        simp only [sI, pI, pQ, mS, up2, and_true]
        have z := i14 k
        simp only [sI] at z
        by_cases c11 : k = 11
        · subst c11; simp
        · by_cases c9 : k = 9
          · subst c9; simp
          · by_cases c8 : k = 8
            · subst c8; simp
            · by_cases c7 : k = 7
              · subst c7; simp
              · by_cases c10 : k = 10
                · subst c10; simp
                · have c6 : k ≠ 6 := by omega
                  simp [c11, c9, c8, c7, c10, c6, z]
      have n29 : sI S29 6 (ad1 25 n) = nI n := by
        rw [e29, e28, e27, e26, e24, e3]
        simp only [sI, pI, pQ, mS, up2, and_true]
        simp
      have o12 : sQ S29 12 (ad1 25 n) = some (ad1 10 0) := by
        rw [e29, e28, e27, e26, e24]
        exact up2_at
      have o14' : sQ S29 14 (ad1 25 n) = none := by
        rw [e29, e28, e27, e26, e24, e3, e2, e1]
        simp only [sQ, pI, pQ, mS, up2]
        rw [if_neg (fun q => absurd q.1 (by decide))]
        exact o14 14
      have k29 : isA S29 2 (ad1 25 n) := gle_isA F29.1 k14
      clear e29 e28 e27 e26 e24 e3 e2 e1 e23
      have q21 : sQ S29 21 (ad1 20 0) = some (ad1 21 0) := h29.2.2.2.1.1.2.1
      refine fun o eo => ⟨_, eo.trans h29.qF.1, h29.qF.2, fun o eo => ⟨_, eo.trans q21, h29.2.2.2.1.1.2.2.2.1.1, ?_⟩⟩
      refine s_addR (B := 20) j1 h29.2.2.2.1.1 hn8 k29 n29 (fun S' ad' j' hF hf => ?_)
      have p : ∀ t i, t ≠ 21 → t ≠ 22 → NL 21 22 t i := fun t i h1 h2 => ⟨fun q => h1 q.1, fun q => h2 q.1⟩
      have x25 : ad' 25 n = ad1 25 n := (hf.a (p 25 n (by decide) (by decide)) k29).1
      have n' : sI S' 6 (ad1 25 n) = nI n := by rw [← x25]; exact (hf.i (p 25 n (by decide) (by decide)) k29).trans n29
      rw [n']
      have xx : ad' 1 0 = ad1 1 0 := (hf.a (p 1 0 (by decide) (by decide)) h29.1.1).1
      refine hok S' ad' j' ?_ (((F14.tr F29).mono (P' := fun t _ => 30 ≤ t) (fun t i ht q => by omega)).tr (hf.mono (fun t i ht => p t i (by omega) (by omega)))) (xx.trans x1)
      obtain ⟨⟨a1, a2, a3, a4, a5, a6, a7, a8, a9, a10, a11, a12⟩, ⟨b1, b2, b3, b4⟩, cc, ⟨d1, d2, d3⟩, ⟨e1, e2, e3⟩, ff, n2, m2, g1, g2, g3⟩ := id h29
      have q1 : ∀ i, NL 21 22 1 i := fun i => p 1 i (by decide) (by decide)
      have q2 : ∀ i, NL 21 22 2 i := fun i => p 2 i (by decide) (by decide)
      have q3 : ∀ i, NL 21 22 3 i := fun i => p 3 i (by decide) (by decide)
      have q4 : ∀ i, NL 21 22 4 i := fun i => p 4 i (by decide) (by decide)
      have q10 : ∀ i, NL 21 22 10 i := fun i => p 10 i (by decide) (by decide)
      have q20 : ∀ i, NL 21 22 20 i := fun i => p 20 i (by decide) (by decide)
      have q25 : ∀ i, NL 21 22 25 i := fun i => p 25 i (by decide) (by decide)
      have q26 : ∀ i, NL 21 22 26 i := fun i => p 26 i (by decide) (by decide)
      have q27 : ∀ i, NL 21 22 27 i := fun i => p 27 i (by decide) (by decide)
      have q30 : ∀ i, NL 21 22 30 i := fun i => p 30 i (by decide) (by decide)
      have q40 : ∀ i, NL 21 22 40 i := fun i => p 40 i (by decide) (by decide)
      have hA := d1.2.2.2.1.2.2.2.1
      refine ⟨⟨(hf.a (q1 0) a1).2.1, hf.qs (q1 0) a1 (q2 0) a7 a2, hf.qs (q1 0) a1 (q4 0) cc.1 a3, hf.qs (q1 0) a1 (q10 0) (d3 0 (by decide)).1 a4, hf.qs (q1 0) a1 (q20 0) d1.1 a5, hf.qs (q1 0) a1 (q30 0) g3.1 a6, (hf.a (q2 0) a7).2.1, hf.qs (q2 0) a7 (q3 0) a9 a8, (hf.a (q3 0) a9).2.1, (hf.a (q3 0) a9).2.2.trans a10, (hf.a (q40 0) a11).2.1, (hf.a (q40 0) a11).2.2.trans a12⟩, ⟨(hf.i (q2 0) a7).trans b1, b2, b3, fun j hj => by rw [hf.r (q3 0) a9]; exact b4 j hj⟩, cc.fr hf (q4 0) (p 5 0 (by decide) (by decide)) (fun i _ => q10 i), ⟨hF, fun i hi => ?_, d3.fr hf (fun t i h1 h2 => p t i (by omega) (by omega))⟩, ⟨fun k i k1 k2 => ?_, fun k i k1 k2 => ?_, (hf.i (q20 0) d1.1).trans e3⟩, fun j w hj hw => ?_, n2, m2, by omega, g2, g3.fr hf (fun t i hu => p t i (by unfold FU at hu; omega) (by unfold FU at hu; omega))⟩
      · by_cases ci : i = n
        · subst ci
          refine ⟨?_, ?_, ?_, ?_⟩
          · rw [hf.qs (q25 i) k29 (q10 0) (d3 0 (by decide)).1 o12]
            unfold dnC
            rw [if_pos rfl]
          · unfold dnC; rw [if_pos rfl]; decide
          · rw [hf.q (q25 i) k29, o14']
            unfold ptM
            rw [if_pos rfl]; rfl
          · intro j hj
            unfold ptM at hj
            rw [if_pos rfl] at hj
            cases hj
        · have hi : i < n := by omega
          obtain ⟨r1, r2, r3, r4⟩ := d2 i hi
          unfold dnC ptM
          rw [if_neg ci, if_neg ci]
          refine ⟨hf.qs (q25 i) (hA i hi) (q10 _) (d3 _ r2).1 r1, r2, ?_, fun j hj => by have := r4 j hj; omega⟩
          rw [hf.q (q25 i) (hA i hi), r3]
          cases hp : pt i with
          | none => rfl
          | some j => exact congrArg some (hf.a (q25 j) (hA j (r4 j hp))).1.symm
      · by_cases ci : i = n
        · subst ci; exact (hf.i (q25 i) k29).trans (i29 k k1)
        · rw [hf.i (q25 i) (hA i (by omega)), e1 k i k1 (by omega)]
          unfold cmG
          rw [if_neg ci]
      · exact (hf.i (q26 i) (d1.2.2.2.2.1.2.2.2.1 i k2)).trans (e2 k i k1 k2)
      · rw [hf.r (t := 27) (i := j) (q27 j) (d1.2.2.2.2.2.1 j hj).2.1]
        exact ff j w hj hw
  · rintro ⟨-, -, -, k, hk, hk2, rfl⟩
    exact q (nI_le (b := 9) hk2 (by decide))
end CCOME
