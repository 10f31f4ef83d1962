/-! who comes, in the reference -/
section MCOME
variable {S : St} {ad : Nat → Nat → Nat} {tl n m : Nat} {tb dl dn : Nat → Nat} {df g wg rd I R : Nat → Nat → Int32} {pt : Nat → Option Nat} {bt u v : Int32}
theorem s_mcome {post : Int32 → St → Prop} {x y f c : Int32} (hj : Inj ad) (h : HM S ad tl tb dl df n g pt dn bt m wg rd) (hO : Ok n g pt dn dl) (hg0 : ∀ f i, mInt f → n ≤ i → g f i = 0)
    (hok : cmR x y f c → n < 8 → whoF n g x y = none → ∀ S', MR S ad 0 tl tb dl df (n + 1) (cmG g n x y f c) (ptM pt n) (dnC dn n 0) bt m wg rd S' → post (nI n) S')
    (hno2 : cmR x y f c → ¬ (n < 8 ∧ whoF n g x y = none) → ∀ S', MR S ad 2 tl tb dl df n g pt dn bt m wg rd S' → post 0 S')
    (hno : ¬ cmR x y f c → ∀ S', MR S ad 1 tl tb dl df n g pt dn bt m wg rd S' → post 0 S') : w_M_come post S (ad 100 0) x y f c := by
  unfold w_M_come
  rintro S1 rfl
  have h1 : HM (pI S 56 (ad 100 0) 0) ad tl tb dl df n g pt dn bt m wg rd := h.th
  have f1 : Fr (fun t _ => t < 45) S (pI S 56 (ad 100 0) 0) ad ad := fr_th hj
  have e56 : sI (pI S 56 (ad 100 0) 0) 56 (ad 100 0) = 0 := th_at
  generalize pI S 56 (ad 100 0) 0 = S1 at *
  have hn := h1.mc.2.1
  refine s_inR 0 15 (by decide) (by decide) (fun a _ ha ea => ⟨w_M_no (fun r4 S5 => post r4 S5) S1 (ad 100 0) 1, id, fun c => absurd c (by decide), fun _ => ?_⟩) (fun c => ⟨w_M_no (fun r4 S5 => post r4 S5) S1 (ad 100 0) 1, id, fun _ => s_no hj h1 f1 (hno (fun ⟨⟨k, hk, e⟩, _⟩ => c ⟨k, Nat.zero_le _, by omega, e⟩)), fun c => absurd rfl c⟩)
  refine s_inR 0 15 (by decide) (by decide) (fun b _ hb eb => ⟨fun c => absurd c (by decide), fun _ => ?_⟩) (fun c => ⟨fun _ => s_no hj h1 f1 (hno (fun ⟨_, ⟨k, hk, e⟩, _⟩ => c ⟨k, Nat.zero_le _, by omega, e⟩)), fun c => absurd rfl c⟩)
  refine s_inR 0 3 (by decide) (by decide) (fun d _ hd ed => ⟨fun c => absurd c (by decide), fun _ => ?_⟩) (fun c => ⟨fun _ => s_no hj h1 f1 (hno (fun ⟨_, _, ⟨k, hk, e⟩, _⟩ => c ⟨k, Nat.zero_le _, by omega, e⟩)), fun c => absurd rfl c⟩)
  refine s_inR 1 9 (by decide) (by decide) (fun o ho1 ho2 eo => ⟨fun c => absurd c (by decide), fun _ => ?_⟩) (fun c => ⟨fun _ => s_no hj h1 f1 (hno (fun ⟨_, _, _, k, hk, hk2, e⟩ => c ⟨k, hk, hk2, e⟩)), fun c => absurd rfl c⟩)
  have hr : cmR x y f c := ⟨⟨a, by omega, ea⟩, ⟨b, by omega, eb⟩, ⟨d, by omega, ed⟩, o, ho1, ho2, eo⟩
  replace hok := hok hr
  replace hno2 := hno2 hr
  refine fun o eo => ⟨_, eo.trans h1.qS.1, h1.qS.2, ?_⟩
  refine s_at (S := S1) (I := sI S1) (R := sR S1) h1.mc h1.mk hO.2.1 ?_
  refine ⟨w_M_no (fun r14 S15 => post r14 S15) S1 (ad 100 0) 2, id, fun c1 => ?_, fun c1 => s_no hj h1 f1 (hno2 (fun q => c1 (by rw [q.2]; rfl)))⟩
  have hw : whoF n g x y = none := (ptI_none (fun j hj => by have := whoF_lt hj; omega)).mp c1
  refine fun o eo => ⟨_, eo.trans h1.qS.1, h1.qS.2, ?_⟩
  rw [h1.mc.2.2.2.1]
  have c8 : nI n = 8 ↔ n = 8 := nI_eq (b := 8) (by omega) (by decide)
  rw [c8]
  refine ⟨fun q => s_no hj h1 f1 (hno2 (fun r => by omega)), fun q => ?_⟩
  have hn8 : n < 8 := by omega
  replace hok := hok hn8 hw
  refine fun o eo => ⟨_, eo.trans h1.qS.1, h1.qS.2, ?_⟩
  rw [h1.mc.2.2.2.1]
  rintro _ rfl
  have hin : vp_in (nI n) 8 := vp_in_nI hn8 (by decide)
  obtain ⟨a1, a2, a3⟩ := h1.row (f := 7) (by unfold mRow; omega)
  obtain ⟨b1, b2, b3⟩ := h1.row (f := 8) (by unfold mRow; omega)
  obtain ⟨c1, c2, c3⟩ := h1.row (f := 9) (by unfold mRow; omega)
  obtain ⟨d1, d2, d3⟩ := h1.row (f := 11) (by unfold mRow; omega)
  have v7 : vp_in (nI n) (sN S1 (ad 57 0)) := by rw [show sN S1 (ad 57 0) = 8 from a3]; exact hin
  have v8 : vp_in (nI n) (sN S1 (ad 58 0)) := by rw [show sN S1 (ad 58 0) = 8 from b3]; exact hin
  have v9 : vp_in (nI n) (sN S1 (ad 59 0)) := by rw [show sN S1 (ad 59 0) = 8 from c3]; exact hin
  have v11 : vp_in (nI n) (sN S1 (ad 61 0)) := by rw [show sN S1 (ad 61 0) = 8 from d3]; exact hin
  have v10 : vp_in (nI n) (sN S1 (ad 60 0)) := by rw [h1.r10.2.2]; exact hin
  have v14 : vp_in (nI n) (sN S1 (ad 64 0)) := by rw [h1.r14.2.2]; exact hin
  refine fun o eo => ⟨_, eo.trans h1.qS.1, h1.qS.2, fun o eo => ⟨_, eo.trans a1, a2, v7, ?_⟩⟩
  rw [nI_clamp (show n < 2 ^ 31 by omega)]
  rintro S31 e31
  have z31 : sQ S31 = sQ S1 ∧ sL S31 = sL S1 ∧ sK S31 = sK S1 ∧ sN S31 = sN S1 ∧ sI S31 = sI S1 := by rw [e31]; exact ⟨rfl, rfl, rfl, rfl, rfl⟩
  have step : ∀ (S2 : St) (f : Nat) (w : Int32) (K : St → Prop), (sQ S2 = sQ S1 ∧ sL S2 = sL S1 ∧ sK S2 = sK S1 ∧ sN S2 = sN S1 ∧ sI S2 = sI S1) → mRow f → mKind f = 10 → vp_in (nI n) (sN S1 (ad (50 + f) 0)) → (∀ S', (sQ S' = sQ S1 ∧ sL S' = sL S1 ∧ sK S' = sK S1 ∧ sN S' = sN S1 ∧ sI S' = sI S1) → S' = pR S2 (ad (50 + f) 0) n w → K S') → ∀ o : Option Nat, o = sQ S2 61 (ad 100 0) → ∃ y : Nat, o = some y ∧ isA S2 7 y ∧ ∀ o2 : Option Nat, o2 = sQ S2 (f + 33) y → ∃ y2 : Nat, o2 = some y2 ∧ isA S2 10 y2 ∧ vp_in (nI n) (sN S2 y2) ∧ ∀ S' : St, S' = pR S2 y2 n w → K S' := by
    intro S2 f w K hz hf hk hv hK o eo
    obtain ⟨x1, x2, x3⟩ := h1.row hf
    rw [hk] at x2
    have tA : ∀ k a, isA S1 k a → isA S2 k a := fun k a q => by
      unfold isA
      rw [hz.2.1, hz.2.2.1]; exact q
    refine ⟨ad 50 0, by rw [eo, hz.1]; exact h1.qS.1, tA _ _ h1.qS.2, fun o2 eo2 => ⟨_, by rw [eo2, hz.1]; exact x1, tA _ _ x2, by rw [hz.2.2.2.1]; exact hv, fun S' e' => hK S' (by rw [e']; exact hz) e'⟩⟩
  refine step S31 8 y _ z31 (by unfold mRow; omega) rfl v8 (fun S39 z39 e39 => ?_)
  refine step S39 9 f _ z39 (by unfold mRow; omega) rfl v9 (fun S47 z47 e47 => ?_)
  refine step S47 11 c _ z47 (by unfold mRow; omega) rfl v11 (fun S55 z55 e55 => ?_)
  refine step S55 10 100 _ z55 (by unfold mRow; omega) rfl v10 (fun S63 z63 e63 => ?_)
  refine step S63 14 (-1) _ z63 (by unfold mRow; omega) rfl v14 (fun S71 z71 e71 => ?_)
  refine fun o eo => ⟨ad 50 0, by rw [eo, z71.1]; exact h1.qS.1, ?_, ?_⟩
  · unfold isA
    rw [z71.2.1, z71.2.2.1]; exact h1.qS.2
  rw [z71.2.2.2.2, h1.mc.2.2.2.1, nI_1]
  intro S75 e75
  have e75 : S75 = kS S1 (up2 (sI S1) 39 (ad 50 0) (nI (n + 1))) (up2 (up2 (up2 (up2 (up2 (up2 (sR S1) (ad 57 0) n x) (ad 58 0) n y) (ad 59 0) n f) (ad 61 0) n c) (ad 60 0) n 100) (ad 64 0) n (-1)) := by
    rw [e75, e71, e63, e55, e47, e39, e31]; rfl
  have g1 : Fr (fun t _ => t < 45) S S75 ad ad := by
    rw [e75]
    exact f1.tr (kfr (fun t i ht => ⟨fun f => up2_a (fun e => by have := (hj _ _ _ _ e).1; omega), by
      rw [row_g (fun e => by have := (hj _ _ _ _ e).1; omega), row_g (fun e => by have := (hj _ _ _ _ e).1; omega), row_g (fun e => by have := (hj _ _ _ _ e).1; omega), row_g (fun e => by have := (hj _ _ _ _ e).1; omega), row_g (fun e => by have := (hj _ _ _ _ e).1; omega), row_g (fun e => by have := (hj _ _ _ _ e).1; omega)]⟩))
  refine hok S75 ⟨?_, by rw [e75, kS_I, up2_f (by decide)]; exact e56, g1⟩
  rw [e75]
  have far : ∀ t, t ≠ 57 → t ≠ 58 → t ≠ 59 → t ≠ 61 → t ≠ 60 → t ≠ 64 → (up2 (up2 (up2 (up2 (up2 (up2 (sR S1) (ad 57 0) n x) (ad 58 0) n y) (ad 59 0) n f) (ad 61 0) n c) (ad 60 0) n 100) (ad 64 0) n (-1)) (ad t 0) = sR S1 (ad t 0) := by
    intro t h1 h2 h3 h4 h5 h6
    rw [row_g (fun e => h6 (hj _ _ _ _ e).1), row_g (fun e => h5 (hj _ _ _ _ e).1), row_g (fun e => h4 (hj _ _ _ _ e).1), row_g (fun e => h3 (hj _ _ _ _ e).1), row_g (fun e => h2 (hj _ _ _ _ e).1), row_g (fun e => h1 (hj _ _ _ _ e).1)]
  have ne : ∀ t t', t ≠ t' → ad t 0 ≠ ad t' 0 := fun t t' h e => h (hj _ _ _ _ e).1
  have ro : ∀ (A : Nat → Nat → Int32) (a : Nat) (w : Int32) (i : Nat), i ≠ n → up2 A a n w a i = A a i := fun A a w i hi => up2_a hi
  refine h1.rows (by omega) h1.mc.2.2.1 (up2_f (by decide)) up2_at ((up2_f (by decide)).trans h1.mc.2.2.2.2.1) (up2_f (by decide)) (fun t ht => far t (by omega) (by omega) (by omega) (by omega) (by omega) (by omega)) (fun i => ?_) (fun i => ?_) (fun i hi => ?_) (fun j p h2 h3 => ?_) (fun k i hf => ?_) (fun j q h2 h3 => ?_)
  · unfold ptM
    by_cases ci : i = n
    · subst ci; rw [up2_at, if_pos (by omega), if_pos rfl]; rfl
    · rw [up2_a ci, row_g (ne 64 60 (by decide)), row_g (ne 64 61 (by decide)), row_g (ne 64 59 (by decide)), row_g (ne 64 58 (by decide)), row_g (ne 64 57 (by decide)), if_neg ci]
      have z := (h1.mc.2.2.2.2.2.1 i).1
      refine z.trans ?_
      by_cases c2 : i < n
      · rw [if_pos c2, if_pos (by omega)]
      · rw [if_neg c2, if_neg (by omega)]
  · rw [far 62 (by decide) (by decide) (by decide) (by decide) (by decide) (by decide)]
    unfold dnC
    have z := (h1.mc.2.2.2.2.2.1 i).2
    refine z.trans ?_
    by_cases ci : i = n
    · subst ci; rw [if_neg (by omega), if_pos (by omega), if_pos rfl]; rfl
    · rw [if_neg ci]
      by_cases c2 : i < n
      · rw [if_pos c2, if_pos (by omega)]
      · rw [if_neg c2, if_neg (by omega)]
  · unfold dnC
    split
    · decide
    · exact h1.mc.2.2.2.2.2.2.1 i (by omega)
  · rw [far 71 (by decide) (by decide) (by decide) (by decide) (by decide) (by decide)]; exact h1.mc.2.2.2.2.2.2.2.1 j p h2 h3
  · have old : sR S1 (ad (50 + k) 0) i = g k i := h1.mk.vw hf
    unfold cmG
    by_cases ci : i = n
    · rw [if_pos ci]
      have z0 := hg0 k i hf (by omega)
      unfold mInt at hf
      rcases hf with rfl | rfl | rfl | rfl | rfl | rfl | rfl | rfl | rfl | rfl
      · subst ci; rw [row_g (ne 57 64 (by decide)), row_g (ne 57 60 (by decide)), row_g (ne 57 61 (by decide)), row_g (ne 57 59 (by decide)), row_g (ne 57 58 (by decide)), up2_at, if_pos rfl]
      · subst ci; rw [row_g (ne 58 64 (by decide)), row_g (ne 58 60 (by decide)), row_g (ne 58 61 (by decide)), row_g (ne 58 59 (by decide)), up2_at, if_neg (by decide), if_pos rfl]
      · subst ci; rw [row_g (ne 59 64 (by decide)), row_g (ne 59 60 (by decide)), row_g (ne 59 61 (by decide)), up2_at, if_neg (by decide), if_neg (by decide), if_pos rfl]
      · subst ci; rw [row_g (ne 60 64 (by decide)), up2_at, if_neg (by decide), if_neg (by decide), if_neg (by decide), if_pos rfl]
      · subst ci; rw [row_g (ne 61 64 (by decide)), row_g (ne 61 60 (by decide)), up2_at, if_neg (by decide), if_neg (by decide), if_neg (by decide), if_neg (by decide), if_pos rfl]
      · rw [far 63 (by decide) (by decide) (by decide) (by decide) (by decide) (by decide)]; exact old.trans z0
      · rw [far 65 (by decide) (by decide) (by decide) (by decide) (by decide) (by decide)]; exact old.trans z0
      · rw [far 66 (by decide) (by decide) (by decide) (by decide) (by decide) (by decide)]; exact old.trans z0
      · rw [far 67 (by decide) (by decide) (by decide) (by decide) (by decide) (by decide)]; exact old.trans z0
      · rw [far 68 (by decide) (by decide) (by decide) (by decide) (by decide) (by decide)]; exact old.trans z0
    · rw [if_neg ci]
      have any : ∀ (A : Nat → Nat → Int32) (a b : Nat) (w : Int32), up2 A a n w b i = A b i := fun A a b w => up2_a ci
      rw [any, any, any, any, any, any]; exact old
  · rw [far 70 (by decide) (by decide) (by decide) (by decide) (by decide) (by decide)]; exact h1.mk.vww h2 h3
theorem s_maddWinder {post : Int32 → St → Prop} {x y s : Int32} (hj : Inj ad) (h : HM S ad tl tb dl df n g pt dn bt m wg rd)
    (hok : wnR x y s → m < 3 → ∀ S', MR S ad 0 tl tb dl df n g pt dn bt (m + 1) (wnG wg m x y s) rd S' → post (nI m) S')
    (hno2 : wnR x y s → ¬ m < 3 → ∀ S', MR S ad 2 tl tb dl df n g pt dn bt m wg rd S' → post 0 S')
    (hno : ¬ wnR x y s → ∀ S', MR S ad 1 tl tb dl df n g pt dn bt m wg rd S' → post 0 S') : w_M_addWinder post S (ad 100 0) x y s := by
  unfold w_M_addWinder
  rintro S1 rfl
  have h1 : HM (pI S 56 (ad 100 0) 0) ad tl tb dl df n g pt dn bt m wg rd := h.th
  have f1 : Fr (fun t _ => t < 45) S (pI S 56 (ad 100 0) 0) ad ad := fr_th hj
  have e56 : sI (pI S 56 (ad 100 0) 0) 56 (ad 100 0) = 0 := th_at
  generalize pI S 56 (ad 100 0) 0 = S1 at *
  have hm := h1.mc.2.2.1
  refine s_inR 0 15 (by decide) (by decide) (fun a _ ha ea => ⟨w_M_no (fun r4 S5 => post r4 S5) S1 (ad 100 0) 1, id, fun c => absurd c (by decide), fun _ => ?_⟩) (fun c => ⟨w_M_no (fun r4 S5 => post r4 S5) S1 (ad 100 0) 1, id, fun _ => s_no hj h1 f1 (hno (fun ⟨⟨k, hk, e⟩, _⟩ => c ⟨k, Nat.zero_le _, by omega, e⟩)), fun c => absurd rfl c⟩)
  refine s_inR 0 15 (by decide) (by decide) (fun b _ hb eb => ⟨fun c => absurd c (by decide), fun _ => ?_⟩) (fun c => ⟨fun _ => s_no hj h1 f1 (hno (fun ⟨_, ⟨k, hk, e⟩, _⟩ => c ⟨k, Nat.zero_le _, by omega, e⟩)), fun c => absurd rfl c⟩)
  refine s_inR 1 100 (by decide) (by decide) (fun o ho1 ho2 eo => ⟨fun c => absurd c (by decide), fun _ => ?_⟩) (fun c => ⟨fun _ => s_no hj h1 f1 (hno (fun ⟨_, _, k, hk, hk2, e⟩ => c ⟨k, hk, hk2, e⟩)), fun c => absurd rfl c⟩)
  have hr : wnR x y s := ⟨⟨a, by omega, ea⟩, ⟨b, by omega, eb⟩, o, ho1, ho2, eo⟩
  replace hok := hok hr
  replace hno2 := hno2 hr
  refine fun o eo => ⟨_, eo.trans h1.qS.1, h1.qS.2, ?_⟩
  rw [h1.mc.2.2.2.2.1]
  have c3 : nI m = 3 ↔ m = 3 := nI_eq (b := 3) (by omega) (by decide)
  rw [c3]
  refine ⟨fun q => s_no hj h1 f1 (hno2 (by omega)), fun q => ?_⟩
  have hm3 : m < 3 := by omega
  replace hok := hok hm3
  intro q S12 hq e12
  have w0 : TW S1 ad q 6 (fun k => if k = 0 then x else if k = 1 then y else if k = 2 then s else 0) 0 S12 := by rw [e12]; exact TW.new hq
  clear e12
  refine ⟨by rw [w0.2.1]; exact vp_in_nI (n := 0) (by decide) (by decide), ?_⟩
  intro S15 e15
  have w1 : TW S1 ad q 6 (fun k => if k = 0 then x else if k = 1 then y else if k = 2 then s else 0) 1 S15 := by rw [e15]; exact w0.st hq rfl
  clear e15
  refine ⟨by rw [w1.2.1]; exact vp_in_nI (n := 1) (by decide) (by decide), ?_⟩
  intro S17 e17
  have w2 : TW S1 ad q 6 (fun k => if k = 0 then x else if k = 1 then y else if k = 2 then s else 0) 2 S17 := by rw [e17]; exact w1.st hq rfl
  clear e17
  refine ⟨by rw [w2.2.1]; exact vp_in_nI (n := 2) (by decide) (by decide), ?_⟩
  intro S19 e19
  have w3 : TW S1 ad q 6 (fun k => if k = 0 then x else if k = 1 then y else if k = 2 then s else 0) 3 S19 := by rw [e19]; exact w2.st hq rfl
  clear e19
  refine ⟨by rw [w3.2.1]; exact vp_in_nI (n := 3) (by decide) (by decide), ?_⟩
  intro S21 e21
  have w4 : TW S1 ad q 6 (fun k => if k = 0 then x else if k = 1 then y else if k = 2 then s else 0) 4 S21 := by rw [e21]; exact w3.st hq rfl
  clear e21
  refine ⟨by rw [w4.2.1]; exact vp_in_nI (n := 4) (by decide) (by decide), ?_⟩
  intro S23 e23
  have w5 : TW S1 ad q 6 (fun k => if k = 0 then x else if k = 1 then y else if k = 2 then s else 0) 5 S23 := by rw [e23]; exact w4.st hq rfl
  clear e23
  refine ⟨by rw [w5.2.1]; exact vp_in_nI (n := 5) (by decide) (by decide), ?_⟩
  intro S25 e25
  have w6 : TW S1 ad q 6 (fun k => if k = 0 then x else if k = 1 then y else if k = 2 then s else 0) 6 S25 := by rw [e25]; exact w5.st hq rfl
  clear e25
  have h25 : HM S25 ad tl tb dl df n g pt dn bt m wg rd := h1.mr w6
  have f25 : Fr (fun t _ => t < 45) S S25 ad ad := f1.tr (w6.1.mono (fun _ _ _ => trivial))
  have r25 : sI S25 56 (ad 100 0) = 0 := (w6.ii h1.1).trans e56
  have i52 : sI S25 52 (ad 50 0) = nI m := h25.mc.2.2.2.2.1
  have e6 : (6 : Int32) * nI m = nI (6 * m) := by rw [show (6 : Int32) = nI 6 from rfl, pk_mul]
  have c0 : (0 : Int32).toNatClampNeg = 0 := rfl
  have c6 : (6 : Int32).toNatClampNeg = 6 := rfl
  refine fun o eo => ⟨_, eo.trans h25.qS.1, h25.qS.2, fun o30 e30 => fun o eo => ⟨_, eo.trans h25.qS.1, h25.qS.2, _, e30.trans h25.wr.1, h25.wr.2.1, ?_⟩⟩
  rw [i52, e6, c0, c6, nI_clamp (show 6 * m < 2 ^ 31 by omega), w6.2.1, h25.wr.2.2]
  refine ⟨⟨by decide, nI_pos (by omega), by decide, by omega, by omega, fun z hz => rfl⟩, ?_⟩
  intro S37 e37
  have q37 : sQ S37 61 (ad 100 0) = some (ad 50 0) ∧ isA S37 7 (ad 50 0) ∧ sI S37 52 (ad 50 0) = nI m := by rw [e37]; exact ⟨h25.qS.1, h25.qS.2, i52⟩
  refine fun o eo => ⟨_, eo.trans q37.1, q37.2.1, ?_⟩
  rw [q37.2.2, nI_1]
  intro S41 e41
  have e41 : S41 = kS S25 (up2 (sI S25) 52 (ad 50 0) (nI (m + 1))) (va_up (sR S25) (ad 70 0) (va_cpy (sR S25 q) (sR S25 (ad 70 0)) 0 (6 * m) 6)) := by rw [e41, e37]; rfl
  have q41 : sQ S41 61 (ad 100 0) = some (ad 50 0) ∧ isA S41 7 (ad 50 0) ∧ sI S41 52 (ad 50 0) = nI (m + 1) := by rw [e41]; exact ⟨h25.qS.1, h25.qS.2, up2_at⟩
  refine fun o eo => ⟨_, eo.trans q41.1, q41.2.1, ?_⟩
  rw [q41.2.2, nI_pred]
  have far : ∀ t, t ≠ 70 → va_up (sR S25) (ad 70 0) (va_cpy (sR S25 q) (sR S25 (ad 70 0)) 0 (6 * m) 6) (ad t 0) = sR S25 (ad t 0) := fun t ht => if_neg (fun e => ht (hj _ _ _ _ e).1)
  have at70 : va_up (sR S25) (ad 70 0) (va_cpy (sR S25 q) (sR S25 (ad 70 0)) 0 (6 * m) 6) (ad 70 0) = va_cpy (sR S25 q) (sR S25 (ad 70 0)) 0 (6 * m) 6 := if_pos rfl
  refine hok S41 ⟨?_, by rw [e41, kS_I, up2_f (by decide)]; exact r25, ?_⟩
  · rw [e41]
    refine h25.rows h25.mc.2.1 (by omega) (up2_f (by decide)) ((up2_f (by decide)).trans h25.mc.2.2.2.1) up2_at (up2_f (by decide)) (fun t ht => far t (by omega)) (fun i => ?_) (fun i => ?_) h25.mc.2.2.2.2.2.2.1 (fun j p h2 h3 => ?_) (fun k i hf => ?_) (fun j w h2 h3 => ?_)
    · rw [far 64 (by decide)]; exact (h25.mc.2.2.2.2.2.1 i).1
    · rw [far 62 (by decide)]; exact (h25.mc.2.2.2.2.2.1 i).2
    · rw [far 71 (by decide)]; exact h25.mc.2.2.2.2.2.2.2.1 j p h2 h3
    · rw [far (50 + k) (by unfold mInt at hf; omega)]; exact h25.mk.vw hf
    · rw [at70]
      unfold wnG
      by_cases cj : j = m
      · subst cj
        rw [pk_cpy_in (by omega) (by omega), if_pos rfl, show 0 + (6 * j + w - 6 * j) = w by omega, w6.2.2 w h3]
        rcases (show w = 0 ∨ w = 1 ∨ w = 2 ∨ w = 3 ∨ w = 4 ∨ w = 5 by omega) with rfl | rfl | rfl | rfl | rfl | rfl <;> rfl
      · rw [pk_cpy_out (by omega), if_neg cj]
        exact h25.mk.vww (by omega) h3
  · rw [e41]
    exact f25.tr (kfr (fun t i ht => ⟨fun f => up2_a (fun e => by have := (hj _ _ _ _ e).1; omega), if_neg (fun e => by have := (hj _ _ _ _ e).1; omega)⟩))
end MCOME
