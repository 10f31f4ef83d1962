section MMUT3
variable {S S0 : St} {ad : Nat → Nat → Nat} {tl n m B H : Nat} {tb dl dn : Nat → Nat} {df g wg rd I0 I R R0 : Nat → Nat → Int32} {pt : Nat → Option Nat} {bt u v : Int32} {Q : Nat → Nat → Option Nat}
theorem s_mcall {post : Int32 → St → Prop} (hj : Inj ad) (h : HM S ad tl tb dl df n g pt dn bt m wg rd) (hW : OkW n m wg rd)
    (hok : ∀ j i l, j < m → v = nI j → i < n → u = nI i → l < 8 → wg 30 j = nI l → ∀ S', MR S ad 0 tl tb dl df n g pt dn bt m (up2 wg 30 j (nI (l + 1))) (rdC rd j l i) S' → post (nI (l + 1)) S')
    (hno2 : ∀ j i, j < m → v = nI j → i < n → u = nI i → wg 30 j = nI 8 → ∀ S', MR S ad 2 tl tb dl df n g pt dn bt m wg rd S' → post 0 S')
    (hno : (¬ ∃ j i, j < m ∧ v = nI j ∧ i < n ∧ u = nI i) → ∀ S', MR S ad 1 tl tb dl df n g pt dn bt m wg rd S' → post 0 S') : w_M_call post S (ad 100 0) v u := by
  unfold w_M_call
  rintro S1 rfl
  have h1 : HM (pI S 56 (ad 100 0) 0) ad tl tb dl df n g pt dn bt m wg rd := h.th
  have f1 : Fr (fun t _ => t < 45) S (pI S 56 (ad 100 0) 0) ad ad := fr_th hj
  have e56 : sI (pI S 56 (ad 100 0) 0) 56 (ad 100 0) = 0 := th_at
  generalize pI S 56 (ad 100 0) 0 = S1 at *
  have hn := h1.mc.2.1
  have hm := h1.mc.2.2.1
  refine s_isWinder h1 (fun j hjm e => ⟨w_M_no (fun r4 S5 => post r4 S5) S1 (ad 100 0) 1, id, fun c => absurd c (by decide), fun _ => ?_⟩) (fun c => ⟨w_M_no (fun r4 S5 => post r4 S5) S1 (ad 100 0) 1, id, fun _ => s_no hj h1 f1 (hno (fun ⟨k, p, hk, e, _⟩ => c ⟨k, hk, e⟩)), fun c => absurd rfl c⟩)
  refine s_isDancer h1 (fun i hi ei => ⟨fun c => absurd c (by decide), fun _ => ?_⟩) (fun c => ⟨fun _ => s_no hj h1 f1 (hno (fun ⟨_, j, _, _, hk, e⟩ => c ⟨j, hk, e⟩)), fun c => absurd rfl c⟩)
  obtain ⟨-, -, -, l, t, hl, el, et, hlt, hr⟩ := hW j hjm
  replace hok := fun c => hok j i l hjm e hi ei c el
  replace hno2 := hno2 j i hjm e hi ei
  subst e
  subst ei
  have e6 : (6 : Int32) * nI j + 3 = nI (6 * j + 3) := by rw [show (6 : Int32) = nI 6 from rfl, pk_mul]; exact nI_add _ 3
  have e8 : (8 : Int32) * nI j = nI (8 * j) := by rw [show (8 : Int32) = nI 8 from rfl, pk_mul]
  have w3 : sR S1 (ad 70 0) (6 * j + 3) = nI l := (h1.mk.vww (q := 3) hjm (by decide)).trans el
  have i3 : vp_in (nI (6 * j + 3)) 18 := vp_in_nI (by omega) (by decide)
  rw [e6]
  refine fun o eo => ⟨_, eo.trans h1.qS.1, h1.qS.2, fun o eo => ⟨_, eo.trans h1.wr.1, h1.wr.2.1, by rw [h1.wr.2.2]; exact i3, ?_⟩⟩
  rw [nI_clamp (show 6 * j + 3 < 2 ^ 31 by omega), w3]
  rintro _ rfl
  have c8 : nI l = 8 ↔ l = 8 := nI_eq (b := 8) (by omega) (by decide)
  rw [c8]
  refine ⟨fun c => s_no hj h1 f1 (hno2 (by rw [el, c])), fun c => ?_⟩
  have hl8 : l < 8 := by omega
  replace hok := hok hl8
  rw [e8, nI_add]
  refine fun o eo => ⟨_, eo.trans h1.qS.1, h1.qS.2, fun o eo => ⟨_, eo.trans h1.rr.1, h1.rr.2.1, by rw [h1.rr.2.2]; exact vp_in_nI (by omega) (by decide), ?_⟩⟩
  rw [nI_clamp (show 8 * j + l < 2 ^ 31 by omega)]
  intro S23 e23
  refine fun o eo => ⟨ad 50 0, ?_, ?_, fun o eo => ⟨ad 70 0, ?_, ?_, ?_, ?_, ?_⟩⟩
  · rw [eo, e23]; exact h1.qS.1
  · rw [e23]; exact h1.qS.2
  · rw [eo, e23]; exact h1.wr.1
  · rw [e23]; exact h1.wr.2.1
  · rw [e23]; show vp_in _ (sN S1 (ad 70 0)); rw [h1.wr.2.2]; exact i3
  · rw [e23]; show vp_in _ (sN S1 (ad 70 0)); rw [h1.wr.2.2]; exact i3
  intro S32 e32
  have e32 : S32 = kS S1 (sI S1) (up2 (up2 (sR S1) (ad 71 0) (8 * j + l) (nI i)) (ad 70 0) (6 * j + 3) (nI (l + 1))) := by
    have z : sR S23 (ad 70 0) (6 * j + 3) + 1 = nI (l + 1) := by
      rw [e23]
      show up2 _ _ _ _ _ _ + 1 = _
      rw [row_g (fun e => by have := (hj _ _ _ _ e).1; omega), w3, nI_1]
    rw [e32, z, e23]
    rfl
  rw [nI_1]
  refine hok S32 ⟨?_, by rw [e32]; exact e56, ?_⟩
  · rw [e32]
    refine h1.rows hn h1.mc.2.2.1 rfl h1.mc.2.2.2.1 h1.mc.2.2.2.2.1 rfl (fun t ht => ?_) (fun x => ?_) (fun x => ?_) h1.mc.2.2.2.2.2.2.1 (fun x p h2 h3 => ?_) (fun f x hf => ?_) (fun x q h2 h3 => ?_)
    · rw [row_g (fun e => by have := (hj _ _ _ _ e).1; omega), row_g (fun e => by have := (hj _ _ _ _ e).1; omega)]
    · rw [row_g (fun e => by have := (hj _ _ _ _ e).1; omega), row_g (fun e => by have := (hj _ _ _ _ e).1; omega)]; exact (h1.mc.2.2.2.2.2.1 x).1
    · rw [row_g (fun e => by have := (hj _ _ _ _ e).1; omega), row_g (fun e => by have := (hj _ _ _ _ e).1; omega)]; exact (h1.mc.2.2.2.2.2.1 x).2
    · rw [row_g (fun e => by have := (hj _ _ _ _ e).1; omega)]
      unfold rdC
      by_cases c2 : x = j ∧ p = l
      · rw [c2.1, c2.2, up2_at, if_pos ⟨rfl, rfl⟩]
      · rw [up2_a (by omega), if_neg c2]; exact h1.mc.2.2.2.2.2.2.2.1 x p h2 h3
    · rw [row_g (fun e => by have := (hj _ _ _ _ e).1; unfold mInt at hf; omega), row_g (fun e => by have := (hj _ _ _ _ e).1; unfold mInt at hf; omega)]; exact h1.mk.vw hf
    · by_cases c2 : x = j ∧ q = 3
      · obtain ⟨rfl, rfl⟩ := c2
        rw [up2_at]; exact up2_at.symm
      · rw [up2_a (by omega), row_g (fun e => by have := (hj _ _ _ _ e).1; omega)]
        have z : up2 wg 30 j (nI (l + 1)) (wFld q) x = wg (wFld q) x := by
          by_cases c3 : x = j
          · exact up2_f (fun e => c2 ⟨c3, congrArg Fin.val (wFld_inj ⟨q, h3⟩ ⟨3, by decide⟩ e)⟩)
          · exact up2_a c3
        rw [z]
        exact h1.mk.vww h2 h3
  · rw [e32]
    exact (f1.R (v := nI i) (j := 8 * j + l) (nam (t0 := 71) (i0 := 0) hj (by decide))).R (v := nI (l + 1)) (j := 6 * j + 3) (nam (t0 := 70) (i0 := 0) hj (by decide))
/-- so many beats of the reference's state at B -/
def MB (S1 : St) (ad : Nat → Nat → Nat) (B m : Nat) (bt : Int32) (g wg : Nat → Nat → Int32) (i : Nat) (S' : St) : Prop := ∃ I' R', S' = kS S1 I' R' ∧ (∀ f a, ¬ (f = 38 ∧ a = ad B 0) → I' f a = sI S1 f a) ∧ I' 38 (ad B 0) = bt + nI i ∧ Mk ad B m (sR S1) R' g wg
theorem s_mb1 {post : Int32 → St → Prop} {i : Nat} {S' : St} (hj : Inj ad) (hC : MC S (sI S) (sR S) ad B H n m pt dn dl df rd) (hB : B + 21 < H) (hO : Ok n (bts n m pt dn dl df rd g wg i).2.1 pt dn dl) (hW : OkW n m (bts n m pt dn dl df rd g wg i).2.2 rd) (hb : MB S ad B m bt (bts n m pt dn dl df rd g wg i).2.1 (bts n m pt dn dl df rd g wg i).2.2 i S')
    (hp : ∀ S'' r, (bts n m pt dn dl df rd g wg (i + 1)).1 = (bts n m pt dn dl df rd g wg i).1 + r → MB S ad B m bt (bts n m pt dn dl df rd g wg (i + 1)).2.1 (bts n m pt dn dl df rd g wg (i + 1)).2.2 (i + 1) S'' → post r S'') : w_S_pass post S' (ad B 0) := by
  obtain ⟨I', R', rfl, i1, i2, hM⟩ := hb
  refine s_mpass hj (hC.ev (fun f a hf => i1 f a (fun q => hf q.1))) hM hO hW hB (fun R2 h2 => ?_)
  refine hp _ _ rfl ⟨_, R2, rfl, fun f a hne => ?_, ?_, h2⟩
  · rw [show up2 I' 38 (ad B 0) (I' 38 (ad B 0) + 1) f a = I' f a from if_neg hne]
    exact i1 f a hne
  · rw [up2_at, i2, ← nI_1, Int32.add_assoc]
theorem s_mpassH {post : Int32 → St → Prop} (hj : Inj ad) (h : HM S ad tl tb dl df n g pt dn bt m wg rd) (hO : Ok n g pt dn dl) (hW : OkW n m wg rd)
    (hok : ∀ k, 1 ≤ k → k ≤ 200 → v = nI k → ∀ S', MR S ad 0 tl tb dl df n (bts n m pt dn dl df rd g wg k).2.1 pt dn (bt + nI k) m (bts n m pt dn dl df rd g wg k).2.2 rd S' → post (bts n m pt dn dl df rd g wg k).1 S')
    (hno : (¬ ∃ k, 1 ≤ k ∧ k ≤ 200 ∧ v = nI k) → ∀ S', MR S ad 1 tl tb dl df n g pt dn bt m wg rd S' → post 0 S') : w_M_pass post S (ad 100 0) v := by
  unfold w_M_pass
  rintro S1 rfl
  have h1 : HM (pI S 56 (ad 100 0) 0) ad tl tb dl df n g pt dn bt m wg rd := h.th
  have f1 : Fr (fun t _ => t < 45) S (pI S 56 (ad 100 0) 0) ad ad := fr_th hj
  have e56 : sI (pI S 56 (ad 100 0) 0) 56 (ad 100 0) = 0 := th_at
  generalize pI S 56 (ad 100 0) 0 = S1 at *
  have hn := h1.mc.2.1
  have hl : ∀ i, i < n → dl (dn i) ≤ 24 := fun i hi => (h1.md (h1.mc.2.2.2.2.2.2.1 i hi)).2.2.1
  refine s_inR 1 200 (by decide) (by decide) (fun k hk1 hk2 e => ⟨fun c => absurd c (by decide), fun _ => ?_⟩) (fun c => ⟨fun _ => s_no hj h1 f1 (hno c), fun c => absurd rfl c⟩)
  replace hok := hok k hk1 hk2 e
  subst e
  refine ⟨fun q S' a x => ∃ i, i ≤ k ∧ q = k - i ∧ x = nI i ∧ a = (bts n m pt dn dl df rd g wg i).1 ∧ MB S1 ad 50 m bt (bts n m pt dn dl df rd g wg i).2.1 (bts n m pt dn dl df rd g wg i).2.2 i S', ⟨k, 0, Nat.zero_le _, rfl, rfl, rfl, sI S1, sR S1, rfl, fun _ _ _ => rfl, ?_, h1.mk⟩, ?_⟩
  · rw [nI_0, Int32.add_zero]; exact h1.2.2.2.2.2.2.2.2.2.2.1
  · rintro q S' a x ⟨i, hi, rfl, rfl, rfl, hb⟩
    refine ⟨fun c => ?_, fun c => ?_⟩
    · have : i = k := by
        have := (nI_leI (by omega) (by omega)).mp c
        omega
      subst this
      obtain ⟨I', R', rfl, i1, i2, hM⟩ := hb
      exact hok _ ⟨h1.mks hj hM (fun f a hf => i1 f a (fun q => by omega)) i2, (i1 56 _ (fun q => by omega)).trans e56, f1.tr (fr_mk hj (by decide) hM (fun f a => by
        by_cases c : f = 38 ∧ a = ad 50 0
        · exact Or.inl (fun t i ht e => by have := (hj _ _ _ _ (c.2.symm.trans e)).1; omega)
        · exact Or.inr (i1 f a c)))⟩
    · have hlt : i < k := Nat.not_le.mp fun q => c (nI_le q (by omega))
      have hq : sQ S' 61 (ad 100 0) = some (ad 50 0) ∧ isA S' 7 (ad 50 0) := by
        obtain ⟨I', R', rfl, -⟩ := hb
        exact h1.qS
      refine fun o eo => ⟨_, eo.trans hq.1, hq.2, ?_⟩
      obtain ⟨o1, o2⟩ := ok_bts (df := df) hn hO hW hl i
      refine s_mb1 hj h1.mc (by decide) o1 o2 hb (fun S2 r er h2 => ?_)
      rintro _ rfl _ rfl
      exact ⟨k - (i + 1), by omega, i + 1, hlt, rfl, nI_1 i, er.symm, h2⟩
end MMUT3
