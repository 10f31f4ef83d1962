/-! the class's tape -/
theorem kfr {P : Nat → Nat → Prop} {S : St} {ad : Nat → Nat → Nat} {I R : Nat → Nat → Int32} (h : ∀ t i, P t i → (∀ f, I f (ad t i) = sI S f (ad t i)) ∧ R (ad t i) = sR S (ad t i)) : Fr P S (kS S I R) ad ad :=
  ⟨⟨fun a ha => ⟨ha, rfl, rfl⟩, rfl⟩, fun t i hp _ => ⟨rfl, (h t i hp).1, fun _ => rfl, (h t i hp).2, rfl, rfl⟩⟩
section TAPE
variable {S : St} {ad : Nat → Nat → Nat} {tl n m : Nat} {tb dl dn : Nat → Nat} {df g wg rd : Nat → Nat → Int32} {pt : Nat → Option Nat} {bt : Int32}
/-- the tape alone changes -/
theorem HC.tape {I R : Nat → Nat → Int32} {tl' : Nat} {tb' : Nat → Nat} (hj : Inj ad) (h : HC S ad tl tb dl df n g pt dn bt m wg rd) (hI : ∀ f a, a ≠ ad 2 0 → I f a = sI S f a) (hR : ∀ a, a ≠ ad 3 0 → R a = sR S a) (ht : Htape I R ad tl' tb') : HC (kS S I R) ad tl' tb' dl df n g pt dn bt m wg rd ∧ Fr (fun t _ => 4 ≤ t) S (kS S I R) ad ad := by
  have hF : Fr (fun t _ => 4 ≤ t) S (kS S I R) ad ad := kfr (fun t i ht => ⟨fun f => hI f _ (fun e => by have := (hj _ _ _ _ e).1; omega), hR _ (fun e => by have := (hj _ _ _ _ e).1; omega)⟩)
  obtain ⟨a, b, c, ⟨d1, d2, d3⟩, ⟨e1, e2, e3⟩, f, n2, m2, g1, g2, g3⟩ := h
  refine ⟨⟨a, ht, c.fr hF (Nat.le_refl 4) (by show 4 ≤ 5; decide) (fun _ _ => by show 4 ≤ 10; decide), ⟨d1.fr hF (fun t i hu => by unfold FU at hu; omega), d2, d3.fr hF (fun t i h1 h2 => by omega)⟩, ⟨fun f i k1 k2 => ?_, fun f i k1 k2 => ?_, ?_⟩, fun j q hj' hq => ?_, n2, m2, g1, g2, g3.fr hF (fun t i hu => by unfold FU at hu; omega)⟩, hF⟩
  · rw [kS_I, hI _ _ (fun e => by have := (hj _ _ _ _ e).1; omega)]; exact e1 f i k1 k2
  · rw [kS_I, hI _ _ (fun e => by have := (hj _ _ _ _ e).1; omega)]; exact e2 f i k1 k2
  · rw [kS_I, hI _ _ (fun e => by have := (hj _ _ _ _ e).1; omega)]; exact e3
  · rw [kS_R, hR _ (fun e => by have := (hj _ _ _ _ e).1; omega)]; exact f j q hj' hq
theorem s_trim {post : Int32 → St → Prop} {px : String → St → Prop} {v : Int32} (hj : Inj ad) (h : HC S ad tl tb dl df n g pt dn bt m wg rd)
    (hok : ∀ k, k ≤ tl → v = nI k → ∀ S', HC S' ad k tb dl df n g pt dn bt m wg rd → Fr (fun t _ => 4 ≤ t) S S' ad ad → post v S') (hno : ¬ (∃ k, k ≤ tl ∧ v = nI k) → px "java/lang/IllegalArgumentException" S) : w_H_trim post px S (ad 1 0) v := by
  obtain ⟨⟨a1, a2, -, -, -, -, a7, -⟩, ⟨b1, b2, b3, b4⟩, -⟩ := id h
  unfold w_H_trim
  simp only [forall_eq, a2, Option.some.injEq, exists_eq_left', b1]
  refine ⟨fun hv => hno ?_, fun hv => ⟨a7, fun hl => ⟨a7, ?_⟩, fun hl => hno ?_⟩⟩
  · rintro ⟨k, hk, rfl⟩
    exact nI_pos (by omega) hv
  · obtain ⟨k, hk, rfl⟩ := nI_of hv
    have hkl : k ≤ tl := (nI_leI hk (by omega)).mp hl
    obtain ⟨h1, h2⟩ := h.tape (I := up2 (sI S) 25 (ad 2 0) (nI k)) (R := sR S) (tl' := k) (tb' := tb) hj (fun f a hne => up2_a hne) (fun a _ => rfl) ⟨up2_at, by omega, b3, fun j hj' => b4 j (by omega)⟩
    exact hok k hkl rfl _ h1 h2
  · rintro ⟨k, hk, rfl⟩
    exact hl (nI_le hk (by omega))
/-- the four bytes of a number -/
def byt (v : Int32) (j : Nat) : Nat := v.toBitVec.toNat / 2 ^ (24 - 8 * j) % 256
/-- with the first i bytes of v behind it -/
def tapeA (tl : Nat) (tb : Nat → Nat) (v : Int32) (i : Nat) : Nat → Nat := fun j => if j < tl then tb j else if j < tl + i then byt v (j - tl) else 0
def tbN (tl : Nat) (tb : Nat → Nat) (vs : Nat → Int32) : Nat → Nat → Nat
  | 0 => tb
  | o + 1 => tapeA (tl + 4 * o) (tbN tl tb vs o) (vs o) 4
theorem byt_lt {v : Int32} {j : Nat} : byt v j < 256 := Nat.mod_lt _ (by decide)
theorem tapeA_lt {v : Int32} {i : Nat} (h : ∀ j, tb j < 256) (j : Nat) : tapeA tl tb v i j < 256 := by
  unfold tapeA
  split
  · exact h j
  · split
    · exact byt_lt
    · decide
theorem tbN_lt {vs : Nat → Int32} (h : ∀ j, tb j < 256) {o : Nat} (j : Nat) : tbN tl tb vs o j < 256 := by
  induction o generalizing j with
  | zero => exact h j
  | succ o ih => exact tapeA_lt ih j
theorem fa_byte_low (x : Int32) : (x &&& 255).toInt8 = x.toInt8 := by
  apply Int8.toBitVec_inj.1
  apply BitVec.eq_of_getLsbD_eq
  intro i hi
  have h2 : (255 : Int32).toBitVec.getLsbD i = true := by
    have : ∀ j : Fin 8, (255 : Int32).toBitVec.getLsbD j.val = true := by decide +kernel
    exact this ⟨i, hi⟩
  have h4 : (x &&& 255).toBitVec.getLsbD i = x.toBitVec.getLsbD i := by
    show (x.toBitVec &&& (255 : Int32).toBitVec).getLsbD i = _
    rw [BitVec.getLsbD_and, h2, Bool.and_true]
  have h3 : i < 32 := by omega
  first
    | (show (((x &&& 255).toBitVec).signExtend 8).getLsbD i = (x.toBitVec.signExtend 8).getLsbD i; rw [BitVec.getLsbD_signExtend, BitVec.getLsbD_signExtend, if_pos h3, if_pos h3, h4])
    | (show (((x &&& 255).toBitVec).setWidth 8).getLsbD i = (x.toBitVec.setWidth 8).getLsbD i; rw [BitVec.getLsbD_setWidth, BitVec.getLsbD_setWidth, h4])
    | (simp [hi, h3, h4]; done)
theorem byt_c {v s : Int32} {j : Nat} (hs : ((s.toUInt32 &&& Int32.toUInt32 31).toBitVec % 32).toNat = 24 - 8 * j) : vp_nar .byte (((v.toUInt32 >>> (s.toUInt32 &&& Int32.toUInt32 31)).toInt32).toInt8.toInt32) = sbt (byt v j) := by
  rw [pk_vb]
  have h1 := pk_ushr v s _ hs
  generalize (v.toUInt32 >>> (s.toUInt32 &&& Int32.toUInt32 31)).toInt32 = z at h1 ⊢
  rw [← fa_byte_low, pk_and z 8 rfl, h1]
  rfl
theorem byt_m {v s : Int32} {j : Nat} (hj : j < 4) (hs : (s.toBitVec.smod 32).toNat = 24 - 8 * j) : (v >>> s) &&& 255 = nI (byt v j) := by
  have h1 := pk_shr v s _ hs
  rw [pk_and (v >>> s) 8 rfl]
  have e1 : ∀ x : Int32, x.toInt = if 2 * x.toBitVec.toNat < 2 ^ 32 then (x.toBitVec.toNat : Int) else (x.toBitVec.toNat : Int) - (2 ^ 32 : Nat) := fun x => BitVec.toInt_eq_toNat_cond x.toBitVec
  have l1 := (v >>> s).toBitVec.isLt
  have l2 := v.toBitVec.isLt
  have e2 := e1 (v >>> s)
  have e3 := e1 v
  rw [h1, Int.shiftRight_eq_div_pow] at e2
  unfold byt
  congr 1
  generalize (v >>> s).toBitVec.toNat = p at *
  generalize v.toBitVec.toNat = q at *
  generalize v.toInt = z at *
  rcases (show j = 0 ∨ j = 1 ∨ j = 2 ∨ j = 3 by omega) with rfl | rfl | rfl | rfl <;> (split at e2 <;> split at e3 <;> simp only [Nat.reduceMul, Nat.reduceSub, Nat.reducePow] at * <;> omega)
def apV (i : Nat) : Int32 := if i = 0 then 24 else if i = 1 then 16 else if i = 2 then 8 else if i = 3 then 0 else -8
theorem apVF : ∀ i : Fin 4, ¬ apV i.1 < 0 ∧ apV i.1 + (-8) = apV (i.1 + 1) ∧ (((apV i.1).toUInt32 &&& Int32.toUInt32 31).toBitVec % 32).toNat = 24 - 8 * i.1 := by decide +kernel
theorem HC.q33 (h : HC S ad tl tb dl df n g pt dn bt m wg rd) : sQ S 33 (ad 1 0) = some (ad 2 0) ∧ isA S 4 (ad 2 0) := ⟨h.1.2.1, h.1.2.2.2.2.2.2.1⟩
theorem s_append {post : St → Prop} {v : Int32} (hj : Inj ad) (h : HC S ad tl tb dl df n g pt dn bt m wg rd) (ht : tl + 4 ≤ 40) (hp : ∀ S', HC S' ad (tl + 4) (tapeA tl tb v 4) dl df n g pt dn bt m wg rd → Fr (fun t _ => 4 ≤ t) S S' ad ad → post S') : w_T_append post S (ad 2 0) v := by
  unfold w_T_append
  refine ⟨fun k S' u => ∃ i, i ≤ 4 ∧ k = 4 - i ∧ u = apV i ∧ HC S' ad (tl + i) (tapeA tl tb v i) dl df n g pt dn bt m wg rd ∧ Fr (fun t _ => 4 ≤ t) S S' ad ad, ⟨4, 0, by omega, rfl, rfl, ?_, Fr.rf⟩, ?_⟩
  · obtain ⟨b1, b2, b3, b4⟩ := h.2.1
    exact (h.tape (I := sI S) (R := sR S) (tl' := tl + 0) (tb' := tapeA tl tb v 0) hj (fun _ _ _ => rfl) (fun _ _ => rfl) ⟨b1, by omega, tapeA_lt b3, fun j hj' => by rw [b4 j hj']; unfold tapeA; rw [if_pos (show j < tl from hj')]⟩).1
  · rintro k S1 _ ⟨i, hi, rfl, rfl, h1, hF⟩
    by_cases hi4 : i = 4
    · subst hi4
      exact ⟨fun _ => hp _ h1 hF, fun hc => absurd (by decide) hc⟩
    · obtain ⟨v1, v2, v3⟩ := apVF ⟨i, by omega⟩
      simp only at v1 v2 v3
      refine ⟨fun hc => absurd hc v1, fun _ => ⟨fun S' => HC S' ad (tl + (i + 1)) (tapeA tl tb v (i + 1)) dl df n g pt dn bt m wg rd ∧ Fr (fun t _ => 4 ≤ t) S1 S' ad ad, ?_, fun hc => ?_, fun _ => ?_⟩⟩
      · rintro S' ⟨h2, h3⟩ u rfl
        exact ⟨4 - (i + 1), by omega, i + 1, by omega, rfl, v2, h2, hF.tr h3⟩
      · exact absurd hc (by rw [h1.2.1.1]; exact nI_pos (by omega))
      · obtain ⟨-, -, -, -, -, -, a7, a8, a9, a10, -⟩ := h1.1
        obtain ⟨b1, b2, b3, b4⟩ := h1.2.1
        simp only [forall_eq, a8, Option.some.injEq, exists_eq_left', b1, a10, nI_clamp (show tl + i < 2 ^ 31 by omega)]
        refine ⟨a9, fun hc => absurd hc (nI_ge (by omega) (by omega)), fun _ => ⟨a9, vp_in_nI (by omega) (by decide), ?_⟩⟩
        rw [byt_c v3]
        have e1 : sI (pR S1 (ad 3 0) (tl + i) (sbt (byt v i))) 25 (ad 2 0) + 1 = nI (tl + (i + 1)) := by
          show sI S1 25 (ad 2 0) + 1 = _
          rw [b1, nI_1]; rfl
        rw [e1]
        exact h1.tape (I := up2 (sI S1) 25 (ad 2 0) (nI (tl + (i + 1)))) (R := up2 (sR S1) (ad 3 0) (tl + i) (sbt (byt v i))) (tl' := tl + (i + 1)) (tb' := tapeA tl tb v (i + 1)) hj (fun f a hne => up2_a hne) (fun a hne => row_f (i := 0) hne) ⟨up2_at, by omega, tapeA_lt h.2.1.2.2.1, fun j hj' => by
            by_cases c : j = tl + i
            · subst c
              rw [up2_at]
              unfold tapeA
              rw [if_neg (by omega), if_pos (by omega), Nat.add_sub_cancel_left]
            · rw [up2_a c, b4 j (by omega)]
              unfold tapeA
              by_cases c2 : j < tl
              · rw [if_pos c2, if_pos c2]
              · rw [if_neg c2, if_neg c2, if_pos (by omega), if_pos (by omega)]⟩
theorem s_feed {post : Int32 → St → Prop} {px : String → St → Prop} {vs : Nat → Int32} (hj : Inj ad) (h : HC S ad tl tb dl df n g pt dn bt m wg rd)
    (hok : tl + 20 ≤ 40 → ∀ S', HC S' ad (tl + 20) (tbN tl tb vs 5) dl df n g pt dn bt m wg rd → Fr (fun t _ => 4 ≤ t) S S' ad ad → post (nI (tl + 20)) S') (hno : ¬ tl + 20 ≤ 40 → px "java/lang/IllegalStateException" S) : w_H_feed post px S (ad 1 0) (vs 0) (vs 1) (vs 2) (vs 3) (vs 4) := by
  obtain ⟨-, -, -, -, -, -, a7, a8, a9, a10, -⟩ := h.1
  obtain ⟨b1, b2, b3, b4⟩ := h.2.1
  unfold w_H_feed w_T_bytesLeft
  refine fun o e => ⟨_, e.trans h.q33.1, h.q33.2, fun o e => ⟨_, e.trans a8, a9, ?_⟩⟩
  rw [a10, b1, pk_sub b2]
  show ((20 : Int32) ≤ nI (40 - tl) → _) ∧ (¬ (20 : Int32) ≤ nI (40 - tl) → _)
  have e20 : (20 : Int32) ≤ nI (40 - tl) ↔ 20 ≤ 40 - tl := nI_leI (a := 20) (by omega) (by omega)
  rw [e20]
  refine ⟨fun hc => ?_, fun hc => hno (by omega)⟩
  refine fun o e => ⟨_, e.trans h.q33.1, h.q33.2, s_append hj h (by omega) (fun S1 h1 f1 => ?_)⟩
  refine fun o e => ⟨_, e.trans h1.q33.1, h1.q33.2, s_append hj h1 (by omega) (fun S2 h2 f2 => ?_)⟩
  refine fun o e => ⟨_, e.trans h2.q33.1, h2.q33.2, s_append hj h2 (by omega) (fun S3 h3 f3 => ?_)⟩
  refine fun o e => ⟨_, e.trans h3.q33.1, h3.q33.2, s_append hj h3 (by omega) (fun S4 h4 f4 => ?_)⟩
  refine fun o e => ⟨_, e.trans h4.q33.1, h4.q33.2, s_append hj h4 (by omega) (fun S5 h5 f5 => ?_)⟩
  refine fun o e => ⟨_, e.trans h5.q33.1, h5.q33.2, ?_⟩
  rw [h5.2.1.1]
  exact hok (by omega) S5 h5 ((((f1.tr f2).tr f3).tr f4).tr f5)
end TAPE
