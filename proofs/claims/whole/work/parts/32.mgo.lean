/-! winders, sums, the reference's beat -/
def OkW (n m : Nat) (wg rd : Nat → Nat → Int32) : Prop := ∀ j, j < m → (∃ a, a < 16 ∧ wg 26 j = nI a) ∧ (∃ a, a < 16 ∧ wg 27 j = nI a) ∧ (∃ s, 1 ≤ s ∧ s ≤ 100 ∧ wg 28 j = nI s) ∧ ∃ l t, l ≤ 8 ∧ wg 30 j = nI l ∧ wg 31 j = nI t ∧ (t < l ∨ l = 0 ∧ t = 0) ∧ ∀ p, p < l → ∃ i, i < n ∧ rd j p = nI i
def sgnF (a : Int32) : Int32 := (a >>> (31 &&& 31)) ||| (((-a).toUInt32 >>> ((31 : Int32).toUInt32 &&& Int32.toUInt32 31)).toInt32)
theorem e_signum {post : Int32 → Prop} {S : St} {a : Int32} : w_IN_signum post S a ↔ post (sgnF a) := Iff.rfl
theorem sgnFin : ∀ a b : Fin 16, a ≠ b → sgnF (nI a.1 - nI b.1) = stpV (nI a.1) (nI b.1) := by decide +kernel
theorem absFin : ∀ a b : Fin 16, absF (nI a.1 - nI b.1) = nI (a.1 - b.1 + (b.1 - a.1)) := by decide +kernel
theorem sgnC {a b : Nat} (ha : a < 16) (hb : b < 16) (h : a ≠ b) : sgnF (nI a - nI b) = stpV (nI a) (nI b) := sgnFin ⟨a, ha⟩ ⟨b, hb⟩ (fun e => h (congrArg Fin.val e))
theorem absC {a b : Nat} (ha : a < 16) (hb : b < 16) : absF (nI a - nI b) = nI (a - b + (b - a)) := absFin ⟨a, ha⟩ ⟨b, hb⟩
theorem wFld_inj : ∀ q q' : Fin 6, wFld q.1 = wFld q'.1 → q = q' := by decide
theorem pasV_rem {l t : Nat} (hl : l ≤ 8) (ht : t < l) : nI t + 1 - (nI t + 1) / nI l * nI l = pasV (nI l) (nI t) := by
  unfold pasV
  rw [nI_1, pk_rem (by omega) (by omega) (by omega)]
  by_cases h : t + 1 < l
  · rw [if_neg (nI_ge h (by omega)), Nat.mod_eq_of_lt h]
  · have : t + 1 = l := by omega
    rw [if_pos (nI_le (by omega) (by omega)), this, Nat.mod_self]; rfl
def sumV (g : Nat → Nat → Int32) (w : Int32) (i : Nat) : Int32 := if w = 2 then (if g 15 i = 0 then 0 else 1) else if w = 4 then (if g 16 i ≤ 0 then 0 else 1) else if w = 5 then g 10 i else if w = 6 then g 17 i else if w = 7 then g 18 i else (if spF (g 10 i) (g 11 i) = 0 then 0 else 1)
def sumF (n : Nat) (g : Nat → Nat → Int32) (w : Int32) : Int32 := fld (fun a i => a + sumV g w i) 0 n
section MGO
variable {S : St} {ad : Nat → Nat → Nat} {B H n m : Nat} {I R0 R g wg rd : Nat → Nat → Int32} {pt : Nat → Option Nat} {dn dl : Nat → Nat} {df : Nat → Nat → Int32} {d j t : Nat}
theorem Mk.upw {q : Nat} {v : Int32} (hj : Inj ad) (h : Mk ad B m R0 R g wg) (hq : q < 6) : Mk ad B m R0 (up2 R (ad (B + 20) 0) (6 * j + q) v) g (up2 wg (wFld q) j v) := by
  obtain ⟨h1, h2, h3⟩ := h
  refine ⟨fun a k1 k2 => ?_, fun f' i hf' => ?_, fun j' q' k1 k2 => ?_⟩
  · rw [row_f (i := 0) k2]; exact h1 a k1 k2
  · rw [row_f (i := 0) (fun e => by have := (hj _ _ _ _ e).1; unfold mInt at hf'; omega)]; exact h2 f' i hf'
  · have hk := h3 j' q' k1 k2
    simp only [up2, true_and]
    by_cases hjj : j' = j
    · by_cases hqq : q' = q
      · rw [if_pos (by rw [hjj, hqq]), if_pos ⟨by rw [hqq], hjj⟩]
      · rw [if_neg (by omega), if_neg (fun e => hqq (congrArg Fin.val (wFld_inj ⟨q', k2⟩ ⟨q, hq⟩ e.1)))]; exact hk
    · rw [if_neg (by omega), if_neg (fun e => hjj e.2)]; exact hk
theorem Mk.vww (h : Mk ad B m R0 R g wg) {q : Nat} (hjm : j < m) (hq : q < 6) : R (ad (B + 20) 0) (6 * j + q) = wg (wFld q) j := h.2.2 j q hjm hq
theorem s_go2 {post : St → Prop} (hj : Inj ad) (hC : MC S I R0 ad B H n m pt dn dl df rd) (hM : Mk ad B m R0 R g wg) (hjm : j < m) (hD : ∀ i, i < n → OkD g dl (dn i) i) (hW : OkW n m wg rd) (ht : t < n) {l p : Nat} (hl : l ≤ 8) (el : wg 30 j = nI l) (hpl : p < l) (ep : wg 31 j = nI p) (er : rd j p = nI t) (hp : ∀ R', Mk ad B m R0 R' (attF (g, wg) j t).1 (attF (g, wg) j t).2 → post (kS S I R')) : w_S_go post (kS S I R) (ad B 0) (nI j) := by
  have hn := hC.2.1
  have hm := hC.2.2.1
  obtain ⟨c1, -, -, -, -, -, -, crd, -⟩ := id hC
  obtain ⟨-, -, -, kr, -, -⟩ := c1
  obtain ⟨a1, a2, a3⟩ := kr 7 (by unfold mRow; omega)
  obtain ⟨b1, b2, b3⟩ := kr 8 (by unfold mRow; omega)
  obtain ⟨c1, c2, c3⟩ := kr 10 (by unfold mRow; omega)
  obtain ⟨d1, d2, d3⟩ := kr 20 (by unfold mRow; omega)
  obtain ⟨e1, e2, e3⟩ := kr 21 (by unfold mRow; omega)
  have a1 : sQ S 40 (ad B 0) = some (ad (B + 7) 0) := a1
  have b1 : sQ S 41 (ad B 0) = some (ad (B + 8) 0) := b1
  have c1 : sQ S 43 (ad B 0) = some (ad (B + 10) 0) := c1
  have d1 : sQ S 53 (ad B 0) = some (ad (B + 20) 0) := d1
  have e1 : sQ S 54 (ad B 0) = some (ad (B + 21) 0) := e1
  have a3 : sN S (ad (B + 7) 0) = 8 := a3
  have b3 : sN S (ad (B + 8) 0) = 8 := b3
  have c3 : sN S (ad (B + 10) 0) = 8 := c3
  have d3 : sN S (ad (B + 20) 0) = 18 := d3
  have e3 : sN S (ad (B + 21) 0) = 24 := e3
  have hin : vp_in (nI t) 8 := vp_in_nI (by omega) (by decide)
  have hi0 : ∀ q, q < 6 → vp_in (nI (6 * j + q)) 18 := fun q hq => vp_in_nI (by omega) (by decide)
  have z6 : (6 : Int32) * nI j = nI (6 * j) := by rw [show (6 : Int32) = nI 6 from rfl, pk_mul]
  have z8 : (8 : Int32) * nI j + nI p = nI (8 * j + p) := by rw [show (8 : Int32) = nI 8 from rfl, pk_mul, nI_add]
  have zc : ∀ q, q < 6 → (nI (6 * j + q)).toNatClampNeg = 6 * j + q := fun q hq => nI_clamp (by omega)
  have zq : nI (6 * j) + 1 = nI (6 * j + 1) ∧ nI (6 * j) + 2 = nI (6 * j + 2) ∧ nI (6 * j) + 3 = nI (6 * j + 3) ∧ nI (6 * j) + 4 = nI (6 * j + 4) ∧ nI (6 * j) + 5 = nI (6 * j + 5) := ⟨nI_add _ _, nI_add _ 2, nI_add _ 3, nI_add _ 4, nI_add _ 5⟩
  have i0 : vp_in (nI (6 * j)) 18 := hi0 0 (by decide)
  have zc0 : (nI (6 * j)).toNatClampNeg = 6 * j := zc 0 (by decide)
  have w0 : R (ad (B + 20) 0) (6 * j) = wg 26 j := hM.vww (q := 0) hjm (by decide)
  have w1 : R (ad (B + 20) 0) (6 * j + 1) = wg 27 j := hM.vww (q := 1) hjm (by decide)
  have w2 : R (ad (B + 20) 0) (6 * j + 2) = wg 28 j := hM.vww (q := 2) hjm (by decide)
  have w3 : R (ad (B + 20) 0) (6 * j + 3) = wg 30 j := hM.vww (q := 3) hjm (by decide)
  have w4 : R (ad (B + 20) 0) (6 * j + 4) = wg 31 j := hM.vww (q := 4) hjm (by decide)
  have w5 : R (ad (B + 20) 0) (6 * j + 5) = wg 32 j := hM.vww (q := 5) hjm (by decide)
  have wr : R (ad (B + 21) 0) (8 * j + p) = nI t := (congrFun (hM.st hj (Or.inr (Or.inr rfl))) _).trans ((crd j p (by omega) (by omega)).trans er)
  obtain ⟨⟨x1, hx1, ex1⟩, ⟨y1, hy1, ey1⟩, -, ⟨sp, hsp, esp⟩, -⟩ := hD t ht
  obtain ⟨⟨x2, hx2, ex2⟩, ⟨y2, hy2, ey2⟩, ⟨st, hst1, hst2, est⟩, -⟩ := hW j hjm
  have v7 : R (ad (B + 7) 0) t = nI x1 := (hM.vw (by unfold mInt; omega)).trans ex1
  have v8 : R (ad (B + 8) 0) t = nI y1 := (hM.vw (by unfold mInt; omega)).trans ey1
  have v10 : R (ad (B + 10) 0) t = nI sp := (hM.vw (by unfold mInt; omega)).trans esp
  unfold w_S_go
  simp only [forall_eq, kS_Q, kS_A, kS_N, kS_R, kS_pR, a1, b1, c1, d1, e1, a3, b3, c3, d3, e3, Option.some.injEq, exists_eq_left', e_signum, z6, zq.1, zq.2.1, zq.2.2.1, zq.2.2.2.1, zq.2.2.2.2, zc0, zc 1 (by decide), zc 2 (by decide), zc 3 (by decide), zc 4 (by decide), zc 5 (by decide), w0, w1, w2, w3, w4, w5, ep, z8, nI_clamp (show 8 * j + p < 2 ^ 31 by omega), wr, nI_clamp (show t < 2 ^ 31 by omega), v7, v8, v10]
  obtain ⟨D, hD1, hD2⟩ : ∃ D, (absF (nI x1 - wg 26 j) + absF (nI y1 - wg 27 j)) = nI D ∧ dsF (wg 26 j) (wg 27 j) (g 7 t) (g 8 t) = nI D ∧ D < 64 := by
    refine ⟨(x1 - x2 + (x2 - x1)) + (y1 - y2 + (y2 - y1)), ?_, ?_, by omega⟩
    · rw [ex2, ey2, absC hx1 hx2, absC hy1 hy2, nI_add]
    · unfold dsF
      rw [ex2, ey2, ex1, ey1, absC hx2 hx1, absC hy2 hy1, nI_add]
      congr 1
      omega
  obtain ⟨hD2, hD3⟩ := hD2
  have hfar : (2 ≤ absF (nI x1 - wg 26 j) + absF (nI y1 - wg 27 j)) ↔ 1 < dsF (wg 26 j) (wg 27 j) (g 7 t) (g 8 t) := by
    rw [hD1, hD2]
    have q1 := nI_leI (a := 2) (b := D) (by omega) (by omega)
    have q2 := nI_ltI (a := 1) (b := D) (by omega) (by omega)
    rw [show (2 : Int32) = nI 2 from rfl, show (1 : Int32) = nI 1 from rfl, q1, q2]
    omega
  have hfar1 : (2 ≤ (if 0 ≤ nI x1 - wg 26 j then nI x1 - wg 26 j else 0 - (nI x1 - wg 26 j)) + if 0 ≤ nI y1 - wg 27 j then nI y1 - wg 27 j else 0 - (nI y1 - wg 27 j)) ↔ 1 < dsF (wg 26 j) (wg 27 j) (g 7 t) (g 8 t) := hfar
  rw [hfar1]
  have hsp : (g 10 t < 150) ↔ ¬ 150 ≤ nI sp := by
    rw [esp]
    have q1 := nI_leI (a := 150) (b := sp) (by omega) (by omega)
    have q2 := nI_ltI (a := sp) (b := 150) (by omega) (by omega)
    rw [show (150 : Int32) = nI 150 from rfl, q1, q2]
    omega
  unfold attF at hp
  dsimp only at hp
  generalize hF : dsF (wg 26 j) (wg 27 j) (g 7 t) (g 8 t) = far at hp ⊢
  refine ⟨d2, hi0 4 (by decide), e2, vp_in_nI (by omega) (by decide), a2, hin, d2, i0, b2, hin, d2, hi0 1 (by decide), fun k => (k = 0 ∧ 1 < far) ∨ (k = 1 ∧ ¬ 1 < far), ?_, fun h => Or.inl ⟨rfl, h⟩, fun h => Or.inr ⟨rfl, h⟩⟩
  intro k hk
  refine ⟨c2, hin, 150 ≤ nI sp ∨ ¬ 1 < far, fun hJ => ?_, fun h => Or.inl h, fun h150 => ⟨fun hk0 => ⟨fun hx0 => ?_, fun hx0 => ?_⟩, fun hk0 => ?_⟩⟩
  · refine ⟨c2, hin, fun S' => ∃ R' gg ww, S' = kS S I R' ∧ Mk ad B m R0 R' gg ww ∧ ww 30 j = nI l ∧ ww 31 j = nI p ∧ ∀ R', Mk ad B m R0 R' gg (pasT ww j) → post (kS S I R'), ?_, fun h => ?_, fun h => ?_⟩
    · rintro _ ⟨R', gg, ww, rfl, h1, h30, h31, hpp⟩
      have y3 : R' (ad (B + 20) 0) (6 * j + 3) = nI l := (h1.vww (q := 3) hjm (by decide)).trans h30
      have y4 : R' (ad (B + 20) 0) (6 * j + 4) = nI p := (h1.vww (q := 4) hjm (by decide)).trans h31
      simp only [kS_Q, kS_A, kS_N, kS_R, kS_pR, d1, d3, Option.some.injEq, exists_eq_left', y3, y4]
      refine ⟨d2, hi0 4 (by decide), d2, hi0 3 (by decide), nI_ne0 (by omega) (by omega), d2, hi0 4 (by decide), ?_⟩
      refine hpp _ ?_
      rw [pasV_rem hl hpl]
      have h2 := h1.upw (j := j) (q := 4) (v := pasV (nI l) (nI p)) hj (by decide)
      unfold pasT
      rw [h30, h31]
      exact h2
    · rw [if_neg (fun q => hsp.mp q h)] at hp
      exact ⟨R, g, wg, rfl, hM, el, ep, hp⟩
    · have hnf : ¬ 1 < far := hJ.elim (fun q => absurd q h) id
      rw [if_pos (hsp.mpr h), if_neg hnf] at hp
      refine ⟨c2, hin, d2, hi0 2 (by decide), c2, hin, d2, hi0 5 (by decide), hi0 5 (by decide), ?_⟩
      have ewd : (if nI sp + wg 28 j < 200 then nI sp + wg 28 j else 200) = wdF (g 10 t) (wg 28 j) := by
        unfold wdF
        rw [esp, est, nI_add]
        have q2 := nI_ltI (a := sp + st) (b := 200) (by omega) (by omega)
        by_cases c : nI (sp + st) < 200
        · rw [if_pos c, if_pos (show (0 : Int32) < nI (sp + st) from nI_lt (a := 0) (by omega) (by omega))]
        · rw [if_neg c, if_pos (by decide)]
      rw [ewd]
      have h3 := hM.up (f := 10) (d := t) (v := wdF (g 10 t) (wg 28 j)) hj (by unfold mInt; omega)
      have y5 : up2 R (ad (B + 10) 0) t (wdF (g 10 t) (wg 28 j)) (ad (B + 20) 0) (6 * j + 5) = wg 32 j := h3.vww (q := 5) hjm (by decide)
      rw [y5]
      exact ⟨_, _, _, rfl, h3.upw (j := j) (q := 5) hj (by decide), (up2_f (show 30 ≠ wFld 5 by decide)).trans el, (up2_f (show 31 ≠ wFld 5 by decide)).trans ep, hp⟩
  · have hf : 1 < far := hk.elim (fun q => q.2) (fun q => absurd (q.1.symm.trans hk0) (by decide))
    have hxe : x1 = x2 := by
      rw [ex2] at hx0
      rcases Nat.lt_trichotomy x1 x2 with q | q | q
      · exact absurd hx0 (fun e => by have := pk_sneg (a := x1) (b := x2) (by omega) q; rw [e] at this; exact absurd this (by decide))
      · exact q
      · rw [pk_sub (by omega)] at hx0
        exact absurd hx0 (nI_ne0 (by omega) (by omega))
    rw [if_pos (hsp.mpr h150), if_pos hf, if_pos (show wg 26 j = g 7 t by rw [ex1, ex2, hxe])] at hp
    refine ⟨d2, hi0 1 (by decide), hi0 1 (by decide), ?_⟩
    have hyn : y1 ≠ y2 := by
      intro e
      have : far = nI 0 := by
        rw [← hF]; unfold dsF
        rw [ex2, ey2, ex1, ey1, absC hx2 hx1, absC hy2 hy1, nI_add]
        congr 1; omega
      rw [this] at hf
      exact absurd hf (by decide)
    have hs := sgnC hy1 hy2 hyn
    rw [ey1, ey2] at hp
    rw [ey2, hs]
    exact hp _ (hM.upw (j := j) (q := 1) hj (by decide))
  · have hf : 1 < far := hk.elim (fun q => q.2) (fun q => absurd (q.1.symm.trans hk0) (by decide))
    have hxn : x1 ≠ x2 := by
      intro e
      rw [ex2, e, pk_sub (Nat.le_refl _), Nat.sub_self] at hx0
      exact hx0 rfl
    rw [if_pos (hsp.mpr h150), if_pos hf, if_neg (show ¬ wg 26 j = g 7 t by rw [ex1, ex2]; exact fun e => hxn ((nI_eq (by omega) (by omega)).mp e).symm)] at hp
    refine ⟨d2, i0, i0, ?_⟩
    have hs := sgnC hx1 hx2 hxn
    rw [ex1, ex2] at hp
    rw [ex2, hs]
    exact hp _ (hM.upw (j := j) (q := 0) hj (by decide))
  · exact Or.inr (hk.elim (fun q => absurd q.1 hk0) (fun q => q.2))
end MGO
