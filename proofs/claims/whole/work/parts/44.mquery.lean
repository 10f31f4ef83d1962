/-! what the reference tells -/
/-- a row of N places at q, made behind S1, its first i filled with vals -/
def TW (S1 : St) (ad : Nat → Nat → Nat) (q N : Nat) (vals : Nat → Int32) (i : Nat) (S' : St) : Prop := Fr (fun _ _ => True) S1 S' ad ad ∧ sN S' q = N ∧ ∀ x, x < i → sR S' q x = vals x
section TWS
variable {S1 S' : St} {ad : Nat → Nat → Nat} {q N i k t j f : Nat} {vals : Nat → Int32} {v : Int32}
theorem TW.new (hq : q ∉ sL S1) : TW S1 ad q N vals 0 (pNew S1 q 10 N) := ⟨Fr.rf.new hq, len_new, fun x hx => absurd hx (Nat.not_lt_zero x)⟩
theorem TW.st (h : TW S1 ad q N vals i S') (hq : q ∉ sL S1) (hv : v = vals i) : TW S1 ad q N vals (i + 1) (pR S' q i v) := ⟨h.1.R (h.1.tmp hq), h.2.1, fun x hx => by
  by_cases c : x = i
  · subst c; exact up2_at.trans hv
  · exact (up2_a c : up2 (sR S') q i v q x = _).trans (h.2.2 x (by omega))⟩
theorem TW.qq (h : TW S1 ad q N vals i S') (ha : isA S1 k (ad t j)) : sQ S' f (ad t j) = sQ S1 f (ad t j) := h.1.q trivial ha
theorem TW.ii (h : TW S1 ad q N vals i S') (ha : isA S1 k (ad t j)) : sI S' f (ad t j) = sI S1 f (ad t j) := h.1.i trivial ha
theorem TW.r (h : TW S1 ad q N vals i S') (ha : isA S1 k (ad t j)) : sR S' (ad t j) = sR S1 (ad t j) := h.1.r trivial ha
theorem TW.a (h : TW S1 ad q N vals i S') (ha : isA S1 k (ad t j)) : isA S' k (ad t j) ∧ sN S' (ad t j) = sN S1 (ad t j) := (h.1.a trivial ha).2
/-- one more place, told from a row of the state at B -/
theorem told_step {B F : Nat} {K : St → Prop} (aH : isA S1 8 (ad 100 0)) (qF : sQ S1 F (ad 100 0) = some (ad B 0)) (hM : ML S1 ad B 100) (hq : q ∉ sL S1) (w : TW S1 ad q N vals i S') (d : Nat) (hd : d < 8) (hi : i < N) (hN : N < 2 ^ 31) (f : Nat) (hf : mRow f ∧ mKind f = 10 ∧ mLen f = 8) (hv : sR S1 (ad (B + f) 0) d = vals i) (hK : ∀ S'', TW S1 ad q N vals (i + 1) S'' → K S'') :
    ∀ o13 : Option Nat, o13 = sQ S' F (ad 100 0) → ∃ y14 : Nat, o13 = some y14 ∧ isA S' 7 y14 ∧ ∀ o16 : Option Nat, o16 = sQ S' (f + 33) y14 → ∃ y17 : Nat, o16 = some y17 ∧ isA S' 10 y17 ∧ vp_in (nI d) (sN S' y17) ∧ vp_in (nI i) (sN S' q) ∧ ∀ S21 : St, S21 = pR S' q ((nI i).toNatClampNeg) (sR S' y17 (nI d).toNatClampNeg) → K S21 := by
  obtain ⟨x1, x2, x3⟩ := hM.2.2.2.1 f hf.1
  rw [hf.2.1] at x2
  rw [hf.2.2] at x3
  refine fun o e => ⟨_, (e.trans (w.qq aH)).trans qF, (w.a hM.1).1, fun o e => ⟨_, (e.trans (w.qq hM.1)).trans x1, (w.a x2).1, by rw [(w.a x2).2, x3]; exact vp_in_nI hd (by decide), by rw [w.2.1]; exact vp_in_nI hi hN, ?_⟩⟩
  rw [nI_clamp (show i < 2 ^ 31 by omega), nI_clamp (show d < 2 ^ 31 by omega), w.r x2, hv]
  rintro _ rfl
  exact hK _ (w.st hq rfl)
end TWS
section MQ
variable {S : St} {ad : Nat → Nat → Nat} {tl n m : Nat} {tb dl dn : Nat → Nat} {df g wg rd I R : Nat → Nat → Int32} {pt : Nat → Option Nat} {bt u v : Int32}
theorem HM.mr {q N i : Nat} {vals : Nat → Int32} {S' : St} (h : HM S ad tl tb dl df n g pt dn bt m wg rd) (w : TW S ad q N vals i S') : HM S' ad tl tb dl df n g pt dn bt m wg rd := h.fr w.1 (fun _ _ _ _ => trivial)
theorem s_told {post : Int32 → St → Prop} {d w : Nat} (h : HM S ad tl tb dl df n g pt dn bt m wg rd) (hd : d < n) (hw : w < 12)
    (hp : ∀ S', HM S' ad tl tb dl df n g pt dn bt m wg rd → sI S' 56 (ad 100 0) = sI S 56 (ad 100 0) → Fr (fun t _ => t < 45) S S' ad ad → post (tellF g pt dn d w) S') : w_M_dancerTold post S (ad 100 0) (nI d) (nI w) := by
  have hn := h.mc.2.1
  have aH := h.1
  have qS := h.qS.1
  have hL := h.mc.1
  have hd8 : d < 8 := by omega
  unfold w_M_dancerTold
  intro q S2 hq e2
  have w0 : TW S ad q 12 (tellF g pt dn d) 0 S2 := by rw [e2]; exact TW.new hq
  clear e2
  refine told_step aH qS hL hq w0 d hd8 (by decide) (by decide) 7 ⟨by unfold mRow; omega, rfl, rfl⟩ (h.mk.vw (by unfold mInt; omega)) (fun S12 w1 => ?_)
  refine told_step aH qS hL hq w1 d hd8 (by decide) (by decide) 8 ⟨by unfold mRow; omega, rfl, rfl⟩ (h.mk.vw (by unfold mInt; omega)) (fun S21 w2 => ?_)
  refine told_step aH qS hL hq w2 d hd8 (by decide) (by decide) 9 ⟨by unfold mRow; omega, rfl, rfl⟩ (h.mk.vw (by unfold mInt; omega)) (fun S30 w3 => ?_)
  refine told_step aH qS hL hq w3 d hd8 (by decide) (by decide) 10 ⟨by unfold mRow; omega, rfl, rfl⟩ (h.mk.vw (by unfold mInt; omega)) (fun S39 w4 => ?_)
  refine told_step aH qS hL hq w4 d hd8 (by decide) (by decide) 11 ⟨by unfold mRow; omega, rfl, rfl⟩ (h.mk.vw (by unfold mInt; omega)) (fun S48 w5 => ?_)
  refine told_step aH qS hL hq w5 d hd8 (by decide) (by decide) 12 ⟨by unfold mRow; omega, rfl, rfl⟩ (((h.mc.2.2.2.2.2.1 d).2).trans (if_pos hd)) (fun S57 w6 => ?_)
  refine told_step aH qS hL hq w6 d hd8 (by decide) (by decide) 13 ⟨by unfold mRow; omega, rfl, rfl⟩ (h.mk.vw (by unfold mInt; omega)) (fun S66 w7 => ?_)
  refine told_step aH qS hL hq w7 d hd8 (by decide) (by decide) 14 ⟨by unfold mRow; omega, rfl, rfl⟩ (((h.mc.2.2.2.2.2.1 d).1).trans (if_pos hd)) (fun S75 w8 => ?_)
  obtain ⟨x1, x2, x3⟩ := h.row (f := 15) (by unfold mRow; omega)
  have x1 : sQ S 48 (ad 50 0) = some (ad 65 0) := x1
  have x2 : isA S 11 (ad 65 0) := x2
  have x3 : sN S (ad 65 0) = 8 := x3
  have x4 : sR S (ad 65 0) d = g 15 d := h.mk.vw (f := 15) (by unfold mInt; omega)
  refine fun o e => ⟨_, (e.trans (w8.qq aH)).trans qS, (w8.a hL.1).1, fun o e => ⟨_, (e.trans (w8.qq hL.1)).trans x1, (w8.a x2).1, by rw [(w8.a x2).2, x3]; exact vp_in_nI hd8 (by decide), ?_⟩⟩
  have z15 : sR S75 (ad 65 0) (nI d).toNatClampNeg = g 15 d := by rw [nI_clamp (show d < 2 ^ 31 by omega), w8.r x2, x4]
  refine ⟨fun k => k = tellF g pt dn d 8, ?_, fun c => (if_pos (z15 ▸ c) : (if g 15 d = 0 then (0 : Int32) else 1) = 0).symm, fun c => (if_neg (z15 ▸ c) : (if g 15 d = 0 then (0 : Int32) else 1) = 1).symm⟩
  intro k hk
  refine ⟨by rw [w8.2.1]; exact vp_in_nI (n := 8) (by decide) (by decide), ?_⟩
  intro S85 e85
  have w9 : TW S ad q 12 (tellF g pt dn d) 9 S85 := by rw [e85]; exact w8.st hq hk
  clear e85
  refine told_step aH qS hL hq w9 d hd8 (by decide) (by decide) 16 ⟨by unfold mRow; omega, rfl, rfl⟩ (h.mk.vw (by unfold mInt; omega)) (fun S94 w10 => ?_)
  refine told_step aH qS hL hq w10 d hd8 (by decide) (by decide) 17 ⟨by unfold mRow; omega, rfl, rfl⟩ (h.mk.vw (by unfold mInt; omega)) (fun S103 w11 => ?_)
  refine told_step aH qS hL hq w11 d hd8 (by decide) (by decide) 18 ⟨by unfold mRow; omega, rfl, rfl⟩ (h.mk.vw (by unfold mInt; omega)) (fun S112 w12 => ?_)
  rw [w12.2.1, nI_clamp (show w < 2 ^ 31 by omega), w12.2.2 w hw]
  exact ⟨vp_in_nI hw (by decide), hp S112 (h.mr w12) (w12.ii aH) (w12.1.mono (fun _ _ _ => trivial))⟩
theorem s_mdancer {post : Int32 → St → Prop} (hj : Inj ad) (h : HM S ad tl tb dl df n g pt dn bt m wg rd)
    (hok : ∀ i w, i < n → v = nI i → w < 12 → u = nI w → ∀ S', MR S ad 0 tl tb dl df n g pt dn bt m wg rd S' → post (tellF g pt dn i w) S') (hno : (¬ ∃ i w, i < n ∧ v = nI i ∧ w < 12 ∧ u = nI w) → ∀ S', MR S ad 1 tl tb dl df n g pt dn bt m wg rd S' → post 0 S') : w_M_dancer post S (ad 100 0) v u := by
  unfold w_M_dancer
  rintro S1 rfl
  have h1 : HM (pI S 56 (ad 100 0) 0) ad tl tb dl df n g pt dn bt m wg rd := h.th
  have f1 : Fr (fun t _ => t < 45) S (pI S 56 (ad 100 0) 0) ad ad := fr_th hj
  have e56 : sI (pI S 56 (ad 100 0) 0) 56 (ad 100 0) = 0 := th_at
  generalize pI S 56 (ad 100 0) 0 = S1 at *
  refine s_isDancer h1 (fun i hi e => ⟨w_M_no (fun r4 S5 => post r4 S5) S1 (ad 100 0) 1, id, fun c => absurd c (by decide), fun _ => ?_⟩) (fun c => ⟨w_M_no (fun r4 S5 => post r4 S5) S1 (ad 100 0) 1, id, fun _ => s_no hj h1 f1 (hno (fun ⟨k, p, hk, e, _⟩ => c ⟨k, hk, e⟩)), fun c => absurd rfl c⟩)
  refine s_inR 0 11 (by decide) (by decide) (fun w _ hw ew => ⟨fun c => absurd c (by decide), fun _ => ?_⟩) (fun c => ⟨fun _ => s_no hj h1 f1 (hno (fun ⟨k, w, _, _, hw, e⟩ => c ⟨w, Nat.zero_le _, by omega, e⟩)), fun c => absurd rfl c⟩)
  have hp := hok i w hi e (by omega) ew
  subst e
  subst ew
  exact s_told h1 hi (by omega) (fun S' h2 e2 f2 => hp S' ⟨h2, e2.trans e56, f1.tr f2⟩)
theorem HM.wr (h : HM S ad tl tb dl df n g pt dn bt m wg rd) : sQ S 53 (ad 50 0) = some (ad 70 0) ∧ isA S 10 (ad 70 0) ∧ sN S (ad 70 0) = 18 := h.row (f := 20) (by unfold mRow; omega)
theorem HM.rr (h : HM S ad tl tb dl df n g pt dn bt m wg rd) : sQ S 54 (ad 50 0) = some (ad 71 0) ∧ isA S 10 (ad 71 0) ∧ sN S (ad 71 0) = 24 := h.row (f := 21) (by unfold mRow; omega)
theorem s_wtold {post : Int32 → Prop} {j w : Nat} (h : HM S ad tl tb dl df n g pt dn bt m wg rd) (hW : OkW n m wg rd) (hjm : j < m) (hw : w < 6) (hp : post (wtF wg rd j w)) : w_M_winderTold post S (ad 100 0) (nI j) (nI w) := by
  have hm := h.mc.2.2.1
  obtain ⟨-, -, -, l, t, hl, el, et, hlt, hr⟩ := hW j hjm
  have e6 : (6 : Int32) * nI j = nI (6 * j) := by rw [show (6 : Int32) = nI 6 from rfl, pk_mul]
  have e8 : (8 : Int32) * nI j = nI (8 * j) := by rw [show (8 : Int32) = nI 8 from rfl, pk_mul]
  have e3 : nI (6 * j) + 3 = nI (6 * j + 3) := nI_add _ 3
  have e4 : nI (6 * j) + 4 = nI (6 * j + 4) := nI_add _ 4
  unfold w_M_winderTold
  rintro _ rfl
  have w3 : sR S (ad 70 0) (6 * j + 3) = nI l := (h.mk.vww (q := 3) hjm (by decide)).trans el
  have w4 : sR S (ad 70 0) (6 * j + 4) = nI t := (h.mk.vww (q := 4) hjm (by decide)).trans et
  rw [e6, e3, e4]
  refine ⟨fun c => ?_, fun c => ?_⟩
  · have c : w = 4 := (nI_eq (b := 4) (by omega) (by decide)).mp c
    subst c
    have hp : post (whoT wg rd j) := hp
    refine fun o e => ⟨_, e.trans h.qS.1, h.qS.2, fun o e => ⟨_, e.trans h.wr.1, h.wr.2.1, by rw [h.wr.2.2]; exact vp_in_nI (by omega) (by decide), ?_⟩⟩
    rw [nI_clamp (show 6 * j + 3 < 2 ^ 31 by omega), w3]
    refine ⟨fun c => ?_, fun c => ?_⟩
    · have l0 : l = 0 := (nI_eq (b := 0) (by omega) (by decide)).mp c
      have t0 : t = 0 := by omega
      unfold whoT at hp
      rw [et, el, t0, l0, if_neg (nI_pos (by decide)), if_pos (nI_le (Nat.le_refl _) (by decide))] at hp
      exact hp
    · have htl : t < l := hlt.elim id (fun q => absurd (show nI l = 0 by rw [q.1]; rfl) c)
      refine fun o e => ⟨_, e.trans h.qS.1, h.qS.2, fun o20 e20 => fun o e => ⟨_, e.trans h.qS.1, h.qS.2, fun o e => ⟨_, e.trans h.wr.1, h.wr.2.1, by rw [h.wr.2.2]; exact vp_in_nI (by omega) (by decide), _, e20.trans h.rr.1, h.rr.2.1, ?_⟩⟩⟩
      rw [nI_clamp (show 6 * j + 4 < 2 ^ 31 by omega), w4, e8, nI_add, h.rr.2.2, nI_clamp (show 8 * j + t < 2 ^ 31 by omega)]
      refine ⟨vp_in_nI (by omega) (by decide), ?_⟩
      have z : sR S (ad 71 0) (8 * j + t) = rd j t := h.mc.2.2.2.2.2.2.2.1 j t (by omega) (by omega)
      rw [z]
      unfold whoT at hp
      rw [et, el, if_neg (nI_pos (by omega)), if_neg (nI_ge htl (by omega)), if_neg (show ¬ (8 : Int32) ≤ nI t from nI_ge (b := 8) (by omega) (by decide)), nI_clamp (by omega)] at hp
      exact hp
  · have hw4 : w ≠ 4 := fun e => c (by rw [e]; rfl)
    refine fun o e => ⟨_, e.trans h.qS.1, h.qS.2, fun o e => ⟨_, e.trans h.wr.1, h.wr.2.1, ?_⟩⟩
    rw [nI_add, h.wr.2.2, nI_clamp (show 6 * j + w < 2 ^ 31 by omega)]
    refine ⟨vp_in_nI (by omega) (by decide), ?_⟩
    have z : sR S (ad 70 0) (6 * j + w) = wg (wFld w) j := h.mk.vww hjm hw
    rw [z]
    rcases (show w = 0 ∨ w = 1 ∨ w = 2 ∨ w = 3 ∨ w = 5 by omega) with rfl | rfl | rfl | rfl | rfl <;> exact hp
theorem s_mwinder {post : Int32 → St → Prop} (hj : Inj ad) (h : HM S ad tl tb dl df n g pt dn bt m wg rd) (hW : OkW n m wg rd)
    (hok : ∀ i w, i < m → v = nI i → w < 6 → u = nI w → ∀ S', MR S ad 0 tl tb dl df n g pt dn bt m wg rd S' → post (wtF wg rd i w) S') (hno : (¬ ∃ i w, i < m ∧ v = nI i ∧ w < 6 ∧ u = nI w) → ∀ S', MR S ad 1 tl tb dl df n g pt dn bt m wg rd S' → post 0 S') : w_M_winder post S (ad 100 0) v u := by
  unfold w_M_winder
  rintro S1 rfl
  have h1 : HM (pI S 56 (ad 100 0) 0) ad tl tb dl df n g pt dn bt m wg rd := h.th
  have f1 : Fr (fun t _ => t < 45) S (pI S 56 (ad 100 0) 0) ad ad := fr_th hj
  have e56 : sI (pI S 56 (ad 100 0) 0) 56 (ad 100 0) = 0 := th_at
  generalize pI S 56 (ad 100 0) 0 = S1 at *
  refine s_isWinder h1 (fun i hi e => ⟨w_M_no (fun r4 S5 => post r4 S5) S1 (ad 100 0) 1, id, fun c => absurd c (by decide), fun _ => ?_⟩) (fun c => ⟨w_M_no (fun r4 S5 => post r4 S5) S1 (ad 100 0) 1, id, fun _ => s_no hj h1 f1 (hno (fun ⟨k, p, hk, e, _⟩ => c ⟨k, hk, e⟩)), fun c => absurd rfl c⟩)
  refine s_inR 0 5 (by decide) (by decide) (fun w _ hw ew => ⟨fun c => absurd c (by decide), fun _ => ?_⟩) (fun c => ⟨fun _ => s_no hj h1 f1 (hno (fun ⟨k, w, _, _, hw, e⟩ => c ⟨w, Nat.zero_le _, by omega, e⟩)), fun c => absurd rfl c⟩)
  have hp := hok i w hi e (by omega) ew
  subst e
  subst ew
  exact s_wtold h1 hW hi (by omega) (hp S1 ⟨h1, e56, f1⟩)
theorem s_counted {post : Int32 → Prop} {w : Nat} (h : HM S ad tl tb dl df n g pt dn bt m wg rd) (hw : w < 9) (hp : post (cntF n m g bt w)) : w_M_counted post S (ad 100 0) (nI w) := by
  unfold w_M_counted
  have ew : ∀ c : Nat, c < 12 → nI w = nI c → w = c := fun c hc e => (nI_eq (by omega) (by omega)).mp e
  have en : ∀ c : Nat, ¬ nI w = nI c → w ≠ c := fun c h e => h (by rw [e])
  unfold cntF at hp
  refine ⟨fun c => fun o e => ⟨_, e.trans h.qS.1, h.qS.2, ?_⟩, fun c0 => ⟨fun c => fun o e => ⟨_, e.trans h.qS.1, h.qS.2, ?_⟩, fun c1 => ⟨fun c => fun o e => ⟨_, e.trans h.qS.1, h.qS.2, ?_⟩, fun c3 => fun o e => ⟨_, e.trans h.qS.1, h.qS.2, ?_⟩⟩⟩⟩
  · rw [if_pos (ew 0 (by decide) c)] at hp
    have z : sI S 38 (ad 50 0) = bt := h.2.2.2.2.2.2.2.2.2.2.1
    rw [z]; exact hp
  · rw [if_neg (en 0 c0), if_pos (ew 1 (by decide) c)] at hp
    rw [h.mc.2.2.2.1]; exact hp
  · rw [if_neg (en 0 c0), if_neg (en 1 c1), if_pos (ew 3 (by decide) c)] at hp
    rw [h.mc.2.2.2.2.1]; exact hp
  · rw [if_neg (en 0 c0), if_neg (en 1 c1), if_neg (en 3 c3)] at hp
    exact s_sum (S := S) (I := sI S) (R := sR S) h.mc h.mk hp
theorem s_mcount {post : Int32 → St → Prop} (hj : Inj ad) (h : HM S ad tl tb dl df n g pt dn bt m wg rd)
    (hok : ∀ w, w < 9 → v = nI w → ∀ S', MR S ad 0 tl tb dl df n g pt dn bt m wg rd S' → post (cntF n m g bt w) S') (hno : (¬ ∃ w, w < 9 ∧ v = nI w) → ∀ S', MR S ad 1 tl tb dl df n g pt dn bt m wg rd S' → post 0 S') : w_M_count post S (ad 100 0) v := by
  unfold w_M_count
  rintro S1 rfl
  have h1 : HM (pI S 56 (ad 100 0) 0) ad tl tb dl df n g pt dn bt m wg rd := h.th
  have f1 : Fr (fun t _ => t < 45) S (pI S 56 (ad 100 0) 0) ad ad := fr_th hj
  have e56 : sI (pI S 56 (ad 100 0) 0) 56 (ad 100 0) = 0 := th_at
  generalize pI S 56 (ad 100 0) 0 = S1 at *
  refine s_inR 0 8 (by decide) (by decide) (fun w _ hw ew => ⟨fun c => absurd c (by decide), fun _ => ?_⟩) (fun c => ⟨fun _ => s_no hj h1 f1 (hno (fun ⟨w, hw, e⟩ => c ⟨w, Nat.zero_le _, by omega, e⟩)), fun c => absurd rfl c⟩)
  have hp := hok w (by omega) ew
  subst ew
  exact s_counted h1 (by omega) (hp S1 ⟨h1, e56, f1⟩)
theorem s_mat {post : Int32 → St → Prop} (hj : Inj ad) (h : HM S ad tl tb dl df n g pt dn bt m wg rd) (hO : Ok n g pt dn dl)
    (hok : ((∃ a, a < 16 ∧ v = nI a) ∧ ∃ b, b < 16 ∧ u = nI b) → ∀ S', MR S ad 0 tl tb dl df n g pt dn bt m wg rd S' → post (ptI (whoF n g v u)) S') (hno : (¬ ((∃ a, a < 16 ∧ v = nI a) ∧ ∃ b, b < 16 ∧ u = nI b)) → ∀ S', MR S ad 1 tl tb dl df n g pt dn bt m wg rd S' → post 0 S') : w_M_at post S (ad 100 0) v u := by
  unfold w_M_at
  rintro S1 rfl
  have h1 : HM (pI S 56 (ad 100 0) 0) ad tl tb dl df n g pt dn bt m wg rd := h.th
  have f1 : Fr (fun t _ => t < 45) S (pI S 56 (ad 100 0) 0) ad ad := fr_th hj
  have e56 : sI (pI S 56 (ad 100 0) 0) 56 (ad 100 0) = 0 := th_at
  generalize pI S 56 (ad 100 0) 0 = S1 at *
  refine s_inR 0 15 (by decide) (by decide) (fun a _ ha ea => ⟨w_M_no (fun r4 S5 => post r4 S5) S1 (ad 100 0) 1, id, fun c => absurd c (by decide), fun _ => ?_⟩) (fun c => ⟨w_M_no (fun r4 S5 => post r4 S5) S1 (ad 100 0) 1, id, fun _ => s_no hj h1 f1 (hno (fun ⟨⟨k, hk, e⟩, _⟩ => c ⟨k, Nat.zero_le _, by omega, e⟩)), fun c => absurd rfl c⟩)
  refine s_inR 0 15 (by decide) (by decide) (fun b _ hb eb => ⟨fun c => absurd c (by decide), fun _ => ?_⟩) (fun c => ⟨fun _ => s_no hj h1 f1 (hno (fun ⟨_, k, hk, e⟩ => c ⟨k, Nat.zero_le _, by omega, e⟩)), fun c => absurd rfl c⟩)
  have hp := hok ⟨⟨a, by omega, ea⟩, b, by omega, eb⟩ S1 ⟨h1, e56, f1⟩
  refine fun o e => ⟨_, e.trans h1.qS.1, h1.qS.2, ?_⟩
  exact s_at (S := S1) (I := sI S1) (R := sR S1) h1.mc h1.mk hO.2.1 hp
end MQ
