def OkD (g : Nat → Nat → Int32) (dl : Nat → Nat) (k i : Nat) : Prop := (∃ a, a < 16 ∧ g 7 i = nI a) ∧ (∃ a, a < 16 ∧ g 8 i = nI a) ∧ (∃ f, f < 4 ∧ g 9 i = nI f) ∧ (∃ s, s ≤ 200 ∧ g 10 i = nI s) ∧ (∃ c, 1 ≤ c ∧ c ≤ 9 ∧ g 11 i = nI c) ∧ (∃ p, p < dl k ∧ g 13 i = nI p) ∧ (g 15 i = 0 ∨ g 15 i = 1) ∧ ∃ z : Nat, z ≤ 3 ∧ g 16 i = nI z
/-- what holds of a floor's dancers at each beat -/
def Ok (n : Nat) (g : Nat → Nat → Int32) (pt : Nat → Option Nat) (dn dl : Nat → Nat) : Prop := (∀ i, i < n → OkD g dl (dn i) i) ∧ (∀ i j, i < n → j < n → g 7 i = g 7 j → g 8 i = g 8 j → i = j) ∧
  (∀ i j, i < n → pt i = some j → j < n ∧ i ≠ j ∧ pt j = some i ∧ ∃ s, s < 4 ∧ bes g i j s) ∧ ∀ i, i < n → pt i = none → g 15 i = 0
theorem figO_nI {dl : Nat → Nat} {df : Nat → Nat → Int32} {k p : Nat} (hp : p < dl k) (hl : dl k ≤ 24) : figO dl df k (nI p) = df k p := by
  unfold figO
  rw [if_neg (nI_pos (by omega)), if_neg (nI_ge hp (by omega)), if_neg (fun h => by have := (nI_leI (a := 24) (b := p) (by omega) (by omega)).mp h; omega), nI_clamp (by omega)]
theorem nxtP_rem {dl : Nat → Nat} {k p : Nat} (hp : p < dl k) (hl : dl k ≤ 24) : nI p + 1 - (nI p + 1) / nI (dl k) * nI (dl k) = nxtP dl k (nI p) := by
  unfold nxtP
  rw [nI_1, pk_rem (by omega) (by omega) (by omega)]
  by_cases h : p + 1 < dl k
  · rw [if_neg (nI_ge h (by omega)), Nat.mod_eq_of_lt h]
  · have : p + 1 = dl k := by omega
    rw [if_pos (nI_le (by omega) (by omega)), this, Nat.mod_self]; rfl
theorem inwM_o {n : Nat} {g : Nat → Nat → Int32} {pt : Nat → Option Nat} {d j : Nat} (h1 : pt j = some d) : inwM n g (g 19 j) (g 20 j) d (some j) = inwF n pt g j := by
  unfold inwM inwF
  cases whoF n g (g 19 j) (g 20 j) with
  | none => rfl
  | some u =>
    dsimp only
    rw [h1]
    simp only [Option.some.injEq]
    have e1 : (d = u) = (u = d) := propext ⟨fun e => e.symm, fun e => e.symm⟩
    have e2 : (j = u) = (u = j) := propext ⟨fun e => e.symm, fun e => e.symm⟩
    simp only [e1, e2]
    by_cases h2 : u = d <;> by_cases h3 : u = j <;> simp [h2, h3]
theorem isN0 {o : Option Nat} : isN o = 0 ↔ ¬ o = none := by cases o <;> simp [isN]
theorem isN1 {o : Option Nat} : isN o = 1 ↔ o = none := by cases o <;> simp [isN]
theorem frF01 {n : Nat} {g : Nat → Nat → Int32} {x y : Int32} {d : Nat} {o : Option Nat} : frF n g x y d o = 0 ∨ frF n g x y d o = 1 := by
  unfold frF
  split
  · exact Or.inl rfl
  · cases inwM n g x y d o
    · exact Or.inr rfl
    · exact Or.inl rfl
theorem frF1 {n : Nat} {g : Nat → Nat → Int32} {x y : Int32} {d : Nat} {o : Option Nat} : frF n g x y d o = 1 ↔ ¬ onF x y = 0 ∧ inwM n g x y d o = none := by
  unfold frF
  by_cases h : onF x y = 0
  · rw [if_pos h]; exact ⟨fun e => absurd e (by decide), fun e => absurd h e.1⟩
  · rw [if_neg h, isN1]; exact ⟨fun e => ⟨h, e⟩, fun e => e.2⟩
theorem whoF_cg {n : Nat} {g g' : Nat → Nat → Int32} {x y : Int32} (h7 : ∀ i, g 7 i = g' 7 i) (h8 : ∀ i, g 8 i = g' 8 i) : whoF n g x y = whoF n g' x y := by
  unfold whoF
  simp only [h7, h8]
theorem inwM_cg {n : Nat} {g g' : Nat → Nat → Int32} {x y : Int32} {d : Nat} {o : Option Nat} (h7 : ∀ i, g 7 i = g' 7 i) (h8 : ∀ i, g 8 i = g' 8 i) : inwM n g x y d o = inwM n g' x y d o := by
  unfold inwM
  rw [whoF_cg h7 h8]
theorem stg_x {g : Nat → Nat → Int32} {t f i : Nat} (h1 : f ≠ 16) (h2 : f ≠ 18) : stg g t f i = g f i := by
  unfold stg
  rw [up2_f h2, up2_f h1]
theorem stgO_x {g : Nat → Nat → Int32} {o : Option Nat} {f i : Nat} (h1 : f ≠ 16) (h2 : f ≠ 18) : stgO g o f i = g f i := by
  cases o with
  | none => rfl
  | some t => exact stg_x h1 h2
theorem stg_v {g : Nat → Nat → Int32} {t f i : Nat} : stg g t f i = if f = 18 ∧ i = t then g 18 t + 1 else if f = 16 ∧ i = t then 3 else g f i := rfl
theorem stg_comm {g : Nat → Nat → Int32} {a b : Nat} : stg (stg g a) b = stg (stg g b) a := by
  by_cases hab : a = b
  · rw [hab]
  · have hba : ¬ b = a := fun e => hab e.symm
    funext f i
    simp only [stg_v]
    by_cases h1 : f = 18
    · subst h1
      by_cases h2 : i = a
      · subst h2
        simp [hab, hba]
      · by_cases h3 : i = b
        · subst h3
          simp [hab, hba]
        · simp [h2, h3]
    · by_cases h4 : f = 16
      · subst h4
        by_cases h2 : i = a <;> by_cases h3 : i = b <;> simp [h2, h3]
      · simp [h1, h4]
theorem stgO_comm {g : Nat → Nat → Int32} {a b : Option Nat} : stgO (stgO g a) b = stgO (stgO g b) a := by
  cases a with
  | none => rfl
  | some a => cases b with
    | none => rfl
    | some b => exact stg_comm
theorem goT_o {g : Nat → Nat → Int32} {t f i : Nat} {q : Int32} (h : i ≠ t) : goT g t q f i = g f i := by
  unfold goT
  rw [up2_a h, up2_a h, up2_a h, up2_a h, up2_a h]
def fr2 (n : Nat) (g : Nat → Nat → Int32) (pt : Nat → Option Nat) (d : Nat) : Int32 := match pt d with
  | none => 1
  | some j => frF n g (g 19 j) (g 20 j) d (some j)
theorem fr2_01 {n : Nat} {g : Nat → Nat → Int32} {pt : Nat → Option Nat} {d : Nat} : fr2 n g pt d = 0 ∨ fr2 n g pt d = 1 := by
  unfold fr2
  cases pt d with
  | none => exact Or.inr rfl
  | some j => exact frF01
theorem and01 {a b : Int32} (ha : a = 0 ∨ a = 1) (hb : b = 0 ∨ b = 1) : a &&& b = 0 ↔ ¬ (a = 1 ∧ b = 1) := by
  rcases ha with rfl | rfl <;> rcases hb with rfl | rfl <;> decide
theorem end_fr {n : Nat} {g : Nat → Nat → Int32} {pt : Nat → Option Nat} {d : Nat} (hs : ∀ j, pt d = some j → pt j = some d) : (offF pt g d = 0 ∧ inwF n pt g d = none ∧ inw2 n pt g d = none) ↔ (frF n g (g 19 d) (g 20 d) d (pt d) = 1 ∧ fr2 n g pt d = 1) := by
  rw [frF1]
  have e1 : inwM n g (g 19 d) (g 20 d) d (pt d) = inwF n pt g d := rfl
  rw [e1]
  unfold offF inw2 fr2
  cases hpt : pt d with
  | none =>
    dsimp only
    by_cases h : onF (g 19 d) (g 20 d) = 0
    · rw [if_pos h]; exact ⟨fun e => absurd e.1 (by decide), fun e => absurd h e.1.1⟩
    · rw [if_neg h]; exact ⟨fun e => ⟨⟨h, e.2.1⟩, rfl⟩, fun e => ⟨rfl, e.1.2, rfl⟩⟩
  | some j =>
    dsimp only
    rw [frF1, inwM_o (hs j hpt)]
    by_cases h : onF (g 19 d) (g 20 d) = 0
    · rw [if_pos h]; exact ⟨fun e => absurd e.1 (by decide), fun e => absurd h e.1.1⟩
    · rw [if_neg h]
      by_cases h2 : onF (g 19 j) (g 20 j) = 0
      · rw [if_pos h2]; exact ⟨fun e => absurd e.1 (by decide), fun e => absurd h2 e.2.1⟩
      · rw [if_neg h2]; exact ⟨fun e => ⟨⟨h, e.2.1⟩, h2, e.2.2⟩, fun e => ⟨rfl, e.1.2, e.2.2⟩⟩
theorem ptI_s {j : Nat} : ptI (some j) = nI j := rfl
theorem ptI_n : ptI none = -1 := rfl
section ACT
variable {S : St} {ad : Nat → Nat → Nat} {B H n m : Nat} {I R0 R g wg rd : Nat → Nat → Int32} {pt : Nat → Option Nat} {dn dl : Nat → Nat} {df : Nat → Nat → Int32} {d : Nat}
theorem s_act {post : St → Prop} (hj : Inj ad) (hC : MC S I R0 ad B H n m pt dn dl df rd) (hM : Mk ad B m R0 R g wg) (hO : Ok n g pt dn dl) (hB : B + 21 < H) (hd : d < n) (hp : ∀ R', Mk ad B m R0 R' (perfF n pt dn dl df g d).2 wg → post (kS S I R')) : w_S_act post (kS S I R) (ad B 0) (nI d) := by
  have hn := hC.2.1
  obtain ⟨x1, x2, ⟨f0, hf0, ef0⟩, -, -, ⟨p0, hp0, ep0⟩, -, -⟩ := hO.1 d hd
  obtain ⟨c1, -, -, -, -, cr, cd, -, cD⟩ := id hC
  obtain ⟨k1, k2, k3, kr, ⟨kf1, kf2, kf3⟩, ⟨kl1, kl2, kl3⟩⟩ := c1
  have hk8 : dn d < 8 := cd d hd
  obtain ⟨m1, m2, m3, m4⟩ := cD (dn d) hk8
  obtain ⟨a1, a2, a3⟩ := kr 7 (by unfold mRow; omega)
  obtain ⟨b1, b2, b3⟩ := kr 8 (by unfold mRow; omega)
  obtain ⟨c1, c2, c3⟩ := kr 9 (by unfold mRow; omega)
  obtain ⟨d1, d2, d3⟩ := kr 12 (by unfold mRow; omega)
  obtain ⟨e1, e2, e3⟩ := kr 13 (by unfold mRow; omega)
  obtain ⟨f1, f2, f3⟩ := kr 14 (by unfold mRow; omega)
  have a1 : sQ S 40 (ad B 0) = some (ad (B + 7) 0) := a1
  have b1 : sQ S 41 (ad B 0) = some (ad (B + 8) 0) := b1
  have c1 : sQ S 42 (ad B 0) = some (ad (B + 9) 0) := c1
  have d1 : sQ S 45 (ad B 0) = some (ad (B + 12) 0) := d1
  have e1 : sQ S 46 (ad B 0) = some (ad (B + 13) 0) := e1
  have f1 : sQ S 47 (ad B 0) = some (ad (B + 14) 0) := f1
  have a3 : sN S (ad (B + 7) 0) = 8 := a3
  have b3 : sN S (ad (B + 8) 0) = 8 := b3
  have c3 : sN S (ad (B + 9) 0) = 8 := c3
  have d3 : sN S (ad (B + 12) 0) = 8 := d3
  have e3 : sN S (ad (B + 13) 0) = 8 := e3
  have f3 : sN S (ad (B + 14) 0) = 8 := f3
  have hin : vp_in (nI d) 8 := vp_in_nI (by omega) (by decide)
  have q14 : R (ad (B + 14) 0) d = ptI (pt d) := by
    rw [hM.st hj (Or.inr (Or.inl rfl)), (cr d).1, if_pos hd]
  have q12 : R (ad (B + 12) 0) d = nI (dn d) := by
    rw [hM.st hj (Or.inl rfl), (cr d).2, if_pos hd]
  have q13 : R (ad (B + 13) 0) d = nI p0 := (hM.vw (by unfold mInt; omega)).trans ep0
  have ql : R (ad (H + 2) 0) (dn d) = nI (dl (dn d)) := (congrFun (hM.far hj (t := H + 2) (i := 0) (Or.inr (by omega))) _).trans m1
  have qf : R (ad (H + 1) 0) (24 * dn d + p0) = df (dn d) p0 := (congrFun (hM.far hj (t := H + 1) (i := 0) (Or.inr (by omega))) _).trans (m4 p0 hp0)
  have e24 : (24 : Int32) * nI (dn d) + nI p0 = nI (24 * dn d + p0) := by rw [show (24 : Int32) = nI 24 from rfl, pk_mul, nI_add]
  unfold w_S_act
  simp only [forall_eq, kS_Q, kS_A, kS_N, kS_R, kS_pR, k2, kf1, kl1, kf3, kl3, a1, b1, c1, d1, e1, f1, a3, b3, c3, d3, e3, f3, Option.some.injEq, exists_eq_left', nI_clamp (show d < 2 ^ 31 by omega), q14, q12, q13, ql, qf, e24, nI_clamp (show dn d < 2 ^ 31 by omega), nI_clamp (show 24 * dn d + p0 < 2 ^ 31 by omega), nxtP_rem hp0 m3]
  refine ⟨f2, hin, k3, d2, hin, e2, hin, kf2, vp_in_nI (by omega) (by decide), e2, hin, k3, d2, hin, kl2, vp_in_nI (by omega) (by decide), nI_ne0 (by omega) (by omega), e2, hin, ?_⟩
  have hs : ∀ j, pt d = some j → j < n ∧ d ≠ j ∧ pt j = some d ∧ ∃ s, s < 4 ∧ bes g d j s := fun j h => hO.2.2.1 d j hd h
  have hpn : ∀ j, pt d = some j → j < n := fun j h => (hs j h).1
  have hg1 := hM.up (f := 13) (d := d) (v := nxtP dl (dn d) (nI p0)) hj (by unfold mInt; omega)
  unfold perfF at hp
  rw [ep0, figO_nI hp0 m3] at hp
  generalize hfig : df (dn d) p0 = fig at hp ⊢
  generalize hR1 : up2 R (ad (B + 13) 0) d (nxtP dl (dn d) (nI p0)) = R1 at hg1 ⊢
  have w7 : ∀ i, (up2 g 13 d (nxtP dl (dn d) (nI p0))) 7 i = g 7 i := fun i => rfl
  have w8 : ∀ i, (up2 g 13 d (nxtP dl (dn d) (nI p0))) 8 i = g 8 i := fun i => rfl
  have w9 : ∀ i, (up2 g 13 d (nxtP dl (dn d) (nI p0))) 9 i = g 9 i := fun i => rfl
  generalize hgg : up2 g 13 d (nxtP dl (dn d) (nI p0)) = g1 at hg1 hp w7 w8 w9
  have h2 : Mk ad B m R0 R1 (aimF g1 pt d fig) wg := hg1.cg (fun f i hf => (aim_x (by unfold mInt at hf; omega) (by unfold mInt at hf; omega)).symm)
  have u7 : ∀ i, (aimF g1 pt d fig) 7 i = g 7 i := fun i => (aim_x (by decide) (by decide)).trans (w7 i)
  have u8 : ∀ i, (aimF g1 pt d fig) 8 i = g 8 i := fun i => (aim_x (by decide) (by decide)).trans (w8 i)
  have u9 : ∀ i, (aimF g1 pt d fig) 9 i = g 9 i := fun i => (aim_x (by decide) (by decide)).trans (w9 i)
  have v7 : ∀ i, R1 (ad (B + 7) 0) i = g 7 i := fun i => (h2.vw (by unfold mInt; omega)).trans (u7 i)
  have v8 : ∀ i, R1 (ad (B + 8) 0) i = g 8 i := fun i => (h2.vw (by unfold mInt; omega)).trans (u8 i)
  have v9 : ∀ i, R1 (ad (B + 9) 0) i = g 9 i := fun i => (h2.vw (by unfold mInt; omega)).trans (u9 i)
  simp only [v7, v8, v9]
  have hn1 : ∀ {p q : Prop}, pt d = none → (ptI (pt d) = -1 → p) → p := fun h f => f (by rw [h]; rfl)
  have gn := fun h => aim_n (g := g1) (pt := pt) (d := d) (fig := fig) h
  have gw := fun j h hd => aim_w (g := g1) (pt := pt) (d := d) (j := j) (fig := fig) h hd
  have gs := fun j h hd => aim_s (g := g1) (pt := pt) (d := d) (j := j) (fig := fig) h hd
  have gr := fun j h hd => aim_r (g := g1) (pt := pt) (d := d) (j := j) (fig := fig) h hd
  have gt := fun j h hd => aim_t (g := g1) (pt := pt) (d := d) (j := j) (fig := fig) h hd
  have hdir : dirF g1 d = dirF g d := by
    funext j
    unfold dirF
    rw [w7, w7, w8, w8]
  unfold glX glY at gn gw
  simp only [w7, w8, w9, hdir] at gn gw gs gr gt
  generalize aimF g1 pt d fig = g2 at h2 hp u7 u8 u9 gn gw gs gr gt
  have hdis2 : ∀ i j, i < n → j < n → g2 7 i = g2 7 j → g2 8 i = g2 8 j → i = j := fun i j hi hjn h7 h8 => hO.2.1 i j hi hjn (by rw [← u7, ← u7]; exact h7) (by rw [← u8, ← u8]; exact h8)
  refine ⟨a2, hin, b2, hin, fun k => ∀ j, pt d = some j → k = g 7 j, ?_, ?_, ?_⟩
  · intro k92 hk92
    refine ⟨fun k => ∀ j, pt d = some j → k = g 8 j, ?_, ?_, ?_⟩
    · intro k109 hk109
      refine ⟨fun k => k = tM fig, ?_, ?_, ?_⟩
      · rintro _ rfl
        refine ⟨fun k => k = wM fig, ?_, ?_, ?_⟩
        · rintro _ rfl
          refine ⟨fun a b c e => a = g2 19 d ∧ b = g2 20 d ∧ ∀ j, pt d = some j → c = g2 19 j ∧ e = g2 20 j, ?_, ?_, ?_⟩
          · rintro _ _ x6 x7 ⟨rfl, rfl, h67⟩
            refine s_isFree hC h2 hdis2 hd hpn ?_
            refine ⟨fun k => k = fr2 n g2 pt d, ?_, ?_⟩
            · rintro _ rfl
              unfold endF at hp
              refine ⟨fun h0 => ?_, fun h0 => ?_⟩
              · have hne := (and01 frF01 fr2_01).mp h0
                rw [if_neg (fun e => hne ((end_fr (fun j h => (hs j h).2.2.1)).mp e))] at hp
                unfold bumpsF at hp
                refine s_bumpM hj hC h2 hdis2 hd hpn (fun R2 h3 => ?_)
                have e1 : inwM n g2 (g2 19 d) (g2 20 d) d (pt d) = inwF n pt g2 d := rfl
                rw [e1] at h3
                have hA7 : ∀ i, stgO g2 (inwF n pt g2 d) 7 i = g2 7 i := fun i => stgO_x (by decide) (by decide)
                have hA8 : ∀ i, stgO g2 (inwF n pt g2 d) 8 i = g2 8 i := fun i => stgO_x (by decide) (by decide)
                refine ⟨fun S' => ∃ R', S' = kS S I R' ∧ Mk ad B m R0 R' (stgO (stgO g2 (inwF n pt g2 d)) (inw2 n pt g2 d)) wg, ?_, fun hno => ?_, fun hno => ?_⟩
                · rintro _ ⟨R3, rfl, h4⟩
                  refine s_hit hj hC h4 hd (fun R4 h5 => ?_)
                  have ec : stg (stgO (stgO g2 (inwF n pt g2 d)) (inw2 n pt g2 d)) d = stgO (stgO (stg g2 d) (inwF n pt g2 d)) (inw2 n pt g2 d) := by
                    have q1 : stg (stgO (stgO g2 (inwF n pt g2 d)) (inw2 n pt g2 d)) d = stgO (stgO (stgO g2 (inwF n pt g2 d)) (inw2 n pt g2 d)) (some d) := rfl
                    rw [q1, stgO_comm, stgO_comm (a := inwF n pt g2 d) (b := some d)]
                    rfl
                  rw [ec] at h5
                  cases hpt : pt d with
                  | none =>
                    rw [hpt] at hp
                    exact ⟨fun _ => hp R4 h5, fun h => absurd rfl h⟩
                  | some j =>
                    have hjn := (hs j hpt).1
                    refine ⟨fun h => ?_, fun _ => ?_⟩
                    · have := (ptI_none (o := some j) (fun j' h' => by cases h'; omega)).mp h
                      cases this
                    · refine s_hit hj hC h5 hjn (fun R5 h6 => ?_)
                      have ec2 : stg (stgO (stgO (stg g2 d) (inwF n pt g2 d)) (inw2 n pt g2 d)) j = stgO (stgO (stgO (stg g2 d) (pt d)) (inwF n pt g2 d)) (inw2 n pt g2 d) := by
                        have q1 : stg (stgO (stgO (stg g2 d) (inwF n pt g2 d)) (inw2 n pt g2 d)) j = stgO (stgO (stgO (stg g2 d) (inwF n pt g2 d)) (inw2 n pt g2 d)) (some j) := rfl
                        rw [q1, stgO_comm, stgO_comm (a := inwF n pt g2 d) (b := some j), hpt]
                      rw [ec2] at h6
                      exact hp R5 h6
                · refine ⟨R2, rfl, ?_⟩
                  have hpt := (ptI_none (fun j h => by have := hpn j h; omega)).mp hno
                  unfold inw2
                  rw [hpt]
                  exact h3
                · cases hpt : pt d with
                  | none => rw [hpt] at hno; exact absurd rfl hno
                  | some j =>
                    obtain ⟨e6, e7⟩ := h67 j hpt
                    subst e6 e7
                    rw [← hpt]
                    refine s_bumpM hj hC h3 (fun i j hi hjn h7 h8 => hdis2 i j hi hjn (by rw [← hA7, ← hA7]; exact h7) (by rw [← hA8, ← hA8]; exact h8)) hd hpn (fun R3 h4 => ⟨R3, rfl, ?_⟩)
                    rw [inwM_cg hA7 hA8, hpt, inwM_o (hs j hpt).2.2.1] at h4
                    unfold inw2
                    rw [hpt]
                    exact h4
              · have hyes : frF n g2 (g2 19 d) (g2 20 d) d (pt d) = 1 ∧ fr2 n g2 pt d = 1 := Classical.byContradiction fun h => h0 ((and01 frF01 fr2_01).mpr h)
                rw [if_pos ((end_fr (fun j h => (hs j h).2.2.1)).mpr hyes)] at hp
                unfold goesF at hp
                refine s_finish (q2 := turnF fig) hj hC h2 hd rfl rfl (by rw [u9, ef0]; exact (turnC hf0 fig).1.symm) (fun R2 h3 => ?_)
                cases hpt : pt d with
                | none =>
                  rw [hpt] at hp
                  exact ⟨fun _ => hp R2 h3, fun h => absurd rfl h⟩
                | some j =>
                  obtain ⟨hjn, hdj, hjd, -⟩ := hs j hpt
                  obtain ⟨e6, e7⟩ := h67 j hpt
                  subst e6 e7
                  rw [hpt] at hp
                  refine ⟨fun h => ?_, fun _ => ?_⟩
                  · have := (ptI_none (o := some j) (fun j' h' => by cases h'; omega)).mp h
                    cases this
                  · obtain ⟨-, -, ⟨f1, hf1, ef1⟩, -⟩ := hO.1 j hjn
                    exact s_finish (q2 := turnF fig) hj hC h3 hjn (goT_o (fun e => hdj e.symm)).symm (goT_o (fun e => hdj e.symm)).symm (by rw [goT_o (fun e => hdj e.symm), u9, ef1]; exact (turnC hf1 fig).1.symm) hp
            · refine ⟨fr2 n g2 pt d = 1, fun h => h.symm, fun hno => ?_, fun hno => ?_⟩
              · have hpt := (ptI_none (fun j h => by have := hpn j h; omega)).mp hno
                unfold fr2
                rw [hpt]
              · cases hpt : pt d with
                | none => rw [hpt] at hno; exact absurd rfl hno
                | some j =>
                  obtain ⟨e6, e7⟩ := h67 j hpt
                  subst e6 e7
                  rw [← hpt]
                  refine s_isFree hC h2 hdis2 hd hpn ?_
                  have e2 : fr2 n g2 pt d = frF n g2 (g2 19 j) (g2 20 j) d (pt d) := by
                    unfold fr2
                    rw [hpt]
                  rw [← e2]
                  refine ⟨fun h => h.symm, fun h => ?_⟩
                  rcases fr2_01 (n := n) (g := g2) (pt := pt) (d := d) with q | q
                  · exact absurd q h
                  · exact q
          · intro hw
            have hw0 : walkF fig = 0 := wM_walk.1.mp hw
            obtain ⟨-, w, hw4, ew, hwt⟩ := turnC hf0 fig
            refine ⟨turnF fig = 0 ∨ pt d = none, fun hJ => ⟨fun h115 => ⟨fun hno => ?_, fun hno => ?_⟩, fun h115 => ?_⟩, fun ht => ?_, fun ht => ⟨fun hno => ?_, fun hno => ?_⟩⟩
            · have hpt := (ptI_none (fun j h => by have := hpn j h; omega)).mp hno
              exact ⟨by rw [(gn hpt).1, if_pos hw0], by rw [(gn hpt).2, if_pos hw0], fun j h => by rw [hpt] at h; cases h⟩
            · cases hpt : pt d with
              | none => rw [hpt] at hno; exact absurd rfl hno
              | some j =>
                obtain ⟨hjn, hdj, hjd, -⟩ := hs j hpt
                have hinj : vp_in (nI j) 8 := vp_in_nI (by omega) (by decide)
                obtain ⟨z1, z2, z3, z4⟩ := gs j hpt hdj hw0 h115
                rw [ptI_s, nI_clamp (show j < 2 ^ 31 by omega)]
                exact ⟨a2, hinj, b2, hinj, a2, hin, b2, hin, z1.symm, z2.symm, fun j' h' => by cases h'; exact ⟨z3.symm, z4.symm⟩⟩
            · cases hpt : pt d with
              | none => exact ⟨by rw [(gn hpt).1, if_pos hw0], by rw [(gn hpt).2, if_pos hw0], fun j h => by cases h⟩
              | some j =>
                obtain ⟨hjn, hdj, hjd, -⟩ := hs j hpt
                have ht0 : turnF fig = 0 := hJ.elim id (fun h => by rw [hpt] at h; cases h)
                obtain ⟨z1, z2, z3, z4⟩ := gr j hpt hdj hw0 h115 ht0
                exact ⟨z1.symm, z2.symm, fun j' h' => by cases h'; exact ⟨(hk92 j hpt).trans z3.symm, (hk109 j hpt).trans z4.symm⟩⟩
            · refine Or.inl (hwt.mp ?_)
              rw [ew] at ht
              have := (nI_leI (a := w) (b := 0) (by omega) (by omega)).mp ht
              omega
            · exact Or.inr ((ptI_none (fun j h => by have := hpn j h; omega)).mp hno)
            · cases hpt : pt d with
              | none => rw [hpt] at hno; exact absurd rfl hno
              | some j =>
                obtain ⟨hjn, hdj, hjd, s, hs4, hbes⟩ := hs j hpt
                have hinj : vp_in (nI j) 8 := vp_in_nI (by omega) (by decide)
                have htn : ¬ turnF fig = 0 := fun h => ht (by rw [ew, hwt.mpr h]; decide)
                have h115 : ¬ fig = 115 := fun h => htn (by rw [h]; rfl)
                obtain ⟨z1, z2, z3, z4⟩ := gt j hpt hdj hw0 h115 htn
                obtain ⟨y1, y2, -⟩ := hO.1 j hjn
                have hdir2 := dirF_bes hs4 hbes x1 x2 y1 y2
                rw [hdir2, (turnC hs4 fig).1] at z3 z4
                rw [ptI_s, nI_clamp (show j < 2 ^ 31 by omega)]
                have hdc := dirC hs4 hw4
                rw [← ew] at hdc
                refine ⟨fun k v => ∃ i, v = nI i ∧ i ≤ s ∧ k = s - i, ⟨s, 0, rfl, Nat.zero_le _, rfl⟩, ?_⟩
                rintro k v ⟨i, rfl, his, rfl⟩
                rw [nI_clamp (show i < 2 ^ 31 by omega)]
                have hini : vp_in (nI i) 4 := vp_in_nI (by omega) (by decide)
                have hlt : ¬ (g 7 d + dxT i = g 7 j ∧ g 8 d + dyT i = g 8 j) → i < s := by
                  intro hne
                  rcases Nat.lt_or_ge i s with q | q
                  · exact q
                  · exact absurd ⟨by rw [show i = s by omega]; exact hbes.1.symm, by rw [show i = s by omega]; exact hbes.2.symm⟩ hne
                refine ⟨a2, hin, hini, a2, hinj, i < s, fun h => ⟨s - (i + 1), by omega, i + 1, nI_1 i, h, rfl⟩, fun h7 => ⟨b2, hin, hini, b2, hinj, fun h8 => ?_, fun h8 => hlt (fun z => h8 z.2)⟩, fun h7 => hlt (fun z => h7 z.1)⟩
                have his2 : i = s := bes_one hs4 (by omega) hbes h7 h8
                subst his2
                have hv : vp_in (nI i + tM fig - (nI i + tM fig) / 4 * 4) 4 := hdc.2.2.2.1
                refine ⟨a2, hin, hv, b2, hin, hv, z1.symm, z2.symm, fun j' h' => ?_⟩
                cases h'
                exact ⟨by rw [z3, hdc.2.1]; rfl, by rw [z4, hdc.2.2.1]; rfl⟩
          · intro hw
            have hw0 : ¬ walkF fig = 0 := fun h => hw (wM_walk.1.mpr h)
            obtain ⟨w, hw4, ew, ew2⟩ := wM_walk.2.1 hw0
            have hdc := dirC hf0 hw4
            rw [← ew2] at hdc
            have hdc2 := hdc.1
            rw [ew, ← ew2, ef0]
            have hv : vp_in (nI f0 + wayF fig - (nI f0 + wayF fig) / 4 * 4) 4 := hdc.2.2.2.1
            refine ⟨c2, hin, hv, hv, hv, hv, ?_⟩
            cases hpt : pt d with
            | none =>
              have z := gn hpt
              rw [if_neg hw0, if_neg hw0, ef0, hdc.1, hdc.2.1, hdc.2.2.1] at z
              exact ⟨z.1.symm, z.2.symm, fun j h => by cases h⟩
            | some j =>
              obtain ⟨hjn, hdj, hjd, -⟩ := hs j hpt
              have z := gw j hpt hdj hw0
              rw [ef0, hdc.1, hdc.2.1, hdc.2.2.1] at z
              refine ⟨z.1.symm, z.2.1.symm, fun j' h' => ?_⟩
              cases h'
              rw [hk92 j hpt, hk109 j hpt]
              exact ⟨z.2.2.1.symm, z.2.2.2.symm⟩
        · intro h; unfold wM; rw [if_pos h]
        · intro h
          refine ⟨fun h2 => ?_, fun h2 => ⟨fun h3 => ?_, fun h3 => ⟨fun h4 => ?_, fun h4 => ?_⟩⟩⟩
          · unfold wM; rw [if_neg h, if_pos h2]
          · unfold wM; rw [if_neg h, if_neg h2, if_pos h3]
          · unfold wM; rw [if_neg h, if_neg h2, if_neg h3, if_pos h4]
          · unfold wM; rw [if_neg h, if_neg h2, if_neg h3, if_neg h4]
      · intro h; unfold tM; rw [if_pos h]
      · intro h
        refine ⟨fun h2 => ?_, fun h2 => ?_⟩
        · unfold tM; rw [if_neg h, if_pos h2]
        · unfold tM; rw [if_neg h, if_neg h2]
    · intro hno j hpt
      rw [hpt] at hno
      have := (ptI_none (o := some j) (fun j' h' => by cases h'; have := hpn j hpt; omega)).mp hno
      cases this
    · intro hno
      cases hpt : pt d with
      | none => rw [hpt] at hno; exact absurd rfl hno
      | some j =>
        have hjn := hpn j hpt
        rw [ptI_s, nI_clamp (show j < 2 ^ 31 by omega)]
        exact ⟨b2, vp_in_nI (by omega) (by decide), fun j' h' => by cases h'; rfl⟩
  · intro hno j hpt
    rw [hpt] at hno
    have := (ptI_none (o := some j) (fun j' h' => by cases h'; have := hpn j hpt; omega)).mp hno
    cases this
  · intro hno
    cases hpt : pt d with
    | none => rw [hpt] at hno; exact absurd rfl hno
    | some j =>
      have hjn := hpn j hpt
      rw [ptI_s, nI_clamp (show j < 2 ^ 31 by omega)]
      exact ⟨a2, vp_in_nI (by omega) (by decide), fun j' h' => by cases h'; rfl⟩
end ACT
