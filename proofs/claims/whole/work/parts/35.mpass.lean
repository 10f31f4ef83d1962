section OKC
variable {n d j t m : Nat} {g wg rd : Nat → Nat → Int32} {pt : Nat → Option Nat} {dn dl : Nat → Nat} {df : Nat → Nat → Int32}
theorem okW_j (h : OkW n m wg rd) {wg' : Nat → Nat → Int32} (ho : ∀ f i, i ≠ j → wg' f i = wg f i) (hj : j < m → (∃ a, a < 16 ∧ wg' 26 j = nI a) ∧ (∃ a, a < 16 ∧ wg' 27 j = nI a) ∧ (∃ s, 1 ≤ s ∧ s ≤ 100 ∧ wg' 28 j = nI s) ∧ ∃ l t, l ≤ 8 ∧ wg' 30 j = nI l ∧ wg' 31 j = nI t ∧ (t < l ∨ l = 0 ∧ t = 0) ∧ ∀ p, p < l → ∃ i, i < n ∧ rd j p = nI i) : OkW n m wg' rd := by
  intro i hi
  by_cases e : i = j
  · subst e; exact hj hi
  · rw [ho _ _ e, ho _ _ e, ho _ _ e, ho _ _ e, ho _ _ e]
    exact h i hi
theorem stp_rng {a b : Nat} (ha : a < 16) (hb : b < 16) (h : a ≠ b) : ∃ c, c < 16 ∧ nI b + stpV (nI a) (nI b) = nI c := by
  unfold stpV
  by_cases c : a ≤ b
  · rw [if_pos (nI_le c (by omega))]
    refine ⟨b - 1, by omega, ?_⟩
    have := pk_m1 (b - 1)
    rw [show b - 1 + 1 = b by omega] at this
    exact this
  · rw [if_neg (nI_ge (by omega) (by omega))]
    exact ⟨b + 1, by omega, nI_1 b⟩
theorem wd_rng {s a : Nat} (hs : s ≤ 200) (ha : a ≤ 100) : ∃ c, c ≤ 200 ∧ wdF (nI s) (nI a) = nI c := by
  unfold wdF
  rw [nI_add]
  have q2 := nI_ltI (a := s + a) (b := 200) (by omega) (by omega)
  by_cases c : nI (s + a) < 200
  · rw [if_pos c]
    by_cases c2 : 0 < nI (s + a)
    · rw [if_pos c2]; exact ⟨s + a, by have := q2.mp c; omega, rfl⟩
    · rw [if_neg c2]; exact ⟨0, by omega, rfl⟩
  · rw [if_neg c, if_pos (by decide)]
    exact ⟨200, by omega, rfl⟩
theorem pasV_rng {l p : Nat} (hl : l ≤ 8) (h : p < l ∨ l = 0 ∧ p = 0) : ∃ q, pasV (nI l) (nI p) = nI q ∧ (q < l ∨ l = 0 ∧ q = 0) := by
  unfold pasV
  rw [nI_1]
  by_cases c : p + 1 < l
  · exact ⟨p + 1, by rw [if_neg (nI_ge c (by omega))], Or.inl c⟩
  · refine ⟨0, by rw [if_pos (nI_le (by omega) (by omega))]; rfl, ?_⟩
    omega
theorem ok_pasT (h : OkW n m wg rd) : OkW n m (pasT wg j) rd := by
  refine okW_j h (fun f i hi => up2_a hi) (fun hj => ?_)
  obtain ⟨a1, a2, a3, l, p, hl, el, ep, hlp, hr⟩ := h j hj
  obtain ⟨q, hq, hq2⟩ := pasV_rng hl hlp
  refine ⟨a1, a2, a3, l, q, hl, el, ?_, hq2, hr⟩
  unfold pasT
  rw [up2_at, el, ep]
  exact hq
theorem ok_att (h : Ok n g pt dn dl) (hW : OkW n m wg rd) (ht : t < n) (hj : j < m) : Ok n (attF (g, wg) j t).1 pt dn dl ∧ OkW n m (attF (g, wg) j t).2 rd ∧ ∀ i, (attF (g, wg) j t).1 18 i = g 18 i := by
  obtain ⟨⟨x1, hx1, ex1⟩, ⟨y1, hy1, ey1⟩, a3, ⟨sp, hsp, esp⟩, a5, a6, a7, a8⟩ := h.1 t ht
  obtain ⟨⟨x2, hx2, ex2⟩, ⟨y2, hy2, ey2⟩, ⟨st, hst1, hst2, est⟩, hrest⟩ := hW j hj
  unfold attF
  dsimp only
  by_cases c1 : g 10 t < 150
  · rw [if_pos c1]
    by_cases c2 : 1 < dsF (wg 26 j) (wg 27 j) (g 7 t) (g 8 t)
    · rw [if_pos c2]
      by_cases c3 : wg 26 j = g 7 t
      · rw [if_pos c3]
        refine ⟨h, okW_j hW (fun f i hi => up2_a hi) (fun _ => ?_), fun _ => rfl⟩
        have hne : y1 ≠ y2 := by
          intro e
          have hx : x2 = x1 := by rw [ex1, ex2] at c3; exact (nI_eq (by omega) (by omega)).mp c3
          have : dsF (wg 26 j) (wg 27 j) (g 7 t) (g 8 t) = nI 0 := by
            unfold dsF
            rw [ex2, ey2, ex1, ey1, absC hx2 hx1, absC hy2 hy1, nI_add]
            congr 1; omega
          rw [this] at c2
          exact absurd c2 (by decide)
        obtain ⟨c, hc, ec⟩ := stp_rng hy1 hy2 hne
        exact ⟨⟨x2, hx2, ex2⟩, ⟨c, hc, by dsimp only; rw [up2_at, ey1, ey2]; exact ec⟩, ⟨st, hst1, hst2, est⟩, hrest⟩
      · rw [if_neg c3]
        refine ⟨h, okW_j hW (fun f i hi => up2_a hi) (fun _ => ?_), fun _ => rfl⟩
        have hne : x1 ≠ x2 := fun e => c3 (by rw [ex1, ex2, e])
        obtain ⟨c, hc, ec⟩ := stp_rng hx1 hx2 hne
        exact ⟨⟨c, hc, by dsimp only; rw [up2_at, ex1, ex2]; exact ec⟩, ⟨y2, hy2, ey2⟩, ⟨st, hst1, hst2, est⟩, hrest⟩
    · rw [if_neg c2]
      refine ⟨h.up (by decide) (fun _ => ⟨⟨x1, hx1, ex1⟩, ⟨y1, hy1, ey1⟩, a3, ?_, a5, a6, a7, a8⟩), ok_pasT (okW_j hW (fun f i hi => up2_a hi) (fun _ => ⟨⟨x2, hx2, ex2⟩, ⟨y2, hy2, ey2⟩, ⟨st, hst1, hst2, est⟩, hrest⟩)), fun _ => rfl⟩
      rw [up2_at, esp, est]
      exact wd_rng hsp hst2
  · rw [if_neg c1]
    exact ⟨h, ok_pasT hW, fun _ => rfl⟩
theorem ok_stepW {gw : (Nat → Nat → Int32) × (Nat → Nat → Int32)} (hn : n ≤ 8) (h : Ok n gw.1 pt dn dl) (hW : OkW n m gw.2 rd) (hj : j < m) : Ok n (stepW n rd gw j).1 pt dn dl ∧ OkW n m (stepW n rd gw j).2 rd ∧ ∀ i, (stepW n rd gw j).1 18 i = gw.1 18 i := by
  cases hd : dNO n (whoT gw.2 rd j) with
  | none => rw [stepW_none hd]; exact ⟨h, hW, fun _ => rfl⟩
  | some t => rw [stepW_some hd]; exact ok_att h hW (dNO_lt (by omega) hd).1 hj
theorem ok_btW (hn : n ≤ 8) (h : Ok n g pt dn dl) (hW : OkW n m wg rd) {k : Nat} (hk : k ≤ m) : Ok n (fld (stepW n rd) (g, wg) k).1 pt dn dl ∧ OkW n m (fld (stepW n rd) (g, wg) k).2 rd ∧ ∀ i, (fld (stepW n rd) (g, wg) k).1 18 i = g 18 i := by
  induction k with
  | zero => exact ⟨h, hW, fun _ => rfl⟩
  | succ k ih =>
    obtain ⟨h1, h2, h3⟩ := ih (by omega)
    obtain ⟨h4, h5, h6⟩ := ok_stepW hn h1 h2 (show k < m by omega)
    exact ⟨h4, h5, fun i => (h6 i).trans (h3 i)⟩
theorem ok_stepZ (h : Ok n g pt dn dl) : Ok n (stepZ g d) pt dn dl ∧ ∀ i, stepZ g d 18 i = g 18 i := by
  refine ⟨h.up (by decide) (fun hd => ?_), fun i => rfl⟩
  obtain ⟨a1, a2, a3, a4, a5, a6, a7, z, hz, ez⟩ := h.1 d hd
  refine ⟨a1, a2, a3, a4, a5, a6, a7, ?_⟩
  rw [up2_at, ez]
  unfold dzF
  by_cases c : z ≤ 1
  · refine ⟨0, by omega, ?_⟩
    rcases (show z = 0 ∨ z = 1 by omega) with rfl | rfl <;> rfl
  · have e1 : nI z - 1 = nI (z - 1) := pk_sub (a := z) (b := 1) (by omega)
    rw [e1, if_pos (show (0 : Int32) < nI (z - 1) from nI_lt (a := 0) (by omega) (by omega))]
    exact ⟨z - 1, by omega, rfl⟩
theorem ok_btZ (h : Ok n g pt dn dl) {k : Nat} : Ok n (fld stepZ g k) pt dn dl ∧ ∀ i, fld stepZ g k 18 i = g 18 i := by
  induction k with
  | zero => exact ⟨h, fun _ => rfl⟩
  | succ k ih =>
    obtain ⟨h1, h2⟩ := ih
    obtain ⟨h3, h4⟩ := ok_stepZ (d := k) h1
    exact ⟨h3, fun i => (h4 i).trans (h2 i)⟩
end OKC
section MPS
variable {S : St} {ad : Nat → Nat → Nat} {B H n m : Nat} {I R0 R g wg rd : Nat → Nat → Int32} {pt : Nat → Option Nat} {dn dl : Nat → Nat} {df : Nat → Nat → Int32} {d j t : Nat}
theorem s_sum {post : Int32 → Prop} {w : Int32} (hC : MC S I R0 ad B H n m pt dn dl df rd) (hM : Mk ad B m R0 R g wg) (hp : post (sumF n g w)) : w_S_sum post (kS S I R) (ad B 0) w := by
  have hn := hC.2.1
  obtain ⟨-, -, -, kr, -, -⟩ := hC.1
  obtain ⟨a1, a2, a3⟩ := kr 15 (by unfold mRow; omega)
  obtain ⟨b1, b2, b3⟩ := kr 16 (by unfold mRow; omega)
  obtain ⟨c1, c2, c3⟩ := kr 10 (by unfold mRow; omega)
  obtain ⟨d1, d2, d3⟩ := kr 17 (by unfold mRow; omega)
  obtain ⟨e1, e2, e3⟩ := kr 18 (by unfold mRow; omega)
  have a1 : sQ S 48 (ad B 0) = some (ad (B + 15) 0) := a1
  have b1 : sQ S 49 (ad B 0) = some (ad (B + 16) 0) := b1
  have c1 : sQ S 43 (ad B 0) = some (ad (B + 10) 0) := c1
  have d1 : sQ S 50 (ad B 0) = some (ad (B + 17) 0) := d1
  have e1 : sQ S 51 (ad B 0) = some (ad (B + 18) 0) := e1
  have a3 : sN S (ad (B + 15) 0) = 8 := a3
  have b3 : sN S (ad (B + 16) 0) = 8 := b3
  have c3 : sN S (ad (B + 10) 0) = 8 := c3
  have d3 : sN S (ad (B + 17) 0) = 8 := d3
  have e3 : sN S (ad (B + 18) 0) = 8 := e3
  have a2 : isA S 11 (ad (B + 15) 0) := a2
  have i39 := hC.2.2.2.1
  unfold w_S_sum
  refine ⟨fun k v2 v => ∃ i, v = nI i ∧ k = n - i ∧ i ≤ n ∧ v2 = fld (fun a i => a + sumV g w i) 0 i, ⟨n, 0, rfl, rfl, Nat.zero_le _, rfl⟩, ?_⟩
  rintro k v2 v ⟨i, rfl, rfl, hi, rfl⟩
  simp only [forall_eq, kS_Q, kS_A, kS_N, kS_R, kS_I, i39, a1, b1, c1, d1, e1, a3, b3, c3, d3, e3, Option.some.injEq, exists_eq_left', nI_clamp (show i < 2 ^ 31 by omega), hM.vw (show mInt 15 by unfold mInt; omega), hM.vw (show mInt 16 by unfold mInt; omega), hM.vw (show mInt 10 by unfold mInt; omega), hM.vw (show mInt 17 by unfold mInt; omega), hM.vw (show mInt 18 by unfold mInt; omega)]
  refine ⟨fun hc => ?_, fun hc => ?_⟩
  · have hi2 : i = n := by
      have := (nI_leI (by omega) (by omega)).mp hc
      omega
    subst hi2
    exact hp
  · have hlt : i < n := Nat.not_le.mp fun q => hc ((nI_leI (by omega) (by omega)).mpr q)
    have hin : vp_in (nI i) 8 := vp_in_nI (by omega) (by decide)
    refine ⟨fun k => k = sumV g w i, ?_, fun h2 => ⟨a2, hin, fun h => ?_, fun h => ?_⟩, fun h2 => ⟨fun h4 => ⟨b2, hin, fun h => ?_, fun h => ?_⟩, fun h4 => ⟨fun h5 => ⟨c2, hin, ?_⟩, fun h5 => ⟨fun h6 => ⟨d2, hin, ?_⟩, fun h6 => ⟨fun h7 => ⟨e2, hin, ?_⟩, fun h7 => s_isTired hC hM hlt ⟨fun h => ?_, fun h => ?_⟩⟩⟩⟩⟩⟩
    · rintro _ rfl
      exact ⟨n - (i + 1), by omega, i + 1, nI_1 i, rfl, hlt, rfl⟩
    · unfold sumV; rw [if_pos h2, if_pos h]
    · unfold sumV; rw [if_pos h2, if_neg h]
    · unfold sumV; rw [if_neg h2, if_pos h4, if_pos h]
    · unfold sumV; rw [if_neg h2, if_pos h4, if_neg h]
    · unfold sumV; rw [if_neg h2, if_neg h4, if_pos h5]
    · unfold sumV; rw [if_neg h2, if_neg h4, if_neg h5, if_pos h6]
    · unfold sumV; rw [if_neg h2, if_neg h4, if_neg h5, if_neg h6, if_pos h7]
    · unfold sumV; rw [if_neg h2, if_neg h4, if_neg h5, if_neg h6, if_neg h7, if_pos h]
    · unfold sumV; rw [if_neg h2, if_neg h4, if_neg h5, if_neg h6, if_neg h7, if_neg h]
theorem MC.ev {I' : Nat → Nat → Int32} (h : MC S I R0 ad B H n m pt dn dl df rd) (e : ∀ f a, f ≠ 38 → I' f a = I f a) : MC S I' R0 ad B H n m pt dn dl df rd := ⟨h.1, h.2.1, h.2.2.1, (e 39 _ (by decide)).trans h.2.2.2.1, (e 52 _ (by decide)).trans h.2.2.2.2.1, h.2.2.2.2.2⟩
theorem s_mpass {post : Int32 → St → Prop} (hj : Inj ad) (hC : MC S I R0 ad B H n m pt dn dl df rd) (hM : Mk ad B m R0 R g wg) (hO : Ok n g pt dn dl) (hW : OkW n m wg rd) (hB : B + 21 < H)
    (hp : ∀ R', Mk ad B m R0 R' (fld stepZ (btW n m rd (btA n pt dn dl df g).2 wg).1 n) (btW n m rd (btA n pt dn dl df g).2 wg).2 → post (btA n pt dn dl df g).1 (kS S (up2 I 38 (ad B 0) (I 38 (ad B 0) + 1)) R')) : w_S_pass post (kS S I R) (ad B 0) := by
  have hn := hC.2.1
  have hm := hC.2.2.1
  have hcd := hC.2.2.2.2.2.2.1
  have hcD := hC.2.2.2.2.2.2.2.2
  have hcr := hC.2.2.2.2.2.1
  obtain ⟨-, -, -, kr, -, -⟩ := hC.1
  obtain ⟨a1, a2, a3⟩ := kr 15 (by unfold mRow; omega)
  obtain ⟨b1, b2, b3⟩ := kr 16 (by unfold mRow; omega)
  obtain ⟨c1, c2, c3⟩ := kr 14 (by unfold mRow; omega)
  obtain ⟨d1, d2, d3⟩ := kr 20 (by unfold mRow; omega)
  have a1 : sQ S 48 (ad B 0) = some (ad (B + 15) 0) := a1
  have b1 : sQ S 49 (ad B 0) = some (ad (B + 16) 0) := b1
  have c1 : sQ S 47 (ad B 0) = some (ad (B + 14) 0) := c1
  have d1 : sQ S 53 (ad B 0) = some (ad (B + 20) 0) := d1
  have a3 : sN S (ad (B + 15) 0) = 8 := a3
  have b3 : sN S (ad (B + 16) 0) = 8 := b3
  have c3 : sN S (ad (B + 14) 0) = 8 := c3
  have d3 : sN S (ad (B + 20) 0) = 18 := d3
  have a2 : isA S 11 (ad (B + 15) 0) := a2
  have i39 := hC.2.2.2.1
  have i52 := hC.2.2.2.2.1
  have hl24 : ∀ i, i < n → dl (dn i) ≤ 24 := fun i hi => (hcD (dn i) (hcd i hi)).2.2.1
  unfold w_S_pass
  refine s_sum hC hM ?_
  refine ⟨fun k S' v => ∃ i R', S' = kS S I R' ∧ v = nI i ∧ k = n - i ∧ i ≤ n ∧ Mk ad B m R0 R' (fld (stepA n pt dn dl df) (0, g) i).2 wg, ⟨n, 0, R, rfl, rfl, rfl, Nat.zero_le _, hM⟩, ?_⟩
  rintro k S' v ⟨i, R1, rfl, rfl, rfl, hi, hM1⟩
  obtain ⟨hO1, hS1⟩ := ok_btA (df := df) hO hl24 hi
  simp only [forall_eq, kS_Q, kS_A, kS_N, kS_R, kS_I, i39, a1, c1, a3, c3, Option.some.injEq, exists_eq_left', nI_clamp (show i < 2 ^ 31 by omega), hM1.vw (show mInt 15 by unfold mInt; omega)]
  refine ⟨fun hc => ?_, fun hc => ?_⟩
  · have hi2 : i = n := by
      have := (nI_leI (by omega) (by omega)).mp hc
      omega
    subst hi2
    change Mk ad B m R0 R1 (btA i pt dn dl df g).2 wg at hM1
    change Ok i (btA i pt dn dl df g).2 pt dn dl at hO1
    change sumF i (btA i pt dn dl df g).2 7 - (btA i pt dn dl df g).1 = sumF i g 7 at hS1
    generalize (btA i pt dn dl df g).1 = acc at hp hS1
    generalize (btA i pt dn dl df g).2 = g1 at hp hM1 hO1 hS1
    refine ⟨fun k S' v => ∃ j R', S' = kS S I R' ∧ v = nI j ∧ k = m - j ∧ j ≤ m ∧ Mk ad B m R0 R' (fld (stepW i rd) (g1, wg) j).1 (fld (stepW i rd) (g1, wg) j).2, ⟨m, 0, R1, rfl, rfl, rfl, Nat.zero_le _, hM1⟩, ?_⟩
    rintro k S' v ⟨j, R2, rfl, rfl, rfl, hjm, hM2⟩
    obtain ⟨hO2, hW2, hE2⟩ := ok_btW hn hO1 hW hjm
    simp only [forall_eq, kS_Q, kS_A, kS_N, kS_R, kS_I, i52, d1, d3, Option.some.injEq, exists_eq_left']
    refine ⟨fun hc2 => ?_, fun hc2 => ?_⟩
    · have hj2 : j = m := by
        have := (nI_leI (by omega) (by omega)).mp hc2
        omega
      subst hj2
      change Mk ad B j R0 R2 (btW i j rd g1 wg).1 (btW i j rd g1 wg).2 at hM2
      change Ok i (btW i j rd g1 wg).1 pt dn dl at hO2
      change ∀ k, (btW i j rd g1 wg).1 18 k = g1 18 k at hE2
      generalize (btW i j rd g1 wg).1 = g2 at hp hM2 hO2 hE2
      generalize (btW i j rd g1 wg).2 = wg2 at hp hM2
      refine ⟨fun k S' v => ∃ q R', S' = kS S I R' ∧ v = nI q ∧ k = i - q ∧ q ≤ i ∧ Mk ad B j R0 R' (fld stepZ g2 q) wg2, ⟨i, 0, R2, rfl, rfl, rfl, Nat.zero_le _, hM2⟩, ?_⟩
      rintro k S' v ⟨q, R3, rfl, rfl, rfl, hq, hM3⟩
      obtain ⟨hO3, hE3⟩ := ok_btZ (k := q) hO2
      simp only [forall_eq, kS_Q, kS_A, kS_N, kS_R, kS_I, kS_pI, kS_pR, i39, b1, b3, Option.some.injEq, exists_eq_left', nI_clamp (show q < 2 ^ 31 by omega), hM3.vw (show mInt 16 by unfold mInt; omega)]
      refine ⟨fun hc3 => ?_, fun hc3 => ?_⟩
      · have hq2 : q = i := by
          have := (nI_leI (by omega) (by omega)).mp hc3
          omega
        subst hq2
        refine s_sum (hC.ev (fun f a hf => up2_f hf)) hM3 ?_
        have e1 : sumF q (fld stepZ g2 q) 7 - sumF q g 7 = acc := by
          rw [sum_cg hE3, sum_cg hE2, ← hS1, Int32.sub_eq_add_neg, Int32.neg_sub, Int32.sub_eq_add_neg, Int32.add_comm acc, ← Int32.add_assoc, Int32.add_right_neg, Int32.zero_add]
        rw [e1]
        exact hp _ hM3
      · have hlt : q < i := Nat.not_le.mp fun q => hc3 ((nI_leI (by omega) (by omega)).mpr q)
        have hin : vp_in (nI q) 8 := vp_in_nI (by omega) (by decide)
        exact ⟨b2, hin, b2, hin, i - (q + 1), by omega, q + 1, _, rfl, nI_1 q, rfl, hlt, hM3.up hj (by unfold mInt; omega)⟩
    · have hlt : j < m := Nat.not_le.mp fun q => hc2 ((nI_leI (by omega) (by omega)).mpr q)
      obtain ⟨a1', a2', a3', l, p, hl, el, ep, hlp, hrr⟩ := hW2 j hlt
      have z6 : (6 : Int32) * nI j + 3 = nI (6 * j + 3) := by rw [show (6 : Int32) = nI 6 from rfl, pk_mul, show (3 : Int32) = nI 3 from rfl, nI_add]
      rw [z6, nI_clamp (show 6 * j + 3 < 2 ^ 31 by omega), hM2.vww (q := 3) hlt (by decide), show wFld 3 = 30 from rfl, el]
      refine ⟨d2, vp_in_nI (by omega) (by decide), fun S' => ∃ R', S' = kS S I R' ∧ Mk ad B m R0 R' (fld (stepW i rd) (g1, wg) (j + 1)).1 (fld (stepW i rd) (g1, wg) (j + 1)).2, ?_, fun h0 => ?_, fun h0 => ?_⟩
      · rintro _ ⟨R3, rfl, hM3⟩
        exact ⟨m - (j + 1), by omega, j + 1, R3, rfl, nI_1 j, rfl, hlt, hM3⟩
      · have hl0 : l = 0 := by
          have := (nI_leI (a := l) (b := 0) (by omega) (by omega)).mp h0
          omega
        have hd0 : dNO i (whoT (fld (stepW i rd) (g1, wg) j).2 rd j) = none := by
          unfold whoT
          rw [ep, el, if_neg (nI_pos (by omega)), if_pos (nI_le (by omega) (by omega))]
          rfl
        refine ⟨R2, rfl, ?_⟩
        have e1 : fld (stepW i rd) (g1, wg) (j + 1) = fld (stepW i rd) (g1, wg) j := stepW_none hd0
        rw [e1]
        exact hM2
      · have hpl : p < l := by
          rcases hlp with q | q
          · exact q
          · exact absurd (nI_le (a := l) (b := 0) (by omega) (by omega)) h0
        obtain ⟨u, hu, eu⟩ := hrr p hpl
        have hw : whoT (fld (stepW i rd) (g1, wg) j).2 rd j = nI u := by
          unfold whoT
          rw [ep, el, if_neg (nI_pos (by omega)), if_neg (nI_ge hpl (by omega)), if_neg (fun h => by have := (nI_leI (a := 8) (b := p) (by omega) (by omega)).mp h; omega), nI_clamp (by omega), eu]
        have hd1 : dNO i (whoT (fld (stepW i rd) (g1, wg) j).2 rd j) = some u := by
          rw [hw]
          unfold dNO
          rw [if_neg (nI_pos (by omega)), if_neg (nI_ge hu (by omega)), nI_clamp (by omega)]
        have e1 : fld (stepW i rd) (g1, wg) (j + 1) = attF (fld (stepW i rd) (g1, wg) j) j u := stepW_some hd1
        rw [e1]
        exact s_go2 hj hC hM2 hlt hO2.1 hW2 hu hl el hpl ep eu (fun R3 h3 => ⟨R3, rfl, h3⟩)
  · have hlt : i < n := Nat.not_le.mp fun q => hc ((nI_leI (by omega) (by omega)).mpr q)
    have hin : vp_in (nI i) 8 := vp_in_nI (by omega) (by decide)
    have e0 : fld (stepA n pt dn dl df) (0, g) (i + 1) = stepA n pt dn dl df (fld (stepA n pt dn dl df) (0, g) i) i := rfl
    generalize fld (stepA n pt dn dl df) (0, g) i = a at hM1 hO1 hS1 e0 ⊢
    have q14 : R1 (ad (B + 14) 0) i = ptI (pt i) := by
      rw [hM1.st hj (Or.inr (Or.inl rfl)), (hcr i).1, if_pos hlt]
    rw [q14]
    have hz : ∀ u, u < n → ∃ z : Nat, z ≤ 3 ∧ a.2 16 u = nI z := fun u hu => (hO1.1 u hu).2.2.2.2.2.2.2
    refine ⟨a2, hin, fun S' => ∃ R', S' = kS S I R' ∧ Mk ad B m R0 R' (stepA n pt dn dl df a i).2 wg, ?_, fun h15 => ?_, fun h15 => ?_⟩
    · rintro _ ⟨R2, rfl, h2⟩
      exact ⟨n - (i + 1), by omega, i + 1, R2, rfl, nI_1 i, rfl, hlt, by rw [e0]; exact h2⟩
    · refine s_isResting (o := some i) hC hM1 (fun u hu => by cases hu; exact ⟨hlt, hz i hlt⟩) ?_
      refine ⟨fun h1 => ⟨c2, hin, ?_⟩, fun h1 => ?_⟩
      · have hci : ¬ canF a.2 i = 0 := fun e => by
          unfold restF at h1
          dsimp only at h1
          rw [if_pos e] at h1
          exact absurd h1 (by decide)
        refine s_isResting hC hM1 (fun u hu => ⟨(hO1.2.2.1 i u hlt hu).1, hz u (hO1.2.2.1 i u hlt hu).1⟩) ⟨fun h2 => ?_, fun h2 => ?_⟩
        · have hmay : ¬ mayF pt a.2 i = 0 := by
            unfold mayF
            rw [if_neg hci]
            cases hp9 : pt i with
            | none => exact fun h => absurd (show (1 : Int32) = 0 from h) (by decide)
            | some j =>
              rw [hp9] at h2
              unfold restF at h2
              dsimp only at h2 ⊢
              by_cases c : canF a.2 j = 0
              · rw [if_pos c] at h2; exact absurd h2 (by decide)
              · rw [if_neg c]; decide
          refine s_act hj hC hM1 hO1 hB hlt (fun R2 h3 => ⟨R2, rfl, ?_⟩)
          unfold stepA
          rw [if_pos h15, if_neg hmay]
          exact h3
        · have hmay : mayF pt a.2 i = 0 := by
            unfold mayF
            rw [if_neg hci]
            cases hp9 : pt i with
            | none => rw [hp9] at h2; exact absurd rfl h2
            | some j =>
              rw [hp9] at h2
              unfold restF at h2
              dsimp only at h2 ⊢
              by_cases c : canF a.2 j = 0
              · rw [if_pos c]
              · rw [if_neg c] at h2; exact absurd rfl h2
          refine ⟨R1, rfl, ?_⟩
          unfold stepA
          rw [if_pos h15, if_pos hmay]
          exact hM1
      · have hci : canF a.2 i = 0 := Classical.byContradiction fun e => by
          unfold restF at h1
          dsimp only at h1
          rw [if_neg e] at h1
          exact h1 rfl
        refine ⟨R1, rfl, ?_⟩
        unfold stepA mayF
        rw [if_pos h15, if_pos hci, if_pos rfl]
        exact hM1
    · refine ⟨R1, rfl, ?_⟩
      unfold stepA
      rw [if_neg h15]
      exact hM1
end MPS
