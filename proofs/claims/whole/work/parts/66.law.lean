/-! the law -/
def ad0 (t i : Nat) : Nat := 2 ^ t * (2 * i + 1)
theorem ad0_inj : Inj ad0 := by
  intro t
  induction t with
  | zero =>
    intro i t' i' e
    cases t' with
    | zero =>
      unfold ad0 at e
      exact ⟨rfl, by omega⟩
    | succ t' =>
      unfold ad0 at e
      rw [Nat.pow_succ, Nat.pow_zero, Nat.one_mul, Nat.mul_comm (2 ^ t') 2, Nat.mul_assoc] at e
      generalize 2 ^ t' * (2 * i' + 1) = z at e
      omega
  | succ t ih =>
    intro i t' i' e
    cases t' with
    | zero =>
      unfold ad0 at e
      rw [Nat.pow_succ, Nat.pow_zero, Nat.one_mul, Nat.mul_comm (2 ^ t) 2, Nat.mul_assoc] at e
      generalize 2 ^ t * (2 * i + 1) = z at e
      omega
    | succ t' =>
      have e2 : ad0 t i = ad0 t' i' := by
        unfold ad0 at e ⊢
        rw [Nat.pow_succ, Nat.pow_succ, Nat.mul_comm (2 ^ t) 2, Nat.mul_comm (2 ^ t') 2, Nat.mul_assoc, Nat.mul_assoc] at e
        exact Nat.eq_of_mul_eq_mul_left (by decide) e
      obtain ⟨a, b⟩ := ih i t' i' e2
      exact ⟨by rw [a], b⟩
theorem HO0 : HO 0 tb0 dl0 df0 0 g0 pt0 dn0 0 g0 g0 := ⟨by decide, fun _ => by show 0 < 256; decide, ⟨fun i hi => absurd hi (Nat.not_lt_zero i), fun i j hi => absurd hi (Nat.not_lt_zero i), fun i j hi => absurd hi (Nat.not_lt_zero i), fun i hi => absurd hi (Nat.not_lt_zero i)⟩, fun j hj => absurd hj (Nat.not_lt_zero j), fun k hk => by
  obtain ⟨a, b⟩ := txLF ⟨k, hk⟩
  have b : txL k ≤ 8 := b
  exact ⟨a, by show txL k ≤ 24; omega⟩, by decide, by decide, fun i hi => absurd hi (Nat.not_lt_zero i), fun _ _ _ _ => rfl, fun _ _ _ _ _ => rfl⟩
theorem HC0 {S : St} {ad : Nat → Nat → Nat} (h : HI S ad 8) (ho : isA S 13 (ad 40 0)) (hn : sN S (ad 40 0) = 1) : HC S ad 0 tb0 dl0 df0 0 g0 pt0 dn0 0 0 g0 g0 := by
  obtain ⟨⟨a1, a2, a3, a4, a5, a6⟩, ⟨b1, b2, b3, b4, b5⟩, c, d, e, f, f2, f3⟩ := h
  refine ⟨⟨a1, a2, a3, a4, a5, a6, b1, b2, b4, b5, ho, hn⟩, ⟨b3, by decide, fun _ => by show 0 < 256; decide, fun j hj => absurd hj (Nat.not_lt_zero j)⟩, c, ⟨f, fun i hi => absurd hi (Nat.not_lt_zero i), fun k hk => ?_⟩, ⟨fun _ i _ hi => absurd hi (Nat.not_lt_zero i), fun _ j _ hj => absurd hj (Nat.not_lt_zero j), f2⟩, fun j p hj => absurd hj (Nat.not_lt_zero j), 0, 0, Nat.le_refl 0, Nat.le_refl 0, f3⟩
  obtain ⟨x1, x2, x3, x4, x5, x6, x7⟩ := e k hk
  have b : txL k ≤ 8 := (txLF ⟨k, hk⟩).2
  exact ⟨x1, x2, x3, by show txL k ≤ 24; omega, x4, x5, x6, x7⟩
set_option maxHeartbeats 4000000 in
theorem law_pure {L : Nat} {xs : Nat → Int32} (hL : L ≤ 3072) (e9 : Nat) : w_L_law (S0 e9) L xs := by
  unfold w_L_law
  refine s_new (t0 := 1) (i0 := 0) ad0_inj (fun S2 ad2 j2 f2 h2 => ?_)
  refine s_Hinit j2 h2 (fun S4 ad4 j4 i4 x4 => ?_)
  generalize hq1 : ad2 1 0 = q1 at x4 ⊢
  clear h2 f2 j2 hq1
  refine s_new (t0 := 100) (i0 := 0) j4 (fun S7 ad7 j7 f7 h7 => ?_)
  have i7 : HI S7 ad7 8 := i4.fr f7 (fun t i ht z => by omega) (fun z => absurd z.1 (by decide)) (fun z => absurd z.1 (by decide)) (fun i _ => ⟨fun z => absurd z.1 (by decide), fun z => absurd z.1 (by decide)⟩)
  have x7 : ad7 1 0 = q1 := ((f7.a (t := 1) (i := 0) (fun z => absurd z.1 (by decide)) i4.1.1).1).trans x4
  refine s_Minit j7 h7 i7 (fun S9 ad9 j9 i9 m9 y1 y6 => ?_)
  have x9 : ad9 1 0 = q1 := y1.trans x7
  generalize hq6 : ad7 100 0 = q6 at y6 ⊢
  clear i4 x4 f7 i7 x7 h7 j4 j7 hq6 y1
  refine s_new (t0 := 40) (i0 := 0) j9 (fun S12 ad12 j12 f12 h12 => ?_)
  have i12 : HI S12 ad12 8 := i9.fr f12 (fun t i ht z => by omega) (fun z => absurd z.1 (by decide)) (fun z => absurd z.1 (by decide)) (fun i _ => ⟨fun z => absurd z.1 (by decide), fun z => absurd z.1 (by decide)⟩)
  have hI0 : INV q1 q6 (ad12 40 0) S12 := ⟨ad12, 0, tb0, dl0, df0, 0, g0, pt0, dn0, 0, 0, g0, g0, j12, ((f12.a (t := 1) (i := 0) (fun z => absurd z.1 (by decide)) i9.1.1).1).trans x9, ((f12.a (t := 100) (i := 0) (fun z => absurd z.1 (by decide)) m9.1).1).trans y6, rfl, HC0 i12 h12.1 h12.2.1, m9.fr f12 (fun t i h1 h2 z => by omega), HO0⟩
  generalize ad12 40 0 = q11 at hI0 ⊢
  clear i12 h12 f12 j12 i9 m9 x9 y6 j9
  refine ⟨fun q S' v kc ks => ∃ i, 6 * i ≤ L ∧ q = L - 6 * i ∧ v = nI (6 * i) ∧ kc ≤ 69 + 256 * i ∧ ks ≤ 924 + 2048 * i ∧ INV q1 q6 q11 S', ⟨L, 0, Nat.zero_le _, rfl, rfl, Nat.le_refl _, Nat.le_refl _, hI0⟩, ?_⟩
  clear hI0
  rintro q S _ kc ks ⟨i, hi, rfl, rfl, hkc, hks, hI⟩
  refine ⟨⟨by omega, by omega⟩, fun _ => trivial, fun hc => ?_⟩
  have h6 : 6 * i + 6 ≤ L := by
    have eL : Int32.ofNat L = nI L := rfl
    rw [eL] at hc
    rcases Nat.lt_or_ge L 6 with w | w
    · refine absurd ?_ hc
      have i0 : i = 0 := by omega
      subst i0
      rcases (show L = 0 ∨ L = 1 ∨ L = 2 ∨ L = 3 ∨ L = 4 ∨ L = 5 by omega) with rfl | rfl | rfl | rfl | rfl | rfl <;> decide
    · have e6 : nI L - 6 = nI (L - 6) := pk_sub (a := L) (b := 6) w
      rw [e6] at hc
      have := Nat.not_lt.mp (fun z => hc (nI_lt z (by omega)))
      omega
  have hv : ∀ k, k < 6 → vp_in (nI (6 * i) + nI k) L := fun k hk => by
    rw [nI_add]
    exact vp_in_nI (by omega) (by omega)
  have hv1 : vp_in (nI (6 * i) + 1) L := hv 1 (by decide)
  have hv2 : vp_in (nI (6 * i) + 2) L := hv 2 (by decide)
  have hv3 : vp_in (nI (6 * i) + 3) L := hv 3 (by decide)
  have hv4 : vp_in (nI (6 * i) + 4) L := hv 4 (by decide)
  have hv5 : vp_in (nI (6 * i) + 5) L := hv 5 (by decide)
  refine ⟨vp_in_nI (by omega) (by omega), ?_⟩
  intro v18 _
  refine ⟨fun S' kc' ks' => INV q1 q6 q11 S' ∧ kc' ≤ 69 + 256 * (i + 1) ∧ ks' ≤ 924 + 2048 * (i + 1), ?_, ?_, ?_, ?_, ?_, ?_, ?_, ?_, ?_, ?_, ?_, ?_, ?_, ?_, ?_, ?_, ?_, ?_, ?_, ?_, ?_, ?_, ?_, ?_⟩
  · rintro S' kc' ks' ⟨h1, h2, h3⟩
    have b0 : i + 1 ≤ 512 := by omega
    have b1 : 69 + 256 * (i + 1) ≤ 601024 := Nat.le_trans (Nat.add_le_add_left (Nat.mul_le_mul_left 256 b0) 69) (Nat.le_of_ble_eq_true rfl)
    have b2 : 924 + 2048 * (i + 1) ≤ 7293034 := Nat.le_trans (Nat.add_le_add_left (Nat.mul_le_mul_left 2048 b0) 924) (Nat.le_of_ble_eq_true rfl)
    refine ⟨⟨Nat.le_trans h2 b1, Nat.le_trans h3 b2⟩, ?_⟩
    rintro _ rfl
    refine ⟨L - 6 * (i + 1), by omega, i + 1, by omega, rfl, ?_, h2, h3, h1⟩
    show nI (6 * i) + nI 6 = _
    rw [nI_add]
    rfl
  · intro _
    refine ⟨hv1, ?_⟩
    rintro _ rfl
    refine ⟨hv2, ?_⟩
    rintro _ rfl
    refine ⟨hv3, ?_⟩
    rintro _ rfl
    refine ⟨hv4, ?_⟩
    rintro _ rfl
    refine ⟨hv5, ?_⟩
    rintro _ rfl
    refine ⟨⟨by omega, by omega⟩, L_feed (A := fun S' => INV q1 q6 q11 S' ∧ kc + 2 ≤ 69 + 256 * (i + 1) ∧ ks + 11 ≤ 924 + 2048 * (i + 1)) hI (fun S' h' => ⟨h', by omega, by omega⟩) (fun k S' hM => ?_)⟩
    refine ⟨hv1, ?_⟩
    rintro _ rfl
    refine ⟨hv2, ?_⟩
    rintro _ rfl
    refine ⟨hv3, ?_⟩
    rintro _ rfl
    refine ⟨hv4, ?_⟩
    rintro _ rfl
    refine ⟨hv5, ?_⟩
    rintro _ rfl
    refine ⟨⟨by omega, by omega⟩, ?_⟩
    exact hM
  · intro _
    refine ⟨hv1, ?_⟩
    rintro _ rfl
    refine ⟨⟨by omega, by omega⟩, L_trim (A := fun S' => INV q1 q6 q11 S' ∧ kc + 1 ≤ 69 + 256 * (i + 1) ∧ ks + 6 ≤ 924 + 2048 * (i + 1)) hI (fun S' h' => ⟨h', by omega, by omega⟩) (fun k S' hM => ?_)⟩
    refine ⟨hv1, ?_⟩
    rintro _ rfl
    exact hM
  · intro _
    refine ⟨hv1, ?_⟩
    rintro _ rfl
    refine ⟨⟨by omega, by omega⟩, L_learn (A := fun S' => INV q1 q6 q11 S' ∧ kc + 1 ≤ 69 + 256 * (i + 1) ∧ ks + 6 ≤ 924 + 2048 * (i + 1)) hI (fun S' h' => ⟨h', by omega, by omega⟩) (fun k S' hM => ?_)⟩
    refine ⟨hv1, ?_⟩
    rintro _ rfl
    exact hM
  · intro _
    refine ⟨hv1, ?_⟩
    rintro _ rfl
    refine ⟨hv2, ?_⟩
    rintro _ rfl
    refine ⟨⟨by omega, by omega⟩, L_figure (A := fun S' => INV q1 q6 q11 S' ∧ kc + 2 ≤ 69 + 256 * (i + 1) ∧ ks + 12 ≤ 924 + 2048 * (i + 1)) hI (fun S' h' => ⟨h', by omega, by omega⟩) (fun k S' hM => ?_)⟩
    refine ⟨hv1, ?_⟩
    rintro _ rfl
    refine ⟨hv2, ?_⟩
    rintro _ rfl
    exact hM
  · intro _
    refine ⟨hv1, ?_⟩
    rintro _ rfl
    refine ⟨hv2, ?_⟩
    rintro _ rfl
    refine ⟨⟨by omega, by omega⟩, L_drift (A := fun S' => INV q1 q6 q11 S' ∧ kc + 2 ≤ 69 + 256 * (i + 1) ∧ ks + 12 ≤ 924 + 2048 * (i + 1)) hI (fun S' h' => ⟨h', by omega, by omega⟩) (fun k S' hM => ?_)⟩
    refine ⟨hv1, ?_⟩
    rintro _ rfl
    refine ⟨hv2, ?_⟩
    rintro _ rfl
    exact hM
  · intro _
    refine ⟨hv1, ?_⟩
    rintro _ rfl
    refine ⟨hv2, ?_⟩
    rintro _ rfl
    refine ⟨hv3, ?_⟩
    rintro _ rfl
    refine ⟨hv4, ?_⟩
    rintro _ rfl
    refine ⟨⟨by omega, by omega⟩, L_come (A := fun S' => INV q1 q6 q11 S' ∧ kc + 2 ≤ 69 + 256 * (i + 1) ∧ ks + 25 ≤ 924 + 2048 * (i + 1)) hI (fun S' h' => ⟨h', by omega, by omega⟩) (fun k S' hM => ?_)⟩
    refine ⟨hv1, ?_⟩
    rintro _ rfl
    refine ⟨hv2, ?_⟩
    rintro _ rfl
    refine ⟨hv3, ?_⟩
    rintro _ rfl
    refine ⟨hv4, ?_⟩
    rintro _ rfl
    exact hM
  · intro _
    refine ⟨hv1, ?_⟩
    rintro _ rfl
    refine ⟨hv2, ?_⟩
    rintro _ rfl
    refine ⟨⟨by omega, by omega⟩, L_dance (A := fun S' => INV q1 q6 q11 S' ∧ kc + 2 ≤ 69 + 256 * (i + 1) ∧ ks + 12 ≤ 924 + 2048 * (i + 1)) hI (fun S' h' => ⟨h', by omega, by omega⟩) (fun k S' hM => ?_)⟩
    refine ⟨hv1, ?_⟩
    rintro _ rfl
    refine ⟨hv2, ?_⟩
    rintro _ rfl
    exact hM
  · intro _
    refine ⟨hv1, ?_⟩
    rintro _ rfl
    refine ⟨hv2, ?_⟩
    rintro _ rfl
    refine ⟨⟨by omega, by omega⟩, L_pair (A := fun S' => INV q1 q6 q11 S' ∧ kc + 3 ≤ 69 + 256 * (i + 1) ∧ ks + 18 ≤ 924 + 2048 * (i + 1)) hI (fun S' h' => ⟨h', by omega, by omega⟩) (fun k S' hM => ?_)⟩
    refine ⟨hv1, ?_⟩
    rintro _ rfl
    refine ⟨hv2, ?_⟩
    rintro _ rfl
    exact hM
  · intro _
    refine ⟨hv1, ?_⟩
    rintro _ rfl
    refine ⟨⟨by omega, by omega⟩, L_part (A := fun S' => INV q1 q6 q11 S' ∧ kc + 3 ≤ 69 + 256 * (i + 1) ∧ ks + 14 ≤ 924 + 2048 * (i + 1)) hI (fun S' h' => ⟨h', by omega, by omega⟩) (fun k S' hM => ?_)⟩
    refine ⟨hv1, ?_⟩
    rintro _ rfl
    refine ⟨⟨by omega, by omega⟩, ?_⟩
    exact hM
  · intro _
    refine ⟨hv1, ?_⟩
    rintro _ rfl
    refine ⟨hv2, ?_⟩
    rintro _ rfl
    refine ⟨⟨by omega, by omega⟩, L_wind (A := fun S' => INV q1 q6 q11 S' ∧ kc + 2 ≤ 69 + 256 * (i + 1) ∧ ks + 12 ≤ 924 + 2048 * (i + 1)) hI (fun S' h' => ⟨h', by omega, by omega⟩) (fun k S' hM => ?_)⟩
    refine ⟨hv1, ?_⟩
    rintro _ rfl
    refine ⟨hv2, ?_⟩
    rintro _ rfl
    exact hM
  · intro _
    refine ⟨hv1, ?_⟩
    rintro _ rfl
    refine ⟨hv2, ?_⟩
    rintro _ rfl
    refine ⟨⟨by omega, by omega⟩, L_dancer (A := fun S' => INV q1 q6 q11 S' ∧ kc + 3 ≤ 69 + 256 * (i + 1) ∧ ks + 24 ≤ 924 + 2048 * (i + 1)) hI (fun S' h' => ⟨h', by omega, by omega⟩) (fun k S' hM => ?_)⟩
    refine ⟨hv1, ?_⟩
    rintro _ rfl
    refine ⟨hv2, ?_⟩
    rintro _ rfl
    refine ⟨⟨by omega, by omega⟩, ?_⟩
    exact hM
  · intro _
    refine ⟨hv1, ?_⟩
    rintro _ rfl
    refine ⟨hv2, ?_⟩
    rintro _ rfl
    refine ⟨⟨by omega, by omega⟩, L_at (A := fun S' => INV q1 q6 q11 S' ∧ kc + 1 ≤ 69 + 256 * (i + 1) ∧ ks + 6 ≤ 924 + 2048 * (i + 1)) hI (fun S' h' => ⟨h', by omega, by omega⟩) (fun k S' hM => ?_)⟩
    refine ⟨hv1, ?_⟩
    rintro _ rfl
    refine ⟨hv2, ?_⟩
    rintro _ rfl
    exact hM
  · intro _
    refine ⟨hv1, ?_⟩
    rintro _ rfl
    refine ⟨hv2, ?_⟩
    rintro _ rfl
    refine ⟨hv3, ?_⟩
    rintro _ rfl
    refine ⟨⟨by omega, by omega⟩, L_addWinder (A := fun S' => INV q1 q6 q11 S' ∧ kc + 4 ≤ 69 + 256 * (i + 1) ∧ ks + 31 ≤ 924 + 2048 * (i + 1)) hI (fun S' h' => ⟨h', by omega, by omega⟩) (fun k S' hM => ?_)⟩
    refine ⟨hv1, ?_⟩
    rintro _ rfl
    refine ⟨hv2, ?_⟩
    rintro _ rfl
    refine ⟨hv3, ?_⟩
    rintro _ rfl
    refine ⟨⟨by omega, by omega⟩, ?_⟩
    exact hM
  · intro _
    refine ⟨hv1, ?_⟩
    rintro _ rfl
    refine ⟨hv2, ?_⟩
    rintro _ rfl
    refine ⟨⟨by omega, by omega⟩, L_call (A := fun S' => INV q1 q6 q11 S' ∧ kc + 3 ≤ 69 + 256 * (i + 1) ∧ ks + 18 ≤ 924 + 2048 * (i + 1)) hI (fun S' h' => ⟨h', by omega, by omega⟩) (fun k S' hM => ?_)⟩
    refine ⟨hv1, ?_⟩
    rintro _ rfl
    refine ⟨hv2, ?_⟩
    rintro _ rfl
    exact hM
  · intro _
    refine ⟨hv1, ?_⟩
    rintro _ rfl
    refine ⟨hv2, ?_⟩
    rintro _ rfl
    refine ⟨⟨by omega, by omega⟩, L_winder (A := fun S' => INV q1 q6 q11 S' ∧ kc + 2 ≤ 69 + 256 * (i + 1) ∧ ks + 12 ≤ 924 + 2048 * (i + 1)) hI (fun S' h' => ⟨h', by omega, by omega⟩) (fun k S' hM => ?_)⟩
    refine ⟨hv1, ?_⟩
    rintro _ rfl
    refine ⟨hv2, ?_⟩
    rintro _ rfl
    exact hM
  · intro _
    refine ⟨hv1, ?_⟩
    rintro _ rfl
    refine ⟨⟨by omega, by omega⟩, L_pass (A := fun S' => INV q1 q6 q11 S' ∧ kc + 1 ≤ 69 + 256 * (i + 1) ∧ ks + 6 ≤ 924 + 2048 * (i + 1)) hI (fun S' h' => ⟨h', by omega, by omega⟩) (fun k S' hM => ?_)⟩
    refine ⟨hv1, ?_⟩
    rintro _ rfl
    exact hM
  · intro _
    refine ⟨hv1, ?_⟩
    rintro _ rfl
    refine ⟨⟨by omega, by omega⟩, L_count (A := fun S' => INV q1 q6 q11 S' ∧ kc + 1 ≤ 69 + 256 * (i + 1) ∧ ks + 6 ≤ 924 + 2048 * (i + 1)) hI (fun S' h' => ⟨h', by omega, by omega⟩) (fun k S' hM => ?_)⟩
    refine ⟨hv1, ?_⟩
    rintro _ rfl
    exact hM
  · intro _
    refine ⟨hv1, ?_⟩
    rintro _ rfl
    refine ⟨hv2, ?_⟩
    rintro _ rfl
    refine ⟨hv3, ?_⟩
    rintro _ rfl
    refine ⟨⟨by omega, by omega⟩, L_foresee (A := fun S' => INV q1 q6 q11 S' ∧ kc + 68 ≤ 69 + 256 * (i + 1) ∧ ks + 1047 ≤ 924 + 2048 * (i + 1)) hI (fun S' h' => ⟨h', by omega, by omega⟩) (fun k S' hM => ?_)⟩
    refine ⟨hv1, ?_⟩
    rintro _ rfl
    refine ⟨hv2, ?_⟩
    rintro _ rfl
    refine ⟨hv3, ?_⟩
    rintro _ rfl
    refine ⟨⟨by omega, by omega⟩, ?_⟩
    exact hM
  · intro _
    refine ⟨hv1, ?_⟩
    rintro _ rfl
    refine ⟨⟨by omega, by omega⟩, L_firstToStop (A := fun S' => INV q1 q6 q11 S' ∧ kc + 65 ≤ 69 + 256 * (i + 1) ∧ ks + 1030 ≤ 924 + 2048 * (i + 1)) hI (fun S' h' => ⟨h', by omega, by omega⟩) (fun k S' hM => ?_)⟩
    refine ⟨hv1, ?_⟩
    rintro _ rfl
    exact hM
  · intro _
    refine ⟨hv1, ?_⟩
    rintro _ rfl
    refine ⟨hv2, ?_⟩
    rintro _ rfl
    refine ⟨hv3, ?_⟩
    rintro _ rfl
    refine ⟨⟨by omega, by omega⟩, L_meet (A := fun S' => INV q1 q6 q11 S' ∧ kc + 67 ≤ 69 + 256 * (i + 1) ∧ ks + 1042 ≤ 924 + 2048 * (i + 1)) hI (fun S' h' => ⟨h', by omega, by omega⟩) (fun k S' hM => ?_)⟩
    refine ⟨hv1, ?_⟩
    rintro _ rfl
    refine ⟨hv2, ?_⟩
    rintro _ rfl
    refine ⟨hv3, ?_⟩
    rintro _ rfl
    exact hM
  · intro _
    obtain ⟨ad, tl, tb, dl, df, n, g, pt, dn, bt, m, wg, rd, hj, rfl, rfl, rfl, h, hm, ho⟩ := hI
    refine s_tension h ho.2.2.1 (s_mtension hj hm ho.2.2.1 (fun S3 hMR => ?_))
    obtain ⟨h3, r3, f3⟩ := hMR
    have c3 : HC S3 ad tl tb dl df n g pt dn bt m wg rd := h.fr f3 (fun t i ht _ _ => ht)
    refine ⟨True, fun _ => ⟨⟨ad, tl, tb, dl, df, n, g, pt, dn, bt, m, wg, rd, hj, rfl, rfl, rfl, c3, h3, ho⟩, by omega, by omega⟩, fun _ => trivial, fun c => ⟨fun c2 => c c2, fun _ => ⟨fun c2 => c c2, fun _ => trivial⟩⟩⟩
  · intro _
    obtain ⟨ad, tl, tb, dl, df, n, g, pt, dn, bt, m, wg, rd, hj, rfl, rfl, rfl, h, hm, ho⟩ := hI
    refine s_digest h ⟨⟨by omega, by omega⟩, s_mdigest hj hm ho.2.2.2.1 (fun S3 hMR => ?_)⟩
    obtain ⟨h3, r3, f3⟩ := hMR
    have c3 : HC S3 ad tl tb dl df n g pt dn bt m wg rd := h.fr f3 (fun t i ht _ _ => ht)
    exact ⟨fun _ => ⟨⟨ad, tl, tb, dl, df, n, g, pt, dn, bt, m, wg, rd, hj, rfl, rfl, rfl, c3, h3, ho⟩, by omega, by omega⟩, fun c => c ((lg_cmp_eq _ _).mpr rfl)⟩
  · intros
    exact ⟨hI, by omega, by omega⟩
