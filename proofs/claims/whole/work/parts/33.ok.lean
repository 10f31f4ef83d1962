/-! the invariant through a figure -/
theorem Ok.cg {n : Nat} {g g' : Nat → Nat → Int32} {pt : Nat → Option Nat} {dn dl : Nat → Nat} (h : Ok n g pt dn dl) (e : ∀ f i, f ≠ 19 → f ≠ 20 → g' f i = g f i) : Ok n g' pt dn dl := by
  obtain ⟨h1, h2, h3, h4⟩ := h
  refine ⟨fun i hi => ?_, fun i j hi hj a b => ?_, fun i j hi hp => ?_, fun i hi hp => ?_⟩
  · unfold OkD
    rw [e 7 i (by decide) (by decide), e 8 i (by decide) (by decide), e 9 i (by decide) (by decide), e 10 i (by decide) (by decide), e 11 i (by decide) (by decide), e 13 i (by decide) (by decide), e 15 i (by decide) (by decide), e 16 i (by decide) (by decide)]
    exact h1 i hi
  · rw [e 7 i (by decide) (by decide), e 7 j (by decide) (by decide)] at a
    rw [e 8 i (by decide) (by decide), e 8 j (by decide) (by decide)] at b
    exact h2 i j hi hj a b
  · unfold bes
    rw [e 7 i (by decide) (by decide), e 7 j (by decide) (by decide), e 8 i (by decide) (by decide), e 8 j (by decide) (by decide)]
    exact h3 i j hi hp
  · rw [e 15 i (by decide) (by decide)]
    exact h4 i hi hp
/-- one field of one dancer that isn't a place on the floor -/
theorem Ok.up {n f d : Nat} {v : Int32} {g : Nat → Nat → Int32} {pt : Nat → Option Nat} {dn dl : Nat → Nat} (h : Ok n g pt dn dl) (hf : f ≠ 7 ∧ f ≠ 8 ∧ f ≠ 15) (hd : d < n → OkD (up2 g f d v) dl (dn d) d) : Ok n (up2 g f d v) pt dn dl := by
  obtain ⟨h1, h2, h3, h4⟩ := h
  refine ⟨fun i hi => ?_, fun i j hi hj a b => ?_, fun i j hi hp => ?_, fun i hi hp => ?_⟩
  · by_cases e : i = d
    · subst e; exact hd hi
    · unfold OkD
      rw [up2_a e, up2_a e, up2_a e, up2_a e, up2_a e, up2_a e, up2_a e, up2_a e]
      exact h1 i hi
  · rw [up2_f (fun e => hf.1 e.symm), up2_f (fun e => hf.1 e.symm)] at a
    rw [up2_f (fun e => hf.2.1 e.symm), up2_f (fun e => hf.2.1 e.symm)] at b
    exact h2 i j hi hj a b
  · unfold bes
    rw [up2_f (fun e => hf.1 e.symm), up2_f (fun e => hf.1 e.symm), up2_f (fun e => hf.2.1 e.symm), up2_f (fun e => hf.2.1 e.symm)]
    exact h3 i j hi hp
  · rw [up2_f (fun e => hf.2.2 e.symm)]
    exact h4 i hi hp
section OKS
variable {n d j t m : Nat} {g wg rd : Nat → Nat → Int32} {pt : Nat → Option Nat} {dn dl : Nat → Nat} {df : Nat → Nat → Int32}
theorem okD_f {f : Nat} {v : Int32} {k i : Nat} (h : OkD g dl k i) (hf : f ≠ 7 ∧ f ≠ 8 ∧ f ≠ 9 ∧ f ≠ 10 ∧ f ≠ 11 ∧ f ≠ 13 ∧ f ≠ 15 ∧ f ≠ 16) : OkD (up2 g f d v) dl k i := by
  unfold OkD
  rw [up2_f (fun e => hf.1 e.symm), up2_f (fun e => hf.2.1 e.symm), up2_f (fun e => hf.2.2.1 e.symm), up2_f (fun e => hf.2.2.2.1 e.symm), up2_f (fun e => hf.2.2.2.2.1 e.symm), up2_f (fun e => hf.2.2.2.2.2.1 e.symm), up2_f (fun e => hf.2.2.2.2.2.2.1 e.symm), up2_f (fun e => hf.2.2.2.2.2.2.2 e.symm)]
  exact h
theorem ok_stg (h : Ok n g pt dn dl) : Ok n (stg g t) pt dn dl := by
  unfold stg
  refine Ok.up (h.up (by decide) (fun ht => ?_)) (by decide) (fun ht => okD_f ?_ (by decide))
  · obtain ⟨a1, a2, a3, a4, a5, a6, a7, -⟩ := h.1 t ht
    exact ⟨a1, a2, a3, a4, a5, a6, a7, 3, by decide, up2_at⟩
  · obtain ⟨a1, a2, a3, a4, a5, a6, a7, -⟩ := h.1 t ht
    exact ⟨a1, a2, a3, a4, a5, a6, a7, 3, by decide, up2_at⟩
theorem ok_stgO {o : Option Nat} (h : Ok n g pt dn dl) : Ok n (stgO g o) pt dn dl := by
  cases o with
  | none => exact h
  | some t => exact ok_stg h
theorem ok_place (h : Ok n g pt dn dl) (hd : d < n) (hl : dl (dn d) ≤ 24) : Ok n (up2 g 13 d (nxtP dl (dn d) (g 13 d))) pt dn dl := by
  refine h.up (by decide) (fun _ => ?_)
  obtain ⟨a1, a2, a3, a4, a5, ⟨p, hp, ep⟩, a7, a8⟩ := h.1 d hd
  refine ⟨a1, a2, a3, a4, a5, ?_, a7, a8⟩
  rw [up2_at, ep]
  unfold nxtP
  rw [nI_1]
  by_cases c : p + 1 < dl (dn d)
  · exact ⟨p + 1, c, by rw [if_neg (nI_ge c (by omega))]⟩
  · exact ⟨0, by omega, by rw [if_pos (nI_le (by omega) (by omega))]; rfl⟩
theorem inw_none (h2 : ∀ i j, i < n → j < n → g 7 i = g 7 j → g 8 i = g 8 j → i = j) (hw : inwF n pt g t = none) {i : Nat} (hi : i < n) (h7 : g 7 i = g 19 t) (h8 : g 8 i = g 20 t) : i = t ∨ pt t = some i := by
  unfold inwF at hw
  cases hq : whoF n g (g 19 t) (g 20 t) with
  | none => exact absurd ⟨h7, h8⟩ (fst_none.mp hq i hi)
  | some u =>
    obtain ⟨q1, ⟨q2, q3⟩, -⟩ := fst_some.mp hq
    have e : u = i := h2 u i q1 hi (q2.trans h7.symm) (q3.trans h8.symm)
    rw [hq] at hw
    dsimp only at hw
    by_cases c : u = t ∨ pt t = some u
    · rw [e] at c; exact c
    · rw [if_neg c] at hw; cases hw
theorem onF_rng {x y : Int32} (h : ¬ onF x y = 0) : (∃ a, a < 16 ∧ x = nI a) ∧ ∃ b, b < 16 ∧ y = nI b := by
  unfold onF at h
  by_cases h1 : x < 0
  · rw [if_pos h1] at h; exact absurd rfl h
  · by_cases h2 : 16 ≤ x
    · rw [if_neg h1, if_pos h2] at h; exact absurd rfl h
    · by_cases h3 : y < 0
      · rw [if_neg h1, if_neg h2, if_pos h3] at h; exact absurd rfl h
      · by_cases h4 : 16 ≤ y
        · rw [if_neg h1, if_neg h2, if_neg h3, if_pos h4] at h; exact absurd rfl h
        · obtain ⟨a, ha, rfl⟩ := nI_of h1
          obtain ⟨b, hb, rfl⟩ := nI_of h3
          refine ⟨⟨a, ?_, rfl⟩, b, ?_, rfl⟩
          · exact Nat.not_le.mp fun q => h2 ((nI_leI (a := 16) (by decide) ha).mpr q)
          · exact Nat.not_le.mp fun q => h4 ((nI_leI (a := 16) (by decide) hb).mpr q)
theorem dsum : ∀ s : Fin 4, dxT s.1 + dxT ((s.1 + 2) % 4) = 0 ∧ dyT s.1 + dyT ((s.1 + 2) % 4) = 0 ∧ ¬ (dxT s.1 = 0 ∧ dyT s.1 = 0) := by decide +kernel
theorem bes_sym {s : Nat} (hs : s < 4) (h : bes g d j s) : bes g j d ((s + 2) % 4) := by
  obtain ⟨h1, h2⟩ := h
  obtain ⟨e1, e2, -⟩ := dsum ⟨s, hs⟩
  refine ⟨?_, ?_⟩
  · rw [h1, Int32.add_assoc, e1, Int32.add_zero]
  · rw [h2, Int32.add_assoc, e2, Int32.add_zero]
theorem bes_ne {s : Nat} (hs : s < 4) (h : bes g d j s) : ¬ (g 7 j = g 7 d ∧ g 8 j = g 8 d) := by
  rintro ⟨a, b⟩
  obtain ⟨h1, h2⟩ := h
  rw [a] at h1
  rw [b] at h2
  have q1 : g 7 d + 0 = g 7 d + dxT s := (Int32.add_zero _).trans h1
  have q2 : g 8 d + 0 = g 8 d + dyT s := (Int32.add_zero _).trans h2
  exact (dsum ⟨s, hs⟩).2.2 ⟨((Int32.add_right_inj _).mp q1).symm, ((Int32.add_right_inj _).mp q2).symm⟩
/-- the spring suffices -/
def Spr (g : Nat → Nat → Int32) (i : Nat) : Prop := ¬ canF g i = 0
theorem spr_le (h : Spr g t) : g 11 t ≤ g 10 t := by
  unfold Spr canF at h
  by_cases c : g 16 t = 0
  · rw [if_pos c] at h
    unfold spF at h
    by_cases c2 : g 11 t ≤ g 10 t
    · exact c2
    · rw [if_neg c2, if_neg (by decide)] at h; exact absurd rfl h
  · rw [if_neg c] at h; exact absurd rfl h
theorem goT_v {f i : Nat} {q : Int32} : goT g t q f i = if f = 17 ∧ i = t then g 17 t + 1 else if f = 10 ∧ i = t then g 10 t - g 11 t else if f = 9 ∧ i = t then fmF (g 9 t + q) else if f = 8 ∧ i = t then g 20 t else if f = 7 ∧ i = t then g 19 t else g f i := rfl
theorem okD_go {k : Nat} {fig : Int32} (h : OkD g dl k t) (hs : g 11 t ≤ g 10 t) (ho : ¬ onF (g 19 t) (g 20 t) = 0) : OkD (goT g t (turnF fig)) dl k t := by
  obtain ⟨-, -, ⟨f, hf, ef⟩, ⟨s, hs2, es⟩, ⟨c, hc1, hc2, ec⟩, a6, a7, a8⟩ := h
  obtain ⟨b1, b2⟩ := onF_rng ho
  have e7 : goT g t (turnF fig) 7 t = g 19 t := by simp [goT_v]
  have e8 : goT g t (turnF fig) 8 t = g 20 t := by simp [goT_v]
  have e9 : goT g t (turnF fig) 9 t = fmF (g 9 t + turnF fig) := by simp [goT_v]
  have e10 : goT g t (turnF fig) 10 t = g 10 t - g 11 t := by simp [goT_v]
  refine ⟨by rw [e7]; exact b1, by rw [e8]; exact b2, ?_, ?_, ⟨c, hc1, hc2, ec⟩, a6, a7, a8⟩
  · rw [e9, ef, (turnC hf fig).1]
    obtain ⟨-, w, hw, ew, -⟩ := turnC hf fig
    exact ⟨(f + w) % 4, Nat.mod_lt _ (by decide), by rw [ew]; exact (dirC hf hw).2.2.2.2⟩
  · rw [e10]
    rw [ec, es] at hs ⊢
    have := (nI_leI (by omega) (by omega)).mp hs
    exact ⟨s - c, by omega, pk_sub this⟩
theorem goT_l {f i : Nat} {q : Int32} (h : f ≠ 7 ∧ f ≠ 8 ∧ f ≠ 9 ∧ f ≠ 10 ∧ f ≠ 17) : goT g t q f i = g f i := by
  simp [goT_v, h.1, h.2.1, h.2.2.1, h.2.2.2.1, h.2.2.2.2]
/-- one alone goes -/
theorem ok_go1 {fig : Int32} (h : Ok n g pt dn dl) (hd : d < n) (hp : pt d = none) (hs : g 11 d ≤ g 10 d) (ho : ¬ onF (g 19 d) (g 20 d) = 0) (hw : inwF n pt g d = none) : Ok n (goT g d (turnF fig)) pt dn dl := by
  obtain ⟨h1, h2, h3, h4⟩ := h
  have e7 : goT g d (turnF fig) 7 d = g 19 d := by simp [goT_v]
  have e8 : goT g d (turnF fig) 8 d = g 20 d := by simp [goT_v]
  have hfree : ∀ i, i < n → i ≠ d → ¬ (g 7 i = g 19 d ∧ g 8 i = g 20 d) := by
    rintro i hi hne ⟨a, b⟩
    rcases inw_none h2 hw hi a b with q | q
    · exact hne q
    · rw [hp] at q; cases q
  refine ⟨fun i hi => ?_, fun i j hi hj a b => ?_, fun i j hi hpi => ?_, fun i hi hpi => ?_⟩
  · by_cases e : i = d
    · subst e; exact okD_go (h1 i hi) hs ho
    · unfold OkD
      rw [goT_o e, goT_o e, goT_o e, goT_o e, goT_o e, goT_o e, goT_o e, goT_o e]
      exact h1 i hi
  · by_cases e : i = d
    · subst e
      by_cases e2 : j = i
      · exact e2.symm
      · rw [e7, goT_o e2] at a
        rw [e8, goT_o e2] at b
        exact absurd ⟨a.symm, b.symm⟩ (hfree j hj e2)
    · by_cases e2 : j = d
      · subst e2
        rw [e7, goT_o e] at a
        rw [e8, goT_o e] at b
        exact absurd ⟨a, b⟩ (hfree i hi e)
      · rw [goT_o e, goT_o e2] at a b
        exact h2 i j hi hj a b
  · obtain ⟨q1, q2, q3, q4⟩ := h3 i j hi hpi
    have n1 : i ≠ d := fun e => by rw [e, hp] at hpi; cases hpi
    have n2 : j ≠ d := fun e => by rw [e, hp] at q3; cases q3
    refine ⟨q1, q2, q3, ?_⟩
    unfold bes
    rw [goT_o n1, goT_o n1, goT_o n2, goT_o n2]
    exact q4
  · rw [goT_l (by decide)]
    exact h4 i hi hpi
/-- a couple goes -/
theorem ok_go2 {fig : Int32} {s : Nat} (h : Ok n g pt dn dl) (hd : d < n) (hp : pt d = some j) (hs : g 11 d ≤ g 10 d) (hsj : g 11 j ≤ g 10 j) (ho : ¬ onF (g 19 d) (g 20 d) = 0) (hoj : ¬ onF (g 19 j) (g 20 j) = 0) (hw : inwF n pt g d = none) (hwj : inwF n pt g j = none) (hs4 : s < 4) (hb : g 19 j = g 19 d + dxT s ∧ g 20 j = g 20 d + dyT s) : Ok n (goT (goT g d (turnF fig)) j (turnF fig)) pt dn dl := by
  obtain ⟨h1, h2, h3, h4⟩ := h
  obtain ⟨hjn, hdj, hjd, -⟩ := h3 d j hd hp
  have hjd2 : j ≠ d := fun e => hdj e.symm
  have a7 : goT (goT g d (turnF fig)) j (turnF fig) 7 d = g 19 d := by rw [goT_o hdj]; simp [goT_v]
  have a8 : goT (goT g d (turnF fig)) j (turnF fig) 8 d = g 20 d := by rw [goT_o hdj]; simp [goT_v]
  have b7 : goT (goT g d (turnF fig)) j (turnF fig) 7 j = g 19 j := by
    have : goT (goT g d (turnF fig)) j (turnF fig) 7 j = goT g d (turnF fig) 19 j := by simp [goT_v]
    rw [this, goT_o hjd2]
  have b8 : goT (goT g d (turnF fig)) j (turnF fig) 8 j = g 20 j := by
    have : goT (goT g d (turnF fig)) j (turnF fig) 8 j = goT g d (turnF fig) 20 j := by simp [goT_v]
    rw [this, goT_o hjd2]
  have hoth : ∀ f i, i ≠ d → i ≠ j → goT (goT g d (turnF fig)) j (turnF fig) f i = g f i := fun f i e1 e2 => by rw [goT_o e2, goT_o e1]
  have hbes : bes (goT (goT g d (turnF fig)) j (turnF fig)) d j s := by
    unfold bes
    rw [a7, a8, b7, b8]
    exact hb
  have hfd : ∀ i, i < n → i ≠ d → i ≠ j → ¬ (g 7 i = g 19 d ∧ g 8 i = g 20 d) := by
    rintro i hi e1 e2 ⟨a, b⟩
    rcases inw_none h2 hw hi a b with q | q
    · exact e1 q
    · rw [hp] at q; cases q; exact e2 rfl
  have hfj : ∀ i, i < n → i ≠ d → i ≠ j → ¬ (g 7 i = g 19 j ∧ g 8 i = g 20 j) := by
    rintro i hi e1 e2 ⟨a, b⟩
    rcases inw_none h2 hwj hi a b with q | q
    · exact e2 q
    · rw [hjd] at q; cases q; exact e1 rfl
  refine ⟨fun i hi => ?_, fun i k hi hk a b => ?_, fun i k hi hpi => ?_, fun i hi hpi => ?_⟩
  · by_cases e2 : i = j
    · subst e2
      refine okD_go ?_ ?_ ?_
      · unfold OkD
        rw [goT_o hjd2, goT_o hjd2, goT_o hjd2, goT_o hjd2, goT_o hjd2, goT_o hjd2, goT_o hjd2, goT_o hjd2]
        exact h1 i hi
      · rw [goT_o hjd2, goT_o hjd2]; exact hsj
      · rw [goT_o hjd2, goT_o hjd2]; exact hoj
    · by_cases e : i = d
      · subst e
        unfold OkD
        rw [goT_o e2, goT_o e2, goT_o e2, goT_o e2, goT_o e2, goT_o e2, goT_o e2, goT_o e2]
        exact okD_go (h1 i hi) hs ho
      · unfold OkD
        rw [hoth _ _ e e2, hoth _ _ e e2, hoth _ _ e e2, hoth _ _ e e2, hoth _ _ e e2, hoth _ _ e e2, hoth _ _ e e2, hoth _ _ e e2]
        exact h1 i hi
  · have key : ∀ i k, i < n → k < n → goT (goT g d (turnF fig)) j (turnF fig) 7 i = goT (goT g d (turnF fig)) j (turnF fig) 7 k → goT (goT g d (turnF fig)) j (turnF fig) 8 i = goT (goT g d (turnF fig)) j (turnF fig) 8 k → (i = d ∨ i = j) → i = k := by
      intro i k hi hk a b hc
      rcases hc with e | e
      · subst e
        by_cases e1 : k = i
        · exact e1.symm
        · by_cases e2 : k = j
          · subst e2
            exact absurd ⟨a.symm, b.symm⟩ (bes_ne hs4 hbes)
          · rw [a7, hoth _ _ e1 e2] at a
            rw [a8, hoth _ _ e1 e2] at b
            exact absurd ⟨a.symm, b.symm⟩ (hfd k hk e1 e2)
      · subst e
        by_cases e1 : k = i
        · exact e1.symm
        · by_cases e2 : k = d
          · subst e2
            exact absurd ⟨a, b⟩ (bes_ne hs4 hbes)
          · rw [b7, hoth _ _ e2 e1] at a
            rw [b8, hoth _ _ e2 e1] at b
            exact absurd ⟨a.symm, b.symm⟩ (hfj k hk e2 e1)
    by_cases c1 : i = d ∨ i = j
    · exact key i k hi hk a b c1
    · by_cases c2 : k = d ∨ k = j
      · exact (key k i hk hi a.symm b.symm c2).symm
      · have n1 : i ≠ d := fun e => c1 (Or.inl e)
        have n2 : i ≠ j := fun e => c1 (Or.inr e)
        have n3 : k ≠ d := fun e => c2 (Or.inl e)
        have n4 : k ≠ j := fun e => c2 (Or.inr e)
        rw [hoth _ _ n1 n2, hoth _ _ n3 n4] at a b
        exact h2 i k hi hk a b
  · obtain ⟨q1, q2, q3, q4⟩ := h3 i k hi hpi
    refine ⟨q1, q2, q3, ?_⟩
    by_cases e : i = d
    · subst e
      rw [hp] at hpi
      cases hpi
      exact ⟨s, hs4, hbes⟩
    · by_cases e2 : i = j
      · subst e2
        rw [hjd] at hpi
        cases hpi
        exact ⟨(s + 2) % 4, Nat.mod_lt _ (by decide), bes_sym hs4 hbes⟩
      · have n1 : k ≠ d := fun e3 => by rw [e3, hp] at q3; cases q3; exact e2 rfl
        have n2 : k ≠ j := fun e3 => by rw [e3, hjd] at q3; cases q3; exact e rfl
        unfold bes
        rw [hoth _ _ e e2, hoth _ _ e e2, hoth _ _ n1 n2, hoth _ _ n1 n2]
        exact q4
  · rw [goT_l (by decide), goT_l (by decide)]
    exact h4 i hi hpi
end OKS
