/-! the invariant and the sums through a beat -/
section OKB
variable {n d j t m : Nat} {g wg rd : Nat → Nat → Int32} {pt : Nat → Option Nat} {dn dl : Nat → Nat} {df : Nat → Nat → Int32}
theorem may_can (h : ¬ mayF pt g d = 0) : Spr g d ∧ ∀ j, pt d = some j → Spr g j := by
  unfold mayF at h
  by_cases c : canF g d = 0
  · rw [if_pos c] at h; exact absurd rfl h
  · rw [if_neg c] at h
    refine ⟨c, fun j hj => ?_⟩
    rw [hj] at h
    dsimp only at h
    by_cases c2 : canF g j = 0
    · rw [if_pos c2] at h; exact absurd rfl h
    · exact c2
theorem ok_end {fig : Int32} (h : Ok n g pt dn dl) (hd : d < n) (hs : g 11 d ≤ g 10 d) (hsj : ∀ j, pt d = some j → g 11 j ≤ g 10 j) (hb : ∀ j, pt d = some j → ∃ s, s < 4 ∧ g 19 j = g 19 d + dxT s ∧ g 20 j = g 20 d + dyT s) : Ok n (endF n pt g d (turnF fig)).2 pt dn dl := by
  unfold endF
  by_cases c : offF pt g d = 0 ∧ inwF n pt g d = none ∧ inw2 n pt g d = none
  · rw [if_pos c]
    obtain ⟨c1, c2, c3⟩ := c
    unfold offF at c1
    unfold inw2 at c3
    unfold goesF
    cases hp : pt d with
    | none =>
      rw [hp] at c1
      dsimp only at c1 ⊢
      refine ok_go1 h hd hp hs (fun e => ?_) c2
      rw [if_pos e] at c1
      exact absurd c1 (by decide)
    | some j =>
      rw [hp] at c1 c3
      dsimp only at c1 c3 ⊢
      obtain ⟨s, hs4, hb1⟩ := hb j hp
      have e1 : ¬ onF (g 19 d) (g 20 d) = 0 := fun e => by rw [if_pos e] at c1; exact absurd c1 (by decide)
      rw [if_neg e1] at c1
      have e2 : ¬ onF (g 19 j) (g 20 j) = 0 := fun e => by rw [if_pos e] at c1; exact absurd c1 (by decide)
      exact ok_go2 h hd hp hs (hsj j hp) e1 e2 c2 c3 hs4 hb1
  · rw [if_neg c]
    exact ok_stgO (ok_stgO (ok_stgO (ok_stg h)))
theorem goal_bes {fig : Int32} (h : Ok n g pt dn dl) (hd : d < n) (hp : pt d = some j) : ∃ s, s < 4 ∧ aimF g pt d fig 19 j = aimF g pt d fig 19 d + dxT s ∧ aimF g pt d fig 20 j = aimF g pt d fig 20 d + dyT s := by
  obtain ⟨h1, h2, h3, h4⟩ := h
  obtain ⟨hjn, hdj, hjd, s, hs4, hb⟩ := h3 d j hd hp
  by_cases hw : walkF fig = 0
  · by_cases h115 : fig = 115
    · obtain ⟨z1, z2, z3, z4⟩ := aim_s (g := g) hp hdj hw h115
      rw [z1, z2, z3, z4]
      obtain ⟨b1, b2⟩ := bes_sym hs4 hb
      exact ⟨(s + 2) % 4, Nat.mod_lt _ (by decide), b1, b2⟩
    · by_cases ht : turnF fig = 0
      · obtain ⟨z1, z2, z3, z4⟩ := aim_r (g := g) hp hdj hw h115 ht
        rw [z1, z2, z3, z4]
        exact ⟨s, hs4, hb.1, hb.2⟩
      · obtain ⟨z1, z2, z3, z4⟩ := aim_t (g := g) hp hdj hw h115 ht
        obtain ⟨x1, x2, -⟩ := h1 d hd
        obtain ⟨y1, y2, -⟩ := h1 j hjn
        have hdir := dirF_bes hs4 hb x1 x2 y1 y2
        obtain ⟨q1, w, hw4, ew, -⟩ := turnC hs4 fig
        rw [z1, z2, z3, z4, hdir, q1, ew]
        obtain ⟨-, q2, q3, -, q5⟩ := dirC hs4 hw4
        rw [q2, q3, q5, nI_clamp (by have := Nat.mod_lt (s + w) (show 0 < 4 by decide); omega)]
        exact ⟨(s + w) % 4, Nat.mod_lt _ (by decide), rfl, rfl⟩
  · obtain ⟨z1, z2, z3, z4⟩ := aim_w (g := g) hp hdj hw
    rw [z1, z2, z3, z4]
    unfold glX glY
    refine ⟨s, hs4, ?_, ?_⟩
    · rw [hb.1, Int32.add_assoc, Int32.add_assoc, Int32.add_comm (dxT s)]
    · rw [hb.2, Int32.add_assoc, Int32.add_assoc, Int32.add_comm (dyT s)]
theorem ok_perf (h : Ok n g pt dn dl) (hd : d < n) (hl : dl (dn d) ≤ 24) (hm : ¬ mayF pt g d = 0) : Ok n (perfF n pt dn dl df g d).2 pt dn dl := by
  obtain ⟨c1, c2⟩ := may_can hm
  have h1 := ok_place h hd hl
  unfold perfF
  generalize figO dl df (dn d) (g 13 d) = fig
  have e10 : ∀ i, up2 g 13 d (nxtP dl (dn d) (g 13 d)) 10 i = g 10 i := fun i => rfl
  have e11 : ∀ i, up2 g 13 d (nxtP dl (dn d) (g 13 d)) 11 i = g 11 i := fun i => rfl
  refine ok_end (h1.cg (fun f i f1 f2 => aim_x f1 f2)) hd ?_ (fun j hj => ?_) (fun j hj => goal_bes h1 hd hj)
  · rw [aim_x (by decide) (by decide), aim_x (by decide) (by decide), e10, e11]
    exact spr_le c1
  · rw [aim_x (by decide) (by decide), aim_x (by decide) (by decide), e10, e11]
    exact spr_le (c2 j hj)
theorem sumV7 {i : Nat} : sumV g 7 i = g 18 i := rfl
theorem sum_cg {g' : Nat → Nat → Int32} (e : ∀ i, g' 18 i = g 18 i) : sumF n g' 7 = sumF n g 7 := by
  unfold sumF
  simp only [sumV7, e]
theorem sum_stg (ht : t < n) : sumF n (stg g t) 7 = sumF n g 7 + 1 := by
  unfold sumF
  simp only [sumV7]
  have key : ∀ k, (k ≤ t → fld (fun a i => a + stg g t 18 i) 0 k = fld (fun a i => a + g 18 i) 0 k) ∧ (t < k → fld (fun a i => a + stg g t 18 i) 0 k = fld (fun a i => a + g 18 i) 0 k + 1) := by
    intro k
    induction k with
    | zero => exact ⟨fun _ => rfl, fun h => absurd h (by omega)⟩
    | succ k ih =>
      have e : stg g t 18 k = if k = t then g 18 t + 1 else g 18 k := by
        by_cases hk : k = t <;> simp [stg_v, hk]
      refine ⟨fun h => ?_, fun h => ?_⟩
      · show fld (fun a i => a + stg g t 18 i) 0 k + stg g t 18 k = fld (fun a i => a + g 18 i) 0 k + g 18 k
        rw [ih.1 (by omega), e, if_neg (by omega)]
      · show fld (fun a i => a + stg g t 18 i) 0 k + stg g t 18 k = fld (fun a i => a + g 18 i) 0 k + g 18 k + 1
        by_cases hk : k = t
        · rw [ih.1 (by omega), e, if_pos hk, hk, ← Int32.add_assoc]
        · rw [ih.2 (by omega), e, if_neg hk, Int32.add_assoc, Int32.add_comm 1, ← Int32.add_assoc]
  exact (key n).2 ht
theorem sum_stgO {o : Option Nat} (ho : ∀ u, o = some u → u < n) : sumF n (stgO g o) 7 = sumF n g 7 + cntO o := by
  cases o with
  | none => exact (Int32.add_zero _).symm
  | some t => exact sum_stg (ho t rfl)
theorem sum_end {q : Int32} (hd : d < n) (hp : ∀ j, pt d = some j → j < n) : sumF n (endF n pt g d q).2 7 = sumF n g 7 + (endF n pt g d q).1 := by
  unfold endF
  by_cases c : offF pt g d = 0 ∧ inwF n pt g d = none ∧ inw2 n pt g d = none
  · rw [if_pos c]
    dsimp only
    rw [Int32.add_zero]
    refine sum_cg (fun i => ?_)
    unfold goesF
    cases pt d with
    | none => exact goT_l (by decide)
    | some j => exact (goT_l (by decide)).trans (goT_l (by decide))
  · rw [if_neg c]
    unfold bumpsF
    dsimp only
    rw [sum_stgO (fun u hu => inw2_lt hu), sum_stgO (fun u hu => inwF_lt hu), sum_stgO hp, sum_stg hd, Int32.add_assoc, Int32.add_assoc, Int32.add_assoc, Int32.add_assoc, Int32.add_assoc]
theorem perf_18 {f i : Nat} {fig v : Int32} (h1 : f ≠ 19) (h2 : f ≠ 20) (h3 : f ≠ 13) : aimF (up2 g 13 d v) pt d fig f i = g f i := by
  rw [aim_x h1 h2, up2_f h3]
theorem sum_perf (hd : d < n) (hp : ∀ j, pt d = some j → j < n) : sumF n (perfF n pt dn dl df g d).2 7 = sumF n g 7 + (perfF n pt dn dl df g d).1 := by
  unfold perfF
  rw [sum_end hd hp]
  congr 1
  exact sum_cg (fun i => perf_18 (by decide) (by decide) (by decide))
theorem ok_stepA {a : Int32 × (Nat → Nat → Int32)} (h : Ok n a.2 pt dn dl) (hd : d < n) (hl : dl (dn d) ≤ 24) : Ok n (stepA n pt dn dl df a d).2 pt dn dl ∧ sumF n (stepA n pt dn dl df a d).2 7 - (stepA n pt dn dl df a d).1 = sumF n a.2 7 - a.1 := by
  unfold stepA
  by_cases c : a.2 15 d = 0
  · rw [if_pos c]
    by_cases c2 : mayF pt a.2 d = 0
    · rw [if_pos c2]; exact ⟨h, rfl⟩
    · rw [if_neg c2]
      refine ⟨ok_perf h hd hl c2, ?_⟩
      dsimp only
      rw [sum_perf hd (fun j hj => (h.2.2.1 d j hd hj).1)]
      rw [Int32.sub_eq_add_neg, Int32.neg_add, Int32.sub_eq_add_neg, Int32.add_comm (-a.1), ← Int32.add_assoc, Int32.add_assoc (sumF n a.2 7), Int32.add_right_neg, Int32.add_zero, ← Int32.sub_eq_add_neg]
  · rw [if_neg c]; exact ⟨h, rfl⟩
theorem ok_btA (h : Ok n g pt dn dl) (hl : ∀ i, i < n → dl (dn i) ≤ 24) {k : Nat} (hk : k ≤ n) : Ok n (fld (stepA n pt dn dl df) (0, g) k).2 pt dn dl ∧ sumF n (fld (stepA n pt dn dl df) (0, g) k).2 7 - (fld (stepA n pt dn dl df) (0, g) k).1 = sumF n g 7 := by
  induction k with
  | zero => exact ⟨h, Int32.sub_zero _⟩
  | succ k ih =>
    obtain ⟨h1, h2⟩ := ih (by omega)
    obtain ⟨h3, h4⟩ := ok_stepA (df := df) h1 (show k < n by omega) (hl k (by omega))
    exact ⟨h3, h4.trans h2⟩
end OKB
