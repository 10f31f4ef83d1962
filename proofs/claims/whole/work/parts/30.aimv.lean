/-! directions, goals -/
def tM (fig : Int32) : Int32 := if fig = 116 then 1 else if fig = 117 then 3 else 0
def wM (fig : Int32) : Int32 := if fig = 102 then 0 else if fig = 114 then 1 else if fig = 98 then 2 else if fig = 108 then 3 else -1
theorem dirFin : ∀ f w : Fin 4, fmF (nI f.1 + nI w.1) = rm4 (nI f.1 + nI w.1) ∧ colF (rm4 (nI f.1 + nI w.1)) = dxT (rm4 (nI f.1 + nI w.1)).toNatClampNeg ∧ rowF (rm4 (nI f.1 + nI w.1)) = dyT (rm4 (nI f.1 + nI w.1)).toNatClampNeg ∧ (¬ (rm4 (nI f.1 + nI w.1) < 0 ∨ 4 ≤ (rm4 (nI f.1 + nI w.1)).toNatClampNeg)) ∧ rm4 (nI f.1 + nI w.1) = nI ((f.1 + w.1) % 4) := by decide +kernel
theorem dirFinM : ∀ f : Fin 4, fmF (nI f.1 + (-1)) = rm4 (nI f.1 + nI 3) := by decide +kernel
theorem dirC {f w : Nat} (hf : f < 4) (hw : w < 4) : fmF (nI f + nI w) = rm4 (nI f + nI w) ∧ colF (rm4 (nI f + nI w)) = dxT (rm4 (nI f + nI w)).toNatClampNeg ∧ rowF (rm4 (nI f + nI w)) = dyT (rm4 (nI f + nI w)).toNatClampNeg ∧ vp_in (rm4 (nI f + nI w)) 4 ∧ rm4 (nI f + nI w) = nI ((f + w) % 4) := dirFin ⟨f, hf⟩ ⟨w, hw⟩
theorem turnC {f : Nat} (hf : f < 4) (fig : Int32) : fmF (nI f + turnF fig) = rm4 (nI f + tM fig) ∧ ∃ w, w < 4 ∧ tM fig = nI w ∧ (w = 0 ↔ turnF fig = 0) := by
  unfold turnF tM
  by_cases h1 : fig = 116
  · rw [if_pos h1, if_pos h1]
    exact ⟨(dirC hf (show 1 < 4 by decide)).1, 1, by decide, rfl, by decide⟩
  · rw [if_neg h1, if_neg h1]
    by_cases h2 : fig = 117
    · rw [if_pos h2, if_pos h2]
      exact ⟨dirFinM ⟨f, hf⟩, 3, by decide, rfl, by decide⟩
    · rw [if_neg h2, if_neg h2]
      exact ⟨(dirC hf (show 0 < 4 by decide)).1, 0, by decide, rfl, by decide⟩
theorem wM_walk {fig : Int32} : (wM fig = -1 ↔ walkF fig = 0) ∧ (¬ walkF fig = 0 → ∃ w, w < 4 ∧ wM fig = nI w ∧ wayF fig = nI w) ∧ (¬ walkF fig = 0 → turnF fig = 0 ∧ tM fig = 0 ∧ ¬ fig = 115) := by
  unfold wM walkF wayF turnF tM
  by_cases h1 : fig = 102
  · subst h1; exact ⟨by decide, fun _ => ⟨0, by decide, rfl, rfl⟩, fun _ => by decide⟩
  · by_cases h2 : fig = 114
    · subst h2; exact ⟨by decide, fun _ => ⟨1, by decide, rfl, rfl⟩, fun _ => by decide⟩
    · by_cases h3 : fig = 98
      · subst h3; exact ⟨by decide, fun _ => ⟨2, by decide, rfl, rfl⟩, fun _ => by decide⟩
      · by_cases h4 : fig = 108
        · subst h4; exact ⟨by decide, fun _ => ⟨3, by decide, rfl, rfl⟩, fun _ => by decide⟩
        · simp only [h1, h2, h3, h4, if_false]
          exact ⟨by decide, fun h => absurd trivial h, fun h => absurd trivial h⟩
theorem dvec : ∀ i s : Fin 4, dxT i.1 = dxT s.1 → dyT i.1 = dyT s.1 → i = s := by decide +kernel
/-- j stands beside d, in the direction s -/
def bes (g : Nat → Nat → Int32) (d j s : Nat) : Prop := g 7 j = g 7 d + dxT s ∧ g 8 j = g 8 d + dyT s
theorem bes_one {g : Nat → Nat → Int32} {d j s i : Nat} (hs : s < 4) (hi : i < 4) (h : bes g d j s) (h1 : g 7 d + dxT i = g 7 j) (h2 : g 8 d + dyT i = g 8 j) : i = s := by
  rw [h.1] at h1
  rw [h.2] at h2
  have e1 : dxT i = dxT s := (Int32.add_right_inj _).mp h1
  have e2 : dyT i = dyT s := (Int32.add_right_inj _).mp h2
  have := dvec ⟨i, hi⟩ ⟨s, hs⟩ e1 e2
  exact congrArg Fin.val this
theorem nI_m1 {e c : Nat} (he : e < 2 ^ 30) (hc : c < 2 ^ 30) (h : nI e = nI c + (-1)) : e + 1 = c := by
  have h2 : nI e + 1 = nI c := by rw [h, Int32.add_assoc, show (-1 : Int32) + 1 = 0 from rfl, Int32.add_zero]
  rw [nI_1] at h2
  exact (nI_eq (by omega) (by omega)).mp h2
theorem nI_p1 {e c : Nat} (he : e < 2 ^ 30) (hc : c < 2 ^ 30) (h : nI e = nI c + 1) : e = c + 1 := by
  rw [nI_1] at h
  exact (nI_eq (by omega) (by omega)).mp h
theorem dirF_bes {g : Nat → Nat → Int32} {d j s : Nat} (hs : s < 4) (h : bes g d j s) (hx : ∃ a, a < 16 ∧ g 7 d = nI a) (hy : ∃ a, a < 16 ∧ g 8 d = nI a) (hx2 : ∃ a, a < 16 ∧ g 7 j = nI a) (hy2 : ∃ a, a < 16 ∧ g 8 j = nI a) : dirF g d j = nI s := by
  obtain ⟨a, ha, ea⟩ := hx
  obtain ⟨b, hb, eb⟩ := hy
  obtain ⟨a2, ha2, ea2⟩ := hx2
  obtain ⟨b2, hb2, eb2⟩ := hy2
  obtain ⟨h1, h2⟩ := h
  unfold dirF
  rw [ea2, ea] at h1 ⊢
  rw [eb2, eb] at h2 ⊢
  rcases (show s = 0 ∨ s = 1 ∨ s = 2 ∨ s = 3 by omega) with rfl | rfl | rfl | rfl
  · have e1 : a2 = a := (nI_eq (by omega) (by omega)).mp (h1.trans (Int32.add_zero _))
    have e2 := nI_m1 (by omega) (by omega) h2
    rw [if_pos (by rw [e1]), if_pos (nI_le (by omega) (by omega))]; rfl
  · have e1 := nI_p1 (by omega) (by omega) h1
    rw [if_neg (fun e => by have := (nI_eq (by omega) (by omega)).mp e; omega), if_neg (fun e => by have := (nI_leI (by omega) (by omega)).mp e; omega)]; rfl
  · have e1 : a2 = a := (nI_eq (by omega) (by omega)).mp (h1.trans (Int32.add_zero _))
    have e2 := nI_p1 (by omega) (by omega) h2
    rw [if_pos (by rw [e1]), if_neg (fun e => by have := (nI_leI (by omega) (by omega)).mp e; omega)]; rfl
  · have e1 := nI_m1 (by omega) (by omega) h1
    rw [if_neg (fun e => by have := (nI_eq (by omega) (by omega)).mp e; omega), if_pos (nI_le (by omega) (by omega))]; rfl
section AIM
variable {g : Nat → Nat → Int32} {pt : Nat → Option Nat} {d j t : Nat} {x y fig : Int32}
theorem sg_19 : sg g t x y 19 t = x := by unfold sg; rw [up2_f (by decide), up2_at]
theorem sg_20 : sg g t x y 20 t = y := by unfold sg; rw [up2_at]
theorem sg_o {f i : Nat} (h : i ≠ t) : sg g t x y f i = g f i := by unfold sg; rw [up2_a h, up2_a h]
theorem aim1_x {f i : Nat} (h1 : f ≠ 19) (h2 : f ≠ 20) : aim1 g d fig f i = g f i := by
  unfold aim1
  split
  · exact sg_x h1 h2
  · rw [sg_x h1 h2, sg_x h1 h2]
theorem aim2_x {f i : Nat} (h1 : f ≠ 19) (h2 : f ≠ 20) : aim2 g d j fig f i = g f i := by
  unfold aim2
  split
  · split
    · rw [sg_x h1 h2, sg_x h1 h2, sg_x h1 h2]
    · split
      · exact sg_x h1 h2
      · rw [sg_x h1 h2, sg_x h1 h2]
  · rw [sg_x h1 h2, sg_x h1 h2]
theorem aim_x {f i : Nat} (h1 : f ≠ 19) (h2 : f ≠ 20) : aimF g pt d fig f i = g f i := by
  unfold aimF
  cases pt d with
  | none => exact aim1_x h1 h2
  | some j => exact (aim2_x h1 h2).trans (aim1_x h1 h2)
def glX (g : Nat → Nat → Int32) (d t : Nat) (fig : Int32) : Int32 := g 7 t + colF (fmF (g 9 d + wayF fig))
def glY (g : Nat → Nat → Int32) (d t : Nat) (fig : Int32) : Int32 := g 8 t + rowF (fmF (g 9 d + wayF fig))
theorem aim1_g : aim1 g d fig 19 d = (if walkF fig = 0 then g 7 d else glX g d d fig) ∧ aim1 g d fig 20 d = (if walkF fig = 0 then g 8 d else glY g d d fig) := by
  unfold aim1
  by_cases hw : walkF fig = 0
  · rw [if_pos hw, if_pos hw, if_pos hw]
    exact ⟨sg_19, sg_20⟩
  · rw [if_neg hw, if_neg hw, if_neg hw]
    exact ⟨sg_19, sg_20⟩
theorem aim_n (h : pt d = none) : aimF g pt d fig 19 d = (if walkF fig = 0 then g 7 d else glX g d d fig) ∧ aimF g pt d fig 20 d = (if walkF fig = 0 then g 8 d else glY g d d fig) := by
  unfold aimF
  rw [h]
  exact aim1_g
theorem aim_w (h : pt d = some j) (hd : d ≠ j) (hw : ¬ walkF fig = 0) : aimF g pt d fig 19 d = glX g d d fig ∧ aimF g pt d fig 20 d = glY g d d fig ∧ aimF g pt d fig 19 j = glX g d j fig ∧ aimF g pt d fig 20 j = glY g d j fig := by
  unfold aimF
  rw [h]
  dsimp only
  unfold aim2
  rw [if_neg hw, sg_o hd, sg_o hd, sg_o hd, sg_o hd, aim1_g.1, aim1_g.2, if_neg hw, if_neg hw, sg_19, sg_20]
  refine ⟨rfl, rfl, ?_, ?_⟩
  · rw [aim1_x (by decide) (by decide), aim1_x (by decide) (by decide)]; rfl
  · rw [aim1_x (by decide) (by decide), aim1_x (by decide) (by decide)]; rfl
theorem aim_s (h : pt d = some j) (hd : d ≠ j) (hw : walkF fig = 0) (hf : fig = 115) : aimF g pt d fig 19 d = g 7 j ∧ aimF g pt d fig 20 d = g 8 j ∧ aimF g pt d fig 19 j = g 7 d ∧ aimF g pt d fig 20 j = g 8 d := by
  unfold aimF
  rw [h]
  dsimp only
  unfold aim2
  rw [if_pos hw, if_pos hf, sg_o hd, sg_o hd, sg_19, sg_20, sg_19, sg_20]
  exact ⟨aim1_x (by decide) (by decide), aim1_x (by decide) (by decide), aim1_x (by decide) (by decide), aim1_x (by decide) (by decide)⟩
theorem aim_r (h : pt d = some j) (hd : d ≠ j) (hw : walkF fig = 0) (hf : ¬ fig = 115) (ht : turnF fig = 0) : aimF g pt d fig 19 d = g 7 d ∧ aimF g pt d fig 20 d = g 8 d ∧ aimF g pt d fig 19 j = g 7 j ∧ aimF g pt d fig 20 j = g 8 j := by
  unfold aimF
  rw [h]
  dsimp only
  unfold aim2
  rw [if_pos hw, if_neg hf, if_pos ht, sg_o hd, sg_o hd, sg_19, sg_20, aim1_g.1, aim1_g.2, if_pos hw, if_pos hw]
  exact ⟨rfl, rfl, aim1_x (by decide) (by decide), aim1_x (by decide) (by decide)⟩
theorem dirF_aim1 : dirF (aim1 g d fig) d j = dirF g d j := by
  unfold dirF
  rw [aim1_x (by decide) (by decide), aim1_x (by decide) (by decide), aim1_x (by decide) (by decide), aim1_x (by decide) (by decide)]
theorem aim_t (h : pt d = some j) (hd : d ≠ j) (hw : walkF fig = 0) (hf : ¬ fig = 115) (ht : ¬ turnF fig = 0) : aimF g pt d fig 19 d = g 7 d ∧ aimF g pt d fig 20 d = g 8 d ∧ aimF g pt d fig 19 j = g 7 d + colF (fmF (dirF g d j + turnF fig)) ∧ aimF g pt d fig 20 j = g 8 d + rowF (fmF (dirF g d j + turnF fig)) := by
  unfold aimF
  rw [h]
  dsimp only
  unfold aim2
  rw [if_pos hw, if_neg hf, if_neg ht, sg_o hd, sg_o hd, sg_o hd, sg_o hd, sg_19, sg_20, aim1_g.1, aim1_g.2, if_pos hw, if_pos hw, dirF_aim1, aim1_x (by decide) (by decide), aim1_x (by decide) (by decide)]
  exact ⟨rfl, rfl, rfl, rfl⟩
end AIM
