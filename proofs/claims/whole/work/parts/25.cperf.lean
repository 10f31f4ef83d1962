/-! one dancer's figure -/
def sg (g : Nat → Nat → Int32) (t : Nat) (x y : Int32) : Nat → Nat → Int32 := up2 (up2 g 19 t x) 20 t y
def stg (g : Nat → Nat → Int32) (t : Nat) : Nat → Nat → Int32 := up2 (up2 g 16 t 3) 18 t (g 18 t + 1)
def stgO (g : Nat → Nat → Int32) (o : Option Nat) : Nat → Nat → Int32 := match o with
  | none => g
  | some t => stg g t
def cntO (o : Option Nat) : Int32 := match o with
  | none => 0
  | some _ => 1
def goT (g : Nat → Nat → Int32) (t : Nat) (q : Int32) : Nat → Nat → Int32 := up2 (up2 (up2 (up2 (up2 g 7 t (g 19 t)) 8 t (g 20 t)) 9 t (fmF (g 9 t + q))) 10 t (g 10 t - g 11 t)) 17 t (g 17 t + 1)
def dirF (g : Nat → Nat → Int32) (d j : Nat) : Int32 := if g 7 j = g 7 d then (if g 8 j ≤ g 8 d then 0 else 2) else (if g 7 j ≤ g 7 d then 3 else 1)
def aim1 (g : Nat → Nat → Int32) (d : Nat) (fig : Int32) : Nat → Nat → Int32 := if walkF fig = 0 then sg g d (g 7 d) (g 8 d) else sg (sg g d (g 7 d) (g 8 d)) d (g 7 d + colF (fmF (g 9 d + wayF fig))) (g 8 d + rowF (fmF (g 9 d + wayF fig)))
def aim2 (g : Nat → Nat → Int32) (d j : Nat) (fig : Int32) : Nat → Nat → Int32 :=
  if walkF fig = 0 then
    (if fig = 115 then sg (sg (sg g j (g 7 j) (g 8 j)) d (g 7 j) (g 8 j)) j (g 7 d) (g 8 d)
     else if turnF fig = 0 then sg g j (g 7 j) (g 8 j)
     else sg (sg g j (g 7 j) (g 8 j)) j (g 7 d + colF (fmF (dirF g d j + turnF fig))) (g 8 d + rowF (fmF (dirF g d j + turnF fig))))
  else sg (sg g j (g 7 j) (g 8 j)) j (g 7 j + colF (fmF (g 9 d + wayF fig))) (g 8 j + rowF (fmF (g 9 d + wayF fig)))
def aimF (g : Nat → Nat → Int32) (pt : Nat → Option Nat) (d : Nat) (fig : Int32) : Nat → Nat → Int32 := match pt d with
  | none => aim1 g d fig
  | some j => aim2 (aim1 g d fig) d j fig
def whoF (n : Nat) (g : Nat → Nat → Int32) (x y : Int32) : Option Nat := fst' (fun i => g 7 i = x ∧ g 8 i = y) n
def inwF (n : Nat) (pt : Nat → Option Nat) (g : Nat → Nat → Int32) (t : Nat) : Option Nat := match whoF n g (g 19 t) (g 20 t) with
  | none => none
  | some u => if u = t ∨ pt t = some u then none else some u
def offF (pt : Nat → Option Nat) (g : Nat → Nat → Int32) (d : Nat) : Int32 := match pt d with
  | none => if onF (g 19 d) (g 20 d) = 0 then 1 else 0
  | some j => if onF (g 19 d) (g 20 d) = 0 then 1 else if onF (g 19 j) (g 20 j) = 0 then 1 else 0
def inw2 (n : Nat) (pt : Nat → Option Nat) (g : Nat → Nat → Int32) (d : Nat) : Option Nat := match pt d with
  | none => none
  | some j => inwF n pt g j
def bumpsF (n : Nat) (pt : Nat → Option Nat) (g : Nat → Nat → Int32) (d : Nat) : Int32 × (Nat → Nat → Int32) :=
  (((1 + cntO (pt d)) + cntO (inwF n pt g d)) + cntO (inw2 n pt g d), stgO (stgO (stgO (stg g d) (pt d)) (inwF n pt g d)) (inw2 n pt g d))
def goesF (pt : Nat → Option Nat) (g : Nat → Nat → Int32) (d : Nat) (q : Int32) : Nat → Nat → Int32 := match pt d with
  | none => goT g d q
  | some j => goT (goT g d q) j q
def endF (n : Nat) (pt : Nat → Option Nat) (g : Nat → Nat → Int32) (d : Nat) (q : Int32) : Int32 × (Nat → Nat → Int32) :=
  if offF pt g d = 0 ∧ inwF n pt g d = none ∧ inw2 n pt g d = none then (0, goesF pt g d q) else bumpsF n pt g d
def perfF (n : Nat) (pt : Nat → Option Nat) (dn dl : Nat → Nat) (df : Nat → Nat → Int32) (g : Nat → Nat → Int32) (d : Nat) : Int32 × (Nat → Nat → Int32) :=
  endF n pt (aimF (up2 g 13 d (nxtP dl (dn d) (g 13 d))) pt d (figO dl df (dn d) (g 13 d))) d (turnF (figO dl df (dn d) (g 13 d)))
def notF (a : Int32) : Int32 := if a = 0 then 1 else 0
def spF (s c : Int32) : Int32 := if c ≤ s then 0 else 1
def canF (g : Nat → Nat → Int32) (i : Nat) : Int32 := if g 16 i = 0 then (if spF (g 10 i) (g 11 i) = 0 then 1 else 0) else 0
section LF2
variable {S : St} {a : Nat} {x y d : Int32}
theorem e_aimAt {post : St → Prop} : w_R_aimAt post S a x y ↔ post (pI (pI S 19 a x) 20 a y) := by simp only [w_R_aimAt, forall_eq]
theorem e_aimFrom {post : St → Prop} : w_R_aimFrom post S a x y d ↔ post (pI (pI S 19 a (x + colF d)) 20 a (y + rowF d)) := by simp only [w_R_aimFrom, e_columnStep, e_rowStep, e_aimAt]
theorem e_stagger {post : St → Prop} : w_R_stagger post S a ↔ post (pI (pI S 16 a 3) 18 a (sI S 18 a + 1)) := by
  simp only [w_R_stagger, forall_eq]
  exact Iff.rfl
theorem e_goAndTurn {post : St → Prop} : w_R_goAndTurn post S a x ↔ post (pI (pI (pI (pI (pI S 7 a (sI S 19 a)) 8 a (sI S 20 a)) 9 a (fmF (sI S 9 a + x))) 10 a (sI S 10 a - sI S 11 a)) 17 a (sI S 17 a + 1)) := by
  simp only [w_R_goAndTurn, forall_eq, e_turned]
  exact Iff.rfl
theorem e_isSpent {post : Int32 → Prop} : w_R_isSpent post S a ↔ post (spF (sI S 10 a) (sI S 11 a)) := by simp only [w_R_isSpent, spF, gite, gap post]
theorem e_canDance {post : Int32 → Prop} : w_R_canDance post S a ↔ post (if sI S 16 a = 0 then (if spF (sI S 10 a) (sI S 11 a) = 0 then 1 else 0) else 0) := by simp only [w_R_canDance, e_isSpent, gite, gap post]
theorem e_aimsOffFloor {post : Int32 → Prop} : w_R_aimsOffFloor post S a ↔ post (notF (onF (sI S 19 a) (sI S 20 a))) := by simp only [w_R_aimsOffFloor, e_isOnFloor, notF, gite, gap post]
end LF2
section PRF
variable {S : St} {ad : Nat → Nat → Nat} {B n m : Nat} {I0 I g wg R : Nat → Nat → Int32} {bt : Int32} {pt : Nat → Option Nat} {dn dl : Nat → Nat} {df : Nat → Nat → Int32} {d : Nat}
theorem Lk.sg {t : Nat} {x y : Int32} (hj : Inj ad) (h : Lk ad B n m I0 I g wg bt) (ht : t < n) : Lk ad B n m I0 (up2 (up2 I 19 (ad (B + 5) t) x) 20 (ad (B + 5) t) y) (sg g t x y) wg bt := (h.up hj (by decide) ht).up hj (by decide) ht
theorem Lk.vw (h : Lk ad B n m I0 I g wg bt) {f i : Nat} (hf : 7 ≤ f) (hi : i < n) : I f (ad (B + 5) i) = g f i := h.2.2.1 f i hf hi
theorem sg_x {g : Nat → Nat → Int32} {t i f : Nat} {x y : Int32} (h1 : f ≠ 19) (h2 : f ≠ 20) : sg g t x y f i = g f i := by
  show up2 (up2 g 19 t x) 20 t y f i = g f i
  rw [up2_f h2, up2_f h1]
theorem s_aim {post : St → Prop} {fig : Int32} (hj : Inj ad) (hC : CF (kS S I0 R) ad B n m pt dn dl df) (hL : Lk ad B n m I0 I g wg bt) (hd : d < n) (hp : ∀ I', Lk ad B n m I0 I' (aimF g pt d fig) wg bt → post (kS S I' R)) : w_F_aim post (kS S I R) (some (ad (B + 5) d)) fig := by
  obtain ⟨r1, r2, r3, r4⟩ := hC.2.1 d hd
  have hA : ∀ i, i < n → isA S 2 (ad (B + 5) i) := hC.1.2.2.2.1.2.2.2.1
  have r3 : sQ S 14 (ad (B + 5) d) = (pt d).map (ad (B + 5)) := r3
  unfold w_F_aim
  simp only [Option.some.injEq, exists_eq_left', forall_eq, kS_Q, e_aimAt, e_isWalk, e_wayOf, e_turned, e_aimFrom, kS_pI, kS_I, kS_A, e_turnOf, r3]
  have h1 := hL.sg (x := g 7 d) (y := g 8 d) hj hd
  rw [hL.vw (by decide) hd, hL.vw (by decide) hd]
  refine ⟨hA d hd, fun S' => ∃ I2, S' = kS S I2 R ∧ Lk ad B n m I0 I2 (aim1 g d fig) wg bt, ?_, fun hw => ⟨_, rfl, ?_⟩, fun hw => ⟨_, rfl, ?_⟩⟩
  · rintro _ ⟨I2, rfl, hL2⟩
    cases hpt : pt d with
    | none =>
      refine ⟨fun _ => hp I2 ?_, fun y h => by cases h⟩
      unfold aimF
      rw [hpt]
      exact hL2
    | some j =>
      have hjn : j < n := r4 j hpt
      refine ⟨(fun h => by cases h), fun y h => ?_⟩
      cases h
      have h3 := hL2.sg (x := aim1 g d fig 7 j) (y := aim1 g d fig 8 j) hj hjn
      simp only [kS_I, kS_pI, kS_A]
      rw [hL2.vw (by decide) hjn, hL2.vw (by decide) hjn]
      have hp' : ∀ I', Lk ad B n m I0 I' (aim2 (aim1 g d fig) d j fig) wg bt → post (kS S I' R) := by
        unfold aimF at hp
        rw [hpt] at hp
        exact hp
      unfold aim2 at hp'
      refine ⟨hA j hjn, fun hw => ?_, fun hw => ?_⟩
      · simp only [hw, if_true] at hp'
        refine ⟨fun h5 => ?_, fun h5 => ?_⟩
        · rw [if_pos h5] at hp'
          rw [h3.vw (by decide) hjn, h3.vw (by decide) hjn]
          simp only [sg_x (show (7 : Nat) ≠ 19 by decide) (show (7 : Nat) ≠ 20 by decide), sg_x (show (8 : Nat) ≠ 19 by decide) (show (8 : Nat) ≠ 20 by decide)]
          have h4 := h3.sg (x := aim1 g d fig 7 j) (y := aim1 g d fig 8 j) hj hd
          rw [h4.vw (by decide) hd, h4.vw (by decide) hd]
          simp only [sg_x (show (7 : Nat) ≠ 19 by decide) (show (7 : Nat) ≠ 20 by decide), sg_x (show (8 : Nat) ≠ 19 by decide) (show (8 : Nat) ≠ 20 by decide)]
          exact hp' _ (h4.sg hj hjn)
        · simp only [h5, if_false] at hp'
          refine ⟨fun h7 => ?_, fun h7 => ?_⟩
          · simp only [h7, if_true] at hp'
            exact hp' _ h3
          · simp only [h7, if_false] at hp'
            unfold w_R_directionTo
            simp only [Option.some.injEq, exists_eq_left', kS_A, kS_I]
            rw [h3.vw (by decide) hjn, h3.vw (by decide) hd, h3.vw (by decide) hjn, h3.vw (by decide) hd]
            simp only [sg_x (show (7 : Nat) ≠ 19 by decide) (show (7 : Nat) ≠ 20 by decide), sg_x (show (8 : Nat) ≠ 19 by decide) (show (8 : Nat) ≠ 20 by decide)]
            refine ⟨hA j hjn, ?_⟩
            have key : ∀ v : Int32, v = dirF (aim1 g d fig) d j → post (kS S (up2 (up2 (up2 (up2 I2 19 (ad (B + 5) j) (aim1 g d fig 7 j)) 20 (ad (B + 5) j) (aim1 g d fig 8 j)) 19 (ad (B + 5) j) (aim1 g d fig 7 d + colF (fmF (v + turnF fig)))) 20 (ad (B + 5) j) (aim1 g d fig 8 d + rowF (fmF (v + turnF fig)))) R) := by
              rintro v rfl
              exact hp' _ (h3.sg hj hjn)
            unfold dirF at key
            refine ⟨fun e7 => ⟨fun e8 => key _ ?_, fun e8 => key _ ?_⟩, fun e7 => ⟨fun e8 => key _ ?_, fun e8 => key _ ?_⟩⟩ <;> simp only [e7, e8, if_true, if_false]
      · simp only [hw, if_false] at hp'
        rw [h3.vw (by decide) hjn, h3.vw (by decide) hjn, h3.vw (by decide) hd]
        exact hp' _ (h3.sg hj hjn)
  · unfold aim1
    simp only [hw, if_true]
    exact h1
  · unfold aim1
    simp only [hw, if_false]
    rw [h1.vw (by decide) hd, h1.vw (by decide) hd, h1.vw (by decide) hd]
    exact h1.sg hj hd
end PRF
