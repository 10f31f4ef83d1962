/-! THE WHOLE HALL, class and reference in one pool -/
/-- a byte as Java's -/
def sbt (b : Nat) : Int32 := (nI b).toInt8.toInt32
def Hcore (S : St) (ad : Nat → Nat → Nat) : Prop := isA S 6 (ad 1 0) ∧ sQ S 33 (ad 1 0) = some (ad 2 0) ∧ sQ S 34 (ad 1 0) = some (ad 4 0) ∧ sQ S 35 (ad 1 0) = some (ad 10 0) ∧ sQ S 36 (ad 1 0) = some (ad 20 0) ∧ sQ S 37 (ad 1 0) = some (ad 30 0) ∧
  isA S 4 (ad 2 0) ∧ sQ S 24 (ad 2 0) = some (ad 3 0) ∧ isA S 9 (ad 3 0) ∧ sN S (ad 3 0) = 40 ∧ isA S 13 (ad 40 0) ∧ sN S (ad 40 0) = 1
def Htape (I R : Nat → Nat → Int32) (ad : Nat → Nat → Nat) (tl : Nat) (tb : Nat → Nat) : Prop := I 25 (ad 2 0) = nI tl ∧ tl ≤ 40 ∧ (∀ j, tb j < 256) ∧ ∀ j, j < tl → R (ad 3 0) j = sbt (tb j)
/-- what the floor B shows -/
def Vw (I : Nat → Nat → Int32) (ad : Nat → Nat → Nat) (B n m : Nat) (g wg : Nat → Nat → Int32) (bt : Int32) : Prop := (∀ f i, 7 ≤ f → i < n → I f (ad (B + 5) i) = g f i) ∧ (∀ f j, 7 ≤ f → j < m → I f (ad (B + 6) j) = wg f j) ∧ I 23 (ad B 0) = bt
/-- the class's hall -/
def HC (S : St) (ad : Nat → Nat → Nat) (tl : Nat) (tb dl : Nat → Nat) (df : Nat → Nat → Int32) (n : Nat) (g : Nat → Nat → Int32) (pt : Nat → Option Nat) (dn : Nat → Nat) (bt : Int32) (m : Nat) (wg rd : Nat → Nat → Int32) : Prop :=
  Hcore S ad ∧ Htape (sI S) (sR S) ad tl tb ∧ LiS S ad 4 5 10 1 8 ∧ CF S ad 20 n m pt dn dl df ∧ Vw (sI S) ad 20 n m g wg bt ∧ RR (sR S) ad 20 m rd ∧ ∃ n2 m2, n2 ≤ n ∧ m2 ≤ m ∧ FL S ad 30 n2 m2
/-- the rows of the state at B beyond the eight -/
def MZ (R : Nat → Nat → Int32) (ad : Nat → Nat → Nat) (B : Nat) : Prop := ∀ f i, (mInt f ∨ f = 12 ∨ f = 14) → 8 ≤ i → R (ad (B + f) 0) i = 0
/-- the reference's hall -/
def HM (S : St) (ad : Nat → Nat → Nat) (tl : Nat) (tb dl : Nat → Nat) (df : Nat → Nat → Int32) (n : Nat) (g : Nat → Nat → Int32) (pt : Nat → Option Nat) (dn : Nat → Nat) (bt : Int32) (m : Nat) (wg rd : Nat → Nat → Int32) : Prop :=
  isA S 8 (ad 100 0) ∧ (sQ S 57 (ad 100 0) = some (ad 103 0) ∧ isA S 10 (ad 103 0) ∧ sN S (ad 103 0) = 40) ∧ sQ S 61 (ad 100 0) = some (ad 50 0) ∧ sQ S 62 (ad 100 0) = some (ad 75 0) ∧ ML S ad 75 100 ∧
  sI S 58 (ad 100 0) = nI tl ∧ (∀ j, j < tl → sR S (ad 103 0) j = nI (tb j)) ∧ MC S (sI S) (sR S) ad 50 100 n m pt dn dl df rd ∧ (∀ f i, mInt f → sR S (ad (50 + f) 0) i = g f i) ∧ (∀ j q, j < m → q < 6 → sR S (ad 70 0) (6 * j + q) = wg (wFld q) j) ∧ sI S 38 (ad 50 0) = bt ∧ MZ (sR S) ad 75
/-- what holds of the hall's own numbers -/
def HO (tl : Nat) (tb dl : Nat → Nat) (df : Nat → Nat → Int32) (n : Nat) (g : Nat → Nat → Int32) (pt : Nat → Option Nat) (dn : Nat → Nat) (m : Nat) (wg rd : Nat → Nat → Int32) : Prop := tl ≤ 40 ∧ (∀ j, tb j < 256) ∧ Ok n g pt dn dl ∧ OkW n m wg rd ∧ (∀ k, k < 8 → 1 ≤ dl k ∧ dl k ≤ 24) ∧ n ≤ 8 ∧ m ≤ 3 ∧ (∀ i, i < n → dn i < 8) ∧ (∀ f i, mInt f → n ≤ i → g f i = 0) ∧ ∀ j p, j < 3 → m ≤ j → p < 8 → rd j p = 0
/-- what a floor names -/
def FU (B n m t i : Nat) : Prop := (B ≤ t ∧ t ≤ B + 4 ∧ i = 0) ∨ (t = B + 5 ∧ i < n) ∨ ((t = B + 6 ∨ t = B + 7) ∧ i < m)
/-- what stands at tags t, i with P is in S' (named by ad') as it was in S (named by ad) -/
def Fr (P : Nat → Nat → Prop) (S S' : St) (ad ad' : Nat → Nat → Nat) : Prop := gle S S' ∧ ∀ t i, P t i → ad t i ∈ sL S → ad' t i = ad t i ∧ (∀ f, sI S' f (ad t i) = sI S f (ad t i)) ∧ (∀ f, sQ S' f (ad t i) = sQ S f (ad t i)) ∧ sR S' (ad t i) = sR S (ad t i) ∧ sP S' (ad t i) = sP S (ad t i) ∧ sJ S' (ad t i) = sJ S (ad t i)
theorem Fr.rf {P : Nat → Nat → Prop} {S : St} {ad : Nat → Nat → Nat} : Fr P S S ad ad := ⟨gle.rf, fun _ _ _ _ => ⟨rfl, fun _ => rfl, fun _ => rfl, rfl, rfl, rfl⟩⟩
theorem Fr.tr {P : Nat → Nat → Prop} {S S' S'' : St} {ad ad' ad'' : Nat → Nat → Nat} (h : Fr P S S' ad ad') (h2 : Fr P S' S'' ad' ad'') : Fr P S S'' ad ad'' := ⟨h.1.tr h2.1, fun t i hp hm => by
  obtain ⟨a1, a2, a3, a4, a5, a6⟩ := h.2 t i hp hm
  have hm2 : ad' t i ∈ sL S' := by rw [a1]; exact (h.1.1 _ hm).1
  obtain ⟨b1, b2, b3, b4, b5, b6⟩ := h2.2 t i hp hm2
  rw [a1] at b1 b2 b3 b4 b5 b6
  exact ⟨b1, fun f => (b2 f).trans (a2 f), fun f => (b3 f).trans (a3 f), b4.trans a4, b5.trans a5, b6.trans a6⟩⟩
theorem Fr.mono {P P' : Nat → Nat → Prop} {S S' : St} {ad ad' : Nat → Nat → Nat} (h : Fr P S S' ad ad') (hp : ∀ t i, P' t i → P t i) : Fr P' S S' ad ad' := ⟨h.1, fun t i a b => h.2 t i (hp t i a) b⟩
section FRS
variable {P : Nat → Nat → Prop} {S S' : St} {ad ad' : Nat → Nat → Nat}
theorem Fr.a {t i k : Nat} (h : Fr P S S' ad ad') (hp : P t i) (hk : isA S k (ad t i)) : ad' t i = ad t i ∧ isA S' k (ad' t i) ∧ sN S' (ad' t i) = sN S (ad t i) := by
  obtain ⟨a1, -⟩ := h.2 t i hp hk.1
  rw [a1]
  exact ⟨rfl, gle_isA h.1 hk, gle_len h.1 hk⟩
theorem Fr.q {t i k f : Nat} (h : Fr P S S' ad ad') (hp : P t i) (hk : isA S k (ad t i)) : sQ S' f (ad' t i) = sQ S f (ad t i) := by
  obtain ⟨a1, a2, a3, -⟩ := h.2 t i hp hk.1
  rw [a1, a3]
theorem Fr.i {t i k f : Nat} (h : Fr P S S' ad ad') (hp : P t i) (hk : isA S k (ad t i)) : sI S' f (ad' t i) = sI S f (ad t i) := by
  obtain ⟨a1, a2, a3, -⟩ := h.2 t i hp hk.1
  rw [a1, a2]
theorem Fr.r {t i k : Nat} (h : Fr P S S' ad ad') (hp : P t i) (hk : isA S k (ad t i)) : sR S' (ad' t i) = sR S (ad t i) := by
  obtain ⟨a1, a2, a3, a4, -⟩ := h.2 t i hp hk.1
  rw [a1, a4]
theorem Fr.p {t i k : Nat} (h : Fr P S S' ad ad') (hp : P t i) (hk : isA S k (ad t i)) : sP S' (ad' t i) = sP S (ad t i) := by
  obtain ⟨a1, a2, a3, a4, a5, -⟩ := h.2 t i hp hk.1
  rw [a1, a5]
theorem Fr.qs {t i k f t2 i2 k2 : Nat} (h : Fr P S S' ad ad') (hp : P t i) (hk : isA S k (ad t i)) (hp2 : P t2 i2) (hk2 : isA S k2 (ad t2 i2)) (e : sQ S f (ad t i) = some (ad t2 i2)) : sQ S' f (ad' t i) = some (ad' t2 i2) := by
  rw [h.q hp hk, e, (h.a hp2 hk2).1]
theorem LiS.fr {L A t k n : Nat} (h : Fr P S S' ad ad') (g : LiS S ad L A t k n) (p1 : P L 0) (p2 : P A 0) (p3 : ∀ i, i < n → P t i) : LiS S' ad' L A t k n := by
  obtain ⟨a1, a2, a3, a4, a5⟩ := g
  refine ⟨(h.a p1 a1).2.1, (h.i p1 a1).trans a2, a3, fun i hi => (h.a (p3 i hi) (a4 i hi)).2.1, ?_⟩
  rcases a5 with ⟨b1, b2⟩ | ⟨b1, b2, b3, b4, b5⟩
  · exact Or.inl ⟨b1, by rw [h.q p1 a1, b2, h.1.2]⟩
  · exact Or.inr ⟨b1, h.qs p1 a1 p2 b3 b2, (h.a p2 b3).2.1, (h.a p2 b3).2.2.trans b4, fun i hi => by rw [h.p p2 b3, b5 i hi, (h.a (p3 i hi) (a4 i hi)).1]⟩
theorem FL.fr {B n m : Nat} (h : Fr P S S' ad ad') (g : FL S ad B n m) (p : ∀ t i, FU B n m t i → P t i) : FL S' ad' B n m := by
  obtain ⟨a1, a2, a3, a4, a5, a6, a7⟩ := g
  have q : ∀ k, k ≤ 4 → P (B + k) 0 := fun k hk => p _ _ (Or.inl ⟨by omega, by omega, rfl⟩)
  have pB := q 0 (by decide)
  have p1 := q 1 (by decide)
  have p3 := q 3 (by decide)
  have p5 : ∀ i, i < n → P (B + 5) i := fun i hi => p _ _ (Or.inr (Or.inl ⟨rfl, hi⟩))
  have p6 : ∀ i, i < m → P (B + 6) i := fun i hi => p _ _ (Or.inr (Or.inr ⟨Or.inl rfl, hi⟩))
  have p7 : ∀ i, i < m → P (B + 7) i := fun i hi => p _ _ (Or.inr (Or.inr ⟨Or.inr rfl, hi⟩))
  refine ⟨(h.a pB a1).2.1, h.qs pB a1 p1 a4.1 a2, h.qs pB a1 p3 a5.1 a3, a4.fr h p1 (q 2 (by decide)) p5, a5.fr h p3 (q 4 (by decide)) p6, fun j hj => ?_, fun i hi => (h.i (p5 i hi) (a4.2.2.2.1 i hi)).trans (a7 i hi)⟩
  obtain ⟨b1, b2, b3⟩ := a6 j hj
  exact ⟨h.qs (p6 j hj) (a5.2.2.2.1 j hj) (p7 j hj) b2 b1, (h.a (p7 j hj) b2).2.1, (h.a (p7 j hj) b2).2.2.trans b3⟩
theorem DL.fr {dl : Nat → Nat} {df : Nat → Nat → Int32} (h : Fr P S S' ad ad') (g : DL S ad dl df) (p : ∀ t i, 10 ≤ t → t ≤ 11 → P t i) : DL S' ad' dl df := fun k hk => by
  obtain ⟨a1, a2, a3, a4, a5, a6, a7, a8⟩ := g k hk
  have p1 := p 10 k (by decide) (by decide)
  have p2 := p 11 k (by decide) (by decide)
  exact ⟨(h.a p1 a1).2.1, (h.i p1 a1).trans a2, (h.i p1 a1).trans a3, a4, h.qs p1 a1 p2 a6 a5, (h.a p2 a6).2.1, (h.a p2 a6).2.2.trans a7, fun j => by rw [h.r p2 a6]; exact a8 j⟩
theorem ML.fr {B H : Nat} (h : Fr P S S' ad ad') (g : ML S ad B H) (p : ∀ f, mRow f → P (B + f) 0) (pB : P B 0) (p1 : P H 0) (p2 : P (H + 1) 0) (p3 : P (H + 2) 0) : ML S' ad' B H := by
  obtain ⟨a1, a2, a3, a4, ⟨b1, b2, b3⟩, c1, c2, c3⟩ := g
  refine ⟨(h.a pB a1).2.1, h.qs pB a1 p1 a3 a2, (h.a p1 a3).2.1, fun f hf => ?_, ⟨h.qs p1 a3 p2 b2 b1, (h.a p2 b2).2.1, (h.a p2 b2).2.2.trans b3⟩, h.qs p1 a3 p3 c2 c1, (h.a p3 c2).2.1, (h.a p3 c2).2.2.trans c3⟩
  obtain ⟨d1, d2, d3⟩ := a4 f hf
  exact ⟨h.qs pB a1 (p f hf) d2 d1, (h.a (p f hf) d2).2.1, (h.a (p f hf) d2).2.2.trans d3⟩
theorem MC.fr {B H n m : Nat} {pt : Nat → Option Nat} {dn dl : Nat → Nat} {df rd : Nat → Nat → Int32} (h : Fr P S S' ad ad') (g : MC S (sI S) (sR S) ad B H n m pt dn dl df rd) (p : ∀ f, mRow f → P (B + f) 0) (pB : P B 0) (p1 : P H 0) (p2 : P (H + 1) 0) (p3 : P (H + 2) 0) : MC S' (sI S') (sR S') ad' B H n m pt dn dl df rd := by
  obtain ⟨a1, a2, a3, a4, a5, a6, a7, a8, a9⟩ := g
  have q12 := (a1.2.2.2.1 12 (by unfold mRow; omega)).2.1
  have q14 := (a1.2.2.2.1 14 (by unfold mRow; omega)).2.1
  have q21 := (a1.2.2.2.1 21 (by unfold mRow; omega)).2.1
  refine ⟨a1.fr h p pB p1 p2 p3, a2, a3, (h.i pB a1.1).trans a4, (h.i pB a1.1).trans a5, fun i => ?_, a7, fun j q hj hq => ?_, fun k hk => ?_⟩
  · rw [h.r (p 14 (by unfold mRow; omega)) q14, h.r (p 12 (by unfold mRow; omega)) q12]
    exact a6 i
  · rw [h.r (p 21 (by unfold mRow; omega)) q21]
    exact a8 j q hj hq
  · rw [h.r p3 a1.2.2.2.2.2.2.1, h.r p2 a1.2.2.2.2.1.2.1]
    exact a9 k hk
end FRS
/-- the reference's hall stays -/
theorem HM.fr {P : Nat → Nat → Prop} {S S' : St} {ad ad' : Nat → Nat → Nat} {tl n m : Nat} {tb dl dn : Nat → Nat} {df g wg rd : Nat → Nat → Int32} {pt : Nat → Option Nat} {bt : Int32} (h : Fr P S S' ad ad') (p : ∀ t i, 50 ≤ t → t ≤ 103 → P t i) (g1 : HM S ad tl tb dl df n g pt dn bt m wg rd) : HM S' ad' tl tb dl df n g pt dn bt m wg rd := by
  obtain ⟨a1, ⟨b1, b2, b3⟩, a2, a3, a4, a5, a6, a7, a8, a9, a10, a11⟩ := g1
  replace p : ∀ t, 50 ≤ t → t ≤ 103 → P t 0 := fun t h1 h2 => p t 0 h1 h2
  have pH := p 100 (by decide) (by decide)
  have p3 := p 103 (by decide) (by decide)
  have pr : ∀ f, mRow f → P (50 + f) 0 := fun f hf => p _ (by omega) (by unfold mRow at hf; omega)
  have pr2 : ∀ f, mRow f → P (75 + f) 0 := fun f hf => p _ (by omega) (by unfold mRow at hf; omega)
  refine ⟨(h.a pH a1).2.1, ⟨h.qs pH a1 p3 b2 b1, (h.a p3 b2).2.1, (h.a p3 b2).2.2.trans b3⟩, h.qs pH a1 (p 50 (by decide) (by decide)) a7.1.1 a2, h.qs pH a1 (p 75 (by decide) (by decide)) a4.1 a3, a4.fr h pr2 (p _ (by decide) (by decide)) pH (p _ (by decide) (by decide)) (p _ (by decide) (by decide)), (h.i pH a1).trans a5, fun j hj => by rw [h.r p3 b2]; exact a6 j hj, a7.fr h pr (p _ (by decide) (by decide)) pH (p _ (by decide) (by decide)) (p _ (by decide) (by decide)), fun f i hf => ?_, fun j q hj hq => ?_, (h.i (p 50 (by decide) (by decide)) a7.1.1).trans a10, fun f i hf hi => ?_⟩
  · rw [h.r (pr f (mInt_row hf)) (a7.1.2.2.2.1 f (mInt_row hf)).2.1]
    exact a8 f i hf
  · have e20 := (a7.1.2.2.2.1 20 (by unfold mRow; omega)).2.1
    rw [h.r (t := 70) (i := 0) (pr 20 (by unfold mRow; omega)) e20]
    exact a9 j q hj hq
  · have hm : mRow f := by unfold mInt at hf; unfold mRow; omega
    rw [h.r (pr2 f hm) (a4.2.2.2.1 f hm).2.1]
    exact a11 f i hf hi
/-- the class's hall stays -/
theorem HC.frG {n3 m3 : Nat} {P : Nat → Nat → Prop} {S S' : St} {ad ad' : Nat → Nat → Nat} {tl n m : Nat} {tb dl dn : Nat → Nat} {df g wg rd : Nat → Nat → Int32} {pt : Nat → Option Nat} {bt : Int32} (h : Fr P S S' ad ad') (p : ∀ t i, t < 31 ∨ t = 40 → (t = 25 → i < n) → (t = 26 ∨ t = 27 → i < m) → P t i) (hn3 : n3 ≤ n) (hm3 : m3 ≤ m) (gF : FL S' ad' 30 n3 m3) (g1 : HC S ad tl tb dl df n g pt dn bt m wg rd) : HC S' ad' tl tb dl df n g pt dn bt m wg rd := by
  obtain ⟨⟨a1, a2, a3, a4, a5, a6, a7, a8, a9, a10, a11, a12⟩, ⟨b1, b2, b3, b4⟩, c, ⟨d1, d2, d3⟩, ⟨e1, e2, e3⟩, f, n2, m2, g1, g2, g3⟩ := g1
  have p0 : ∀ t, t < 25 ∨ 28 ≤ t → t < 31 ∨ t = 40 → P t 0 := fun t h1 h2 => p t 0 h2 (fun e => by omega) (fun e => by omega)
  have p1 := p0 1 (by decide) (by decide)
  have p2 := p0 2 (by decide) (by decide)
  have p3 := p0 3 (by decide) (by decide)
  have p20 := p0 20 (by decide) (by decide)
  have p25 : ∀ i, i < n → P 25 i := fun i hi => p 25 i (by decide) (fun _ => hi) (fun e => by omega)
  have p26 : ∀ i, i < m → P 26 i := fun i hi => p 26 i (by decide) (fun e => by omega) (fun _ => hi)
  have p27 : ∀ i, i < m → P 27 i := fun i hi => p 27 i (by decide) (fun e => by omega) (fun _ => hi)
  have pd : ∀ t i, 10 ≤ t → t ≤ 11 → P t i := fun t i h1 h2 => p t i (by omega) (fun e => by omega) (fun e => by omega)
  refine ⟨⟨(h.a p1 a1).2.1, h.qs p1 a1 p2 a7 a2, h.qs p1 a1 (p0 4 (by decide) (by decide)) c.1 a3, h.qs p1 a1 (p0 10 (by decide) (by decide)) (d3 0 (by decide)).1 a4, h.qs p1 a1 p20 d1.1 a5, h.qs p1 a1 (p0 30 (by decide) (by decide)) g3.1 a6, (h.a p2 a7).2.1, h.qs p2 a7 p3 a9 a8, (h.a p3 a9).2.1, (h.a p3 a9).2.2.trans a10, (h.a (p0 40 (by decide) (by decide)) a11).2.1, (h.a (p0 40 (by decide) (by decide)) a11).2.2.trans a12⟩, ⟨(h.i p2 a7).trans b1, b2, b3, fun j hj => by rw [h.r p3 a9]; exact b4 j hj⟩, c.fr h (p0 _ (by decide) (by decide)) (p0 _ (by decide) (by decide)) (fun i _ => pd 10 i (by decide) (by decide)), ⟨d1.fr h (fun t i hu => p t i (by unfold FU at hu; omega) (fun e => by unfold FU at hu; omega) (fun e => by unfold FU at hu; omega)), fun i hi => ?_, d3.fr h pd⟩, ⟨fun f i k1 k2 => (h.i (p25 i k2) (d1.2.2.2.1.2.2.2.1 i k2)).trans (e1 f i k1 k2), fun f i k1 k2 => (h.i (p26 i k2) (d1.2.2.2.2.1.2.2.2.1 i k2)).trans (e2 f i k1 k2), (h.i p20 d1.1).trans e3⟩, fun j q hj hq => ?_, n3, m3, hn3, hm3, gF⟩
  · obtain ⟨q1, q2, q3, q4⟩ := d2 i hi
    have hA := d1.2.2.2.1.2.2.2.1
    refine ⟨h.qs (p25 i hi) (hA i hi) (pd 10 _ (by decide) (by decide)) (d3 _ q2).1 q1, q2, ?_, q4⟩
    rw [h.q (p25 i hi) (hA i hi), q3]
    cases hp : pt i with
    | none => rfl
    | some j => exact congrArg some (h.a (p25 j (q4 j hp)) (hA j (q4 j hp))).1.symm
  · rw [h.r (t := 27) (i := j) (p27 j hj) (d1.2.2.2.2.2.1 j hj).2.1]
    exact f j q hj hq
/-- the class's hall stays -/
theorem HC.fr {P : Nat → Nat → Prop} {S S' : St} {ad ad' : Nat → Nat → Nat} {tl n m : Nat} {tb dl dn : Nat → Nat} {df g wg rd : Nat → Nat → Int32} {pt : Nat → Option Nat} {bt : Int32} (h : Fr P S S' ad ad') (p : ∀ t i, t < 45 → (t = 25 → i < n) → (t = 26 ∨ t = 27 → i < m) → P t i) (g1 : HC S ad tl tb dl df n g pt dn bt m wg rd) : HC S' ad' tl tb dl df n g pt dn bt m wg rd := by
  obtain ⟨n2, m2, h1, h2, h3⟩ := g1.2.2.2.2.2.2
  exact g1.frG h (fun t i ht => p t i (by omega)) h1 h2 (h3.fr h (fun t i hu => p t i (by unfold FU at hu; omega) (fun e => by unfold FU at hu; omega) (fun e => by unfold FU at hu; omega)))
