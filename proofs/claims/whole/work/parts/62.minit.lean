/-! how the reference is made -/
/-- the reference's state at B, its rows F made -/
def SI (S : St) (ad : Nat → Nat → Nat) (B aM : Nat) (F : Nat → Prop) : Prop := isA S 7 (ad B 0) ∧ sQ S 55 (ad B 0) = some aM ∧ (∀ f, sI S f (ad B 0) = 0) ∧ ∀ f, mRow f → F f → sQ S (f + 33) (ad B 0) = some (ad (B + f) 0) ∧ isA S (mKind f) (ad (B + f) 0) ∧ sN S (ad (B + f) 0) = mLen f ∧ sR S (ad (B + f) 0) = fun _ => 0
def NB (B : Nat) : Nat → Nat → Prop := fun t _ => t < B ∨ B + 21 < t
section MINIT
variable {S S' : St} {ad ad' : Nat → Nat → Nat} {P : Nat → Nat → Prop} {B aM : Nat} {F : Nat → Prop}
theorem SI.fr (h : Fr P S S' ad ad') (p : ∀ t, B ≤ t → t ≤ B + 21 → P t 0) (g : SI S ad B aM F) : SI S' ad' B aM F := by
  obtain ⟨a1, a2, a3, a4⟩ := g
  have pB := p B (by omega) (by omega)
  refine ⟨(h.a pB a1).2.1, (h.q pB a1).trans a2, fun f => (h.i pB a1).trans (a3 f), fun f hf hF => ?_⟩
  obtain ⟨b1, b2, b3, b4⟩ := a4 f hf hF
  have pf := p (B + f) (by omega) (by unfold mRow at hf; omega)
  exact ⟨h.qs pB a1 pf b2 b1, (h.a pf b2).2.1, (h.a pf b2).2.2.trans b3, (h.r pf b2).trans b4⟩
theorem si_step {A : Nat} {K : St → Prop} (f : Nat) (hj : Inj ad) (hf : mRow f) (hA : ad B 0 = A) (h : SI S ad B aM F) (hn : ¬ F f) (hK : ∀ S' ad', Inj ad' → SI S' ad' B aM (fun f' => F f' ∨ f' = f) → Fr (NB B) S S' ad ad' → ad' B 0 = A → K S') : ∀ (q : Nat) (S3 : St), q ∉ sL S → S3 = pNew S q (mKind f) (mLen f) → ∀ S5 : St, S5 = pQ S3 (f + 33) A (some q) → K S5 := by
  have hB : 7 ≤ f ∧ f ≤ 21 := by unfold mRow at hf; omega
  refine s_new (t0 := B + f) (i0 := 0) hj (fun S2 ad2 j2 f2 h2 => ?_)
  obtain ⟨n1, n2, n3, n4, n5⟩ := h2
  obtain ⟨a1, a2, a3, a4⟩ := h
  have pB : ex (B + f) 0 B 0 := fun z => by omega
  have x : ad2 B 0 = A := ((f2.a pB a1).1).trans hA
  have k2 : isA S2 7 (ad2 B 0) := (f2.a pB a1).2.1
  intro S5 e5
  rw [← x] at e5
  have f5 : Fr (ex B 0) S2 S5 ad2 ad2 := by rw [e5]; exact Fr.rf.Q (nam (t0 := B) (i0 := 0) j2 (fun z => z ⟨rfl, rfl⟩))
  have z5 : isA S5 7 (ad2 B 0) ∧ (∀ f', f' ≠ f + 33 → sQ S5 f' (ad2 B 0) = sQ S2 f' (ad2 B 0)) ∧ sQ S5 (f + 33) (ad2 B 0) = some (ad2 (B + f) 0) ∧ (∀ f, sI S5 f (ad2 B 0) = sI S2 f (ad2 B 0)) := by
    rw [e5]
    exact ⟨k2, fun f' hf' => sQ_ne hf', up2_at, fun _ => rfl⟩
  clear e5
  obtain ⟨z1, z2, z3, z4⟩ := z5
  refine hK S5 ad2 j2 ⟨z1, ?_, fun f' => (z4 f').trans ((f2.i pB a1).trans (a3 f')), fun f' hf' hF => ?_⟩ ((f2.mono (P' := NB B) (fun t i ht z => by unfold NB at ht; omega)).tr (f5.mono (fun t i ht z => by unfold NB at ht; omega))) x
  · by_cases c : 55 = f + 33
    · exact absurd c (by unfold mRow at hf; omega)
    · rw [z2 55 c, f2.q pB a1]; exact a2
  · have pf : ∀ f', mRow f' → ex B 0 (B + f') 0 := fun f' hf' z => by unfold mRow at hf'; omega
    by_cases c : f' = f
    · subst c
      exact ⟨z3, (f5.a (pf f' hf) n1).2.1, (f5.a (pf f' hf) n1).2.2.trans n2, (f5.r (pf f' hf) n1).trans n5⟩
    · obtain ⟨b1, b2, b3, b4⟩ := a4 f' hf' (hF.elim id (fun q => absurd q c))
      have p1 : ex (B + f) 0 (B + f') 0 := fun z => c (by omega)
      have g := f2.a p1 b2
      refine ⟨?_, (f5.a (pf f' hf') g.2.1).2.1, ((f5.a (pf f' hf') g.2.1).2.2.trans g.2.2).trans b3, ((f5.r (pf f' hf') g.2.1).trans (f2.r p1 b2)).trans b4⟩
      rw [z2 _ (by omega)]
      exact f2.qs pB a1 p1 b2 b1
set_option maxHeartbeats 1000000 in
theorem s_Sinit {post : St → Prop} (hj : Inj ad) (h : NW S ad B 0 7 0) (hp : ∀ S' ad', Inj ad' → SI S' ad' B aM (fun _ => True) → Fr (NB B) S S' ad ad' → ad' B 0 = ad B 0 → post S') : w_S_init post S (ad B 0) (some aM) := by
  unfold w_S_init
  obtain ⟨n1, n2, n3, n4, n5⟩ := h
  intro S1 e1
  have h1 : SI S1 ad B aM (fun _ => False) := by
    rw [e1]
    exact ⟨n1, up2_at, n3, fun _ _ q => q.elim⟩
  have F1 : Fr (NB B) S S1 ad ad := by rw [e1]; exact Fr.rf.Q (nam (t0 := B) (i0 := 0) hj (fun z => by unfold NB at z; omega))
  clear e1
  generalize hA : ad B 0 = A at hp ⊢
  refine si_step 7 hj (by unfold mRow; omega) hA h1 (by simp) (fun S2 ad2 j2 h2 f2 x2 => ?_)
  refine si_step 8 j2 (by unfold mRow; omega) x2 h2 (by simp) (fun S3 ad3 j3 h3 f3 x3 => ?_)
  refine si_step 9 j3 (by unfold mRow; omega) x3 h3 (by simp) (fun S4 ad4 j4 h4 f4 x4 => ?_)
  refine si_step 10 j4 (by unfold mRow; omega) x4 h4 (by simp) (fun S5 ad5 j5 h5 f5 x5 => ?_)
  refine si_step 11 j5 (by unfold mRow; omega) x5 h5 (by simp) (fun S6 ad6 j6 h6 f6 x6 => ?_)
  refine si_step 12 j6 (by unfold mRow; omega) x6 h6 (by simp) (fun S7 ad7 j7 h7 f7 x7 => ?_)
  refine si_step 13 j7 (by unfold mRow; omega) x7 h7 (by simp) (fun S8 ad8 j8 h8 f8 x8 => ?_)
  refine si_step 14 j8 (by unfold mRow; omega) x8 h8 (by simp) (fun S9 ad9 j9 h9 f9 x9 => ?_)
  refine si_step 15 j9 (by unfold mRow; omega) x9 h9 (by simp) (fun S10 ad10 j10 h10 f10 x10 => ?_)
  refine si_step 16 j10 (by unfold mRow; omega) x10 h10 (by simp) (fun S11 ad11 j11 h11 f11 x11 => ?_)
  refine si_step 17 j11 (by unfold mRow; omega) x11 h11 (by simp) (fun S12 ad12 j12 h12 f12 x12 => ?_)
  refine si_step 18 j12 (by unfold mRow; omega) x12 h12 (by simp) (fun S13 ad13 j13 h13 f13 x13 => ?_)
  refine si_step 20 j13 (by unfold mRow; omega) x13 h13 (by simp) (fun S14 ad14 j14 h14 f14 x14 => ?_)
  refine si_step 21 j14 (by unfold mRow; omega) x14 h14 (by simp) (fun S15 ad15 j15 h15 f15 x15 => ?_)
  have hF := F1.tr (f2.tr (f3.tr (f4.tr (f5.tr (f6.tr (f7.tr (f8.tr (f9.tr (f10.tr (f11.tr (f12.tr (f13.tr (f14.tr f15)))))))))))))
  refine hp S15 ad15 j15 ?_ hF x15
  obtain ⟨a1, a2, a3, a4⟩ := h15
  exact ⟨a1, a2, a3, fun f hf _ => a4 f hf (by simp only [false_or]; unfold mRow at hf; omega)⟩
/-- the reference under way -/
def MIp (S : St) (ad : Nat → Nat → Nat) (aM p : Nat) : Prop := HI S ad 8 ∧ isA S 8 (ad 100 0) ∧ ad 100 0 = aM ∧ (∀ f, sI S f (ad 100 0) = 0) ∧ (1 ≤ p → sQ S 57 (ad 100 0) = some (ad 103 0) ∧ isA S 10 (ad 103 0) ∧ sN S (ad 103 0) = 40) ∧ (2 ≤ p → sQ S 59 (ad 100 0) = some (ad 101 0) ∧ isA S 10 (ad 101 0) ∧ sN S (ad 101 0) = 192) ∧ (3 ≤ p → sQ S 60 (ad 100 0) = some (ad 102 0) ∧ isA S 10 (ad 102 0) ∧ sN S (ad 102 0) = 8) ∧
  (4 ≤ p → sQ S 61 (ad 100 0) = some (ad 50 0) ∧ SI S ad 50 aM (fun _ => True)) ∧ (5 ≤ p → sQ S 62 (ad 100 0) = some (ad 75 0) ∧ SI S ad 75 aM (fun _ => True))
theorem MIp.fr {p : Nat} (h : Fr P S S' ad ad') (q0 : ∀ t i, t < 40 → P t i) (q1 : P 100 0) (q3 : 1 ≤ p → P 103 0) (q4 : 2 ≤ p → P 101 0) (q5 : 3 ≤ p → P 102 0) (q6 : 4 ≤ p → ∀ t, 50 ≤ t → t ≤ 71 → P t 0) (q7 : 5 ≤ p → ∀ t, 75 ≤ t → t ≤ 96 → P t 0) (g : MIp S ad aM p) : MIp S' ad' aM p := by
  obtain ⟨a, b, b2, c, d, e, f, u, w⟩ := g
  refine ⟨a.fr h (fun t i ht => q0 t i (by omega)) (q0 _ _ (by decide)) (q0 _ _ (by decide)) (fun i _ => ⟨q0 _ _ (by decide), q0 _ _ (by decide)⟩), (h.a q1 b).2.1, ((h.a q1 b).1).trans b2, fun f => (h.i q1 b).trans (c f), fun hp => ?_, fun hp => ?_, fun hp => ?_, fun hp => ?_, fun hp => ?_⟩
  · obtain ⟨x1, x2, x3⟩ := d hp
    exact ⟨h.qs q1 b (q3 hp) x2 x1, (h.a (q3 hp) x2).2.1, (h.a (q3 hp) x2).2.2.trans x3⟩
  · obtain ⟨x1, x2, x3⟩ := e hp
    exact ⟨h.qs q1 b (q4 hp) x2 x1, (h.a (q4 hp) x2).2.1, (h.a (q4 hp) x2).2.2.trans x3⟩
  · obtain ⟨x1, x2, x3⟩ := f hp
    exact ⟨h.qs q1 b (q5 hp) x2 x1, (h.a (q5 hp) x2).2.1, (h.a (q5 hp) x2).2.2.trans x3⟩
  · obtain ⟨x1, x2⟩ := u hp
    exact ⟨h.qs q1 b (q6 hp 50 (by decide) (by decide)) x2.1 x1, x2.fr h (fun t h1 h2 => q6 hp t h1 (by omega))⟩
  · obtain ⟨x1, x2⟩ := w hp
    exact ⟨h.qs q1 b (q7 hp 75 (by decide) (by decide)) x2.1 x1, x2.fr h (fun t h1 h2 => q7 hp t h1 (by omega))⟩
def fM (p : Nat) : Nat := if p = 0 then 57 else p + 58
theorem MIp.st {p t : Nat} (hj : Inj ad) (h : MIp S ad aM p) (h1 : p + 1 = 1 → t = 103 ∧ isA S 10 (ad 103 0) ∧ sN S (ad 103 0) = 40) (h2 : p + 1 = 2 → t = 101 ∧ isA S 10 (ad 101 0) ∧ sN S (ad 101 0) = 192) (h3 : p + 1 = 3 → t = 102 ∧ isA S 10 (ad 102 0) ∧ sN S (ad 102 0) = 8) (h4 : p + 1 = 4 → t = 50 ∧ SI S ad 50 aM (fun _ => True)) (h5 : p + 1 = 5 → t = 75 ∧ SI S ad 75 aM (fun _ => True)) : MIp (pQ S (fM p) (ad 100 0) (some (ad t 0))) ad aM (p + 1) := by
  have f : Fr (ex 100 0) S (pQ S (fM p) (ad 100 0) (some (ad t 0))) ad ad := Fr.rf.Q (nam (t0 := 100) (i0 := 0) hj (fun z => z ⟨rfl, rfl⟩))
  have nx : ∀ t i, t ≠ 100 → ex 100 0 t i := fun t i ht z => ht z.1
  obtain ⟨a, b, b2, c, d, e, g, u, w⟩ := h
  have at0 : sQ (pQ S (fM p) (ad 100 0) (some (ad t 0))) (fM p) (ad 100 0) = some (ad t 0) := up2_at
  have ne : ∀ f, f ≠ fM p → sQ (pQ S (fM p) (ad 100 0) (some (ad t 0))) f (ad 100 0) = sQ S f (ad 100 0) := fun f hf => sQ_ne hf
  have fm : fM p = if p = 0 then 57 else p + 58 := rfl
  refine ⟨a.fr f (fun t i ht => nx _ _ (by omega)) (nx _ _ (by decide)) (nx _ _ (by decide)) (fun i _ => ⟨nx _ _ (by decide), nx _ _ (by decide)⟩), b, b2, c, fun hp => ?_, fun hp => ?_, fun hp => ?_, fun hp => ?_, fun hp => ?_⟩
  · by_cases q : p = 0
    · subst q
      obtain ⟨rfl, x⟩ := h1 rfl
      exact ⟨at0, x⟩
    · obtain ⟨x1, x2⟩ := d (by omega)
      rw [if_neg q] at fm
      exact ⟨(ne 57 (by omega)).trans x1, x2⟩
  · by_cases q : p = 1
    · subst q
      obtain ⟨rfl, x⟩ := h2 rfl
      exact ⟨at0, x⟩
    · obtain ⟨x1, x2⟩ := e (by omega)
      rw [if_neg (show ¬ p = 0 by omega)] at fm
      exact ⟨(ne 59 (by omega)).trans x1, x2⟩
  · by_cases q : p = 2
    · subst q
      obtain ⟨rfl, x⟩ := h3 rfl
      exact ⟨at0, x⟩
    · obtain ⟨x1, x2⟩ := g (by omega)
      rw [if_neg (show ¬ p = 0 by omega)] at fm
      exact ⟨(ne 60 (by omega)).trans x1, x2⟩
  · by_cases q : p = 3
    · subst q
      obtain ⟨rfl, x⟩ := h4 rfl
      exact ⟨at0, x.fr f (fun t h1 h2 => nx _ _ (by omega))⟩
    · obtain ⟨x1, x2⟩ := u (by omega)
      rw [if_neg (show ¬ p = 0 by omega)] at fm
      exact ⟨(ne 61 (by omega)).trans x1, x2.fr f (fun t h1 h2 => nx _ _ (by omega))⟩
  · by_cases q : p = 4
    · subst q
      obtain ⟨rfl, x⟩ := h5 rfl
      exact ⟨at0, x.fr f (fun t h1 h2 => nx _ _ (by omega))⟩
    · obtain ⟨x1, x2⟩ := w (by omega)
      rw [if_neg (show ¬ p = 0 by omega)] at fm
      exact ⟨(ne 62 (by omega)).trans x1, x2.fr f (fun t h1 h2 => nx _ _ (by omega))⟩
end MINIT
