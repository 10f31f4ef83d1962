/-! names for what is made; lists that grow -/
def sw (ad : Nat → Nat → Nat) (t0 i0 q : Nat) : Nat → Nat → Nat := fun t i => if t = t0 ∧ i = i0 then q else if ad t i = q then ad t0 i0 else ad t i
theorem sw_at {ad : Nat → Nat → Nat} {t0 i0 q : Nat} : sw ad t0 i0 q t0 i0 = q := if_pos ⟨rfl, rfl⟩
theorem sw_ne {ad : Nat → Nat → Nat} {t0 i0 q t i : Nat} (h1 : ¬ (t = t0 ∧ i = i0)) (h2 : ad t i ≠ q) : sw ad t0 i0 q t i = ad t i := by
  unfold sw
  rw [if_neg h1, if_neg h2]
theorem sw_inj {ad : Nat → Nat → Nat} {t0 i0 q : Nat} (hj : Inj ad) : Inj (sw ad t0 i0 q) := by
  intro t i t' i' e
  unfold sw at e
  by_cases c1 : t = t0 ∧ i = i0
  · rw [if_pos c1] at e
    by_cases c2 : t' = t0 ∧ i' = i0
    · exact ⟨c1.1.trans c2.1.symm, c1.2.trans c2.2.symm⟩
    · rw [if_neg c2] at e
      by_cases c3 : ad t' i' = q
      · rw [if_pos c3] at e
        obtain ⟨a, b⟩ := hj _ _ _ _ (c3.trans e)
        exact absurd ⟨a, b⟩ c2
      · rw [if_neg c3] at e
        exact absurd e.symm c3
  · rw [if_neg c1] at e
    by_cases c2 : t' = t0 ∧ i' = i0
    · rw [if_pos c2] at e
      by_cases c3 : ad t i = q
      · rw [if_pos c3] at e
        obtain ⟨a, b⟩ := hj _ _ _ _ (c3.trans e.symm)
        exact absurd ⟨a, b⟩ c1
      · rw [if_neg c3] at e
        exact absurd e c3
    · rw [if_neg c2] at e
      by_cases c3 : ad t i = q
      · rw [if_pos c3] at e
        by_cases c4 : ad t' i' = q
        · exact hj _ _ _ _ (c3.trans c4.symm)
        · rw [if_neg c4] at e
          obtain ⟨a, b⟩ := hj _ _ _ _ e
          exact absurd ⟨a.symm, b.symm⟩ c2
      · rw [if_neg c3] at e
        by_cases c4 : ad t' i' = q
        · rw [if_pos c4] at e
          obtain ⟨a, b⟩ := hj _ _ _ _ e
          exact absurd ⟨a, b⟩ c1
        · rw [if_neg c4] at e
          exact hj _ _ _ _ e
theorem Fr.sw {S : St} {ad : Nat → Nat → Nat} {t0 i0 q k n : Nat} (hq : q ∉ sL S) : Fr (fun t i => ¬ (t = t0 ∧ i = i0)) S (pNew S q k n) ad (sw ad t0 i0 q) := ⟨gle_new hq, fun t i hp hm => by
  have hne : ad t i ≠ q := fun e => hq (e ▸ hm)
  exact ⟨sw_ne hp hne, fun f => if_neg hne, fun f => if_neg hne, if_neg hne, if_neg hne, if_neg hne⟩⟩
/-- what a growing list leaves alone -/
def NL (L A : Nat) : Nat → Nat → Prop := fun t i => ¬ (t = L ∧ i = 0) ∧ ¬ (t = A ∧ i = 0)
section ADD
variable {S : St} {ad : Nat → Nat → Nat} {L A t k n m B : Nat}
theorem s_add1 {post : Int32 → St → Prop} (hj : Inj ad) (h : LiS S ad L A t k n) (hn : n < 8) (he : isA S k (ad t n)) (hk : k = 1 ∨ k = 2 ∨ k = 5) (hd : L ≠ A ∧ t ≠ A ∧ t ≠ L)
    (hp : ∀ S' ad', Inj ad' → LiS S' ad' L A t k (n + 1) → Fr (NL L A) S S' ad ad' → ad' L 0 = ad L 0 → post 1 S') : w_AL_add1 post S (ad L 0) (some (ad t n)) := by
  obtain ⟨h1, h2, h3, h4, h5⟩ := h
  have hgo : gObj S (ad t n) := by
    rcases hk with rfl | rfl | rfl
    · exact Or.inl he
    · exact Or.inr (Or.inl he)
    · exact Or.inr (Or.inr he)
  have eA : ∀ i, i < n + 1 → isA S k (ad t i) := fun i hi => by
    rcases Nat.lt_or_ge i n with q | q
    · exact h4 i q
    · rw [show i = n by omega]; exact he
  unfold w_AL_add1
  intro S1 e1 o2 e2
  have q1 : sQ S1 1 (ad L 0) = sQ S 1 (ad L 0) := by rw [e1]; rfl
  have z2 : sI S1 2 (ad L 0) = nI n := by rw [e1]; exact (sI_ne (by decide)).trans h2
  have A1 : ∀ {k a}, isA S k a → isA S1 k a := fun q => by rw [e1]; exact q
  have N1 : sN S1 = sN S := by rw [e1]; rfl
  have L1 : sL S1 = sL S := by rw [e1]; rfl
  have P1 : sP S1 = sP S := by rw [e1]; rfl
  have X1 : sX S1 = sX S := by rw [e1]; rfl
  have f1 : Fr (NL L A) S S1 ad ad := by rw [e1]; exact Fr.rf.I (nam (t0 := L) (i0 := 0) hj (fun q => q.1 ⟨rfl, rfl⟩))
  have g1 : gObj S1 (ad t n) := by rw [e1]; exact hgo
  rw [q1] at e2
  clear e1
  unfold w_AL_add3
  rw [z2]
  rcases h5 with ⟨rfl, b2⟩ | ⟨b0, b1, b2, b3, b4⟩
  · refine ⟨sX S1, by rw [e2, b2, X1], fun _ => ?_, fun c => absurd rfl c⟩
    refine ⟨fun S2 o => ∃ q, q ∉ sL S1 ∧ o = some q ∧ S2 = pQ (pNew S1 q 12 10) 1 (ad L 0) (some q), ?_, fun _ => ?_, fun c => absurd rfl c⟩
    · rintro S2 o ⟨q, hq, rfl, e⟩
      have hLq : ad L 0 ≠ q := fun e => hq (by rw [← e, L1]; exact h1.1)
      have htq : ad t 0 ≠ q := fun e => hq (by rw [← e, L1]; exact he.1)
      have F0 : Fr (fun t i => ¬ (t = A ∧ i = 0)) S1 (pNew S1 q 12 10) ad (sw ad A 0 q) := Fr.sw hq
      have eL : sw ad A 0 q L 0 = ad L 0 := sw_ne (fun c => hd.1 c.1) hLq
      have et : sw ad A 0 q t 0 = ad t 0 := sw_ne (fun c => hd.2.1 c.1) htq
      have j1 : Inj (sw ad A 0 q) := sw_inj hj
      have aq : isA S2 12 q := by rw [e]; exact isA_new (S := S1) (n := 10)
      have nq : sN S2 q = 10 := by rw [e]; exact len_new (S := S1) (k := 12)
      refine ⟨q, rfl, aq, _, rfl, by rw [nq]; exact vp_in_nI (n := 0) (by decide) (by decide), ?_, ?_⟩
      · rw [e]
        rcases g1 with g | g | g
        · exact Or.inl (gle_isA (gle_new hq) g)
        · exact Or.inr (Or.inl (gle_isA (gle_new hq) g))
        · exact Or.inr (Or.inr (gle_isA (gle_new hq) g))
      · intro S8 e8 S11 e11
        have c0 : (nI 0).toNatClampNeg = 0 := rfl
        rw [c0] at e8
        have F1 : Fr (NL L A) S1 S11 ad (sw ad A 0 q) := by
          rw [e11, e8, e]
          have F0 := F0.mono (P' := NL L A) (fun t i q => q.2)
          have y1 : ∀ t i, NL L A t i → ad t i ∈ sL S1 → sw ad A 0 q t i ≠ ad L 0 := by
            rw [← eL]; exact nam j1 (fun z => z.1 ⟨rfl, rfl⟩)
          have y2 : ∀ t i, NL L A t i → ad t i ∈ sL S1 → sw ad A 0 q t i ≠ q := by
            have z := nam (P := NL L A) (S := S1) (ad := ad) (t0 := A) (i0 := 0) j1 (fun z => z.2 ⟨rfl, rfl⟩)
            rw [sw_at] at z
            exact z
          exact ((F0.Q y1).Pp y2).I y1
        refine hp S11 (sw ad A 0 q) j1 ⟨?_, ?_, by decide, fun i hi => ?_, Or.inr ⟨by decide, ?_, ?_, ?_, fun i hi => ?_⟩⟩ (f1.tr F1) eL
        · rw [eL, e11, e8, e]; exact gle_isA (gle_new hq) (A1 h1)
        · rw [eL, e11]; exact up2_at
        · have i0 : i = 0 := by omega
          subst i0
          rw [et, e11, e8, e]; exact gle_isA (gle_new hq) (A1 he)
        · rw [eL, sw_at, e11, e8, e]; exact up2_at
        · rw [sw_at, e11, e8]; exact aq
        · rw [sw_at, e11, e8]; exact nq
        · have i0 : i = 0 := by omega
          subst i0
          rw [sw_at, et, e11, e8]; exact up2_at
    · unfold w_AL_grow0 w_AL_grow1
      rw [z2, q1, b2, ← X1]
      rintro _ rfl
      refine ⟨_, rfl, fun _ => ⟨False, id, fun c => absurd c (by decide), fun _ => ?_⟩, fun c => absurd rfl c⟩
      rintro _ rfl
      refine ⟨fun _ => ?_, fun c => absurd rfl c⟩
      have ev : (if (10 : Int32) < nI 0 + 1 then nI 0 + 1 else 10) = 10 := by decide
      rw [ev]
      rintro _ rfl
      refine ⟨by decide, by decide, ?_⟩
      rintro q S9 hq rfl _ rfl
      exact ⟨q, hq, rfl, rfl⟩
  · have key : ∀ J : St → Option Nat → Prop, (J S1 (some (ad A 0))) → (nI n = 0 → w_AL_grow0 (fun (o12 : Option Nat) (S13 : St) => J S13 o12) S1 (ad L 0)) ∧ (¬ nI n = 0 → J S1 (some (ad A 0))) := fun J hJ => ⟨fun c => absurd c (nI_ne0 b0 (by omega)), fun _ => hJ⟩
    have key2 : ∀ J : St → Option Nat → Prop, (J S1 (some (ad A 0))) → (nI n = nI (sN S1 (ad A 0)) → w_AL_grow0 (fun (o12 : Option Nat) (S13 : St) => J S13 o12) S1 (ad L 0)) ∧ (¬ nI n = nI (sN S1 (ad A 0)) → J S1 (some (ad A 0))) := fun J hJ => ⟨fun c => by
      rw [N1, b3] at c
      have := (nI_eq (by omega) (by decide)).mp c
      omega, fun _ => hJ⟩
    have fin : ∀ (S2 : St) (o : Option Nat), (S2 = S1 ∧ o = some (ad A 0)) → ∃ y4 : Nat, o = some y4 ∧ isA S2 12 y4 ∧ ∃ y6 : Nat, some (ad t n) = some y6 ∧ vp_in (nI n) (sN S2 y4) ∧ gObj S2 y6 ∧ ∀ S8 : St, S8 = pP S2 y4 ((nI n).toNatClampNeg) (some y6) → ∀ S11 : St, S11 = pI S8 2 (ad L 0) (nI n + 1) → post 1 S11 := by
      rintro S2 o ⟨rfl, rfl⟩
      refine ⟨_, rfl, A1 b2, _, rfl, by rw [N1, b3]; exact vp_in_nI (by omega) (by decide), g1, ?_⟩
      rw [nI_clamp (show n < 2 ^ 31 by omega), nI_1]
      intro S8 e8 S11 e11
      have F1 : Fr (NL L A) S2 S11 ad ad := by
        rw [e11, e8]
        exact (Fr.rf.Pp (nam (t0 := A) (i0 := 0) hj (fun z => z.2 ⟨rfl, rfl⟩))).I (nam (t0 := L) (i0 := 0) hj (fun z => z.1 ⟨rfl, rfl⟩))
      refine hp S11 ad hj ⟨?_, ?_, by omega, fun i hi => ?_, Or.inr ⟨by omega, ?_, ?_, ?_, fun i hi => ?_⟩⟩ (f1.tr F1) rfl
      · rw [e11, e8]; exact A1 h1
      · rw [e11]; exact up2_at
      · rw [e11, e8]; exact A1 (eA i hi)
      · rw [e11, e8]; exact q1.trans b1
      · rw [e11, e8]; exact A1 b2
      · rw [e11, e8]; show sN S2 (ad A 0) = 10; rw [N1]; exact b3
      · rw [e11, e8]
        show up2 (sP S2) (ad A 0) n (some (ad t n)) (ad A 0) i = _
        by_cases c : i = n
        · subst c; exact up2_at
        · rw [up2_a c, P1]; exact b4 i (by omega)
    refine ⟨ad A 0, by rw [e2, b1], fun _ => ?_, fun _ => ⟨A1 b2, ?_⟩⟩
    · exact ⟨fun S2 o => S2 = S1 ∧ o = some (ad A 0), fun S2 o ho => fin S2 o ho, key _ ⟨rfl, rfl⟩⟩
    · exact ⟨fun S2 o => S2 = S1 ∧ o = some (ad A 0), fun S2 o ho => fin S2 o ho, key2 _ ⟨rfl, rfl⟩⟩
/-- one dancer more on a floor -/
theorem s_addR {post : Int32 → St → Prop} (hj : Inj ad) (hF : FL S ad B n m) (hn : n < 8) (he : isA S 2 (ad (B + 5) n)) (h6 : sI S 6 (ad (B + 5) n) = nI n)
    (hp : ∀ S' ad', Inj ad' → FL S' ad' B (n + 1) m → Fr (NL (B + 1) (B + 2)) S S' ad ad' → post 1 S') : w_AL_add1 post S (ad (B + 1) 0) (some (ad (B + 5) n)) := by
  obtain ⟨a1, a2, a3, a4, a5, a6, a7⟩ := hF
  refine s_add1 hj a4 hn he (Or.inr (Or.inl rfl)) (by omega) (fun S' ad' j' hL hf eL => ?_)
  have p : ∀ t i, t ≠ B + 1 → t ≠ B + 2 → NL (B + 1) (B + 2) t i := fun t i h1 h2 => ⟨fun q => h1 q.1, fun q => h2 q.1⟩
  refine hp S' ad' j' ⟨(hf.a (p B 0 (by omega) (by omega)) a1).2.1, ?_, hf.qs (p B 0 (by omega) (by omega)) a1 (p (B + 3) 0 (by omega) (by omega)) a5.1 a3, hL, a5.fr hf (p _ _ (by omega) (by omega)) (p _ _ (by omega) (by omega)) (fun i _ => p _ _ (by omega) (by omega)), fun j hj' => ?_, fun i hi => ?_⟩ hf
  · rw [hf.q (p B 0 (by omega) (by omega)) a1, a2, eL]
  · obtain ⟨b1, b2, b3⟩ := a6 j hj'
    exact ⟨hf.qs (p (B + 6) j (by omega) (by omega)) (a5.2.2.2.1 j hj') (p (B + 7) j (by omega) (by omega)) b2 b1, (hf.a (p (B + 7) j (by omega) (by omega)) b2).2.1, (hf.a (p (B + 7) j (by omega) (by omega)) b2).2.2.trans b3⟩
  · by_cases c : i = n
    · subst c; exact (hf.i (p (B + 5) i (by omega) (by omega)) he).trans h6
    · exact (hf.i (p (B + 5) i (by omega) (by omega)) (a4.2.2.2.1 i (by omega))).trans (a7 i (by omega))
/-- one winder more on a floor -/
theorem s_addN {post : Int32 → St → Prop} (hj : Inj ad) (hF : FL S ad B n m) (hm : m < 8) (he : isA S 5 (ad (B + 6) m)) (h7 : sQ S 29 (ad (B + 6) m) = some (ad (B + 7) m) ∧ isA S 10 (ad (B + 7) m) ∧ sN S (ad (B + 7) m) = 8)
    (hp : ∀ S' ad', Inj ad' → FL S' ad' B n (m + 1) → Fr (NL (B + 3) (B + 4)) S S' ad ad' → post 1 S') : w_AL_add1 post S (ad (B + 3) 0) (some (ad (B + 6) m)) := by
  obtain ⟨a1, a2, a3, a4, a5, a6, a7⟩ := hF
  refine s_add1 hj a5 hm he (Or.inr (Or.inr rfl)) (by omega) (fun S' ad' j' hL hf eL => ?_)
  have p : ∀ t i, t ≠ B + 3 → t ≠ B + 4 → NL (B + 3) (B + 4) t i := fun t i h1 h2 => ⟨fun q => h1 q.1, fun q => h2 q.1⟩
  refine hp S' ad' j' ⟨(hf.a (p B 0 (by omega) (by omega)) a1).2.1, hf.qs (p B 0 (by omega) (by omega)) a1 (p (B + 1) 0 (by omega) (by omega)) a4.1 a2, ?_, a4.fr hf (p _ _ (by omega) (by omega)) (p _ _ (by omega) (by omega)) (fun i _ => p _ _ (by omega) (by omega)), hL, fun j hj' => ?_, fun i hi => (hf.i (p (B + 5) i (by omega) (by omega)) (a4.2.2.2.1 i hi)).trans (a7 i hi)⟩ hf
  · rw [hf.q (p B 0 (by omega) (by omega)) a1, a3, eL]
  · have hb : sQ S 29 (ad (B + 6) j) = some (ad (B + 7) j) ∧ isA S 10 (ad (B + 7) j) ∧ sN S (ad (B + 7) j) = 8 := by
      by_cases c : j = m
      · subst c; exact h7
      · exact a6 j (by omega)
    have hw : isA S 5 (ad (B + 6) j) := by
      by_cases c : j = m
      · subst c; exact he
      · exact a5.2.2.2.1 j (by omega)
    obtain ⟨b1, b2, b3⟩ := hb
    exact ⟨hf.qs (p (B + 6) j (by omega) (by omega)) hw (p (B + 7) j (by omega) (by omega)) b2 b1, (hf.a (p (B + 7) j (by omega) (by omega)) b2).2.1, (hf.a (p (B + 7) j (by omega) (by omega)) b2).2.2.trans b3⟩
end ADD
