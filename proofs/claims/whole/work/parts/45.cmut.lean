/-! the class's calls that change who dances what, couples, springs, rounds; beats -/
def qS (S : St) (I : Nat → Nat → Int32) (Q : Nat → Nat → Option Nat) : St := mS (sL S) (sK S) (sN S) I Q (sR S) (sP S) (sJ S) (sX S)
def bsF (g : Nat → Nat → Int32) (i j : Nat) : Int32 := if dsF (g 7 i) (g 8 i) (g 7 j) (g 8 j) = 1 then 1 else 0
def ptP (pt : Nat → Option Nat) (i j : Nat) : Nat → Option Nat := fun x => if x = i then some j else if x = j then some i else pt x
def ptN (pt : Nat → Option Nat) (i j : Nat) : Nat → Option Nat := fun x => if x = i ∨ x = j then none else pt x
def dnC (dn : Nat → Nat) (i k : Nat) : Nat → Nat := fun x => if x = i then k else dn x
def rdC (rd : Nat → Nat → Int32) (j l i : Nat) : Nat → Nat → Int32 := fun x p => if x = j ∧ p = l then nI i else rd x p
def bts (n m : Nat) (pt : Nat → Option Nat) (dn dl : Nat → Nat) (df rd g wg : Nat → Nat → Int32) : Nat → Int32 × (Nat → Nat → Int32) × (Nat → Nat → Int32)
  | 0 => (0, g, wg)
  | k + 1 => ((bts n m pt dn dl df rd g wg k).1 + (btA n pt dn dl df (bts n m pt dn dl df rd g wg k).2.1).1, fld stepZ (btW n m rd (btA n pt dn dl df (bts n m pt dn dl df rd g wg k).2.1).2 (bts n m pt dn dl df rd g wg k).2.2).1 n, (btW n m rd (btA n pt dn dl df (bts n m pt dn dl df rd g wg k).2.1).2 (bts n m pt dn dl df rd g wg k).2.2).2)
theorem tell8 {n : Nat} {g : Nat → Nat → Int32} {pt : Nat → Option Nat} {dn : Nat → Nat} : fld (fun a i => a + tellF g pt dn i 8) 0 n = sumF n g 2 := rfl
section CMUT
variable {S : St} {ad : Nat → Nat → Nat} {tl n m B : Nat} {tb dl dn : Nat → Nat} {df g wg rd I0 I R : Nat → Nat → Int32} {pt : Nat → Option Nat} {bt u v : Int32} {Q : Nat → Nat → Option Nat}
theorem HC.refs {g' : Nat → Nat → Int32} {pt' : Nat → Option Nat} {dn' : Nat → Nat} (hj : Inj ad) (h : HC S ad tl tb dl df n g pt dn bt m wg rd) (hQ : ∀ f a, f ≠ 12 → f ≠ 14 → Q f a = sQ S f a) (hQa : ∀ f a, (∀ i, i < n → a ≠ ad 25 i) → Q f a = sQ S f a) (hI : ∀ f a, f < 7 → I f a = sI S f a) (hIa : ∀ f a, (∀ i, i < n → a ≠ ad 25 i) → I f a = sI S f a)
    (hRF : ∀ i, i < n → Q 12 (ad 25 i) = some (ad 10 (dn' i)) ∧ dn' i < 8 ∧ Q 14 (ad 25 i) = (pt' i).map (ad 25) ∧ ∀ j, pt' i = some j → j < n) (hV : ∀ f i, 7 ≤ f → i < n → I f (ad 25 i) = g' f i) : HC (qS S I Q) ad tl tb dl df n g' pt' dn' bt m wg rd ∧ Fr (fun t _ => t ≠ 25) S (qS S I Q) ad ad := by
  obtain ⟨⟨a1, a2, a3, a4, a5, a6, a7, a8, a9⟩, ⟨b1, b2, b3, b4⟩, c, ⟨d1, d2, d3⟩, ⟨e1, e2, e3⟩, f, n2, m2, g1, g2, g3⟩ := h
  have q : ∀ f t i, t ≠ 25 → Q f (ad t i) = sQ S f (ad t i) := fun f t i ht => hQa f _ (fun i' _ e => ht (hj _ _ _ _ e).1)
  have qi : ∀ f t i, t ≠ 25 → I f (ad t i) = sI S f (ad t i) := fun f t i ht => hIa f _ (fun i' _ e => ht (hj _ _ _ _ e).1)
  have l : ∀ {L A t k n : Nat}, LiS S ad L A t k n → LiS (qS S I Q) ad L A t k n := fun z => ⟨z.1, (hI _ _ (by decide)).trans z.2.1, z.2.2.1, z.2.2.2.1, z.2.2.2.2.elim (fun w => Or.inl ⟨w.1, (hQ 1 _ (by decide) (by decide)).trans w.2⟩) (fun w => Or.inr ⟨w.1, (hQ 1 _ (by decide) (by decide)).trans w.2.1, w.2.2⟩)⟩
  have fl : ∀ {B n m : Nat}, FL S ad B n m → FL (qS S I Q) ad B n m := fun z => ⟨z.1, (hQ 21 _ (by decide) (by decide)).trans z.2.1, (hQ 22 _ (by decide) (by decide)).trans z.2.2.1, l z.2.2.2.1, l z.2.2.2.2.1, fun j hj' => ⟨(hQ 29 _ (by decide) (by decide)).trans (z.2.2.2.2.2.1 j hj').1, (z.2.2.2.2.2.1 j hj').2⟩, fun i hi => (hI _ _ (by decide)).trans (z.2.2.2.2.2.2 i hi)⟩
  refine ⟨⟨⟨a1, (q 33 1 0 (by decide)).trans a2, (q 34 1 0 (by decide)).trans a3, (q 35 1 0 (by decide)).trans a4, (q 36 1 0 (by decide)).trans a5, (q 37 1 0 (by decide)).trans a6, a7, (q 24 2 0 (by decide)).trans a8, a9⟩, ⟨(qi 25 2 0 (by decide)).trans b1, b2, b3, b4⟩, l c, ⟨fl d1, hRF, fun k hk => ?_⟩, ⟨hV, fun f j k1 k2 => (qi f 26 j (by decide)).trans (e2 f j k1 k2), (qi 23 20 0 (by decide)).trans e3⟩, f, n2, m2, g1, g2, fl g3⟩, ⟨⟨fun a ha => ⟨ha, rfl, rfl⟩, rfl⟩, fun t i ht _ => ⟨rfl, fun f => qi f t i ht, fun f => q f t i ht, rfl, rfl, rfl⟩⟩⟩
  obtain ⟨x1, x2, x3, x4, x5, x6⟩ := d3 k hk
  exact ⟨x1, (hI 3 _ (by decide)).trans x2, (hI 5 _ (by decide)).trans x3, x4, (hQ 4 _ (by decide) (by decide)).trans x5, x6⟩
theorem HC.rf (h : HC S ad tl tb dl df n g pt dn bt m wg rd) {i : Nat} (hi : i < n) : sQ S 12 (ad 25 i) = some (ad 10 (dn i)) ∧ dn i < 8 ∧ sQ S 14 (ad 25 i) = (pt i).map (ad 25) ∧ ∀ j, pt i = some j → j < n := h.2.2.2.1.2.1 i hi
theorem HC.vw (h : HC S ad tl tb dl df n g pt dn bt m wg rd) {f i : Nat} (hf : 7 ≤ f) (hi : i < n) : sI S f (ad 25 i) = g f i := h.2.2.2.2.1.1 f i hf hi
theorem s_dance {post : Int32 → St → Prop} {px : String → St → Prop} (hj : Inj ad) (h : HC S ad tl tb dl df n g pt dn bt m wg rd)
    (hok : ∀ i k, i < n → v = nI i → k < 8 → u = nI k → ∀ S', HC S' ad tl tb dl df n (up2 g 13 i 0) pt (dnC dn i k) bt m wg rd → Fr (fun t _ => t ≠ 25) S S' ad ad → post (nI (dn i)) S') (hno : (¬ ∃ i k, i < n ∧ v = nI i ∧ k < 8 ∧ u = nI k) → px "java/lang/IndexOutOfBoundsException" S) : w_H_dance post px S (ad 1 0) v u := by
  unfold w_H_dance
  refine s_needR h (fun i hi e => s_needD h (fun k hk ek => ⟨_, rfl, h.aR hi, ?_⟩) (fun c => hno (fun ⟨i, k, _, _, h3, h4⟩ => c ⟨k, h3, h4⟩))) (fun c => hno (fun ⟨i, k, h1, h2, _⟩ => c ⟨i, h1, h2⟩))
  obtain ⟨r1, r2, r3, r4⟩ := h.rf hi
  refine fun o e2 => ⟨_, e2.trans r1, h.aD r2, ?_⟩
  have e3 : sI S 3 (ad 10 (dn i)) = nI (dn i) := (h.2.2.2.1.2.2 _ r2).2.1
  rw [e3]
  rintro _ rfl _ rfl _ rfl
  have hz := HC.refs (I := up2 (sI S) 13 (ad 25 i) 0) (Q := up2 (sQ S) 12 (ad 25 i) (some (ad 10 k))) (g' := up2 g 13 i 0) (pt' := pt) (dn' := dnC dn i k) hj h (fun f a h12 _ => up2_f h12) (fun f a ha => up2_a (ha i hi)) (fun f a hf => up2_f (by omega)) (fun f a ha => up2_a (ha i hi))
  obtain ⟨z1, z2⟩ := hz (fun x hx => by
      obtain ⟨y1, y2, y3, y4⟩ := h.rf hx
      unfold dnC
      refine ⟨?_, ?_, (up2_f (by decide)).trans y3, y4⟩
      · by_cases c : x = i
        · subst c; rw [up2_at, if_pos rfl]
        · rw [up2_a (fun e => c (hj _ _ _ _ e).2), if_neg c]; exact y1
      · split
        · exact hk
        · exact y2) (fun f x hf hx => by
      by_cases c : x = i
      · subst c
        by_cases c2 : f = 13
        · subst c2; rw [up2_at, up2_at]
        · rw [up2_f c2, up2_f c2]; exact h.vw hf hx
      · rw [up2_a (fun e => c (hj _ _ _ _ e).2), up2_a c]; exact h.vw hf hx)
  exact hok i k hi e hk ek _ z1 z2
theorem s_beside {post : Int32 → Prop} {i j : Nat} (hC : CF (kS S I0 R) ad B n m pt dn dl df) (hL : Lk ad B n m I0 I g wg bt) (hi : i < n) (hjn : j < n) (hp : post (bsF g i j)) : w_R_isBeside post (kS S I R) (ad (B + 5) i) (some (ad (B + 5) j)) := by
  unfold w_R_isBeside
  refine ⟨_, rfl, hC.1.2.2.2.1.2.2.2.1 j hjn, ?_⟩
  rw [e_distance]
  simp only [kS_I, hL.vw (show 7 ≤ 7 by decide) hi, hL.vw (show 7 ≤ 8 by decide) hi, hL.vw (show 7 ≤ 7 by decide) hjn, hL.vw (show 7 ≤ 8 by decide) hjn]
  unfold bsF at hp
  exact ⟨fun c => by rw [if_pos c] at hp; exact hp, fun c => by rw [if_neg c] at hp; exact hp⟩
theorem s_pair {post : Int32 → St → Prop} {px : String → St → Prop} (hj : Inj ad) (h : HC S ad tl tb dl df n g pt dn bt m wg rd)
    (hok : ∀ i j, i < n → v = nI i → j < n → u = nI j → i ≠ j → pt i = none → pt j = none → bsF g i j = 1 → ∀ S', HC S' ad tl tb dl df n (up2 g 15 j 1) (ptP pt i j) dn bt m wg rd → Fr (fun t _ => t ≠ 25) S S' ad ad → post (sumF n (up2 g 15 j 1) 2) S')
    (hno3 : ∀ i j, i < n → v = nI i → j < n → u = nI j → i ≠ j → ¬ (pt i = none ∧ pt j = none ∧ bsF g i j = 1) → px "java/lang/IllegalStateException" S)
    (hno2 : ∀ i, i < n → v = nI i → u = nI i → px "java/lang/IllegalArgumentException" S)
    (hno : (¬ ∃ i j, i < n ∧ v = nI i ∧ j < n ∧ u = nI j) → px "java/lang/IndexOutOfBoundsException" S) : w_H_pair post px S (ad 1 0) v u := by
  unfold w_H_pair
  have hn := h.n8
  refine s_needR h (fun i hi e => s_needR h (fun j hjn ej => ⟨fun c => hno2 i hi e (c ▸ e), fun c => ⟨_, rfl, h.aR hi, ?_⟩⟩) (fun c => hno (fun ⟨i, k, _, _, h3, h4⟩ => c ⟨k, h3, h4⟩))) (fun c => hno (fun ⟨i, k, h1, h2, _⟩ => c ⟨i, h1, h2⟩))
  have hij : i ≠ j := fun q => c (by rw [e, ej, q])
  have hok := hok i j hi e hjn ej hij
  have hno3 := hno3 i j hi e hjn ej hij
  obtain ⟨r1, r2, r3, r4⟩ := h.rf hi
  obtain ⟨y1, y2, y3, y4⟩ := h.rf hjn
  intro o eo
  have eo := eo.trans r3
  refine ⟨fun c1 => ⟨_, rfl, h.aR hjn, fun o2 eo2 => ?_⟩, fun y c1 => hno3 (fun q => by rw [q.1] at eo; rw [eo] at c1; cases c1)⟩
  have p1 : pt i = none := by
    rw [c1] at eo
    cases hp : pt i with
    | none => rfl
    | some x => rw [hp] at eo; cases eo
  have eo2 := eo2.trans y3
  refine ⟨fun c2 => ?_, fun y c2 => hno3 (fun q => by rw [q.2.1] at eo2; rw [eo2] at c2; cases c2)⟩
  have p2 : pt j = none := by
    rw [c2] at eo2
    cases hp : pt j with
    | none => rfl
    | some x => rw [hp] at eo2; cases eo2
  refine s_beside (S := S) (I := sI S) (R := sR S) (B := 20) h.cf h.lk hi hjn ⟨fun c3 => hno3 (fun q => by rw [q.2.2] at c3; exact absurd c3 (by decide)), fun c3 => ?_⟩
  have b1 : bsF g i j = 1 := by
    unfold bsF at c3 ⊢
    split
    · rfl
    · rename_i q; rw [if_neg q] at c3; exact absurd rfl c3
  rintro _ rfl _ rfl S14 e14
  have hz := HC.refs (I := up2 (sI S) 15 (ad 25 j) 1) (Q := up2 (up2 (sQ S) 14 (ad 25 i) (some (ad 25 j))) 14 (ad 25 j) (some (ad 25 i))) (g' := up2 g 15 j 1) (pt' := ptP pt i j) (dn' := dn) hj h (fun f a _ h14 => (up2_f h14).trans (up2_f h14)) (fun f a ha => (up2_a (ha j hjn)).trans (up2_a (ha i hi))) (fun f a hf => up2_f (by omega)) (fun f a ha => up2_a (ha j hjn))
  obtain ⟨z1, z2⟩ := hz (fun x hx => by
      obtain ⟨x1, x2, x3, x4⟩ := h.rf hx
      refine ⟨(up2_f (by decide)).trans ((up2_f (by decide)).trans x1), x2, ?_, fun w hw => ?_⟩
      · unfold ptP
        by_cases c4 : x = i
        · subst c4
          rw [up2_a (fun e => hij (hj _ _ _ _ e).2), up2_at, if_pos rfl]; rfl
        · rw [if_neg c4]
          by_cases c5 : x = j
          · subst c5; rw [up2_at, if_pos rfl]; rfl
          · rw [up2_a (fun e => c5 (hj _ _ _ _ e).2), up2_a (fun e => c4 (hj _ _ _ _ e).2), if_neg c5]; exact x3
      · unfold ptP at hw
        split at hw
        · cases hw; exact hjn
        · split at hw
          · cases hw; exact hi
          · exact x4 w hw) (fun f x hf hx => by
      by_cases c4 : x = j
      · subst c4
        by_cases c2 : f = 15
        · subst c2; rw [up2_at, up2_at]
        · rw [up2_f c2, up2_f c2]; exact h.vw hf hx
      · rw [up2_a (fun e => c4 (hj _ _ _ _ e).2), up2_a c4]; exact h.vw hf hx)
  have e14 : S14 = qS S (up2 (sI S) 15 (ad 25 j) 1) (up2 (up2 (sQ S) 14 (ad 25 i) (some (ad 25 j))) 14 (ad 25 j) (some (ad 25 i))) := e14
  rw [← e14] at z1 z2
  refine fun o e => ⟨_, e.trans z1.qF.1, z1.qF.2, ?_⟩
  refine s_sumOf (S := S14) (I := sI S14) (R := sR S14) (B := 20) (w := 8) z1.cf z1.lk (by decide) ?_
  exact hok p1 p2 b1 S14 z1 z2
theorem s_part {post : Int32 → St → Prop} {px : String → St → Prop} (hj : Inj ad) (h : HC S ad tl tb dl df n g pt dn bt m wg rd)
    (hok : ∀ i j, i < n → v = nI i → pt i = some j → ∀ S', HC S' ad tl tb dl df n (up2 (up2 g 15 i 0) 15 j 0) (ptN pt i j) dn bt m wg rd → Fr (fun t _ => t ≠ 25) S S' ad ad → post (nI j) S')
    (hno2 : ∀ i, i < n → v = nI i → pt i = none → px "java/lang/IllegalStateException" S)
    (hno : (¬ ∃ i, i < n ∧ v = nI i) → px "java/lang/IndexOutOfBoundsException" S) : w_H_part post px S (ad 1 0) v := by
  unfold w_H_part
  refine s_needR h (fun i hi e => ⟨_, rfl, h.aR hi, ?_⟩) hno
  obtain ⟨r1, r2, r3, r4⟩ := h.rf hi
  intro o eo
  have eo := eo.trans r3
  cases hp : pt i with
  | none =>
    rw [hp] at eo
    exact ⟨fun _ => hno2 i hi e hp, fun y c => by rw [eo] at c; cases c⟩
  | some j =>
    have hjn := r4 j hp
    rw [hp] at eo
    refine ⟨(fun c => by rw [eo] at c; cases c), fun y c => ?_⟩
    rw [eo] at c
    cases c
    unfold w_R_standAlone
    rintro _ rfl _ rfl
    refine ⟨h.aR hjn, ?_⟩
    rintro _ rfl S' e'
    have hz := HC.refs (I := up2 (up2 (sI S) 15 (ad 25 i) 0) 15 (ad 25 j) 0) (Q := up2 (up2 (sQ S) 14 (ad 25 i) none) 14 (ad 25 j) none) (g' := up2 (up2 g 15 i 0) 15 j 0) (pt' := ptN pt i j) (dn' := dn) hj h (fun f a _ h14 => (up2_f h14).trans (up2_f h14)) (fun f a ha => (up2_a (ha j hjn)).trans (up2_a (ha i hi))) (fun f a hf => (up2_f (by omega)).trans (up2_f (by omega))) (fun f a ha => (up2_a (ha j hjn)).trans (up2_a (ha i hi)))
    obtain ⟨z1, z2⟩ := hz (fun x hx => by
        obtain ⟨x1, x2, x3, x4⟩ := h.rf hx
        refine ⟨(up2_f (by decide)).trans ((up2_f (by decide)).trans x1), x2, ?_, fun w hw => ?_⟩
        · unfold ptN
          by_cases c5 : x = j
          · subst c5; rw [up2_at, if_pos (Or.inr rfl)]; rfl
          · rw [up2_a (fun e => c5 (hj _ _ _ _ e).2)]
            by_cases c4 : x = i
            · subst c4
              rw [up2_at, if_pos (Or.inl rfl)]; rfl
            · rw [up2_a (fun e => c4 (hj _ _ _ _ e).2), if_neg (fun q => q.elim c4 c5)]; exact x3
        · unfold ptN at hw
          split at hw
          · cases hw
          · exact x4 w hw) (fun f x hf hx => by
        by_cases c2 : f = 15
        · subst c2
          by_cases c5 : x = j
          · subst c5; rw [up2_at, up2_at]
          · rw [up2_a (fun e => c5 (hj _ _ _ _ e).2), up2_a c5]
            by_cases c4 : x = i
            · subst c4; rw [up2_at, up2_at]
            · rw [up2_a (fun e => c4 (hj _ _ _ _ e).2), up2_a c4]; exact h.vw hf hx
        · rw [up2_f c2, up2_f c2, up2_f c2, up2_f c2]; exact h.vw hf hx)
    have e' : S' = qS S (up2 (up2 (sI S) 15 (ad 25 i) 0) 15 (ad 25 j) 0) (up2 (up2 (sQ S) 14 (ad 25 i) none) 14 (ad 25 j) none) := e'
    rw [← e'] at z1 z2
    have e6 : sI S' 6 (ad 25 j) = nI j := z1.2.2.2.1.1.2.2.2.2.2.2 j hjn
    rw [e6]
    exact hok i j hi e hp S' z1 z2
theorem s_wind {post : Int32 → St → Prop} {px : String → St → Prop} (hj : Inj ad) (h : HC S ad tl tb dl df n g pt dn bt m wg rd)
    (hok : ∀ i, i < n → v = nI i → ¬ u < (-200) → u ≤ 200 → ∀ S', HC S' ad tl tb dl df n (up2 g 10 i (wdF (g 10 i) u)) pt dn bt m wg rd → Fr (fun t _ => 27 ≤ t) S S' ad ad → post (wdF (g 10 i) u) S')
    (hno2 : ∀ i, i < n → v = nI i → ¬ (¬ u < (-200) ∧ u ≤ 200) → px "java/lang/IllegalArgumentException" S)
    (hno : (¬ ∃ i, i < n ∧ v = nI i) → px "java/lang/IndexOutOfBoundsException" S) : w_H_wind post px S (ad 1 0) v u := by
  unfold w_H_wind
  refine s_needR h (fun i hi e => ⟨fun c => hno2 i hi e (fun q => q.1 c), fun c => ⟨fun c2 => ⟨_, rfl, h.aR hi, ?_⟩, fun c2 => hno2 i hi e (fun q => c2 q.2)⟩⟩) hno
  refine s_windBy (S := S) (I := sI S) (R := sR S) (B := 20) hj h.lk hi (fun I' hL => ?_)
  obtain ⟨z1, z2⟩ := h.lks hj hL
  have e10 : sI (kS S I' (sR S)) 10 (ad 25 i) = wdF (g 10 i) u := (z1.vw (by decide) hi).trans up2_at
  rw [e10]
  exact hok i hi e c c2 _ z1 z2
theorem s_call {post : Int32 → St → Prop} {px : String → St → Prop} (hj : Inj ad) (h : HC S ad tl tb dl df n g pt dn bt m wg rd) (hW : OkW n m wg rd)
    (hok : ∀ j i l, j < m → v = nI j → i < n → u = nI i → l < 8 → wg 30 j = nI l → ∀ S', HC S' ad tl tb dl df n g pt dn bt m (up2 wg 30 j (nI (l + 1))) (rdC rd j l i) → Fr (fun t _ => 28 ≤ t) S S' ad ad → post (nI (l + 1)) S')
    (hno2 : ∀ j i, j < m → v = nI j → i < n → u = nI i → wg 30 j = nI 8 → px "java/lang/IllegalStateException" S)
    (hno : (¬ ∃ j i, j < m ∧ v = nI j ∧ i < n ∧ u = nI i) → px "java/lang/IndexOutOfBoundsException" S) : w_H_call post px S (ad 1 0) v u := by
  unfold w_H_call
  refine s_needN h (fun j hjm e => s_needR h (fun i hi ei => ⟨_, rfl, h.aN hjm, ?_⟩) (fun c => hno (fun ⟨i, k, _, _, h3, h4⟩ => c ⟨k, h3, h4⟩))) (fun c => hno (fun ⟨i, k, h1, h2, _⟩ => c ⟨i, h1, h2⟩))
  obtain ⟨-, -, -, l, t, hl, el, et, hlt, hr⟩ := hW j hjm
  have z30 : sI S 30 (ad 26 j) = nI l := (h.2.2.2.2.1.2.1 30 j (by decide) hjm).trans el
  rw [z30]
  have e8 : nI l < 8 ↔ l < 8 := nI_ltI (b := 8) (by omega) (by decide)
  rw [e8]
  refine ⟨fun c => ⟨_, rfl, h.aR hi, ?_⟩, fun c => hno2 j i hjm e hi ei (by rw [el, show l = 8 by omega])⟩
  have e6 : sI S 6 (ad 25 i) = nI i := h.2.2.2.1.1.2.2.2.2.2.2 i hi
  obtain ⟨q1, q2, q3⟩ := h.2.2.2.1.1.2.2.2.2.2.1 j hjm
  have q1 : sQ S 29 (ad 26 j) = some (ad 27 j) := q1
  have q2 : isA S 10 (ad 27 j) := q2
  have q3 : sN S (ad 27 j) = 8 := q3
  unfold w_N_addToRound
  rw [e6, z30]
  refine ⟨fun c => absurd c (nI_pos (by omega)), fun _ => fun o eo => ⟨_, eo.trans q1, q2, ?_⟩⟩
  rw [q3]
  refine ⟨fun c => absurd c (nI_ge (by omega) (by decide)), fun _ => fun o eo => ⟨_, eo.trans q1, q2, ?_⟩⟩
  rw [q3, nI_clamp (show l < 2 ^ 31 by omega)]
  refine ⟨vp_in_nI (by omega) (by decide), ?_⟩
  rintro _ rfl S9 e9
  have e9 : S9 = kS S (up2 (sI S) 30 (ad 26 j) (nI (l + 1))) (up2 (sR S) (ad 27 j) l (nI i)) := by
    rw [e9]
    have : sI (pR S (ad 27 j) l (nI i)) 30 (ad 26 j) + 1 = nI (l + 1) := by
      show sI S 30 (ad 26 j) + 1 = _
      rw [z30, nI_1]
    rw [this]
    rfl
  have k1 : HC S9 ad tl tb dl df n g pt dn bt m (up2 wg 30 j (nI (l + 1))) (rdC rd j l i) := by
    rw [e9]
    obtain ⟨b1, b2, b3, b4⟩ := h.2.1
    refine h.kk (fun a => up2_f (by decide)) (fun a => up2_f (by decide)) ⟨(up2_f (by decide)).trans b1, b2, b3, fun x hx => ?_⟩ (fun k' hk' => ?_) ⟨fun f x h1 h2 => ?_, fun f x h1 h2 => ?_, ?_⟩ (fun x p h1 h2 => ?_)
    · rw [row_g (fun e => by have := (hj _ _ _ _ e).1; omega)]; exact b4 x hx
    · obtain ⟨x1, x2, x3, x4, x5, x6, x7, x8⟩ := h.2.2.2.1.2.2 k' hk'
      refine ⟨x1, by rw [kS_I, up2_f (by decide)]; exact x2, by rw [kS_I, up2_f (by decide)]; exact x3, x4, x5, x6, x7, fun p => ?_⟩
      rw [kS_R, row_g (fun e => by have := (hj _ _ _ _ e).1; omega)]; exact x8 p
    · rw [up2_a (fun e => by have := (hj _ _ _ _ e).1; omega)]; exact h.vw h1 h2
    · by_cases c2 : x = j
      · subst c2
        by_cases c3 : f = 30
        · subst c3; rw [up2_at, up2_at]
        · rw [up2_f c3, up2_f c3]; exact h.2.2.2.2.1.2.1 f x h1 h2
      · rw [up2_a (fun e => c2 (hj _ _ _ _ e).2), up2_a c2]; exact h.2.2.2.2.1.2.1 f x h1 h2
    · rw [up2_f (by decide)]; exact h.2.2.2.2.1.2.2
    · unfold rdC
      by_cases c2 : x = j
      · subst c2
        by_cases c3 : p = l
        · subst c3; rw [up2_at, if_pos ⟨rfl, rfl⟩]
        · rw [up2_a c3, if_neg (fun q => c3 q.2)]; exact h.2.2.2.2.2.1 x p h1 h2
      · rw [row_g (fun e => c2 (hj _ _ _ _ e).2), if_neg (fun q => c2 q.1)]; exact h.2.2.2.2.2.1 x p h1 h2
  have f1 : Fr (fun t _ => 28 ≤ t) S S9 ad ad := by
    rw [e9]
    exact kfr (fun t i ht => ⟨fun f => up2_a (fun e => by have := (hj _ _ _ _ e).1; omega), row_g (fun e => by have := (hj _ _ _ _ e).1; omega)⟩)
  have z9 : sI S9 30 (ad 26 j) = nI (l + 1) := (k1.2.2.2.2.1.2.1 30 j (by decide) hjm).trans up2_at
  rw [z9]
  exact hok j i l hjm e hi ei c el S9 k1 f1
theorem s_pass {post : Int32 → St → Prop} {px : String → St → Prop} (hj : Inj ad) (h : HC S ad tl tb dl df n g pt dn bt m wg rd)
    (hok : ∀ k, 1 ≤ k → k ≤ 200 → v = nI k → ∀ S', HC S' ad tl tb dl df n (bts n m pt dn dl df rd g wg k).2.1 pt dn (bt + nI k) m (bts n m pt dn dl df rd g wg k).2.2 rd → Fr (fun t _ => 27 ≤ t) S S' ad ad → post (bts n m pt dn dl df rd g wg k).1 S')
    (hno : (¬ ∃ k, 1 ≤ k ∧ k ≤ 200 ∧ v = nI k) → px "java/lang/IllegalArgumentException" S) : w_H_pass post px S (ad 1 0) v := by
  unfold w_H_pass
  refine s_beats (fun k h1 h2 e => ?_) hno
  replace hok := hok k h1 h2 e
  subst e
  refine ⟨fun q S' a x => ∃ i I', i ≤ k ∧ q = k - i ∧ x = nI i ∧ S' = kS S I' (sR S) ∧ a = (bts n m pt dn dl df rd g wg i).1 ∧ Lk ad 20 n m (sI S) I' (bts n m pt dn dl df rd g wg i).2.1 (bts n m pt dn dl df rd g wg i).2.2 (bt + nI i), ⟨k, 0, sI S, Nat.zero_le _, rfl, rfl, rfl, rfl, ?_⟩, ?_⟩
  · rw [nI_0, Int32.add_zero]; exact h.lk
  · rintro q S' a x ⟨i, I', hi, rfl, rfl, rfl, rfl, hL⟩
    refine ⟨fun c => ?_, fun c => fun o eo => ⟨_, eo.trans h.qF.1, h.qF.2, ?_⟩⟩
    · have : i = k := by
        have := (nI_leI (by omega) (by omega)).mp c
        omega
      subst this
      obtain ⟨z1, z2⟩ := h.lks hj hL
      exact hok _ z1 z2
    · have hlt : i < k := Nat.not_le.mp fun q => c (nI_le q (by omega))
      refine s_beat hj h.cf h.2.2.2.2.2.1 hL (fun I2 h2 => ?_)
      rintro _ rfl _ rfl
      refine ⟨k - (i + 1), by omega, i + 1, I2, hlt, rfl, nI_1 i, rfl, rfl, ?_⟩
      rw [← nI_1, ← Int32.add_assoc]
      exact h2
end CMUT
