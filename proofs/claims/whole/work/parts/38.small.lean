/-! frames of single changes; what calls need -/
theorem row_g {α : Type} {R : Nat → Nat → α} {a b j : Nat} {v : α} (h : b ≠ a) : up2 R a j v b = R b := by
  funext q
  simp [up2, h]
section FRM
variable {P : Nat → Nat → Prop} {S S' : St} {ad ad' : Nat → Nat → Nat} {q k n f j : Nat}
theorem Fr.tmp (h : Fr P S S' ad ad') (hq : q ∉ sL S) : ∀ t i, P t i → ad t i ∈ sL S → ad' t i ≠ q := fun t i hp hm e => hq (by rw [← e, (h.2 t i hp hm).1]; exact hm)
theorem nam {t0 i0 : Nat} (hj : Inj ad') (hn : ¬ P t0 i0) : ∀ t i, P t i → ad t i ∈ sL S → ad' t i ≠ ad' t0 i0 := fun t i hp _ e => hn (by obtain ⟨a, b⟩ := hj _ _ _ _ e; rw [← a, ← b]; exact hp)
theorem Fr.new (h : Fr P S S' ad ad') (hq : q ∉ sL S') : Fr P S (pNew S' q k n) ad ad' := by
  have h2 : Fr P S' (pNew S' q k n) ad' ad' := ⟨gle_new hq, fun t i _ hm => by
    have hne : ad' t i ≠ q := fun e => hq (e ▸ hm)
    exact ⟨rfl, fun f => if_neg hne, fun f => if_neg hne, if_neg hne, if_neg hne, if_neg hne⟩⟩
  exact h.tr h2
theorem Fr.I {v : Int32} (h : Fr P S S' ad ad') (hq : ∀ t i, P t i → ad t i ∈ sL S → ad' t i ≠ q) : Fr P S (pI S' f q v) ad ad' := ⟨⟨fun a ha => h.1.1 a ha, h.1.2⟩, fun t i hp hm => by
  obtain ⟨a1, a2, a3, a4, a5, a6⟩ := h.2 t i hp hm
  have hne : ad t i ≠ q := fun e => hq t i hp hm (a1.trans e)
  exact ⟨a1, fun f' => (up2_a hne).trans (a2 f'), a3, a4, a5, a6⟩⟩
theorem Fr.Q {v : Option Nat} (h : Fr P S S' ad ad') (hq : ∀ t i, P t i → ad t i ∈ sL S → ad' t i ≠ q) : Fr P S (pQ S' f q v) ad ad' := ⟨⟨fun a ha => h.1.1 a ha, h.1.2⟩, fun t i hp hm => by
  obtain ⟨a1, a2, a3, a4, a5, a6⟩ := h.2 t i hp hm
  have hne : ad t i ≠ q := fun e => hq t i hp hm (a1.trans e)
  exact ⟨a1, a2, fun f' => (up2_a hne).trans (a3 f'), a4, a5, a6⟩⟩
theorem Fr.R {v : Int32} (h : Fr P S S' ad ad') (hq : ∀ t i, P t i → ad t i ∈ sL S → ad' t i ≠ q) : Fr P S (pR S' q j v) ad ad' := ⟨⟨fun a ha => h.1.1 a ha, h.1.2⟩, fun t i hp hm => by
  obtain ⟨a1, a2, a3, a4, a5, a6⟩ := h.2 t i hp hm
  have hne : ad t i ≠ q := fun e => hq t i hp hm (a1.trans e)
  exact ⟨a1, a2, a3, (row_g hne).trans a4, a5, a6⟩⟩
theorem Fr.Rw {F : Nat → Int32} (h : Fr P S S' ad ad') (hq : ∀ t i, P t i → ad t i ∈ sL S → ad' t i ≠ q) : Fr P S (pRow S' q F) ad ad' := ⟨⟨fun a ha => h.1.1 a ha, h.1.2⟩, fun t i hp hm => by
  obtain ⟨a1, a2, a3, a4, a5, a6⟩ := h.2 t i hp hm
  have hne : ad t i ≠ q := fun e => hq t i hp hm (a1.trans e)
  exact ⟨a1, a2, a3, (if_neg hne : va_up (sR S') q F (ad t i) = _).trans a4, a5, a6⟩⟩
theorem Fr.Pp {v : Option Nat} (h : Fr P S S' ad ad') (hq : ∀ t i, P t i → ad t i ∈ sL S → ad' t i ≠ q) : Fr P S (pP S' q j v) ad ad' := ⟨⟨fun a ha => h.1.1 a ha, h.1.2⟩, fun t i hp hm => by
  obtain ⟨a1, a2, a3, a4, a5, a6⟩ := h.2 t i hp hm
  have hne : ad t i ≠ q := fun e => hq t i hp hm (a1.trans e)
  exact ⟨a1, a2, a3, a4, (row_g hne).trans a5, a6⟩⟩
theorem Fr.J {v : Int64} (h : Fr P S S' ad ad') (hq : ∀ t i, P t i → ad t i ∈ sL S → ad' t i ≠ q) : Fr P S (pJ S' q j v) ad ad' := ⟨⟨fun a ha => h.1.1 a ha, h.1.2⟩, fun t i hp hm => by
  obtain ⟨a1, a2, a3, a4, a5, a6⟩ := h.2 t i hp hm
  have hne : ad t i ≠ q := fun e => hq t i hp hm (a1.trans e)
  exact ⟨a1, a2, a3, a4, a5, (row_g hne).trans a6⟩⟩
end FRM
/-! ranges -/
theorem inF_01 {v a b : Int32} : inF v a b = 0 ∨ inF v a b = 1 := by
  unfold inF
  split
  · exact Or.inl rfl
  · split
    · exact Or.inl rfl
    · exact Or.inr rfl
theorem inF_lt {v : Int32} {n : Nat} (hn : n < 2 ^ 31) : inF v 0 (nI n - 1) = 0 ↔ ¬ ∃ i, i < n ∧ v = nI i := by
  have e : ∀ x : Int32, nI n - 1 < x ↔ ¬ (x < 0 ∨ ∃ i, i < n ∧ x = nI i) ∨ (n = 0 ∧ ¬ x < 0) := by
    intro x
    cases n with
    | zero =>
      have e1 : nI 0 - 1 = -1 := by decide
      rw [e1]
      have q : (-1 : Int32) < x ↔ ¬ x < 0 := by
        rw [Int32.lt_iff_toInt_lt, Int32.lt_iff_toInt_lt]
        have h1 : (-1 : Int32).toInt = -1 := by decide
        have h2 : (0 : Int32).toInt = 0 := by decide
        omega
      rw [q]
      simp
    | succ k =>
      rw [nI_pred]
      constructor
      · intro h
        refine Or.inl ?_
        rintro (c | ⟨i, hi, rfl⟩)
        · have := nI_pos' (n := k) (by omega)
          rw [Int32.lt_iff_toInt_lt] at h c
          rw [Int32.le_iff_toInt_le] at this
          omega
        · exact nI_nlt (by omega) (by omega) h
      · rintro (c | ⟨c, -⟩)
        · have hx : ¬ x < 0 := fun q => c (Or.inl q)
          obtain ⟨j, hj, rfl⟩ := nI_of hx
          refine nI_lt ?_ hj
          exact Nat.not_le.mp fun q => c (Or.inr ⟨j, by omega, rfl⟩)
        · cases c
  unfold inF
  by_cases h1 : v < 0
  · rw [if_pos h1]
    refine ⟨fun _ => ?_, fun _ => rfl⟩
    rintro ⟨i, hi, rfl⟩
    exact nI_pos (by omega) h1
  · rw [if_neg h1]
    by_cases h2 : nI n - 1 < v
    · rw [if_pos h2]
      refine ⟨fun _ => ?_, fun _ => rfl⟩
      rintro ⟨i, hi, e3⟩
      rcases (e v).mp h2 with c | ⟨c, -⟩
      · exact c (Or.inr ⟨i, hi, e3⟩)
      · omega
    · rw [if_neg h2]
      refine ⟨fun c => absurd c (by decide), fun c => ?_⟩
      exact absurd ((e v).mpr (Or.inl (fun q => q.elim h1 c))) h2
theorem inF_rg {v : Int32} {lo hi : Nat} (hl : lo < 2 ^ 31) (hh : hi < 2 ^ 31) : inF v (nI lo) (nI hi) = 0 ↔ ¬ ∃ k, lo ≤ k ∧ k ≤ hi ∧ v = nI k := by
  unfold inF
  by_cases h1 : v < nI lo
  · rw [if_pos h1]
    refine ⟨fun _ => ?_, fun _ => rfl⟩
    rintro ⟨k, h2, h3, rfl⟩
    exact nI_nlt h2 (by omega) h1
  · rw [if_neg h1]
    have h0 : ¬ v < 0 := fun c => h1 (by
      have := nI_pos' hl
      rw [Int32.lt_iff_toInt_lt] at c ⊢
      rw [Int32.le_iff_toInt_le] at this
      omega)
    obtain ⟨j, hj, rfl⟩ := nI_of h0
    have hlj : lo ≤ j := Nat.not_lt.mp fun q => h1 (nI_lt q hl)
    by_cases h2 : nI hi < nI j
    · rw [if_pos h2]
      refine ⟨fun _ => ?_, fun _ => rfl⟩
      rintro ⟨k, h3, h4, e⟩
      have := (nI_eq hj (by omega)).mp e
      have := (nI_ltI hh hj).mp h2
      omega
    · rw [if_neg h2]
      refine ⟨fun c => absurd c (by decide), fun c => absurd ⟨j, hlj, ?_, rfl⟩ c⟩
      exact Nat.not_lt.mp fun q => h2 (nI_lt q hj)
theorem s_inL {post : Int32 → Prop} {S : St} {v : Int32} {n : Nat} (hn : n < 2 ^ 31) (hok : ∀ i, i < n → v = nI i → post 1) (hno : (¬ ∃ i, i < n ∧ v = nI i) → post 0) : w_M_isIn post S v 0 (nI n - 1) := by
  rw [e_isIn]
  rcases inF_01 (v := v) (a := 0) (b := nI n - 1) with h | h
  · rw [h]; exact hno ((inF_lt hn).mp h)
  · rw [h]
    have h2 : ∃ i, i < n ∧ v = nI i := Classical.byContradiction fun c => by
      have := (inF_lt hn).mpr c
      rw [h] at this
      exact absurd this (by decide)
    obtain ⟨i, hi, e⟩ := h2
    exact hok i hi e
theorem s_inR {post : Int32 → Prop} {S : St} {v : Int32} (lo hi : Nat) (hl : lo < 2 ^ 31) (hh : hi < 2 ^ 31) (hok : ∀ k, lo ≤ k → k ≤ hi → v = nI k → post 1) (hno : (¬ ∃ k, lo ≤ k ∧ k ≤ hi ∧ v = nI k) → post 0) : w_M_isIn post S v (nI lo) (nI hi) := by
  rw [e_isIn]
  rcases inF_01 (v := v) (a := nI lo) (b := nI hi) with h | h
  · rw [h]; exact hno ((inF_rg hl hh).mp h)
  · rw [h]
    have h2 : ∃ k, lo ≤ k ∧ k ≤ hi ∧ v = nI k := Classical.byContradiction fun c => by
      have := (inF_rg hl hh).mpr c
      rw [h] at this
      exact absurd this (by decide)
    obtain ⟨k, h3, h4, e⟩ := h2
    exact hok k h3 h4 e
/-! what calls of the class need -/
section NEED
variable {S : St} {ad : Nat → Nat → Nat} {tl n m : Nat} {tb dl dn : Nat → Nat} {df g wg rd : Nat → Nat → Int32} {pt : Nat → Option Nat} {bt : Int32} {v : Int32}
theorem dNO_nI {i : Nat} (hn : n ≤ 8) (hi : i < n) : dNO n (nI i) = some i := by
  unfold dNO
  rw [if_neg (nI_pos (by omega)), if_neg (nI_ge hi (by omega)), nI_clamp (by omega)]
theorem dNO_no (hn : n ≤ 8) (h : ¬ ∃ i, i < n ∧ v = nI i) : dNO n v = none := by
  cases hd : dNO n v with
  | none => rfl
  | some i => exact absurd ⟨i, dNO_lt (by omega) hd⟩ h
theorem HC.n8 (h : HC S ad tl tb dl df n g pt dn bt m wg rd) : n ≤ 8 := h.2.2.2.1.1.2.2.2.1.2.2.1
theorem HC.qF (h : HC S ad tl tb dl df n g pt dn bt m wg rd) : sQ S 36 (ad 1 0) = some (ad 20 0) ∧ isA S 3 (ad 20 0) := ⟨h.1.2.2.2.2.1, h.2.2.2.1.1.1⟩
theorem HC.aR (h : HC S ad tl tb dl df n g pt dn bt m wg rd) {i : Nat} (hi : i < n) : isA S 2 (ad 25 i) := h.2.2.2.1.1.2.2.2.1.2.2.2.1 i hi
theorem HC.aN (h : HC S ad tl tb dl df n g pt dn bt m wg rd) {i : Nat} (hi : i < m) : isA S 5 (ad 26 i) := h.2.2.2.1.1.2.2.2.2.1.2.2.2.1 i hi
theorem HC.aD (h : HC S ad tl tb dl df n g pt dn bt m wg rd) {k : Nat} (hk : k < 8) : isA S 1 (ad 10 k) := (h.2.2.2.1.2.2 k hk).1
theorem s_dN {post : Option Nat → Prop} (h : HC S ad tl tb dl df n g pt dn bt m wg rd) (hok : ∀ i, i < n → v = nI i → post (some (ad 25 i))) (hno : (¬ ∃ i, i < n ∧ v = nI i) → post none) : w_F_dancerOrNull post S (ad 20 0) v := by
  refine s_dNO (S := S) (I := sI S) (R := sR S) (I0 := sI S) (B := 20) h.2.2.2.1 Ev.rf ?_
  by_cases c : ∃ i, i < n ∧ v = nI i
  · obtain ⟨i, hi, rfl⟩ := c
    rw [dNO_nI h.n8 hi]
    exact hok i hi rfl
  · rw [dNO_no h.n8 c]
    exact hno c
theorem s_needR {post : Option Nat → Prop} {px : String → Prop} (h : HC S ad tl tb dl df n g pt dn bt m wg rd) (hok : ∀ i, i < n → v = nI i → post (some (ad 25 i))) (hno : (¬ ∃ i, i < n ∧ v = nI i) → px "java/lang/IndexOutOfBoundsException") : w_H_neededDancer post px S (ad 1 0) v := by
  unfold w_H_neededDancer
  refine fun o e => ⟨_, e.trans h.qF.1, h.qF.2, s_dN h (fun i hi e2 => ⟨(fun c => by cases c), fun y c => ?_⟩) (fun c => ⟨fun _ => hno c, fun y c => by cases c⟩)⟩
  cases c
  exact hok i hi e2
theorem s_getD {post : Option Nat → Prop} {k : Nat} (h : HC S ad tl tb dl df n g pt dn bt m wg rd) (hk : k < 8) (hp : post (some (ad 10 k))) : w_AL_get post S (ad 4 0) (nI k) := s_get h.2.2.1 hk hp
theorem s_needD {post : Option Nat → Prop} {px : String → Prop} (h : HC S ad tl tb dl df n g pt dn bt m wg rd) (hok : ∀ k, k < 8 → v = nI k → post (some (ad 10 k))) (hno : (¬ ∃ k, k < 8 ∧ v = nI k) → px "java/lang/IndexOutOfBoundsException") : w_H_neededDance post px S (ad 1 0) v := by
  have q4 : sQ S 34 (ad 1 0) = some (ad 4 0) := h.1.2.2.1
  have a4 := h.2.2.1.1
  have z4 : sI S 2 (ad 4 0) = nI 8 := h.2.2.1.2.1
  unfold w_H_neededDance
  refine ⟨fun c => hno ?_, fun c => fun o e => ⟨_, e.trans q4, a4, ?_⟩⟩
  · rintro ⟨k, hk, rfl⟩
    exact nI_pos (by omega) c
  · rw [e_size, z4]
    obtain ⟨j, hj, rfl⟩ := nI_of c
    refine ⟨fun c2 => fun o e => ⟨_, e.trans q4, a4, ?_⟩, fun c2 => hno ?_⟩
    · have hj8 : j < 8 := (nI_ltI hj (by decide)).mp c2
      exact s_getD h hj8 ⟨_, rfl, h.aD hj8, hok j hj8 rfl⟩
    · rintro ⟨k, hk, e⟩
      have := (nI_eq hj (by omega)).mp e
      exact c2 (nI_lt (by omega) (by decide))
theorem s_needN {post : Option Nat → Prop} {px : String → Prop} (h : HC S ad tl tb dl df n g pt dn bt m wg rd) (hok : ∀ k, k < m → v = nI k → post (some (ad 26 k))) (hno : (¬ ∃ k, k < m ∧ v = nI k) → px "java/lang/IndexOutOfBoundsException") : w_H_neededWinder post px S (ad 1 0) v := by
  have q22 : sQ S 22 (ad 20 0) = some (ad 23 0) := h.2.2.2.1.1.2.2.1
  have hl : LiS S ad 23 24 26 5 m := h.2.2.2.1.1.2.2.2.2.1
  have hm := hl.2.2.1
  unfold w_H_neededWinder
  refine ⟨fun c => hno ?_, fun c => fun o e => ⟨_, e.trans h.qF.1, h.qF.2, fun o e => ⟨_, e.trans q22, hl.1, ?_⟩⟩⟩
  · rintro ⟨k, hk, rfl⟩
    exact nI_pos (by omega) c
  · rw [e_size, hl.2.1]
    obtain ⟨j, hj, rfl⟩ := nI_of c
    refine ⟨fun c2 => fun o e => ⟨_, e.trans h.qF.1, h.qF.2, fun o e => ⟨_, e.trans q22, hl.1, ?_⟩⟩, fun c2 => hno ?_⟩
    · have hjm : j < m := (nI_ltI hj (by omega)).mp c2
      exact s_get hl hjm ⟨_, rfl, h.aN hjm, hok j hjm rfl⟩
    · rintro ⟨k, hk, e⟩
      have := (nI_eq hj (by omega)).mp e
      exact c2 (nI_lt (by omega) (by omega))
theorem s_kind {post : Prop} {px : String → Prop} (K : Nat) (hK : K < 2 ^ 31) (hok : ∀ w, w < K → v = nI w → post) (hno : (¬ ∃ w, w < K ∧ v = nI w) → px "java/lang/IndexOutOfBoundsException") : w_H_needKind post px S v (nI K) := by
  unfold w_H_needKind
  refine ⟨fun c => hno ?_, fun c => ?_⟩
  · rintro ⟨k, hk, rfl⟩
    exact nI_pos (by omega) c
  · obtain ⟨j, hj, rfl⟩ := nI_of c
    refine ⟨fun c2 => hok j ((nI_ltI hj hK).mp c2) rfl, fun c2 => hno ?_⟩
    rintro ⟨k, hk, e⟩
    have := (nI_eq hj (by omega)).mp e
    exact c2 (nI_lt (by omega) hK)
theorem s_beats {post : Prop} {px : String → Prop} (hok : ∀ k, 1 ≤ k → k ≤ 200 → v = nI k → post) (hno : (¬ ∃ k, 1 ≤ k ∧ k ≤ 200 ∧ v = nI k) → px "java/lang/IllegalArgumentException") : w_H_needBeats post px S v := by
  unfold w_H_needBeats
  refine ⟨fun c => hno ?_, fun c => ?_⟩
  · rintro ⟨k, h1, h2, rfl⟩
    exact nI_nlt (a := k) (b := 1) h1 (by omega) c
  · have h0 : ¬ v < 0 := fun q => c (by
      rw [Int32.lt_iff_toInt_lt] at q ⊢
      have e1 : (1 : Int32).toInt = 1 := by decide
      have e0 : (0 : Int32).toInt = 0 := by decide
      omega)
    obtain ⟨j, hj, rfl⟩ := nI_of h0
    have h1 : 1 ≤ j := Nat.not_lt.mp fun q => c (nI_lt (a := j) (b := 1) q (by decide))
    have e : nI j ≤ 200 ↔ j ≤ 200 := nI_leI (b := 200) hj (by decide)
    rw [e]
    refine ⟨fun c2 => hok j h1 c2 rfl, fun c2 => hno ?_⟩
    rintro ⟨k, h3, h4, e5⟩
    have := (nI_eq hj (by omega)).mp e5
    omega
theorem s_floor {post : Int32 → Prop} {x y : Int32} (hok : ∀ a b, a < 16 → b < 16 → x = nI a → y = nI b → post 1) (hno : (¬ ((∃ a, a < 16 ∧ x = nI a) ∧ ∃ b, b < 16 ∧ y = nI b)) → post 0) : w_H_isOnFloor post S x y := by
  rw [e_isOnFloor]
  by_cases c : onF x y = 0
  · rw [c]
    refine hno ?_
    rintro ⟨⟨a, ha, rfl⟩, b, hb, rfl⟩
    unfold onF at c
    rw [if_neg (nI_pos (by omega)), if_neg (show ¬ (16 : Int32) ≤ nI a from nI_ge (b := 16) ha (by decide)), if_neg (nI_pos (by omega)), if_neg (show ¬ (16 : Int32) ≤ nI b from nI_ge (b := 16) hb (by decide))] at c
    exact absurd c (by decide)
  · obtain ⟨⟨a, ha, e1⟩, b, hb, e2⟩ := onF_rng c
    have : onF x y = 1 := by
      unfold onF at c ⊢
      split
      · rename_i h; rw [if_pos h] at c; exact absurd rfl c
      · rename_i h; rw [if_neg h] at c
        split
        · rename_i h; rw [if_pos h] at c; exact absurd rfl c
        · rename_i h; rw [if_neg h] at c
          split
          · rename_i h; rw [if_pos h] at c; exact absurd rfl c
          · rename_i h; rw [if_neg h] at c
            split
            · rename_i h; rw [if_pos h] at c; exact absurd rfl c
            · rfl
    rw [this]
    exact hok a b ha hb e1 e2
end NEED
/-! what calls of the reference need -/
section NEEDM
variable {S : St} {ad : Nat → Nat → Nat} {tl n m : Nat} {tb dl dn : Nat → Nat} {df g wg rd : Nat → Nat → Int32} {pt : Nat → Option Nat} {bt : Int32} {v : Int32}
theorem HM.qS (h : HM S ad tl tb dl df n g pt dn bt m wg rd) : sQ S 61 (ad 100 0) = some (ad 50 0) ∧ isA S 7 (ad 50 0) := ⟨h.2.2.1, h.2.2.2.2.2.2.2.1.1.1⟩
theorem HM.qA (h : HM S ad tl tb dl df n g pt dn bt m wg rd) : sQ S 62 (ad 100 0) = some (ad 75 0) ∧ isA S 7 (ad 75 0) := ⟨h.2.2.2.1, h.2.2.2.2.1.1⟩
theorem HM.mc (h : HM S ad tl tb dl df n g pt dn bt m wg rd) : MC S (sI S) (sR S) ad 50 100 n m pt dn dl df rd := h.2.2.2.2.2.2.2.1
theorem HM.mk (h : HM S ad tl tb dl df n g pt dn bt m wg rd) : Mk ad 50 m (sR S) (sR S) g wg := ⟨fun _ _ _ => rfl, h.2.2.2.2.2.2.2.2.1, h.2.2.2.2.2.2.2.2.2.1⟩
theorem HM.row (h : HM S ad tl tb dl df n g pt dn bt m wg rd) {f : Nat} (hf : mRow f) : sQ S (f + 33) (ad 50 0) = some (ad (50 + f) 0) ∧ isA S (mKind f) (ad (50 + f) 0) ∧ sN S (ad (50 + f) 0) = mLen f := h.mc.1.2.2.2.1 f hf
theorem HM.ev {I' : Nat → Nat → Int32} (h : HM S ad tl tb dl df n g pt dn bt m wg rd) (e : ∀ f a, (f = 58 ∨ f = 39 ∨ f = 52 ∨ f = 38) → I' f a = sI S f a) : HM (kS S I' (sR S)) ad tl tb dl df n g pt dn bt m wg rd := by
  obtain ⟨a1, a2, a3, a4, a5, a6, a7, ⟨c1, c2, c3, c4, c5, c6⟩, a9, a10, a11, a12⟩ := h
  exact ⟨a1, a2, a3, a4, a5, (e 58 _ (by omega)).trans a6, a7, ⟨c1, c2, c3, (e 39 _ (by omega)).trans c4, (e 52 _ (by omega)).trans c5, c6⟩, a9, a10, (e 38 _ (by omega)).trans a11, a12⟩
theorem HM.th (h : HM S ad tl tb dl df n g pt dn bt m wg rd) : HM (pI S 56 (ad 100 0) v) ad tl tb dl df n g pt dn bt m wg rd := h.ev (I' := up2 (sI S) 56 (ad 100 0) v) (fun f a hf => up2_f (by omega))
theorem fr_th (hj : Inj ad) : Fr (fun t _ => t < 45) S (pI S 56 (ad 100 0) v) ad ad := Fr.rf.I (nam hj (by decide))
theorem sI_ne {f f' a b : Nat} (h : f' ≠ f) : sI (pI S f a v) f' b = sI S f' b := up2_f h
theorem th_at {a : Nat} : sI (pI S 56 a v) 56 a = v := up2_at
theorem s_isDancer {post : Int32 → Prop} (h : HM S ad tl tb dl df n g pt dn bt m wg rd) (hok : ∀ i, i < n → v = nI i → post 1) (hno : (¬ ∃ i, i < n ∧ v = nI i) → post 0) : w_M_isDancer post S (ad 100 0) v := by
  unfold w_M_isDancer
  have hn := h.mc.2.1
  refine fun o e => ⟨_, e.trans h.qS.1, h.qS.2, ?_⟩
  rw [h.mc.2.2.2.1]
  exact s_inL (by omega) (fun i hi e => ⟨Or.inr rfl, hok i hi e⟩) (fun c => ⟨Or.inl rfl, hno c⟩)
theorem s_isWinder {post : Int32 → Prop} (h : HM S ad tl tb dl df n g pt dn bt m wg rd) (hok : ∀ i, i < m → v = nI i → post 1) (hno : (¬ ∃ i, i < m ∧ v = nI i) → post 0) : w_M_isWinder post S (ad 100 0) v := by
  unfold w_M_isWinder
  have hm := h.mc.2.2.1
  refine fun o e => ⟨_, e.trans h.qS.1, h.qS.2, ?_⟩
  rw [h.mc.2.2.2.2.1]
  exact s_inL (by omega) (fun i hi e => ⟨Or.inr rfl, hok i hi e⟩) (fun c => ⟨Or.inl rfl, hno c⟩)
end NEEDM
