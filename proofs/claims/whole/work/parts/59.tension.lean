/-! the mean of the springs -/
theorem dvA1 : ∀ s : Fin 201, (FP.ddiv (FP.i2d (nI s.1)) (FP.i2d (nI 1))) &&& 0x7fffffffffffffff ≤ 0x7ff0000000000000 := by decide +kernel
theorem dvA2 : ∀ s : Fin 401, (FP.ddiv (FP.i2d (nI s.1)) (FP.i2d (nI 2))) &&& 0x7fffffffffffffff ≤ 0x7ff0000000000000 := by decide +kernel
theorem dvA3 : ∀ s : Fin 601, (FP.ddiv (FP.i2d (nI s.1)) (FP.i2d (nI 3))) &&& 0x7fffffffffffffff ≤ 0x7ff0000000000000 := by decide +kernel
theorem dvA4 : ∀ s : Fin 801, (FP.ddiv (FP.i2d (nI s.1)) (FP.i2d (nI 4))) &&& 0x7fffffffffffffff ≤ 0x7ff0000000000000 := by decide +kernel
theorem dvA5 : ∀ s : Fin 1001, (FP.ddiv (FP.i2d (nI s.1)) (FP.i2d (nI 5))) &&& 0x7fffffffffffffff ≤ 0x7ff0000000000000 := by decide +kernel
theorem dvA6 : ∀ s : Fin 1201, (FP.ddiv (FP.i2d (nI s.1)) (FP.i2d (nI 6))) &&& 0x7fffffffffffffff ≤ 0x7ff0000000000000 := by decide +kernel
theorem dvA7 : ∀ s : Fin 1401, (FP.ddiv (FP.i2d (nI s.1)) (FP.i2d (nI 7))) &&& 0x7fffffffffffffff ≤ 0x7ff0000000000000 := by decide +kernel
theorem dvA8 : ∀ s : Fin 1601, (FP.ddiv (FP.i2d (nI s.1)) (FP.i2d (nI 8))) &&& 0x7fffffffffffffff ≤ 0x7ff0000000000000 := by decide +kernel
theorem dvN {s n : Nat} (h1 : 1 ≤ n) (h8 : n ≤ 8) (hs : s ≤ 200 * n) : vf_n64 (FP.ddiv (FP.i2d (nI s)) (FP.i2d (nI n))) := by
  unfold vf_n64
  rcases (show n = 1 ∨ n = 2 ∨ n = 3 ∨ n = 4 ∨ n = 5 ∨ n = 6 ∨ n = 7 ∨ n = 8 by omega) with rfl | rfl | rfl | rfl | rfl | rfl | rfl | rfl
  · exact dvA1 ⟨s, by omega⟩
  · exact dvA2 ⟨s, by omega⟩
  · exact dvA3 ⟨s, by omega⟩
  · exact dvA4 ⟨s, by omega⟩
  · exact dvA5 ⟨s, by omega⟩
  · exact dvA6 ⟨s, by omega⟩
  · exact dvA7 ⟨s, by omega⟩
  · exact dvA8 ⟨s, by omega⟩
def tnF (n : Nat) (g : Nat → Nat → Int32) : UInt64 := if n = 0 then FP.dconst0 else FP.ddiv (FP.i2d (sumF n g 5)) (FP.i2d (nI n))
theorem sum5 {n : Nat} {g : Nat → Nat → Int32} {pt : Nat → Option Nat} {dn dl : Nat → Nat} (hO : Ok n g pt dn dl) {k : Nat} (hk : k ≤ n) : ∃ T, T ≤ 200 * k ∧ sumF k g 5 = nI T := by
  induction k with
  | zero => exact ⟨0, by omega, rfl⟩
  | succ k ih =>
    obtain ⟨T, hT, e⟩ := ih (by omega)
    obtain ⟨-, -, -, ⟨s, hs, es⟩, -⟩ := hO.1 k (by omega)
    refine ⟨T + s, by omega, ?_⟩
    have e0 : sumF (k + 1) g 5 = sumF k g 5 + g 10 k := rfl
    rw [e0, e, es, nI_add]
section TEN
variable {S : St} {ad : Nat → Nat → Nat} {tl n m : Nat} {tb dl dn : Nat → Nat} {df g wg rd : Nat → Nat → Int32} {pt : Nat → Option Nat} {bt u v : Int32}
theorem s_tension {post : UInt64 → Prop} (h : HC S ad tl tb dl df n g pt dn bt m wg rd) (hO : Ok n g pt dn dl) (hp : post (tnF n g)) : w_H_tension post S (ad 1 0) := by
  have hn := h.n8
  have q21 : sQ S 21 (ad 20 0) = some (ad 21 0) := h.2.2.2.1.1.2.1
  have L21 : LiS S ad 21 22 25 2 n := h.2.2.2.1.1.2.2.2.1
  unfold w_H_tension
  refine fun o e => ⟨_, e.trans h.qF.1, h.qF.2, fun o e => ⟨_, e.trans q21, L21.1, ?_⟩⟩
  rw [e_size, L21.2.1]
  have e0 : nI n = 0 ↔ n = 0 := nI_eq (b := 0) (by omega) (by decide)
  rw [e0]
  unfold tnF at hp
  refine ⟨fun c => by rw [if_pos c] at hp; exact hp, fun c => fun o e => ⟨_, e.trans h.qF.1, h.qF.2, ?_⟩⟩
  rw [if_neg c] at hp
  refine s_sumOf (S := S) (I := sI S) (R := sR S) (B := 20) (w := 3) h.cf h.lk (by decide) ?_
  have es : fld (fun a i => a + tellF g pt dn i 3) 0 n = sumF n g 5 := rfl
  rw [es]
  obtain ⟨T, hT, eT⟩ := sum5 hO (Nat.le_refl n)
  rw [eT] at hp ⊢
  exact ⟨dvN (by omega) hn hT, hp⟩
theorem s_mtension {post : UInt64 → St → Prop} (hj : Inj ad) (h : HM S ad tl tb dl df n g pt dn bt m wg rd) (hO : Ok n g pt dn dl) (hp : ∀ S', MR S ad 0 tl tb dl df n g pt dn bt m wg rd S' → post (tnF n g) S') : w_M_tension post S (ad 100 0) := by
  unfold w_M_tension
  rintro S1 rfl
  have h1 : HM (pI S 56 (ad 100 0) 0) ad tl tb dl df n g pt dn bt m wg rd := h.th
  have f1 : Fr (fun t _ => t < 45) S (pI S 56 (ad 100 0) 0) ad ad := fr_th hj
  have e56 : sI (pI S 56 (ad 100 0) 0) 56 (ad 100 0) = 0 := th_at
  generalize pI S 56 (ad 100 0) 0 = S1 at *
  have hn := h1.mc.2.1
  have e0 : nI n = 0 ↔ n = 0 := nI_eq (b := 0) (by omega) (by decide)
  replace hp := hp S1 ⟨h1, e56, f1⟩
  unfold tnF at hp
  refine fun o e => ⟨_, e.trans h1.qS.1, h1.qS.2, ?_⟩
  rw [h1.mc.2.2.2.1, e0]
  refine ⟨fun c => by rw [if_pos c] at hp; exact hp, fun c => fun o e => ⟨_, e.trans h1.qS.1, h1.qS.2, ?_⟩⟩
  rw [if_neg c] at hp
  refine s_sum (S := S1) (I := sI S1) (R := sR S1) h1.mc h1.mk ?_
  refine fun o e => ⟨_, e.trans h1.qS.1, h1.qS.2, ?_⟩
  rw [h1.mc.2.2.2.1]
  obtain ⟨T, hT, eT⟩ := sum5 hO (Nat.le_refl n)
  rw [eT] at hp ⊢
  exact ⟨dvN (by omega) hn hT, hp⟩
end TEN
