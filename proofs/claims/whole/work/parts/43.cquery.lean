/-! what the class tells -/
def tellF (g : Nat → Nat → Int32) (pt : Nat → Option Nat) (dn : Nat → Nat) (i w : Nat) : Int32 := if w = 0 then g 7 i else if w = 1 then g 8 i else if w = 2 then g 9 i else if w = 3 then g 10 i else if w = 4 then g 11 i else if w = 5 then nI (dn i) else if w = 6 then g 13 i else if w = 7 then ptI (pt i) else if w = 8 then (if g 15 i = 0 then 0 else 1) else if w = 9 then g 16 i else if w = 10 then g 17 i else g 18 i
def cntF (n m : Nat) (g : Nat → Nat → Int32) (bt : Int32) (w : Nat) : Int32 := if w = 0 then bt else if w = 1 then nI n else if w = 3 then nI m else sumF n g (nI w)
def wtF (wg rd : Nat → Nat → Int32) (j w : Nat) : Int32 := if w = 0 then wg 26 j else if w = 1 then wg 27 j else if w = 2 then wg 28 j else if w = 3 then wg 30 j else if w = 4 then whoT wg rd j else wg 32 j
section CQ
variable {S : St} {ad : Nat → Nat → Nat} {tl n m B : Nat} {tb dl dn : Nat → Nat} {df g wg rd I0 I R : Nat → Nat → Int32} {pt : Nat → Option Nat} {bt u v : Int32}
theorem s_tell {post : Int32 → Prop} {i w : Nat} (hC : CF (kS S I0 R) ad B n m pt dn dl df) (hL : Lk ad B n m I0 I g wg bt) (hi : i < n) (hw : w < 12) (hp : post (tellF g pt dn i w)) : w_R_tell post (kS S I R) (ad (B + 5) i) (nI w) := by
  obtain ⟨⟨f1, f2, f3, f4, f5, f6, f7⟩, rf, dd⟩ := hC.ev hL.1
  have hA : ∀ i, i < n → isA S 2 (ad (B + 5) i) := f4.2.2.2.1
  have f7 : ∀ i, i < n → I 6 (ad (B + 5) i) = nI i := f7
  obtain ⟨r1, r2, r3, r4⟩ := rf i hi
  have r1 : sQ S 12 (ad (B + 5) i) = some (ad 10 (dn i)) := r1
  have r3 : sQ S 14 (ad (B + 5) i) = (pt i).map (ad (B + 5)) := r3
  have aD : isA S 1 (ad 10 (dn i)) := (dd _ r2).1
  have d3 : I 3 (ad 10 (dn i)) = nI (dn i) := (dd _ r2).2.1
  unfold w_R_tell
  simp only [forall_eq, kS_Q, kS_A, kS_I, r1, r3, d3, Option.some.injEq, exists_eq_left', hL.vw (show 7 ≤ 7 by decide) hi, hL.vw (show 7 ≤ 8 by decide) hi, hL.vw (show 7 ≤ 9 by decide) hi, hL.vw (show 7 ≤ 10 by decide) hi, hL.vw (show 7 ≤ 11 by decide) hi, hL.vw (show 7 ≤ 13 by decide) hi, hL.vw (show 7 ≤ 15 by decide) hi, hL.vw (show 7 ≤ 16 by decide) hi, hL.vw (show 7 ≤ 17 by decide) hi, hL.vw (show 7 ≤ 18 by decide) hi]
  have no : ∀ {q : Prop} (c : Nat), c < 12 → c ≠ w → nI w = nI c → q := fun c hc hne e => absurd ((nI_eq (by omega) (by omega)).mp e).symm hne
  have key : ∀ c : Nat, c < 12 → w = c → post (tellF g pt dn i c) := fun c _ e => e ▸ hp
  have k7 : w = 7 → ((pt i).map (ad (B + 5)) = none → post (-1)) ∧ ∀ (y : Nat), (pt i).map (ad (B + 5)) = some y → ∃ z, (pt i).map (ad (B + 5)) = some z ∧ isA S 2 z ∧ post (I 6 z) := by
    intro e
    have h7 : post (ptI (pt i)) := key 7 (by decide) e
    cases hpt : pt i with
    | none =>
      rw [hpt] at h7
      exact ⟨fun _ => h7, fun y c => by cases c⟩
    | some j =>
      rw [hpt] at h7
      have hjn := r4 j hpt
      refine ⟨(fun c => by cases c), fun y c => ?_⟩
      cases c
      exact ⟨_, rfl, hA j hjn, by rw [f7 j hjn]; exact h7⟩
  have k8 : w = 8 → (g 15 i = 0 → post 0) ∧ (¬ g 15 i = 0 → post 1) := by
    intro e
    have h8 : post (if g 15 i = 0 then 0 else 1) := key 8 (by decide) e
    exact ⟨fun c => by rw [if_pos c] at h8; exact h8, fun c => by rw [if_neg c] at h8; exact h8⟩
  have ew : ∀ c : Nat, c < 12 → nI w = nI c → w = c := fun c hc e => (nI_eq (by omega) (by omega)).mp e
  refine ⟨fun e => key 0 (by decide) (ew 0 (by decide) e), fun e => key 1 (by decide) (ew 1 (by decide) e), fun e => key 2 (by decide) (ew 2 (by decide) e), fun e => key 3 (by decide) (ew 3 (by decide) e), fun e => key 4 (by decide) (ew 4 (by decide) e), fun e => ⟨aD, key 5 (by decide) (ew 5 (by decide) e)⟩, fun e => key 6 (by decide) (ew 6 (by decide) e), fun e => k7 (ew 7 (by decide) e), fun e => k8 (ew 8 (by decide) e), fun e => key 9 (by decide) (ew 9 (by decide) e), fun e => key 10 (by decide) (ew 10 (by decide) e), fun n0 n1 n2 n3 n4 n5 n6 n7 n8 n9 n10 => key 11 (by decide) ?_⟩
  have x : ∀ c : Nat, ¬ nI w = nI c → w ≠ c := fun c h e => h (by rw [e])
  have := x 0 n0
  have := x 1 n1
  have := x 2 n2
  have := x 3 n3
  have := x 4 n4
  have := x 5 n5
  have := x 6 n6
  have := x 7 n7
  have := x 8 n8
  have := x 9 n9
  have := x 10 n10
  omega
theorem s_sumOf {post : Int32 → Prop} {w : Nat} (hC : CF (kS S I0 R) ad B n m pt dn dl df) (hL : Lk ad B n m I0 I g wg bt) (hw : w < 12) (hp : post (fld (fun a i => a + tellF g pt dn i w) 0 n)) : w_F_sumOfTold post (kS S I R) (ad B 0) (nI w) := by
  obtain ⟨⟨f1, f2, f3, f4, f5, f6, f7⟩, rf, dd⟩ := hC.ev hL.1
  have f2 : sQ S 21 (ad B 0) = some (ad (B + 1) 0) := f2
  have hn : n ≤ 8 := f4.2.2.1
  have a1 : isA S 0 (ad (B + 1) 0) := f4.1
  have z1 : I 2 (ad (B + 1) 0) = nI n := f4.2.1
  unfold w_F_sumOfTold
  refine ⟨fun q a x => ∃ i, i ≤ n ∧ q = n - i ∧ x = nI i ∧ a = fld (fun a i => a + tellF g pt dn i w) 0 i, ⟨n, 0, Nat.zero_le _, rfl, rfl, rfl⟩, ?_⟩
  rintro q a x ⟨i, hi, rfl, rfl, rfl⟩
  simp only [forall_eq, kS_Q, kS_A, f2, Option.some.injEq, exists_eq_left', e_size, kS_I, z1]
  refine ⟨a1, fun hc => ?_, fun hc => ⟨a1, ?_⟩⟩
  · have : i = n := by
      have := (nI_leI (by omega) (by omega)).mp hc
      omega
    subst this
    exact hp
  · have hlt : i < n := Nat.not_le.mp fun q => hc (nI_le q (by omega))
    refine s_get f4 hlt ⟨_, rfl, f4.2.2.2.1 i hlt, s_tell hC hL hlt hw ?_⟩
    exact ⟨n - (i + 1), by omega, i + 1, hlt, rfl, nI_1 i, rfl⟩
theorem s_dizzyOnes {post : Int32 → Prop} (hC : CF (kS S I0 R) ad B n m pt dn dl df) (hL : Lk ad B n m I0 I g wg bt) (hp : post (sumF n g 4)) : w_F_dizzyOnes post (kS S I R) (ad B 0) := by
  obtain ⟨⟨f1, f2, f3, f4, f5, f6, f7⟩, rf, dd⟩ := hC.ev hL.1
  have f2 : sQ S 21 (ad B 0) = some (ad (B + 1) 0) := f2
  have hn : n ≤ 8 := f4.2.2.1
  have a1 : isA S 0 (ad (B + 1) 0) := f4.1
  have z1 : I 2 (ad (B + 1) 0) = nI n := f4.2.1
  unfold w_F_dizzyOnes
  refine ⟨fun q a x => ∃ i, i ≤ n ∧ q = n - i ∧ x = nI i ∧ a = sumF i g 4, ⟨n, 0, Nat.zero_le _, rfl, rfl, rfl⟩, ?_⟩
  rintro q a x ⟨i, hi, rfl, rfl, rfl⟩
  simp only [forall_eq, kS_Q, kS_A, f2, Option.some.injEq, exists_eq_left', e_size, kS_I, z1]
  refine ⟨a1, fun hc => ?_, fun hc => ⟨a1, ?_⟩⟩
  · have : i = n := by
      have := (nI_leI (by omega) (by omega)).mp hc
      omega
    subst this
    exact hp
  · have hlt : i < n := Nat.not_le.mp fun q => hc (nI_le q (by omega))
    have e0 : sumF (i + 1) g 4 = sumF i g 4 + (if g 16 i ≤ 0 then 0 else 1) := rfl
    refine s_get f4 hlt ⟨_, rfl, f4.2.2.2.1 i hlt, fun k => sumF i g 4 + k = sumF (i + 1) g 4, ?_, ?_, ?_⟩
    · intro k hk
      exact ⟨n - (i + 1), by omega, i + 1, hlt, rfl, nI_1 i, hk⟩
    · rw [hL.vw (by decide) hlt]
      intro c
      rw [e0, if_pos c]
    · rw [hL.vw (by decide) hlt]
      intro c
      rw [e0, if_neg c]
theorem s_spentOnes {post : Int32 → Prop} (hC : CF (kS S I0 R) ad B n m pt dn dl df) (hL : Lk ad B n m I0 I g wg bt) (hp : post (sumF n g 8)) : w_F_spentOnes post (kS S I R) (ad B 0) := by
  obtain ⟨⟨f1, f2, f3, f4, f5, f6, f7⟩, rf, dd⟩ := hC.ev hL.1
  have f2 : sQ S 21 (ad B 0) = some (ad (B + 1) 0) := f2
  have hn : n ≤ 8 := f4.2.2.1
  have a1 : isA S 0 (ad (B + 1) 0) := f4.1
  have z1 : I 2 (ad (B + 1) 0) = nI n := f4.2.1
  unfold w_F_spentOnes
  refine ⟨fun q a x => ∃ i, i ≤ n ∧ q = n - i ∧ x = nI i ∧ a = sumF i g 8, ⟨n, 0, Nat.zero_le _, rfl, rfl, rfl⟩, ?_⟩
  rintro q a x ⟨i, hi, rfl, rfl, rfl⟩
  simp only [forall_eq, kS_Q, kS_A, f2, Option.some.injEq, exists_eq_left', e_size, kS_I, z1, e_isSpent]
  refine ⟨a1, fun hc => ?_, fun hc => ⟨a1, ?_⟩⟩
  · have : i = n := by
      have := (nI_leI (by omega) (by omega)).mp hc
      omega
    subst this
    exact hp
  · have hlt : i < n := Nat.not_le.mp fun q => hc (nI_le q (by omega))
    have e0 : sumF (i + 1) g 8 = sumF i g 8 + (if spF (g 10 i) (g 11 i) = 0 then 0 else 1) := rfl
    refine s_get f4 hlt ⟨_, rfl, f4.2.2.2.1 i hlt, fun k => sumF i g 8 + k = sumF (i + 1) g 8, ?_, ?_, ?_⟩
    · intro k hk
      exact ⟨n - (i + 1), by omega, i + 1, hlt, rfl, nI_1 i, hk⟩
    · rw [hL.vw (by decide) hlt, hL.vw (by decide) hlt]
      intro c
      rw [e0, if_pos c]
    · rw [hL.vw (by decide) hlt, hL.vw (by decide) hlt]
      intro c
      rw [e0, if_neg c]
theorem s_ftell {post : Int32 → Prop} {w : Nat} (hC : CF (kS S I0 R) ad B n m pt dn dl df) (hL : Lk ad B n m I0 I g wg bt) (hw : w < 9) (hp : post (cntF n m g bt w)) : w_F_countOf post (kS S I R) (ad B 0) (nI w) := by
  obtain ⟨⟨f1, f2, f3, f4, f5, f6, f7⟩, rf, dd⟩ := hC.ev hL.1
  have f2 : sQ S 21 (ad B 0) = some (ad (B + 1) 0) := f2
  have f3 : sQ S 22 (ad B 0) = some (ad (B + 3) 0) := f3
  have z1 : I 2 (ad (B + 1) 0) = nI n := f4.2.1
  have z3 : I 2 (ad (B + 3) 0) = nI m := f5.2.1
  unfold w_F_countOf
  have key : ∀ c : Nat, w = c → post (cntF n m g bt c) := fun c e => e ▸ hp
  have ew : ∀ c : Nat, c < 12 → nI w = nI c → w = c := fun c hc e => (nI_eq (by omega) (by omega)).mp e
  refine ⟨fun e => ?_, fun e => ?_, fun e => ?_, fun e => ?_, fun e => ?_, fun e => ?_, fun e => ?_, fun e => ?_, fun n0 n1 n2 n3 n4 n5 n6 n7 => ?_⟩
  · rw [kS_I, hL.2.2.2.2]; exact key 0 (ew 0 (by decide) e)
  · refine fun o e2 => ⟨_, e2.trans f2, f4.1, ?_⟩
    rw [e_size, kS_I, z1]; exact key 1 (ew 1 (by decide) e)
  · exact s_sumOf (w := 8) hC hL (by decide) (key 2 (ew 2 (by decide) e))
  · refine fun o e2 => ⟨_, e2.trans f3, f5.1, ?_⟩
    rw [e_size, kS_I, z3]; exact key 3 (ew 3 (by decide) e)
  · exact s_dizzyOnes hC hL (key 4 (ew 4 (by decide) e))
  · exact s_sumOf (w := 3) hC hL (by decide) (key 5 (ew 5 (by decide) e))
  · exact s_sumOf (w := 10) hC hL (by decide) (key 6 (ew 6 (by decide) e))
  · exact s_sumOf (w := 11) hC hL (by decide) (key 7 (ew 7 (by decide) e))
  · refine s_spentOnes hC hL (key 8 ?_)
    have x : ∀ c : Nat, ¬ nI w = nI c → w ≠ c := fun c h e => h (by rw [e])
    have := x 0 n0
    have := x 1 n1
    have := x 2 n2
    have := x 3 n3
    have := x 4 n4
    have := x 5 n5
    have := x 6 n6
    have := x 7 n7
    omega
theorem s_ntell {post : Int32 → Prop} {j w : Nat} (hC : CF (kS S I0 R) ad B n m pt dn dl df) (hL : Lk ad B n m I0 I g wg bt) (hR : RR R ad B m rd) (hjm : j < m) (hw : w < 6) (hp : post (wtF wg rd j w)) : w_N_tell post (kS S I R) (ad (B + 6) j) (nI w) := by
  unfold w_N_tell
  have key : ∀ c : Nat, w = c → post (wtF wg rd j c) := fun c e => e ▸ hp
  have ew : ∀ c : Nat, c < 12 → nI w = nI c → w = c := fun c hc e => (nI_eq (by omega) (by omega)).mp e
  simp only [kS_I, hL.vww (show 7 ≤ 26 by decide) hjm, hL.vww (show 7 ≤ 27 by decide) hjm, hL.vww (show 7 ≤ 28 by decide) hjm, hL.vww (show 7 ≤ 30 by decide) hjm, hL.vww (show 7 ≤ 32 by decide) hjm]
  refine ⟨fun e => key 0 (ew 0 (by decide) e), fun e => key 1 (ew 1 (by decide) e), fun e => key 2 (ew 2 (by decide) e), fun e => key 3 (ew 3 (by decide) e), fun e => s_whoT hC hL hR hjm (key 4 (ew 4 (by decide) e)), fun n0 n1 n2 n3 n4 => key 5 ?_⟩
  have x : ∀ c : Nat, ¬ nI w = nI c → w ≠ c := fun c h e => h (by rw [e])
  have := x 0 n0
  have := x 1 n1
  have := x 2 n2
  have := x 3 n3
  have := x 4 n4
  omega
theorem s_dancer {post : Int32 → Prop} {px : String → Prop} (h : HC S ad tl tb dl df n g pt dn bt m wg rd)
    (hok : ∀ i w, i < n → v = nI i → w < 12 → u = nI w → post (tellF g pt dn i w)) (hno : (¬ ∃ i w, i < n ∧ v = nI i ∧ w < 12 ∧ u = nI w) → px "java/lang/IndexOutOfBoundsException") : w_H_dancer post px S (ad 1 0) v u := by
  unfold w_H_dancer
  refine s_needR h (fun i hi e => s_kind 12 (by decide) (fun w hw ew => ⟨_, rfl, h.aR hi, ?_⟩) (fun c => hno (fun ⟨k, w, _, _, h3, h4⟩ => c ⟨w, h3, h4⟩))) (fun c => hno (fun ⟨k, w, h1, h2, _⟩ => c ⟨k, h1, h2⟩))
  rw [ew]
  exact s_tell (S := S) (I := sI S) (R := sR S) h.cf h.lk hi hw (hok i w hi e hw ew)
theorem s_winder {post : Int32 → Prop} {px : String → Prop} (h : HC S ad tl tb dl df n g pt dn bt m wg rd)
    (hok : ∀ j w, j < m → v = nI j → w < 6 → u = nI w → post (wtF wg rd j w)) (hno : (¬ ∃ i w, i < m ∧ v = nI i ∧ w < 6 ∧ u = nI w) → px "java/lang/IndexOutOfBoundsException") : w_H_winder post px S (ad 1 0) v u := by
  unfold w_H_winder
  refine s_needN h (fun i hi e => s_kind 6 (by decide) (fun w hw ew => ⟨_, rfl, h.aN hi, ?_⟩) (fun c => hno (fun ⟨k, w, _, _, h3, h4⟩ => c ⟨w, h3, h4⟩))) (fun c => hno (fun ⟨k, w, h1, h2, _⟩ => c ⟨k, h1, h2⟩))
  rw [ew]
  exact s_ntell (S := S) (I := sI S) (R := sR S) h.cf h.lk h.2.2.2.2.2.1 hi hw (hok i w hi e hw ew)
theorem s_count {post : Int32 → Prop} {px : String → Prop} (h : HC S ad tl tb dl df n g pt dn bt m wg rd)
    (hok : ∀ w, w < 9 → v = nI w → post (cntF n m g bt w)) (hno : (¬ ∃ w, w < 9 ∧ v = nI w) → px "java/lang/IndexOutOfBoundsException") : w_H_count post px S (ad 1 0) v := by
  unfold w_H_count
  refine s_kind 9 (by decide) (fun w hw ew => fun o e => ⟨_, e.trans h.qF.1, h.qF.2, ?_⟩) hno
  rw [ew]
  exact s_ftell (S := S) (I := sI S) (R := sR S) h.cf h.lk hw (hok w hw ew)
theorem s_cat {post : Int32 → Prop} {px : String → Prop} (h : HC S ad tl tb dl df n g pt dn bt m wg rd)
    (hok : ((∃ a, a < 16 ∧ v = nI a) ∧ ∃ b, b < 16 ∧ u = nI b) → post (ptI (whoF n g v u))) (hno : (¬ ((∃ a, a < 16 ∧ v = nI a) ∧ ∃ b, b < 16 ∧ u = nI b)) → px "java/lang/IndexOutOfBoundsException") : w_H_at post px S (ad 1 0) v u := by
  unfold w_H_at
  refine s_floor (fun a b ha hb e1 e2 => ⟨fun c => absurd c (by decide), fun _ => ?_⟩) (fun c => ⟨fun _ => hno c, fun c => absurd rfl c⟩)
  have hp := hok ⟨⟨a, ha, e1⟩, b, hb, e2⟩
  refine fun o e => ⟨_, e.trans h.qF.1, h.qF.2, ?_⟩
  refine s_who (S := S) (I := sI S) (R := sR S) h.cf h.lk ?_
  have ew : fst' (fun i => g 7 i = v ∧ g 8 i = u) n = whoF n g v u := rfl
  rw [ew]
  cases hw : whoF n g v u with
  | none =>
    rw [hw] at hp
    exact ⟨fun _ => hp, fun y c => by cases c⟩
  | some i =>
    rw [hw] at hp
    refine ⟨(fun c => by cases c), fun y c => ?_⟩
    cases c
    have hi := whoF_lt hw
    have e6 : sI S 6 (ad 25 i) = nI i := h.2.2.2.1.1.2.2.2.2.2.2 i hi
    exact ⟨h.aR hi, by show post (sI S 6 (ad 25 i)); rw [e6]; exact hp⟩
end CQ
