theorem notF0 {a : Int32} : notF a = 0 ↔ ¬ a = 0 := by
  unfold notF
  by_cases h : a = 0 <;> simp [h]
section PRF2
variable {S : St} {ad : Nat → Nat → Nat} {B n m : Nat} {I0 I g wg R : Nat → Nat → Int32} {bt : Int32} {pt : Nat → Option Nat} {dn dl : Nat → Nat} {df : Nat → Nat → Int32} {d t : Nat}
theorem whoF_lt {x y : Int32} {u : Nat} (h : whoF n g x y = some u) : u < n := (fst_some.mp h).1
theorem inwF_lt {u : Nat} (h : inwF n pt g t = some u) : u < n := by
  unfold inwF at h
  cases hw : whoF n g (g 19 t) (g 20 t) with
  | none => rw [hw] at h; cases h
  | some v =>
    rw [hw] at h
    dsimp only at h
    split at h
    · cases h
    · cases h; exact whoF_lt hw
theorem inw2_lt {u : Nat} (h : inw2 n pt g t = some u) : u < n := by
  unfold inw2 at h
  split at h
  · cases h
  · exact inwF_lt h
theorem s_inw {post : Option Nat → Prop} (hj : Inj ad) (hC : CF (kS S I0 R) ad B n m pt dn dl df) (hL : Lk ad B n m I0 I g wg bt) (ht : t < n) (hp : post ((inwF n pt g t).map (ad (B + 5)))) : w_F_whoIsInTheWayOf post (kS S I R) (ad B 0) (some (ad (B + 5) t)) := by
  obtain ⟨r1, r2, r3, r4⟩ := hC.2.1 t ht
  have hA : ∀ i, i < n → isA S 2 (ad (B + 5) i) := hC.1.2.2.2.1.2.2.2.1
  have r3 : sQ S 14 (ad (B + 5) t) = (pt t).map (ad (B + 5)) := r3
  unfold w_F_whoIsInTheWayOf
  simp only [Option.some.injEq, exists_eq_left', forall_eq, kS_Q, kS_I, kS_A, r3]
  refine ⟨hA t ht, ?_⟩
  rw [hL.vw (by decide) ht, hL.vw (by decide) ht]
  refine s_who hC hL ?_
  unfold inwF whoF at hp
  cases hw : fst' (fun i => g 7 i = g 19 t ∧ g 8 i = g 20 t) n with
  | none =>
    rw [hw] at hp
    exact ⟨(fun h => by cases h), fun _ => ⟨fun _ => hp, fun _ => hp⟩⟩
  | some u =>
    rw [hw] at hp
    dsimp only at hp
    simp only [Option.map_some, Option.some.injEq, hj.iff, true_and]
    by_cases h1 : u = t
    · simp only [h1, true_or, if_true] at hp
      exact ⟨fun _ => hp, fun h => absurd h1 h⟩
    · refine ⟨fun h => absurd h h1, fun _ => ?_⟩
      cases hpt : pt t with
      | none =>
        simp only [h1, hpt, false_or, reduceCtorEq, if_false] at hp
        exact ⟨(fun h => by cases h), fun _ => hp⟩
      | some v =>
        simp only [Option.map_some, Option.some.injEq, hj.iff, true_and]
        by_cases h2 : u = v
        · simp only [h1, hpt, h2, or_true, if_true] at hp
          exact ⟨fun _ => hp, fun h => absurd h2 h⟩
        · have h3 : ¬ v = u := fun e => h2 e.symm
          simp only [h1, hpt, false_or, Option.some.injEq, h3, if_false] at hp
          exact ⟨fun h => absurd h h2, fun _ => hp⟩
theorem s_bump {post : Int32 → St → Prop} {o : Option Nat} (hj : Inj ad) (hC : CF (kS S I0 R) ad B n m pt dn dl df) (hL : Lk ad B n m I0 I g wg bt) (ho : ∀ u, o = some u → u < n) (hp : ∀ I', Lk ad B n m I0 I' (stgO g o) wg bt → post (cntO o) (kS S I' R)) : w_F_bump post (kS S I R) (o.map (ad (B + 5))) := by
  have hA : ∀ i, i < n → isA S 2 (ad (B + 5) i) := hC.1.2.2.2.1.2.2.2.1
  unfold w_F_bump
  cases o with
  | none => exact ⟨fun _ => hp I hL, fun y h => by cases h⟩
  | some u =>
    have hu := ho u rfl
    refine ⟨(fun h => by cases h), fun y h => ?_⟩
    cases h
    simp only [kS_A]
    refine ⟨hA u hu, ?_⟩
    rw [e_stagger]
    simp only [kS_pI, kS_I]
    rw [hL.vw (by decide) hu]
    exact hp _ ((hL.up hj (by decide) hu).up hj (by decide) hu)
theorem s_go {post : St → Prop} {q : Int32} (hj : Inj ad) (hL : Lk ad B n m I0 I g wg bt) (ht : t < n) (hp : ∀ I', Lk ad B n m I0 I' (goT g t q) wg bt → post (kS S I' R)) : w_R_goAndTurn post (kS S I R) (ad (B + 5) t) q := by
  rw [e_goAndTurn]
  simp only [kS_pI, kS_I]
  simp only [hL.vw (show 7 ≤ 19 by decide) ht, hL.vw (show 7 ≤ 20 by decide) ht, hL.vw (show 7 ≤ 9 by decide) ht, hL.vw (show 7 ≤ 10 by decide) ht, hL.vw (show 7 ≤ 11 by decide) ht, hL.vw (show 7 ≤ 17 by decide) ht]
  exact hp _ (((((hL.up hj (by decide) ht).up hj (by decide) ht).up hj (by decide) ht).up hj (by decide) ht).up hj (by decide) ht)
theorem s_perform {post : Int32 → St → Prop} (hj : Inj ad) (hC : CF (kS S I0 R) ad B n m pt dn dl df) (hL : Lk ad B n m I0 I g wg bt) (hd : d < n) (hp : ∀ I', Lk ad B n m I0 I' (perfF n pt dn dl df g d).2 wg bt → post (perfF n pt dn dl df g d).1 (kS S I' R)) : w_F_perform post (kS S I R) (ad B 0) (some (ad (B + 5) d)) := by
  obtain ⟨r1, r2, r3, r4⟩ := hC.2.1 d hd
  have hA : ∀ i, i < n → isA S 2 (ad (B + 5) i) := hC.1.2.2.2.1.2.2.2.1
  have r3 : sQ S 14 (ad (B + 5) d) = (pt d).map (ad (B + 5)) := r3
  have r1 : sQ S 12 (ad (B + 5) d) = some (ad 10 (dn d)) := r1
  have hD : DL (kS S I R) ad dl df := (hC.ev hL.1).2.2
  have hDA : isA S 1 (ad 10 (dn d)) := (hD (dn d) r2).1
  unfold w_F_perform
  simp only [Option.some.injEq, exists_eq_left', forall_eq, kS_Q, kS_A, kS_I, kS_pI, r1, r3]
  refine ⟨hA d hd, hDA, ?_⟩
  rw [hL.vw (by decide) hd]
  refine s_figureAt hD r2 ⟨hDA, s_placeBehind hD r2 ?_⟩
  have h1 := hL.up (f := 13) (v := nxtP dl (dn d) (g 13 d)) hj (by decide) hd
  refine s_aim hj hC h1 hd (fun I2 h2 => ?_)
  unfold perfF at hp
  generalize figO dl df (dn d) (g 13 d) = fig at h2 hp ⊢
  generalize aimF (up2 g 13 d (nxtP dl (dn d) (g 13 d))) pt d fig = g2 at h2 hp
  refine s_inw hj hC h2 hd ?_
  refine ⟨fun k => k = (inw2 n pt g2 d).map (ad (B + 5)), ?_, ?_, ?_⟩
  · rintro k rfl
    rw [e_aimsOffFloor]
    simp only [kS_I]
    rw [h2.vw (by decide) hd, h2.vw (by decide) hd]
    refine ⟨fun k => k = offF pt g2 d, ?_, offF pt g2 d = 1, fun h => h.symm, ?_, ?_⟩
    · rintro k rfl
      have hq : ∀ (u : Nat), inwF n pt g2 d = some u → u < n := fun u hu => inwF_lt hu
      have hq2 : ∀ (u : Nat), inw2 n pt g2 d = some u → u < n := fun u hu => inw2_lt hu
      unfold endF at hp
      refine ⟨¬ (offF pt g2 d = 0 ∧ inwF n pt g2 d = none ∧ inw2 n pt g2 d = none), fun hno => ?_, fun h0 => ⟨fun hn => ⟨fun hn2 => ?_, fun y hy => ?_⟩, fun y hy => ?_⟩, fun h0 h => h0 h.1⟩
      · rw [if_neg hno] at hp
        unfold bumpsF at hp
        refine s_bump (o := some d) hj hC h2 (fun u hu => by cases hu; exact hd) (fun I3 h3 => ?_)
        refine s_bump hj hC h3 r4 (fun I4 h4 => ?_)
        refine s_bump hj hC h4 hq (fun I5 h5 => ?_)
        exact s_bump hj hC h5 hq2 (fun I6 h6 => hp I6 h6)
      · have hn' : inwF n pt g2 d = none := by
          cases h : inwF n pt g2 d with
          | none => rfl
          | some u => rw [h] at hn; cases hn
        have hn2' : inw2 n pt g2 d = none := by
          cases h : inw2 n pt g2 d with
          | none => rfl
          | some u => rw [h] at hn2; cases hn2
        rw [if_pos ⟨h0, hn', hn2'⟩] at hp
        unfold goesF at hp
        rw [e_turnOf]
        refine s_go hj h2 hd (fun I3 h3 => ?_)
        cases hpt : pt d with
        | none =>
          rw [hpt] at hp
          exact ⟨fun _ => hp I3 h3, fun y h => by cases h⟩
        | some j =>
          rw [hpt] at hp
          refine ⟨(fun h => by cases h), fun y h => ?_⟩
          cases h
          rw [e_turnOf]
          simp only [kS_A]
          exact ⟨hA j (r4 j hpt), s_go hj h3 (r4 j hpt) (fun I4 h4 => hp I4 h4)⟩
      · intro h
        rw [h.2.2] at hy
        cases hy
      · intro h
        rw [h.2.1] at hy
        cases hy
    · intro hc
      refine ⟨offF pt g2 d = 0, fun h => h.symm, ?_, ?_⟩
      · intro ho
        unfold offF
        cases hpt : pt d with
        | none =>
          dsimp only
          rw [if_neg (notF0.mp hc)]
        | some j => rw [hpt] at ho; cases ho
      · intro y hy
        cases hpt : pt d with
        | none => rw [hpt] at hy; cases hy
        | some j =>
          rw [hpt] at hy
          cases hy
          simp only [kS_A]
          refine ⟨hA j (r4 j hpt), ?_⟩
          rw [e_aimsOffFloor]
          simp only [kS_I]
          rw [h2.vw (by decide) (r4 j hpt), h2.vw (by decide) (r4 j hpt)]
          unfold offF
          rw [hpt]
          dsimp only
          rw [if_neg (notF0.mp hc), notF0]
          by_cases h8 : onF (g2 19 j) (g2 20 j) = 0
          · rw [if_pos h8]
            exact ⟨fun h => absurd h8 h, fun _ => rfl⟩
          · rw [if_neg h8]
            exact ⟨fun _ => rfl, fun h => absurd h8 h⟩
    · intro hc
      unfold offF
      have h9 : onF (g2 19 d) (g2 20 d) = 0 := Classical.byContradiction fun h9 => hc (notF0.mpr h9)
      cases pt d <;> simp only [h9, if_true]
  · intro ho
    unfold inw2
    cases hpt : pt d with
    | none => rfl
    | some j => rw [hpt] at ho; cases ho
  · intro y hy
    unfold inw2
    cases hpt : pt d with
    | none => rw [hpt] at hy; cases hy
    | some j =>
      rw [hpt] at hy
      cases hy
      exact s_inw hj hC h2 (r4 j hpt) rfl
end PRF2
