/-! a beat on a floor -/
def mayF (pt : Nat → Option Nat) (g : Nat → Nat → Int32) (i : Nat) : Int32 := if canF g i = 0 then 0 else match pt i with
  | none => 1
  | some j => if canF g j = 0 then 0 else 1
def stepA (n : Nat) (pt : Nat → Option Nat) (dn dl : Nat → Nat) (df : Nat → Nat → Int32) (a : Int32 × (Nat → Nat → Int32)) (i : Nat) : Int32 × (Nat → Nat → Int32) :=
  if a.2 15 i = 0 then (if mayF pt a.2 i = 0 then a else (a.1 + (perfF n pt dn dl df a.2 i).1, (perfF n pt dn dl df a.2 i).2)) else a
def whoT (wg rd : Nat → Nat → Int32) (j : Nat) : Int32 := if wg 31 j < 0 then -1 else if wg 30 j ≤ wg 31 j then -1 else if 8 ≤ wg 31 j then -1 else rd j (wg 31 j).toNatClampNeg
def dNO (n : Nat) (v : Int32) : Option Nat := if v < 0 then none else if nI n ≤ v then none else some v.toNatClampNeg
def wdF (s a : Int32) : Int32 := if 0 < (if s + a < 200 then s + a else 200) then (if s + a < 200 then s + a else 200) else 0
def pasV (l v : Int32) : Int32 := if l ≤ v + 1 then 0 else v + 1
def pasT (wg : Nat → Nat → Int32) (j : Nat) : Nat → Nat → Int32 := up2 wg 31 j (pasV (wg 30 j) (wg 31 j))
def stpV (x w : Int32) : Int32 := if x ≤ w then -1 else 1
def attF (gw : (Nat → Nat → Int32) × (Nat → Nat → Int32)) (j t : Nat) : (Nat → Nat → Int32) × (Nat → Nat → Int32) :=
  if gw.1 10 t < 150 then
    (if 1 < dsF (gw.2 26 j) (gw.2 27 j) (gw.1 7 t) (gw.1 8 t) then
      (if gw.2 26 j = gw.1 7 t then (gw.1, up2 gw.2 27 j (gw.2 27 j + stpV (gw.1 8 t) (gw.2 27 j)))
       else (gw.1, up2 gw.2 26 j (gw.2 26 j + stpV (gw.1 7 t) (gw.2 26 j))))
     else (up2 gw.1 10 t (wdF (gw.1 10 t) (gw.2 28 j)), pasT (up2 gw.2 32 j (gw.2 32 j + 1)) j))
  else (gw.1, pasT gw.2 j)
def stepW (n : Nat) (rd : Nat → Nat → Int32) (gw : (Nat → Nat → Int32) × (Nat → Nat → Int32)) (j : Nat) : (Nat → Nat → Int32) × (Nat → Nat → Int32) := match dNO n (whoT gw.2 rd j) with
  | none => gw
  | some t => attF gw j t
theorem stepW_none {n j : Nat} {rd : Nat → Nat → Int32} {gw : (Nat → Nat → Int32) × (Nat → Nat → Int32)} (h : dNO n (whoT gw.2 rd j) = none) : stepW n rd gw j = gw := by unfold stepW; rw [h]
theorem stepW_some {n j t : Nat} {rd : Nat → Nat → Int32} {gw : (Nat → Nat → Int32) × (Nat → Nat → Int32)} (h : dNO n (whoT gw.2 rd j) = some t) : stepW n rd gw j = attF gw j t := by unfold stepW; rw [h]
def dzF (z : Int32) : Int32 := if 0 < z - 1 then z - 1 else 0
def stepZ (g : Nat → Nat → Int32) (i : Nat) : Nat → Nat → Int32 := up2 g 16 i (dzF (g 16 i))
def btA (n : Nat) (pt : Nat → Option Nat) (dn dl : Nat → Nat) (df : Nat → Nat → Int32) (g : Nat → Nat → Int32) : Int32 × (Nat → Nat → Int32) := fld (stepA n pt dn dl df) (0, g) n
def btW (n m : Nat) (rd g wg : Nat → Nat → Int32) : (Nat → Nat → Int32) × (Nat → Nat → Int32) := fld (stepW n rd) (g, wg) m
def RR (R : Nat → Nat → Int32) (ad : Nat → Nat → Nat) (B m : Nat) (rd : Nat → Nat → Int32) : Prop := ∀ j p, j < m → p < 8 → R (ad (B + 7) j) p = rd j p
theorem dNO_lt {n t : Nat} {v : Int32} (hn : n < 2 ^ 31) (h : dNO n v = some t) : t < n ∧ v = nI t := by
  unfold dNO at h
  by_cases c1 : v < 0
  · rw [if_pos c1] at h; cases h
  · rw [if_neg c1] at h
    by_cases c2 : nI n ≤ v
    · rw [if_pos c2] at h; cases h
    · rw [if_neg c2] at h
      obtain ⟨j, hj, rfl⟩ := nI_of c1
      rw [nI_clamp hj] at h
      cases h
      refine ⟨?_, rfl⟩
      rcases Nat.lt_or_ge t n with q | q
      · exact q
      · exact absurd ((nI_leI hn hj).mpr q) c2
section BTS
variable {S : St} {ad : Nat → Nat → Nat} {B n m : Nat} {I0 I g wg rd R : Nat → Nat → Int32} {bt : Int32} {pt : Nat → Option Nat} {dn dl : Nat → Nat} {df : Nat → Nat → Int32} {d t : Nat}
theorem Lk.vww (h : Lk ad B n m I0 I g wg bt) {f j : Nat} (hf : 7 ≤ f) (hi : j < m) : I f (ad (B + 6) j) = wg f j := h.2.2.2.1 f j hf hi
theorem s_dNO {post : Option Nat → Prop} {v : Int32} (hC : CF (kS S I0 R) ad B n m pt dn dl df) (hE : Ev I0 I) (hp : post ((dNO n v).map (ad (B + 5)))) : w_F_dancerOrNull post (kS S I R) (ad B 0) v := by
  obtain ⟨⟨f1, f2, f3, f4, f5, f6, f7⟩, -, -⟩ := hC.ev hE
  have hn : n ≤ 8 := f4.2.2.1
  unfold w_F_dancerOrNull
  simp only [forall_eq, f2, Option.some.injEq, exists_eq_left', e_size, f4.2.1]
  unfold dNO at hp
  refine ⟨fun h => ?_, fun h => ⟨f4.1, fun h2 => ?_, fun h2 => ⟨f4.1, ?_⟩⟩⟩
  · rw [if_pos h] at hp; exact hp
  · rw [if_neg h, if_pos h2] at hp; exact hp
  · rw [if_neg h, if_neg h2] at hp
    obtain ⟨j, hj, rfl⟩ := nI_of h
    have hlt : j < n := Nat.not_le.mp fun q => h2 ((nI_leI (by omega) hj).mpr q)
    rw [nI_clamp hj] at hp
    refine s_get f4 hlt ?_
    simp only [Option.some.injEq, exists_eq_left']
    exact ⟨f4.2.2.2.1 j hlt, hp⟩
theorem s_whoT {post : Int32 → Prop} {j : Nat} (hC : CF (kS S I0 R) ad B n m pt dn dl df) (hL : Lk ad B n m I0 I g wg bt) (hR : RR R ad B m rd) (hjm : j < m) (hp : post (whoT wg rd j)) : w_N_whoseTurn post (kS S I R) (ad (B + 6) j) := by
  obtain ⟨q1, q2, q3⟩ := hC.1.2.2.2.2.2.1 j hjm
  have q1 : sQ S 29 (ad (B + 6) j) = some (ad (B + 7) j) := q1
  have q3 : sN S (ad (B + 7) j) = 8 := q3
  unfold w_N_whoseTurn
  simp only [forall_eq, kS_Q, kS_I, kS_A, kS_N, kS_R, q1, q3, Option.some.injEq, exists_eq_left', hL.vww (show 7 ≤ 31 by decide) hjm, hL.vww (show 7 ≤ 30 by decide) hjm]
  unfold whoT at hp
  have e8 : nI 8 = 8 := rfl
  rw [e8]
  refine ⟨fun h => ?_, fun h => ⟨fun h2 => ?_, fun h2 => ⟨q2, fun h3 => ?_, fun h3 => ⟨q2, ?_, ?_⟩⟩⟩⟩
  · rw [if_pos h] at hp; exact hp
  · rw [if_neg h, if_pos h2] at hp; exact hp
  · rw [if_neg h, if_neg h2, if_pos h3] at hp; exact hp
  · obtain ⟨k, hk, e⟩ := nI_of h
    rw [e] at h3 ⊢
    refine vp_in_nI ?_ (by decide)
    rcases Nat.lt_or_ge k 8 with q | q
    · exact q
    · exact absurd ((nI_leI (by decide) hk).mpr q) h3
  · obtain ⟨k, hk, e⟩ := nI_of h
    rw [if_neg h, if_neg h2, if_neg h3] at hp
    rw [e] at h3 hp ⊢
    rw [nI_clamp hk] at hp ⊢
    rw [hR j k hjm]
    · exact hp
    · rcases Nat.lt_or_ge k 8 with q | q
      · exact q
      · exact absurd ((nI_leI (by decide) hk).mpr q) h3
theorem s_pass1 {post : St → Prop} {j : Nat} (hj : Inj ad) (hL : Lk ad B n m I0 I g wg bt) (hjm : j < m) (hp : ∀ I', Lk ad B n m I0 I' g (pasT wg j) bt → post (kS S I' R)) : w_N_passTurn post (kS S I R) (ad (B + 6) j) := by
  unfold w_N_passTurn
  simp only [forall_eq, kS_I, kS_pI, hL.vww (show 7 ≤ 31 by decide) hjm, hL.vww (show 7 ≤ 30 by decide) hjm]
  refine ⟨fun k => k = pasV (wg 30 j) (wg 31 j), ?_, fun h => ?_, fun h => ?_⟩
  · rintro k rfl
    exact hp _ (hL.upw hj (by decide) hjm)
  · unfold pasV; rw [if_pos h]
  · unfold pasV; rw [if_neg h]
theorem s_windBy {post : St → Prop} {a : Int32} (hj : Inj ad) (hL : Lk ad B n m I0 I g wg bt) (ht : t < n) (hp : ∀ I', Lk ad B n m I0 I' (up2 g 10 t (wdF (g 10 t) a)) wg bt → post (kS S I' R)) : w_R_windBy post (kS S I R) (ad (B + 5) t) a := by
  unfold w_R_windBy
  simp only [forall_eq, kS_I, kS_pI, hL.vw (show 7 ≤ 10 by decide) ht]
  exact hp _ (hL.up hj (by decide) ht)
theorem s_att {post : St → Prop} {j : Nat} (hj : Inj ad) (hC : CF (kS S I0 R) ad B n m pt dn dl df) (hL : Lk ad B n m I0 I g wg bt) (hjm : j < m) (ht : t < n) (hp : ∀ I', Lk ad B n m I0 I' (attF (g, wg) j t).1 (attF (g, wg) j t).2 bt → post (kS S I' R)) : w_N_attend post (kS S I R) (ad (B + 6) j) (some (ad (B + 5) t)) := by
  have hA : ∀ i, i < n → isA S 2 (ad (B + 5) i) := hC.1.2.2.2.1.2.2.2.1
  unfold w_N_attend
  simp only [Option.some.injEq, exists_eq_left', forall_eq, kS_I, kS_pI, kS_A, e_distance, hL.vw (show 7 ≤ 10 by decide) ht, hL.vw (show 7 ≤ 7 by decide) ht, hL.vw (show 7 ≤ 8 by decide) ht, hL.vww (show 7 ≤ 26 by decide) hjm, hL.vww (show 7 ≤ 27 by decide) hjm, hL.vww (show 7 ≤ 28 by decide) hjm]
  unfold attF at hp
  dsimp only at hp
  refine ⟨hA t ht, fun h => ⟨fun h2 => ⟨fun h3 => ?_, fun h3 => ?_⟩, fun h2 => ?_⟩, fun h => ?_⟩
  · rw [if_pos h, if_pos h2, if_pos h3] at hp
    refine ⟨fun k => k = stpV (g 8 t) (wg 27 j), ?_, fun h => ?_, fun h => ?_⟩
    · rintro k rfl
      exact hp _ (hL.upw hj (by decide) hjm)
    · unfold stpV; rw [if_pos h]
    · unfold stpV; rw [if_neg h]
  · rw [if_pos h, if_pos h2, if_neg h3] at hp
    refine ⟨fun k => k = stpV (g 7 t) (wg 26 j), ?_, fun h => ?_, fun h => ?_⟩
    · rintro k rfl
      exact hp _ (hL.upw hj (by decide) hjm)
    · unfold stpV; rw [if_pos h]
    · unfold stpV; rw [if_neg h]
  · rw [if_pos h, if_neg h2] at hp
    refine s_windBy hj hL ht (fun I2 h4 => ?_)
    simp only [kS_I, kS_pI, h4.vww (show 7 ≤ 32 by decide) hjm]
    exact s_pass1 hj (h4.upw hj (by decide) hjm) hjm (fun I3 h5 => hp I3 h5)
  · rw [if_neg h] at hp
    exact s_pass1 hj hL hjm (fun I3 h5 => hp I3 h5)
theorem s_may {post : Int32 → Prop} (hC : CF (kS S I0 R) ad B n m pt dn dl df) (hL : Lk ad B n m I0 I g wg bt) (hd : d < n) (hp : post (mayF pt g d)) : w_F_mayPerform post (kS S I R) (some (ad (B + 5) d)) := by
  obtain ⟨r1, r2, r3, r4⟩ := hC.2.1 d hd
  have hA : ∀ i, i < n → isA S 2 (ad (B + 5) i) := hC.1.2.2.2.1.2.2.2.1
  have r3 : sQ S 14 (ad (B + 5) d) = (pt d).map (ad (B + 5)) := r3
  unfold w_F_mayPerform
  simp only [Option.some.injEq, exists_eq_left', forall_eq, kS_I, kS_Q, kS_A, e_canDance, r3, hL.vw (show 7 ≤ 10 by decide) hd, hL.vw (show 7 ≤ 11 by decide) hd, hL.vw (show 7 ≤ 16 by decide) hd]
  unfold mayF at hp
  refine ⟨hA d hd, fun h => ?_, fun h => ?_⟩
  · rw [if_pos (show canF g d = 0 from h)] at hp; exact hp
  · rw [if_neg (show ¬ canF g d = 0 from h)] at hp
    cases hpt : pt d with
    | none =>
      rw [hpt] at hp
      exact ⟨fun _ => hp, fun y h => by cases h⟩
    | some j =>
      rw [hpt] at hp
      have hjn := r4 j hpt
      refine ⟨(fun h => by cases h), fun y h9 => ?_⟩
      cases h9
      refine ⟨_, rfl, hA j hjn, ?_⟩
      simp only [hL.vw (show 7 ≤ 10 by decide) hjn, hL.vw (show 7 ≤ 11 by decide) hjn, hL.vw (show 7 ≤ 16 by decide) hjn]
      dsimp only at hp
      refine ⟨fun h2 => ?_, fun h2 => ?_⟩
      · rw [if_pos (show canF g j = 0 from h2)] at hp; exact hp
      · rw [if_neg (show ¬ canF g j = 0 from h2)] at hp; exact hp
theorem s_beat {post : Int32 → St → Prop} (hj : Inj ad) (hC : CF (kS S I0 R) ad B n m pt dn dl df) (hR : RR R ad B m rd) (hL : Lk ad B n m I0 I g wg bt)
    (hp : ∀ I', Lk ad B n m I0 I' (fld stepZ (btW n m rd (btA n pt dn dl df g).2 wg).1 n) (btW n m rd (btA n pt dn dl df g).2 wg).2 (bt + 1) → post (btA n pt dn dl df g).1 (kS S I' R)) : w_F_playBeat post (kS S I R) (ad B 0) := by
  have hC0 := hC
  obtain ⟨⟨f1, f2, f3, f4, f5, f6, f7⟩, -, -⟩ := hC
  have f2 : sQ S 21 (ad B 0) = some (ad (B + 1) 0) := f2
  have f3 : sQ S 22 (ad B 0) = some (ad (B + 3) 0) := f3
  have hn : n ≤ 8 := f4.2.2.1
  have hm : m ≤ 8 := f5.2.2.1
  have a1 : isA S 0 (ad (B + 1) 0) := f4.1
  have a3 : isA S 0 (ad (B + 3) 0) := f5.1
  have hA : ∀ i, i < n → isA S 2 (ad (B + 5) i) := f4.2.2.2.1
  have hAw : ∀ i, i < m → isA S 5 (ad (B + 6) i) := f5.2.2.2.1
  unfold w_F_playBeat
  refine ⟨fun k S' v1 v2 => ∃ i I', S' = kS S I' R ∧ v2 = nI i ∧ k = n - i ∧ i ≤ n ∧ Lk ad B n m I0 I' (fld (stepA n pt dn dl df) (0, g) i).2 wg bt ∧ v1 = (fld (stepA n pt dn dl df) (0, g) i).1, ⟨n, 0, I, rfl, rfl, rfl, Nat.zero_le _, hL, rfl⟩, ?_⟩
  rintro k S' v1 v2 ⟨i, I1, rfl, rfl, rfl, hi, hL1, rfl⟩
  have z1 : I1 2 (ad (B + 1) 0) = nI n := (hL1.1 2 _ (by decide)).trans f4.2.1
  simp only [forall_eq, kS_Q, kS_A, f2, Option.some.injEq, exists_eq_left', e_size, kS_I, z1]
  refine ⟨a1, fun hc => ?_, fun hc => ⟨a1, ?_⟩⟩
  · have hi2 : i = n := by
      have := (nI_leI (by omega) (by omega)).mp hc
      omega
    subst hi2
    change Lk ad B i m I0 I1 (btA i pt dn dl df g).2 wg bt at hL1
    change ∃ J57 : Nat → St → Int32 → Prop, _ at *
    generalize he1 : (fld (stepA i pt dn dl df) (0, g) i).1 = r1
    have he1 : (btA i pt dn dl df g).1 = r1 := he1
    rw [he1] at hp
    generalize (btA i pt dn dl df g).2 = g1 at hp hL1
    refine ⟨fun k S' v2 => ∃ j I', S' = kS S I' R ∧ v2 = nI j ∧ k = m - j ∧ j ≤ m ∧ Lk ad B i m I0 I' (fld (stepW i rd) (g1, wg) j).1 (fld (stepW i rd) (g1, wg) j).2 bt, ⟨m, 0, I1, rfl, rfl, rfl, Nat.zero_le _, hL1⟩, ?_⟩
    rintro k S' v2 ⟨j, I2, rfl, rfl, rfl, hjm, hL2⟩
    have z2 : I2 2 (ad (B + 3) 0) = nI m := (hL2.1 2 _ (by decide)).trans f5.2.1
    simp only [kS_Q, kS_A, f3, Option.some.injEq, exists_eq_left', kS_I, z2]
    refine ⟨a3, fun hc2 => ?_, fun hc2 => ⟨a3, ?_⟩⟩
    · have hj2 : j = m := by
        have := (nI_leI (by omega) (by omega)).mp hc2
        omega
      subst hj2
      change Lk ad B i j I0 I2 (btW i j rd g1 wg).1 (btW i j rd g1 wg).2 bt at hL2
      generalize (btW i j rd g1 wg).1 = g2 at hp hL2
      generalize (btW i j rd g1 wg).2 = wg2 at hp hL2
      refine ⟨fun k S' v2 => ∃ q I', S' = kS S I' R ∧ v2 = nI q ∧ k = i - q ∧ q ≤ i ∧ Lk ad B i j I0 I' (fld stepZ g2 q) wg2 bt, ⟨i, 0, I2, rfl, rfl, rfl, Nat.zero_le _, hL2⟩, ?_⟩
      rintro k S' v2 ⟨q, I3, rfl, rfl, rfl, hq, hL3⟩
      have z3 : I3 2 (ad (B + 1) 0) = nI i := (hL3.1 2 _ (by decide)).trans f4.2.1
      simp only [kS_Q, kS_A, f2, Option.some.injEq, exists_eq_left', kS_I, z3, kS_pI, hL3.2.2.2.2]
      refine ⟨a1, fun hc3 => ?_, fun hc3 => ⟨a1, ?_⟩⟩
      · have hq2 : q = i := by
          have := (nI_leI (by omega) (by omega)).mp hc3
          omega
        subst hq2
        exact hp _ (hL3.upb hj)
      · have hlt : q < i := Nat.not_le.mp fun q => hc3 ((nI_leI (by omega) (by omega)).mpr q)
        refine s_get ((hC0.ev hL3.1).1.2.2.2.1) hlt ?_
        simp only [Option.some.injEq, exists_eq_left', hL3.vw (show 7 ≤ 16 by decide) hlt]
        exact ⟨hA q hlt, i - (q + 1), by omega, q + 1, _, rfl, nI_1 q, rfl, hlt, hL3.up hj (by decide) hlt⟩
    · have hlt : j < m := Nat.not_le.mp fun q => hc2 ((nI_leI (by omega) (by omega)).mpr q)
      refine s_get ((hC0.ev hL2.1).1.2.2.2.2.1) hlt ?_
      simp only [Option.some.injEq, exists_eq_left']
      refine ⟨hAw j hlt, s_whoT hC0 hL2 hR hlt (s_dNO hC0 hL2.1 ?_)⟩
      refine ⟨fun S' => ∃ I', S' = kS S I' R ∧ Lk ad B i m I0 I' (fld (stepW i rd) (g1, wg) (j + 1)).1 (fld (stepW i rd) (g1, wg) (j + 1)).2 bt, ?_, ?_, ?_⟩
      · rintro _ ⟨I3, rfl, hL3⟩
        exact ⟨m - (j + 1), by omega, j + 1, I3, rfl, nI_1 j, rfl, hlt, hL3⟩
      · intro hno
        refine ⟨I2, rfl, ?_⟩
        have e1 : fld (stepW i rd) (g1, wg) (j + 1) = fld (stepW i rd) (g1, wg) j := by
          show stepW i rd (fld (stepW i rd) (g1, wg) j) j = _
          cases hd : dNO i (whoT (fld (stepW i rd) (g1, wg) j).2 rd j) with
          | none => exact stepW_none hd
          | some t => rw [hd] at hno; cases hno
        rw [e1]
        exact hL2
      · intro y hy
        cases hd : dNO i (whoT (fld (stepW i rd) (g1, wg) j).2 rd j) with
        | none => rw [hd] at hy; cases hy
        | some t =>
          rw [hd] at hy
          cases hy
          have ht := (dNO_lt (by omega) hd).1
          refine ⟨a3, s_get ((hC0.ev hL2.1).1.2.2.2.2.1) hlt ⟨_, rfl, hAw j hlt, ?_⟩⟩
          refine s_att hj hC0 hL2 hlt ht (fun I3 h3 => ⟨I3, rfl, ?_⟩)
          have e1 : fld (stepW i rd) (g1, wg) (j + 1) = attF (fld (stepW i rd) (g1, wg) j) j t := by
            show stepW i rd (fld (stepW i rd) (g1, wg) j) j = _
            exact stepW_some hd
          rw [e1]
          exact h3
  · have hlt : i < n := Nat.not_le.mp fun q => hc ((nI_leI (by omega) (by omega)).mpr q)
    refine s_get ((hC0.ev hL1.1).1.2.2.2.1) hlt ?_
    simp only [Option.some.injEq, exists_eq_left', hL1.vw (show 7 ≤ 15 by decide) hlt]
    have e0 : fld (stepA n pt dn dl df) (0, g) (i + 1) = stepA n pt dn dl df (fld (stepA n pt dn dl df) (0, g) i) i := rfl
    generalize fld (stepA n pt dn dl df) (0, g) i = a at hL1 e0 ⊢
    refine ⟨hA i hlt, fun S' v => ∃ I', S' = kS S I' R ∧ Lk ad B n m I0 I' (stepA n pt dn dl df a i).2 wg bt ∧ v = (stepA n pt dn dl df a i).1, ?_, fun h15 => ?_, fun h15 => ?_⟩
    · rintro _ v ⟨I2, rfl, hL2, rfl⟩
      refine ⟨n - (i + 1), by omega, i + 1, I2, rfl, nI_1 i, rfl, hlt, ?_, ?_⟩
      · rw [e0]; exact hL2
      · rw [e0]
    · refine s_may hC0 hL1 hlt ⟨fun hm0 => ⟨I1, rfl, ?_, ?_⟩, fun hm0 => ?_⟩
      · unfold stepA; rw [if_pos h15, if_pos hm0]; exact hL1
      · unfold stepA; rw [if_pos h15, if_pos hm0]
      · refine s_perform hj hC0 hL1 hlt (fun I2 h2 => ⟨I2, rfl, ?_, ?_⟩)
        · unfold stepA; rw [if_pos h15, if_neg hm0]; exact h2
        · unfold stepA; rw [if_pos h15, if_neg hm0]
    · refine ⟨I1, rfl, ?_, ?_⟩
      · unfold stepA; rw [if_neg h15]; exact hL1
      · unfold stepA; rw [if_neg h15]
end BTS
