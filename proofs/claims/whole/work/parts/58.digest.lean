/-! checksums -/
def dgC (n m : Nat) (g : Nat → Nat → Int32) (bt : Int32) (i : Nat) : Int64 := fld (fun d w => d * 31 + (cntF n m g bt w).toInt64) 521 i
def dgP (df : Nat → Nat → Int32) (k : Nat) (d : Int64) (i : Nat) : Int64 := fld (fun d p => d * 31 + (df k p).toInt64) d i
def dgK (dl : Nat → Nat) (df : Nat → Nat → Int32) (d : Int64) (i : Nat) : Int64 := fld (fun d k => dgP df k (d * 31 + (nI (dl k)).toInt64) (dl k)) d i
def dgT (g : Nat → Nat → Int32) (pt : Nat → Option Nat) (dn : Nat → Nat) (i : Nat) (d : Int64) (w : Nat) : Int64 := fld (fun d w => d * 31 + (tellF g pt dn i w).toInt64) d w
def dgR (g : Nat → Nat → Int32) (pt : Nat → Option Nat) (dn : Nat → Nat) (d : Int64) (i : Nat) : Int64 := fld (fun d i => dgT g pt dn i d 12) d i
def dgV (wg rd : Nat → Nat → Int32) (j : Nat) (d : Int64) (w : Nat) : Int64 := fld (fun d w => d * 31 + (wtF wg rd j w).toInt64) d w
def dgN (wg rd : Nat → Nat → Int32) (d : Int64) (j : Nat) : Int64 := fld (fun d j => dgV wg rd j d 6) d j
def dgF (dl : Nat → Nat) (df : Nat → Nat → Int32) (n : Nat) (g : Nat → Nat → Int32) (pt : Nat → Option Nat) (dn : Nat → Nat) (bt : Int32) (m : Nat) (wg rd : Nat → Nat → Int32) : Int64 := dgN wg rd (dgR g pt dn (dgK dl df (dgC n m g bt 9) 8) n) m
theorem fld_s {α : Type} {f : α → Nat → α} {a : α} {n : Nat} : fld f a (n + 1) = f (fld f a n) n := rfl
theorem dgC_0 {n m : Nat} {g : Nat → Nat → Int32} {bt : Int32} : dgC n m g bt 0 = 521 := rfl
theorem dgC_s {n m i : Nat} {g : Nat → Nat → Int32} {bt : Int32} : dgC n m g bt (i + 1) = dgC n m g bt i * 31 + (cntF n m g bt i).toInt64 := by
  unfold dgC
  exact fld_s
theorem dgP_0 {df : Nat → Nat → Int32} {k : Nat} {d : Int64} : dgP df k d 0 = d := rfl
theorem dgP_s {df : Nat → Nat → Int32} {k i : Nat} {d : Int64} : dgP df k d (i + 1) = dgP df k d i * 31 + (df k i).toInt64 := by
  unfold dgP
  exact fld_s
theorem dgK_0 {dl : Nat → Nat} {df : Nat → Nat → Int32} {d : Int64} : dgK dl df d 0 = d := rfl
theorem dgK_s {dl : Nat → Nat} {df : Nat → Nat → Int32} {d : Int64} {k : Nat} : dgK dl df d (k + 1) = dgP df k (dgK dl df d k * 31 + (nI (dl k)).toInt64) (dl k) := by
  unfold dgK
  exact fld_s
theorem dgT_0 {g : Nat → Nat → Int32} {pt : Nat → Option Nat} {dn : Nat → Nat} {i : Nat} {d : Int64} : dgT g pt dn i d 0 = d := rfl
theorem dgT_s {g : Nat → Nat → Int32} {pt : Nat → Option Nat} {dn : Nat → Nat} {i w : Nat} {d : Int64} : dgT g pt dn i d (w + 1) = dgT g pt dn i d w * 31 + (tellF g pt dn i w).toInt64 := by
  unfold dgT
  exact fld_s
theorem dgR_0 {g : Nat → Nat → Int32} {pt : Nat → Option Nat} {dn : Nat → Nat} {d : Int64} : dgR g pt dn d 0 = d := rfl
theorem dgR_s {g : Nat → Nat → Int32} {pt : Nat → Option Nat} {dn : Nat → Nat} {i : Nat} {d : Int64} : dgR g pt dn d (i + 1) = dgT g pt dn i (dgR g pt dn d i) 12 := by
  unfold dgR
  exact fld_s
theorem dgV_0 {wg rd : Nat → Nat → Int32} {j : Nat} {d : Int64} : dgV wg rd j d 0 = d := rfl
theorem dgV_s {wg rd : Nat → Nat → Int32} {j w : Nat} {d : Int64} : dgV wg rd j d (w + 1) = dgV wg rd j d w * 31 + (wtF wg rd j w).toInt64 := by
  unfold dgV
  exact fld_s
theorem dgN_0 {wg rd : Nat → Nat → Int32} {d : Int64} : dgN wg rd d 0 = d := rfl
theorem dgN_s {wg rd : Nat → Nat → Int32} {j : Nat} {d : Int64} : dgN wg rd d (j + 1) = dgV wg rd j (dgN wg rd d j) 6 := by
  unfold dgN
  exact fld_s
section DIG
variable {S : St} {ad : Nat → Nat → Nat} {tl n m : Nat} {tb dl dn : Nat → Nat} {df g wg rd : Nat → Nat → Int32} {pt : Nat → Option Nat} {bt u v : Int32}
theorem s_digestFrom {post : Int64 → Prop} {k : Nat} {d : Int64} (h : HC S ad tl tb dl df n g pt dn bt m wg rd) (hk : k < 8) (hp : post (dgP df k (d * 31 + (nI (dl k)).toInt64) (dl k))) : w_D_digestFrom post S (ad 10 k) d := by
  obtain ⟨d1, d2⟩ := h.len hk
  unfold w_D_digestFrom
  rw [d2]
  rintro _ rfl
  refine ⟨fun q d' x => ∃ i, i ≤ dl k ∧ q = dl k - i ∧ x = nI i ∧ d' = dgP df k (d * 31 + (nI (dl k)).toInt64) i, ⟨dl k, 0, Nat.zero_le _, rfl, rfl, dgP_0.symm⟩, ?_⟩
  rintro q _ _ ⟨i, hi, rfl, rfl, rfl⟩
  refine ⟨fun c => ?_, fun c => ?_⟩
  · have : i = dl k := by
      have := (nI_leI (by omega) (by omega)).mp c
      omega
    subst this
    exact hp
  · have hlt : i < dl k := Nat.not_le.mp fun q => c (nI_le q (by omega))
    refine s_figureAt h.2.2.2.1.2.2 hk ?_
    rw [figO_nI hlt d1]
    rintro _ rfl _ rfl
    exact ⟨dl k - (i + 1), by omega, i + 1, hlt, rfl, nI_1 i, dgP_s.symm⟩
theorem s_digest {post : Int64 → Prop} (h : HC S ad tl tb dl df n g pt dn bt m wg rd) (hp : post (dgF dl df n g pt dn bt m wg rd)) : w_H_digest post S (ad 1 0) := by
  have hn := h.n8
  have hm : m ≤ 8 := h.2.2.2.1.1.2.2.2.2.1.2.2.1
  have q4 : sQ S 34 (ad 1 0) = some (ad 4 0) := h.1.2.2.1
  have L4 : LiS S ad 4 5 10 1 8 := h.2.2.1
  have q21 : sQ S 21 (ad 20 0) = some (ad 21 0) := h.2.2.2.1.1.2.1
  have L21 : LiS S ad 21 22 25 2 n := h.2.2.2.1.1.2.2.2.1
  have q22 : sQ S 22 (ad 20 0) = some (ad 23 0) := h.2.2.2.1.1.2.2.1
  have L23 : LiS S ad 23 24 26 5 m := h.2.2.2.1.1.2.2.2.2.1
  unfold dgF at hp
  unfold w_H_digest
  refine ⟨fun q d x => ∃ i, i ≤ 9 ∧ q = 9 - i ∧ x = nI i ∧ d = dgC n m g bt i, ⟨9, 0, Nat.zero_le _, rfl, rfl, dgC_0.symm⟩, ?_⟩
  rintro q _ _ ⟨i, hi, rfl, rfl, rfl⟩
  have e9 : (9 : Int32) ≤ nI i ↔ 9 ≤ i := nI_leI (a := 9) (by decide) (by omega)
  rw [e9]
  refine ⟨fun c => ?_, fun c => fun o e => ⟨_, e.trans h.qF.1, h.qF.2, ?_⟩⟩
  · have : i = 9 := by omega
    subst this
    generalize dgC n m g bt 9 = D9 at hp ⊢
    refine ⟨fun q d x => ∃ k, k ≤ 8 ∧ q = 8 - k ∧ x = nI k ∧ d = dgK dl df D9 k, ⟨8, 0, Nat.zero_le _, rfl, rfl, dgK_0.symm⟩, ?_⟩
    rintro q _ _ ⟨k, hk, rfl, rfl, rfl⟩
    refine fun o e => ⟨_, e.trans q4, L4.1, ?_⟩
    rw [e_size, L4.2.1]
    refine ⟨fun c => ?_, fun c => fun o e => ⟨_, e.trans q4, L4.1, ?_⟩⟩
    · have : k = 8 := by
        have := (nI_leI (by decide) (by omega)).mp c
        omega
      subst this
      generalize dgK dl df D9 8 = D8 at hp ⊢
      refine ⟨fun q d x => ∃ i, i ≤ n ∧ q = n - i ∧ x = nI i ∧ d = dgR g pt dn D8 i, ⟨n, 0, Nat.zero_le _, rfl, rfl, dgR_0.symm⟩, ?_⟩
      rintro q _ _ ⟨i, hi, rfl, rfl, rfl⟩
      refine fun o e => ⟨_, e.trans h.qF.1, h.qF.2, fun o e => ⟨_, e.trans q21, L21.1, ?_⟩⟩
      rw [e_size, L21.2.1]
      refine ⟨fun c => ?_, fun c => ?_⟩
      · have : i = n := by
          have := (nI_leI (by omega) (by omega)).mp c
          omega
        rw [this]
        generalize dgR g pt dn D8 n = Dn at hp ⊢
        refine ⟨fun q d x => ∃ j, j ≤ m ∧ q = m - j ∧ x = nI j ∧ d = dgN wg rd Dn j, ⟨m, 0, Nat.zero_le _, rfl, rfl, dgN_0.symm⟩, ?_⟩
        rintro q _ _ ⟨j, hjm, rfl, rfl, rfl⟩
        refine fun o e => ⟨_, e.trans h.qF.1, h.qF.2, fun o e => ⟨_, e.trans q22, L23.1, ?_⟩⟩
        rw [e_size, L23.2.1]
        refine ⟨fun c => ?_, fun c => ?_⟩
        · have : j = m := by
            have := (nI_leI (by omega) (by omega)).mp c
            omega
          rw [this]
          exact hp
        · have hlt : j < m := Nat.not_le.mp fun q => c (nI_le q (by omega))
          have e0 : dgN wg rd Dn (j + 1) = dgV wg rd j (dgN wg rd Dn j) 6 := dgN_s
          generalize dgN wg rd Dn j = D at e0 ⊢
          refine ⟨fun q d x => ∃ w, w ≤ 6 ∧ q = 6 - w ∧ x = nI w ∧ d = dgV wg rd j D w, ⟨6, 0, Nat.zero_le _, rfl, rfl, dgV_0.symm⟩, ?_⟩
          rintro q _ _ ⟨w, hw, rfl, rfl, rfl⟩
          have e6 : (6 : Int32) ≤ nI w ↔ 6 ≤ w := nI_leI (a := 6) (by decide) (by omega)
          rw [e6]
          refine ⟨fun c => ?_, fun c => ?_⟩
          · have : w = 6 := by omega
            subst this
            rintro _ rfl
            exact ⟨m - (j + 1), by omega, j + 1, hlt, rfl, nI_1 j, e0.symm⟩
          · refine fun o e => ⟨_, e.trans h.qF.1, h.qF.2, fun o e => ⟨_, e.trans q22, L23.1, s_get L23 hlt ⟨_, rfl, L23.2.2.2.1 j hlt, ?_⟩⟩⟩
            refine s_ntell (S := S) (I := sI S) (R := sR S) (B := 20) h.cf h.lk h.2.2.2.2.2.1 hlt (show w < 6 by omega) ?_
            rintro _ rfl _ rfl
            exact ⟨6 - (w + 1), by omega, w + 1, by omega, rfl, nI_1 w, dgV_s.symm⟩
      · have hlt : i < n := Nat.not_le.mp fun q => c (nI_le q (by omega))
        have e0 : dgR g pt dn D8 (i + 1) = dgT g pt dn i (dgR g pt dn D8 i) 12 := dgR_s
        generalize dgR g pt dn D8 i = D at e0 ⊢
        refine ⟨fun q d x => ∃ w, w ≤ 12 ∧ q = 12 - w ∧ x = nI w ∧ d = dgT g pt dn i D w, ⟨12, 0, Nat.zero_le _, rfl, rfl, dgT_0.symm⟩, ?_⟩
        rintro q _ _ ⟨w, hw, rfl, rfl, rfl⟩
        have e12 : (12 : Int32) ≤ nI w ↔ 12 ≤ w := nI_leI (a := 12) (by decide) (by omega)
        rw [e12]
        refine ⟨fun c => ?_, fun c => ?_⟩
        · have : w = 12 := by omega
          subst this
          rintro _ rfl
          exact ⟨n - (i + 1), by omega, i + 1, hlt, rfl, nI_1 i, e0.symm⟩
        · refine fun o e => ⟨_, e.trans h.qF.1, h.qF.2, fun o e => ⟨_, e.trans q21, L21.1, s_get L21 hlt ⟨_, rfl, L21.2.2.2.1 i hlt, ?_⟩⟩⟩
          refine s_tell (S := S) (I := sI S) (R := sR S) (B := 20) h.cf h.lk hlt (show w < 12 by omega) ?_
          rintro _ rfl _ rfl
          exact ⟨12 - (w + 1), by omega, w + 1, by omega, rfl, nI_1 w, dgT_s.symm⟩
    · have hlt : k < 8 := Nat.not_le.mp fun q => c (nI_le q (by omega))
      refine s_get L4 hlt ⟨_, rfl, h.aD hlt, s_digestFrom h hlt ?_⟩
      rintro _ rfl
      exact ⟨8 - (k + 1), by omega, k + 1, hlt, rfl, nI_1 k, dgK_s.symm⟩
  · refine s_ftell (S := S) (I := sI S) (R := sR S) (B := 20) h.cf h.lk (show i < 9 by omega) ?_
    rintro _ rfl _ rfl
    exact ⟨9 - (i + 1), by omega, i + 1, by omega, rfl, nI_1 i, dgC_s.symm⟩
theorem s_mdigest {post : Int64 → St → Prop} (hj : Inj ad) (h : HM S ad tl tb dl df n g pt dn bt m wg rd) (hW : OkW n m wg rd) (hp : ∀ S', MR S ad 0 tl tb dl df n g pt dn bt m wg rd S' → post (dgF dl df n g pt dn bt m wg rd) S') : w_M_digest post S (ad 100 0) := by
  unfold dgF at hp
  unfold w_M_digest
  rintro S1 rfl
  have h1 : HM (pI S 56 (ad 100 0) 0) ad tl tb dl df n g pt dn bt m wg rd := h.th
  have f1 : Fr (fun t _ => t < 45) S (pI S 56 (ad 100 0) 0) ad ad := fr_th hj
  have e56 : sI (pI S 56 (ad 100 0) 0) 56 (ad 100 0) = 0 := th_at
  generalize pI S 56 (ad 100 0) 0 = S1 at *
  have hn := h1.mc.2.1
  have hm := h1.mc.2.2.1
  refine ⟨fun q d x => ∃ i, i ≤ 9 ∧ q = 9 - i ∧ x = nI i ∧ d = dgC n m g bt i, ⟨9, 0, Nat.zero_le _, rfl, rfl, dgC_0.symm⟩, ?_⟩
  rintro q _ _ ⟨i, hi, rfl, rfl, rfl⟩
  have e9 : (9 : Int32) ≤ nI i ↔ 9 ≤ i := nI_leI (a := 9) (by decide) (by omega)
  rw [e9]
  refine ⟨fun c => ?_, fun c => ?_⟩
  · have : i = 9 := by omega
    subst this
    generalize dgC n m g bt 9 = D9 at hp ⊢
    refine ⟨fun q d x => ∃ k, k ≤ 8 ∧ q = 8 - k ∧ x = nI k ∧ d = dgK dl df D9 k, ⟨8, 0, Nat.zero_le _, rfl, rfl, dgK_0.symm⟩, ?_⟩
    rintro q _ _ ⟨k, hk, rfl, rfl, rfl⟩
    have e8 : (8 : Int32) ≤ nI k ↔ 8 ≤ k := nI_leI (a := 8) (by decide) (by omega)
    rw [e8]
    refine ⟨fun c => ?_, fun c => ?_⟩
    · have : k = 8 := by omega
      subst this
      generalize dgK dl df D9 8 = D8 at hp ⊢
      refine ⟨fun q S' d x kc ks => ∃ i, i ≤ n ∧ q = n - i ∧ x = nI i ∧ kc = 12 * i ∧ ks = 144 * i ∧ d = dgR g pt dn D8 i ∧ MR S ad 0 tl tb dl df n g pt dn bt m wg rd S', ⟨n, 0, Nat.zero_le _, rfl, rfl, rfl, rfl, dgR_0.symm, h1, e56, f1⟩, ?_⟩
      rintro q S2 _ _ _ _ ⟨i, hi, rfl, rfl, rfl, rfl, rfl, h2, r2, f2⟩
      refine ⟨⟨by omega, by omega⟩, fun o e => ⟨_, e.trans h2.qS.1, h2.qS.2, ?_⟩⟩
      rw [h2.mc.2.2.2.1]
      refine ⟨fun c => ?_, fun c => ?_⟩
      · have : i = n := by
          have := (nI_leI (by omega) (by omega)).mp c
          omega
        rw [this]
        generalize dgR g pt dn D8 n = Dn at hp ⊢
        refine ⟨fun q d x => ∃ j, j ≤ m ∧ q = m - j ∧ x = nI j ∧ d = dgN wg rd Dn j, ⟨m, 0, Nat.zero_le _, rfl, rfl, dgN_0.symm⟩, ?_⟩
        rintro q _ _ ⟨j, hjm, rfl, rfl, rfl⟩
        refine fun o e => ⟨_, e.trans h2.qS.1, h2.qS.2, ?_⟩
        rw [h2.mc.2.2.2.2.1]
        refine ⟨fun c => ?_, fun c => ?_⟩
        · have : j = m := by
            have := (nI_leI (by omega) (by omega)).mp c
            omega
          rw [this]
          exact hp S2 ⟨h2, r2, f2⟩
        · have hlt : j < m := Nat.not_le.mp fun q => c (nI_le q (by omega))
          have e0 : dgN wg rd Dn (j + 1) = dgV wg rd j (dgN wg rd Dn j) 6 := dgN_s
          generalize dgN wg rd Dn j = D at e0 ⊢
          refine ⟨fun q d x => ∃ w, w ≤ 6 ∧ q = 6 - w ∧ x = nI w ∧ d = dgV wg rd j D w, ⟨6, 0, Nat.zero_le _, rfl, rfl, dgV_0.symm⟩, ?_⟩
          rintro q _ _ ⟨w, hw, rfl, rfl, rfl⟩
          have e6 : (6 : Int32) ≤ nI w ↔ 6 ≤ w := nI_leI (a := 6) (by decide) (by omega)
          rw [e6]
          refine ⟨fun c => ?_, fun c => ?_⟩
          · have : w = 6 := by omega
            subst this
            rintro _ rfl
            exact ⟨m - (j + 1), by omega, j + 1, hlt, rfl, nI_1 j, e0.symm⟩
          · refine s_wtold h2 hW hlt (show w < 6 by omega) ?_
            rintro _ rfl _ rfl
            exact ⟨6 - (w + 1), by omega, w + 1, by omega, rfl, nI_1 w, dgV_s.symm⟩
      · have hlt : i < n := Nat.not_le.mp fun q => c (nI_le q (by omega))
        have e0 : dgR g pt dn D8 (i + 1) = dgT g pt dn i (dgR g pt dn D8 i) 12 := dgR_s
        generalize dgR g pt dn D8 i = D at e0 ⊢
        refine ⟨fun q S' d x kc ks => ∃ w, w ≤ 12 ∧ q = 12 - w ∧ x = nI w ∧ kc = 12 * i + w ∧ ks = 144 * i + 12 * w ∧ d = dgT g pt dn i D w ∧ MR S ad 0 tl tb dl df n g pt dn bt m wg rd S', ⟨12, 0, Nat.zero_le _, rfl, rfl, rfl, rfl, dgT_0.symm, h2, r2, f2⟩, ?_⟩
        rintro q S3 _ _ _ _ ⟨w, hw, rfl, rfl, rfl, rfl, rfl, h3, r3, f3⟩
        have e12 : (12 : Int32) ≤ nI w ↔ 12 ≤ w := nI_leI (a := 12) (by decide) (by omega)
        rw [e12]
        refine ⟨⟨by omega, by omega⟩, fun c => ?_, fun c => ?_⟩
        · have : w = 12 := by omega
          subst this
          rintro _ rfl
          exact ⟨n - (i + 1), by omega, i + 1, hlt, rfl, nI_1 i, by omega, by omega, e0.symm, h3, r3, f3⟩
        · refine ⟨⟨by omega, by omega⟩, s_told h3 hlt (show w < 12 by omega) (fun S4 h4 e4 f4 => ?_)⟩
          rintro _ rfl _ rfl
          exact ⟨12 - (w + 1), by omega, w + 1, by omega, rfl, nI_1 w, by omega, by omega, dgT_s.symm, h4, e4.trans r3, f3.tr f4⟩
    · have hlt : k < 8 := by omega
      obtain ⟨d1, d2, d3, d4⟩ := h1.md hlt
      have hin : vp_in (nI k) (sN S1 (ad 102 0)) := by rw [h1.ln.2.2]; exact vp_in_nI hlt (by decide)
      refine fun o e => ⟨_, e.trans h1.ln.1, h1.ln.2.1, hin, ?_⟩
      rw [nI_clamp (show k < 2 ^ 31 by omega), d1]
      rintro _ rfl
      refine ⟨fun q d x => ∃ i, i ≤ dl k ∧ q = dl k - i ∧ x = nI i ∧ d = dgP df k (dgK dl df D9 k * 31 + (nI (dl k)).toInt64) i, ⟨dl k, 0, Nat.zero_le _, rfl, rfl, dgP_0.symm⟩, ?_⟩
      rintro q _ _ ⟨i, hi, rfl, rfl, rfl⟩
      refine fun o e => ⟨_, e.trans h1.ln.1, h1.ln.2.1, hin, ?_⟩
      rw [d1]
      refine ⟨fun c => ?_, fun c => ?_⟩
      · have : i = dl k := by
          have := (nI_leI (by omega) (by omega)).mp c
          omega
        rw [this]
        rintro _ rfl
        exact ⟨8 - (k + 1), by omega, k + 1, hlt, rfl, nI_1 k, dgK_s.symm⟩
      · have hik : i < dl k := Nat.not_le.mp fun q => c (nI_le q (by omega))
        have e24 : (24 : Int32) * nI k + nI i = nI (24 * k + i) := by rw [show (24 : Int32) = nI 24 from rfl, pk_mul, nI_add]
        refine fun o e => ⟨_, e.trans h1.fg.1, h1.fg.2.1, by rw [h1.fg.2.2, e24]; exact vp_in_nI (by omega) (by decide), ?_⟩
        rw [e24, nI_clamp (show 24 * k + i < 2 ^ 31 by omega), d4 i hik]
        rintro _ rfl _ rfl
        exact ⟨dl k - (i + 1), by omega, i + 1, hik, rfl, nI_1 i, dgP_s.symm⟩
  · refine s_counted h1 (show i < 9 by omega) ?_
    rintro _ rfl _ rfl
    exact ⟨9 - (i + 1), by omega, i + 1, by omega, rfl, nI_1 i, dgC_s.symm⟩
end DIG
