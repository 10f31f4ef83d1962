/-! the law's helpers: class and reference side by side -/
def INV (q1 q6 q11 : Nat) (S : St) : Prop := ∃ (ad : Nat → Nat → Nat) (tl : Nat) (tb dl : Nat → Nat) (df : Nat → Nat → Int32) (n : Nat) (g : Nat → Nat → Int32) (pt : Nat → Option Nat) (dn : Nat → Nat) (bt : Int32) (m : Nat) (wg rd : Nat → Nat → Int32), Inj ad ∧ ad 1 0 = q1 ∧ ad 100 0 = q6 ∧ ad 40 0 = q11 ∧ HC S ad tl tb dl df n g pt dn bt m wg rd ∧ HM S ad tl tb dl df n g pt dn bt m wg rd ∧ HO tl tb dl df n g pt dn m wg rd
/-- what the law asks behind a call -/
def TL (A : Prop) (q11 : Nat) (k r : Int32) (S : St) (th : Int32) : Prop := (th = k → ∃ J : Prop, (J → A) ∧ (k = 0 → vp_in 0 (sN S q11) ∧ ((lg_cmp (sJ S q11 (0 : Int32).toNatClampNeg) (r.toInt64)) = 0 → J) ∧ (¬ (lg_cmp (sJ S q11 (0 : Int32).toNatClampNeg) (r.toInt64)) = 0 → False)) ∧ (¬ k = 0 → J)) ∧ (¬ th = k → False)
theorem l_ok {K : Int32 → St → Prop} {S : St} {q : Nat} {r : Int32} (hA : isA S 13 q) (hN : sN S q = 1) (h : K 0 (pJ S q 0 (r.toInt64))) : ∃ y : Nat, some q = some y ∧ isA S 13 y ∧ vp_in 0 (sN S y) ∧ ∀ S9 : St, S9 = pJ S y ((0 : Int32).toNatClampNeg) (r.toInt64) → K 0 S9 := by
  refine ⟨q, rfl, hA, by rw [hN]; exact vp_in_nI (n := 0) (by decide) (by decide), ?_⟩
  rintro _ rfl
  exact h
section LH
variable {S S1 S3 : St} {ad ad1 : Nat → Nat → Nat} {tl n m tl' n' m' : Nat} {tb dl dn tb' dl' dn' : Nat → Nat} {df g wg rd df' g' wg' rd' : Nat → Nat → Int32} {pt pt' : Nat → Option Nat} {bt bt' k r : Int32} {A : St → Prop} {q1 q6 q11 : Nat} {K : Int32 → St → Prop} {v u x y z : Int32}
theorem t_mid {w : Int64} (hc : HC S ad tl tb dl df n g pt dn bt m wg rd) (hm : HM S ad tl tb dl df n g pt dn bt m wg rd) (F : Fr (fun t _ => 40 ≤ t) S S1 ad ad1) : ad1 100 0 = ad 100 0 ∧ ad1 40 0 = ad 40 0 ∧ isA S1 13 (ad 40 0) ∧ sN S1 (ad 40 0) = 1 ∧ HM (pJ S1 (ad 40 0) 0 w) ad1 tl tb dl df n g pt dn bt m wg rd := by
  have a40 := hc.1.2.2.2.2.2.2.2.2.2.2.1
  have n40 := hc.1.2.2.2.2.2.2.2.2.2.2.2
  have f40 := F.a (t := 40) (i := 0) (by decide) a40
  have e40 := f40.1
  have hm1 : HM S1 ad1 tl tb dl df n g pt dn bt m wg rd := hm.fr F (fun t i h1 h2 => by omega)
  refine ⟨(F.a (t := 100) (i := 0) (by decide) hm.1).1, e40, ?_, ?_, hm1⟩
  · rw [← e40]; exact f40.2.1
  · rw [← e40]; exact f40.2.2.trans n40
theorem t_end (hA : ∀ S', INV (ad1 1 0) (ad1 100 0) (ad1 40 0) S' → A S') (j1 : Inj ad1) (h1 : HC S1 ad1 tl tb dl df n g pt dn bt m wg rd) (hO : HO tl tb dl df n g pt dn m wg rd) (hMR : MR (pJ S1 (ad1 40 0) 0 (r.toInt64)) ad1 0 tl tb dl df n g pt dn bt m wg rd S3) : w_M_thrown (fun th => TL (A S3) (ad1 40 0) 0 r S3 th) S3 (ad1 100 0) := by
  obtain ⟨h3, r3, f3⟩ := hMR
  have h2 : HC (pJ S1 (ad1 40 0) 0 (r.toInt64)) ad1 tl tb dl df n g pt dn bt m wg rd := h1
  have c3 : HC S3 ad1 tl tb dl df n g pt dn bt m wg rd := h2.fr f3 (fun t i ht _ _ => ht)
  have a40 := h2.1.2.2.2.2.2.2.2.2.2.2.1
  have e40 : sJ S3 (ad1 40 0) 0 = r.toInt64 := (congrFun (f3.2 40 0 (by decide) a40.1).2.2.2.2.2 0).trans up2_at
  have n40 : sN S3 (ad1 40 0) = 1 := c3.1.2.2.2.2.2.2.2.2.2.2.2
  have c0 : (0 : Int32).toNatClampNeg = 0 := rfl
  show TL (A S3) (ad1 40 0) 0 r S3 (sI S3 56 (ad1 100 0))
  rw [r3]
  unfold TL
  rw [c0, e40, n40]
  exact ⟨fun _ => ⟨True, fun _ => hA S3 ⟨ad1, tl, tb, dl, df, n, g, pt, dn, bt, m, wg, rd, j1, rfl, rfl, rfl, c3, h3, hO⟩, fun _ => ⟨vp_in_nI (n := 0) (by decide) (by decide), fun _ => trivial, fun c => c ((lg_cmp_eq _ _).mpr rfl)⟩, fun _ => trivial⟩, fun c => c rfl⟩
theorem t_no (hk : ¬ k = 0) (hA : ∀ S', INV (ad 1 0) (ad 100 0) (ad 40 0) S' → A S') (hj : Inj ad) (h : HC S ad tl tb dl df n g pt dn bt m wg rd) (hO : HO tl tb dl df n g pt dn m wg rd) (hMR : MR S ad k tl tb dl df n g pt dn bt m wg rd S3) : w_M_thrown (fun th => TL (A S3) (ad 40 0) k r S3 th) S3 (ad 100 0) := by
  obtain ⟨h3, r3, f3⟩ := hMR
  have c3 : HC S3 ad tl tb dl df n g pt dn bt m wg rd := h.fr f3 (fun t i ht _ _ => ht)
  show TL (A S3) (ad 40 0) k r S3 (sI S3 56 (ad 100 0))
  rw [r3]
  exact ⟨fun _ => ⟨True, fun _ => hA S3 ⟨ad, tl, tb, dl, df, n, g, pt, dn, bt, m, wg, rd, hj, rfl, rfl, rfl, c3, h3, hO⟩, fun c => absurd c hk, fun _ => trivial⟩, fun c => c rfl⟩
/-- the road behind a good call of the class -/
theorem t_go {M : (Int32 → St → Prop) → St → Nat → Prop} {K : Int32 → St → Prop} (hA : ∀ S', INV (ad 1 0) (ad 100 0) (ad 40 0) S' → A S') (hK : ∀ k S', M (fun r S'' => w_M_thrown (fun th => TL (A S'') (ad 40 0) k r S'' th) S'' (ad 100 0)) S' (ad 100 0) → K k S')
    (hc : HC S ad tl tb dl df n g pt dn bt m wg rd) (hm : HM S ad tl tb dl df n g pt dn bt m wg rd) (F : Fr (fun t _ => 40 ≤ t) S S1 ad ad1) (j1 : Inj ad1) (e1 : ad1 1 0 = ad 1 0) (h1 : HC S1 ad1 tl' tb' dl' df' n' g' pt' dn' bt' m' wg' rd') (hO : HO tl' tb' dl' df' n' g' pt' dn' m' wg' rd')
    (hgo : ∀ post : Int32 → St → Prop, HM (pJ S1 (ad1 40 0) 0 (r.toInt64)) ad1 tl tb dl df n g pt dn bt m wg rd → (∀ S3, MR (pJ S1 (ad1 40 0) 0 (r.toInt64)) ad1 0 tl' tb' dl' df' n' g' pt' dn' bt' m' wg' rd' S3 → post r S3) → M post (pJ S1 (ad1 40 0) 0 (r.toInt64)) (ad1 100 0)) : ∃ y : Nat, some (ad 40 0) = some y ∧ isA S1 13 y ∧ vp_in 0 (sN S1 y) ∧ ∀ S9 : St, S9 = pJ S1 y ((0 : Int32).toNatClampNeg) (r.toInt64) → K 0 S9 := by
  obtain ⟨y6, y11, ya, yn, hm2⟩ := t_mid (w := r.toInt64) hc hm F
  refine l_ok ya yn (hK 0 _ ?_)
  rw [← e1, ← y6, ← y11] at hA
  rw [← y11] at hm2
  rw [← y6, ← y11]
  exact hgo _ hm2 (fun S3 hMR => t_end hA j1 h1 hO hMR)
theorem frM {P P' : Nat → Nat → Prop} (h : Fr P S S1 ad ad1) (hp : ∀ t i, P' t i → P t i) : Fr P' S S1 ad ad1 := h.mono hp
theorem L_feed (hI : INV q1 q6 q11 S) (hA : ∀ S', INV q1 q6 q11 S' → A S') {a b c d e : Int32} (hK : ∀ k S', w_M_feed (fun r S'' => w_M_thrown (fun th => TL (A S'') q11 k r S'' th) S'' q6) S' q6 a b c d e → K k S') : w_L_feed K S (some q1) a b c d e (some q11) := by
  obtain ⟨ad, tl, tb, dl, df, n, g, pt, dn, bt, m, wg, rd, hj, rfl, rfl, rfl, h, hm, ho⟩ := hI
  unfold w_L_feed
  refine ⟨_, rfl, h.1.1, s_feed (vs := fun o => ([a, b, c, d, e] : List Int32).getD o 0) hj h (fun ht S1 h1 f1 => ?_) (fun ht => ⟨rfl, hK 1 _ ?_⟩)⟩
  · refine t_go (M := fun post S' q => w_M_feed post S' q a b c d e) hA hK h hm (f1.mono (fun t i ht => by omega)) hj rfl h1 (ho.tape (by omega) (fun j => tbN_lt ho.2.1 j)) (fun post hm2 hp => ?_)
    exact s_mfeed (vs := fun o => ([a, b, c, d, e] : List Int32).getD o 0) hj hm2 ho.1 (fun _ S3 hMR => hp S3 hMR) (fun c => absurd ht c)
  · exact s_mfeed (vs := fun o => ([a, b, c, d, e] : List Int32).getD o 0) hj hm ho.1 (fun c => absurd c ht) (fun _ S3 hMR => t_no (by decide) hA hj h ho hMR)
theorem L_trim (hI : INV q1 q6 q11 S) (hA : ∀ S', INV q1 q6 q11 S' → A S') (hK : ∀ k S', w_M_trim (fun r S'' => w_M_thrown (fun th => TL (A S'') q11 k r S'' th) S'' q6) S' q6 v → K k S') : w_L_trim K S (some q1) v (some q11) := by
  obtain ⟨ad, tl, tb, dl, df, n, g, pt, dn, bt, m, wg, rd, hj, rfl, rfl, rfl, h, hm, ho⟩ := hI
  have htl := ho.1
  unfold w_L_trim
  refine ⟨_, rfl, h.1.1, s_trim hj h (fun k hk ek S1 h1 f1 => ?_) (fun ht => ⟨rfl, hK 1 _ ?_⟩)⟩
  · refine t_go (M := fun post S' q => w_M_trim post S' q v) hA hK h hm (f1.mono (fun t i ht => by omega)) hj rfl h1 (ho.tape (by omega) ho.2.1) (fun post hm2 hp => ?_)
    refine s_mtrim hj hm2 ho.1 (fun k' hk' ek' S3 hMR => ?_) (fun c => absurd ⟨k, hk, ek⟩ c)
    obtain rfl : k = k' := (nI_eq (by omega) (by omega)).mp (ek.symm.trans ek')
    exact hp S3 hMR
  · exact s_mtrim hj hm ho.1 (fun k hk ek => absurd ⟨k, hk, ek⟩ ht) (fun _ S3 hMR => t_no (by decide) hA hj h ho hMR)
theorem L_learn (hI : INV q1 q6 q11 S) (hA : ∀ S', INV q1 q6 q11 S' → A S') (hK : ∀ k S', w_M_learn (fun r S'' => w_M_thrown (fun th => TL (A S'') q11 k r S'' th) S'' q6) S' q6 v → K k S') : w_L_learn K S (some q1) v (some q11) := by
  obtain ⟨ad, tl, tb, dl, df, n, g, pt, dn, bt, m, wg, rd, hj, rfl, rfl, rfl, h, hm, ho⟩ := hI
  unfold w_L_learn
  refine ⟨_, rfl, h.1.1, s_learn hj h (fun k hk ek hd S1 h1 f1 => ?_) (fun k hk ek hd S1 h1 f1 => ?_) (fun ht => ⟨rfl, hK 1 _ ?_⟩)⟩
  · refine t_go (M := fun post S' q => w_M_learn post S' q v) hA hK h hm (f1.mono (fun t i ht => by omega)) hj rfl h1 (ho.learn hk hd) (fun post hm2 hp => ?_)
    refine s_mlearn hj hm2 ho.1 ho.2.1 (fun k' hk' ek' _ S3 hMR => ?_) (fun k' hk' ek' hd' => absurd hd hd') (fun c => absurd ⟨k, hk, ek⟩ c)
    obtain rfl : k = k' := (nI_eq (by omega) (by omega)).mp (ek.symm.trans ek')
    exact hp S3 hMR
  · refine t_go (M := fun post S' q => w_M_learn post S' q v) hA hK h hm (f1.mono (fun t i ht => by omega)) hj rfl h1 (ho.tape (by decide) ho.2.1) (fun post hm2 hp => ?_)
    exact s_mlearn hj hm2 ho.1 ho.2.1 (fun k' hk' ek' hd' => absurd hd' hd) (fun k' hk' ek' _ S3 hMR => hp S3 hMR) (fun c => absurd ⟨k, hk, ek⟩ c)
  · exact s_mlearn hj hm ho.1 ho.2.1 (fun k hk ek => absurd ⟨k, hk, ek⟩ ht) (fun k hk ek => absurd ⟨k, hk, ek⟩ ht) (fun _ S3 hMR => t_no (by decide) hA hj h ho hMR)
theorem L_figure (hI : INV q1 q6 q11 S) (hA : ∀ S', INV q1 q6 q11 S' → A S') (hK : ∀ k S', w_M_figure (fun r S'' => w_M_thrown (fun th => TL (A S'') q11 k r S'' th) S'' q6) S' q6 v u → K k S') : w_L_figure K S (some q1) v u (some q11) := by
  obtain ⟨ad, tl, tb, dl, df, n, g, pt, dn, bt, m, wg, rd, hj, rfl, rfl, rfl, h, hm, ho⟩ := hI
  unfold w_L_figure
  refine ⟨_, rfl, h.1.1, s_figure h (fun k p hk ek hp ep => ?_) (fun ht => ⟨rfl, hK 1 _ ?_⟩)⟩
  · have hl := h.len hk
    refine t_go (M := fun post S' q => w_M_figure post S' q v u) hA hK h hm Fr.rf hj rfl h ho (fun post hm2 hpp => ?_)
    refine s_mfigure hj hm2 (fun k' p' hk' ek' hp' ep' S3 hMR => ?_) (fun c => absurd ⟨k, p, hk, ek, hp, ep⟩ c)
    obtain rfl : k = k' := (nI_eq (by omega) (by omega)).mp (ek.symm.trans ek')
    obtain rfl : p = p' := (nI_eq (by omega) (by omega)).mp (ep.symm.trans ep')
    exact hpp S3 hMR
  · exact s_mfigure hj hm (fun k p hk ek hp ep => absurd ⟨k, p, hk, ek, hp, ep⟩ ht) (fun _ S3 hMR => t_no (by decide) hA hj h ho hMR)
theorem L_drift (hI : INV q1 q6 q11 S) (hA : ∀ S', INV q1 q6 q11 S' → A S') (hK : ∀ k S', w_M_drift (fun r S'' => w_M_thrown (fun th => TL (A S'') q11 k r S'' th) S'' q6) S' q6 v u → K k S') : w_L_drift K S (some q1) v u (some q11) := by
  obtain ⟨ad, tl, tb, dl, df, n, g, pt, dn, bt, m, wg, rd, hj, rfl, rfl, rfl, h, hm, ho⟩ := hI
  unfold w_L_drift
  refine ⟨_, rfl, h.1.1, s_drift h (fun k p hk ek hp ep => ?_) (fun ht => ⟨rfl, hK 1 _ ?_⟩)⟩
  · refine t_go (M := fun post S' q => w_M_drift post S' q v u) hA hK h hm Fr.rf hj rfl h ho (fun post hm2 hpp => ?_)
    refine s_mdrift hj hm2 (fun k' p' hk' ek' hp' ep' S3 hMR => ?_) (fun c => absurd ⟨k, p, hk, ek, hp, ep⟩ c)
    obtain rfl : k = k' := (nI_eq (by omega) (by omega)).mp (ek.symm.trans ek')
    obtain rfl : p = p' := (nI_eq (by omega) (by omega)).mp (ep.symm.trans ep')
    exact hpp S3 hMR
  · exact s_mdrift hj hm (fun k p hk ek hp ep => absurd ⟨k, p, hk, ek, hp, ep⟩ ht) (fun _ S3 hMR => t_no (by decide) hA hj h ho hMR)
theorem L_come (hI : INV q1 q6 q11 S) (hA : ∀ S', INV q1 q6 q11 S' → A S') (hK : ∀ k S', w_M_come (fun r S'' => w_M_thrown (fun th => TL (A S'') q11 k r S'' th) S'' q6) S' q6 v u x y → K k S') : w_L_come K S (some q1) v u x y (some q11) := by
  obtain ⟨ad, tl, tb, dl, df, n, g, pt, dn, bt, m, wg, rd, hj, rfl, rfl, rfl, h, hm, ho⟩ := hI
  have hz := ho.2.2.2.2.2.2.2.2.1
  unfold w_L_come
  refine ⟨_, rfl, h.1.1, s_come hj h (fun hr hn hw S1 ad1 j1 h1 f1 e1 => ?_) (fun hr hc => Or.inr ⟨rfl, hK 2 _ ?_⟩) (fun hr => Or.inl ⟨rfl, hK 1 _ ?_⟩)⟩
  · refine t_go (M := fun post S' q => w_M_come post S' q v u x y) hA hK h hm (f1.mono (fun t i ht => by omega)) j1 e1 h1 (ho.come hr hn hw) (fun post hm2 hpp => ?_)
    exact s_mcome j1 hm2 ho.2.2.1 hz (fun _ _ _ S3 hMR => hpp S3 hMR) (fun _ c => absurd ⟨hn, hw⟩ c) (fun c => absurd hr c)
  · exact s_mcome hj hm ho.2.2.1 hz (fun _ a b => absurd ⟨a, b⟩ hc) (fun _ _ S3 hMR => t_no (by decide) hA hj h ho hMR) (fun c => absurd hr c)
  · exact s_mcome hj hm ho.2.2.1 hz (fun c => absurd c hr) (fun c => absurd c hr) (fun _ S3 hMR => t_no (by decide) hA hj h ho hMR)
theorem L_dance (hI : INV q1 q6 q11 S) (hA : ∀ S', INV q1 q6 q11 S' → A S') (hK : ∀ k S', w_M_dance (fun r S'' => w_M_thrown (fun th => TL (A S'') q11 k r S'' th) S'' q6) S' q6 v u → K k S') : w_L_dance K S (some q1) v u (some q11) := by
  obtain ⟨ad, tl, tb, dl, df, n, g, pt, dn, bt, m, wg, rd, hj, rfl, rfl, rfl, h, hm, ho⟩ := hI
  have hn := h.n8
  unfold w_L_dance
  refine ⟨_, rfl, h.1.1, s_dance hj h (fun k p hk ek hp ep S1 h1 f1 => ?_) (fun ht => ⟨rfl, hK 1 _ ?_⟩)⟩
  · refine t_go (M := fun post S' q => w_M_dance post S' q v u) hA hK h hm (f1.mono (fun t i ht => by omega)) hj rfl h1 (ho.dance hk hp) (fun post hm2 hpp => ?_)
    refine s_mdance hj hm2 (fun k' p' hk' ek' hp' ep' S3 hMR => ?_) (fun c => absurd ⟨k, p, hk, ek, hp, ep⟩ c)
    obtain rfl : k = k' := (nI_eq (by omega) (by omega)).mp (ek.symm.trans ek')
    obtain rfl : p = p' := (nI_eq (by omega) (by omega)).mp (ep.symm.trans ep')
    exact hpp S3 hMR
  · exact s_mdance hj hm (fun k p hk ek hp ep => absurd ⟨k, p, hk, ek, hp, ep⟩ ht) (fun _ S3 hMR => t_no (by decide) hA hj h ho hMR)
theorem L_pair (hI : INV q1 q6 q11 S) (hA : ∀ S', INV q1 q6 q11 S' → A S') (hK : ∀ k S', w_M_pair (fun r S'' => w_M_thrown (fun th => TL (A S'') q11 k r S'' th) S'' q6) S' q6 v u → K k S') : w_L_pair K S (some q1) v u (some q11) := by
  obtain ⟨ad, tl, tb, dl, df, n, g, pt, dn, bt, m, wg, rd, hj, rfl, rfl, rfl, h, hm, ho⟩ := hI
  have hn := h.n8
  have hpt : ∀ i j, i < n → pt i = some j → j < n := fun i j hi hp => (ho.2.2.1.2.2.1 i j hi hp).1
  unfold w_L_pair
  refine ⟨_, rfl, h.1.1, s_pair hj h (fun i j hi ei hjn ej hij pi pj hb S1 h1 f1 => ?_) (fun i j hi ei hjn ej hij hc => Or.inr (Or.inr ⟨rfl, hK 3 _ ?_⟩)) (fun i hi ei eu => Or.inr (Or.inl ⟨rfl, hK 2 _ ?_⟩)) (fun ht => Or.inl ⟨rfl, hK 1 _ ?_⟩)⟩
  · refine t_go (M := fun post S' q => w_M_pair post S' q v u) hA hK h hm (f1.mono (fun t i ht => by omega)) hj rfl h1 (ho.pair hi hjn hij pi pj hb) (fun post hm2 hpp => ?_)
    refine s_mpair hj hm2 hpt (fun i' j' hi' ei' hj' ej' _ _ _ _ S3 hMR => ?_) (fun i' j' hi' ei' hj' ej' _ hc => ?_) (fun i' hi' ei' eu' => ?_) (fun c => absurd ⟨i, j, hi, ei, hjn, ej⟩ c)
    · obtain rfl : i = i' := (nI_eq (by omega) (by omega)).mp (ei.symm.trans ei')
      obtain rfl : j = j' := (nI_eq (by omega) (by omega)).mp (ej.symm.trans ej')
      exact hpp S3 hMR
    · obtain rfl : i = i' := (nI_eq (by omega) (by omega)).mp (ei.symm.trans ei')
      obtain rfl : j = j' := (nI_eq (by omega) (by omega)).mp (ej.symm.trans ej')
      exact absurd ⟨pi, pj, hb⟩ hc
    · obtain rfl : i = i' := (nI_eq (by omega) (by omega)).mp (ei.symm.trans ei')
      exact absurd ((nI_eq (by omega) (by omega)).mp (eu'.symm.trans ej)) hij
  · refine s_mpair hj hm hpt (fun i' j' hi' ei' hj' ej' _ a b c => ?_) (fun i' j' hi' ei' hj' ej' _ _ S3 hMR => t_no (by decide) hA hj h ho hMR) (fun i' hi' ei' eu' => ?_) (fun c => absurd ⟨i, j, hi, ei, hjn, ej⟩ c)
    · obtain rfl : i = i' := (nI_eq (by omega) (by omega)).mp (ei.symm.trans ei')
      obtain rfl : j = j' := (nI_eq (by omega) (by omega)).mp (ej.symm.trans ej')
      exact absurd ⟨a, b, c⟩ hc
    · obtain rfl : i = i' := (nI_eq (by omega) (by omega)).mp (ei.symm.trans ei')
      exact absurd ((nI_eq (by omega) (by omega)).mp (eu'.symm.trans ej)) hij
  · refine s_mpair hj hm hpt (fun i' j' hi' ei' hj' ej' hij => ?_) (fun i' j' hi' ei' hj' ej' hij => ?_) (fun i' hi' ei' eu' S3 hMR => t_no (by decide) hA hj h ho hMR) (fun c => absurd ⟨i, i, hi, ei, hi, eu⟩ c)
    · exact absurd ((nI_eq (by omega) (by omega)).mp (((ei'.symm.trans ei).trans eu.symm).trans ej')) hij
    · exact absurd ((nI_eq (by omega) (by omega)).mp (((ei'.symm.trans ei).trans eu.symm).trans ej')) hij
  · exact s_mpair hj hm hpt (fun i' j' hi' ei' hj' ej' => absurd ⟨i', j', hi', ei', hj', ej'⟩ ht) (fun i' j' hi' ei' hj' ej' => absurd ⟨i', j', hi', ei', hj', ej'⟩ ht) (fun i' hi' ei' eu' => absurd ⟨i', i', hi', ei', hi', eu'⟩ ht) (fun _ S3 hMR => t_no (by decide) hA hj h ho hMR)
theorem L_part (hI : INV q1 q6 q11 S) (hA : ∀ S', INV q1 q6 q11 S' → A S') (hK : ∀ k S', w_M_part (fun r S'' => w_M_thrown (fun th => TL (A S'') q11 k r S'' th) S'' q6) S' q6 v → K k S') : w_L_part K S (some q1) v (some q11) := by
  obtain ⟨ad, tl, tb, dl, df, n, g, pt, dn, bt, m, wg, rd, hj, rfl, rfl, rfl, h, hm, ho⟩ := hI
  have hn := h.n8
  have hpt : ∀ i j, i < n → pt i = some j → j < n := fun i j hi hp => (ho.2.2.1.2.2.1 i j hi hp).1
  unfold w_L_part
  refine ⟨_, rfl, h.1.1, s_part hj h (fun i j hi ei hp S1 h1 f1 => ?_) (fun i hi ei hp => Or.inr ⟨rfl, hK 2 _ ?_⟩) (fun ht => Or.inl ⟨rfl, hK 1 _ ?_⟩)⟩
  · refine t_go (M := fun post S' q => w_M_part post S' q v) hA hK h hm (f1.mono (fun t i ht => by omega)) hj rfl h1 (ho.part hi hp) (fun post hm2 hpp => ?_)
    refine s_mpart hj hm2 hpt (fun i' j' hi' ei' hp' S3 hMR => ?_) (fun i' hi' ei' hp' => ?_) (fun c => absurd ⟨i, hi, ei⟩ c)
    · obtain rfl : i = i' := (nI_eq (by omega) (by omega)).mp (ei.symm.trans ei')
      obtain rfl : j = j' := Option.some.inj (hp.symm.trans hp')
      exact hpp S3 hMR
    · obtain rfl : i = i' := (nI_eq (by omega) (by omega)).mp (ei.symm.trans ei')
      rw [hp] at hp'; cases hp'
  · refine s_mpart hj hm hpt (fun i' j' hi' ei' hp' => ?_) (fun i' hi' ei' hp' S3 hMR => t_no (by decide) hA hj h ho hMR) (fun c => absurd ⟨i, hi, ei⟩ c)
    obtain rfl : i = i' := (nI_eq (by omega) (by omega)).mp (ei.symm.trans ei')
    rw [hp] at hp'; cases hp'
  · exact s_mpart hj hm hpt (fun i' j' hi' ei' => absurd ⟨i', hi', ei'⟩ ht) (fun i' hi' ei' => absurd ⟨i', hi', ei'⟩ ht) (fun _ S3 hMR => t_no (by decide) hA hj h ho hMR)
theorem L_wind (hI : INV q1 q6 q11 S) (hA : ∀ S', INV q1 q6 q11 S' → A S') (hK : ∀ k S', w_M_wind (fun r S'' => w_M_thrown (fun th => TL (A S'') q11 k r S'' th) S'' q6) S' q6 v u → K k S') : w_L_wind K S (some q1) v u (some q11) := by
  obtain ⟨ad, tl, tb, dl, df, n, g, pt, dn, bt, m, wg, rd, hj, rfl, rfl, rfl, h, hm, ho⟩ := hI
  have hn := h.n8
  unfold w_L_wind
  refine ⟨_, rfl, h.1.1, s_wind hj h (fun i hi ei c1 c2 S1 h1 f1 => ?_) (fun i hi ei hc => Or.inr ⟨rfl, hK 2 _ ?_⟩) (fun ht => Or.inl ⟨rfl, hK 1 _ ?_⟩)⟩
  · refine t_go (M := fun post S' q => w_M_wind post S' q v u) hA hK h hm (f1.mono (fun t i ht => by omega)) hj rfl h1 (ho.wind hi) (fun post hm2 hpp => ?_)
    refine s_mwind hj hm2 (fun i' hi' ei' _ _ S3 hMR => ?_) (fun i' hi' ei' hc => absurd ⟨c1, c2⟩ hc) (fun c => absurd ⟨i, hi, ei⟩ c)
    obtain rfl : i = i' := (nI_eq (by omega) (by omega)).mp (ei.symm.trans ei')
    exact hpp S3 hMR
  · exact s_mwind hj hm (fun i' hi' ei' a b => absurd ⟨a, b⟩ hc) (fun i' hi' ei' _ S3 hMR => t_no (by decide) hA hj h ho hMR) (fun c => absurd ⟨i, hi, ei⟩ c)
  · exact s_mwind hj hm (fun i' hi' ei' => absurd ⟨i', hi', ei'⟩ ht) (fun i' hi' ei' => absurd ⟨i', hi', ei'⟩ ht) (fun _ S3 hMR => t_no (by decide) hA hj h ho hMR)
theorem L_dancer (hI : INV q1 q6 q11 S) (hA : ∀ S', INV q1 q6 q11 S' → A S') (hK : ∀ k S', w_M_dancer (fun r S'' => w_M_thrown (fun th => TL (A S'') q11 k r S'' th) S'' q6) S' q6 v u → K k S') : w_L_dancer K S (some q1) v u (some q11) := by
  obtain ⟨ad, tl, tb, dl, df, n, g, pt, dn, bt, m, wg, rd, hj, rfl, rfl, rfl, h, hm, ho⟩ := hI
  have hn := h.n8
  unfold w_L_dancer
  refine ⟨_, rfl, h.1.1, s_dancer h (fun k p hk ek hp ep => ?_) (fun ht => ⟨rfl, hK 1 _ ?_⟩)⟩
  · refine t_go (M := fun post S' q => w_M_dancer post S' q v u) hA hK h hm Fr.rf hj rfl h ho (fun post hm2 hpp => ?_)
    refine s_mdancer hj hm2 (fun k' p' hk' ek' hp' ep' S3 hMR => ?_) (fun c => absurd ⟨k, p, hk, ek, hp, ep⟩ c)
    obtain rfl : k = k' := (nI_eq (by omega) (by omega)).mp (ek.symm.trans ek')
    obtain rfl : p = p' := (nI_eq (by omega) (by omega)).mp (ep.symm.trans ep')
    exact hpp S3 hMR
  · exact s_mdancer hj hm (fun k p hk ek hp ep => absurd ⟨k, p, hk, ek, hp, ep⟩ ht) (fun _ S3 hMR => t_no (by decide) hA hj h ho hMR)
theorem L_at (hI : INV q1 q6 q11 S) (hA : ∀ S', INV q1 q6 q11 S' → A S') (hK : ∀ k S', w_M_at (fun r S'' => w_M_thrown (fun th => TL (A S'') q11 k r S'' th) S'' q6) S' q6 v u → K k S') : w_L_at K S (some q1) v u (some q11) := by
  obtain ⟨ad, tl, tb, dl, df, n, g, pt, dn, bt, m, wg, rd, hj, rfl, rfl, rfl, h, hm, ho⟩ := hI
  unfold w_L_at
  refine ⟨_, rfl, h.1.1, s_cat h (fun hc => ?_) (fun ht => ⟨rfl, hK 1 _ ?_⟩)⟩
  · refine t_go (M := fun post S' q => w_M_at post S' q v u) hA hK h hm Fr.rf hj rfl h ho (fun post hm2 hpp => ?_)
    exact s_mat hj hm2 ho.2.2.1 (fun _ S3 hMR => hpp S3 hMR) (fun c => absurd hc c)
  · exact s_mat hj hm ho.2.2.1 (fun c => absurd c ht) (fun _ S3 hMR => t_no (by decide) hA hj h ho hMR)
theorem L_addWinder (hI : INV q1 q6 q11 S) (hA : ∀ S', INV q1 q6 q11 S' → A S') (hK : ∀ k S', w_M_addWinder (fun r S'' => w_M_thrown (fun th => TL (A S'') q11 k r S'' th) S'' q6) S' q6 v u x → K k S') : w_L_addWinder K S (some q1) v u x (some q11) := by
  obtain ⟨ad, tl, tb, dl, df, n, g, pt, dn, bt, m, wg, rd, hj, rfl, rfl, rfl, h, hm, ho⟩ := hI
  unfold w_L_addWinder
  refine ⟨_, rfl, h.1.1, s_addWinder hj h (fun hm3 p hp => ho.2.2.2.2.2.2.2.2.2 m p hm3 (Nat.le_refl m) hp) (fun hr hm3 S1 ad1 j1 h1 f1 e1 => ?_) (fun hr hc => Or.inr ⟨rfl, hK 2 _ ?_⟩) (fun hr => Or.inl ⟨rfl, hK 1 _ ?_⟩)⟩
  · refine t_go (M := fun post S' q => w_M_addWinder post S' q v u x) hA hK h hm (f1.mono (fun t i ht => by omega)) j1 e1 h1 (ho.winder hr hm3) (fun post hm2 hpp => ?_)
    exact s_maddWinder j1 hm2 (fun _ _ S3 hMR => hpp S3 hMR) (fun _ c => absurd hm3 c) (fun c => absurd hr c)
  · exact s_maddWinder hj hm (fun _ a => absurd a hc) (fun _ _ S3 hMR => t_no (by decide) hA hj h ho hMR) (fun c => absurd hr c)
  · exact s_maddWinder hj hm (fun c => absurd c hr) (fun c => absurd c hr) (fun _ S3 hMR => t_no (by decide) hA hj h ho hMR)
theorem L_call (hI : INV q1 q6 q11 S) (hA : ∀ S', INV q1 q6 q11 S' → A S') (hK : ∀ k S', w_M_call (fun r S'' => w_M_thrown (fun th => TL (A S'') q11 k r S'' th) S'' q6) S' q6 v u → K k S') : w_L_call K S (some q1) v u (some q11) := by
  obtain ⟨ad, tl, tb, dl, df, n, g, pt, dn, bt, m, wg, rd, hj, rfl, rfl, rfl, h, hm, ho⟩ := hI
  have hn := h.n8
  have hm3 := ho.2.2.2.2.2.2.1
  have hW := ho.2.2.2.1
  unfold w_L_call
  refine ⟨_, rfl, h.1.1, s_call hj h hW (fun j i l hjm ej hi ei hl el S1 h1 f1 => ?_) (fun j i hjm ej hi ei e8 => Or.inr ⟨rfl, hK 2 _ ?_⟩) (fun ht => Or.inl ⟨rfl, hK 1 _ ?_⟩)⟩
  · refine t_go (M := fun post S' q => w_M_call post S' q v u) hA hK h hm (f1.mono (fun t i ht => by omega)) hj rfl h1 (ho.call hjm hi hl el) (fun post hm2 hpp => ?_)
    refine s_mcall hj hm2 hW (fun j' i' l' hjm' ej' hi' ei' hl' el' S3 hMR => ?_) (fun j' i' hjm' ej' hi' ei' e8 => ?_) (fun c => absurd ⟨j, i, hjm, ej, hi, ei⟩ c)
    · obtain rfl : j = j' := (nI_eq (by omega) (by omega)).mp (ej.symm.trans ej')
      obtain rfl : i = i' := (nI_eq (by omega) (by omega)).mp (ei.symm.trans ei')
      obtain rfl : l = l' := (nI_eq (by omega) (by omega)).mp (el.symm.trans el')
      exact hpp S3 hMR
    · obtain rfl : j = j' := (nI_eq (by omega) (by omega)).mp (ej.symm.trans ej')
      have := (nI_eq (by omega) (by decide)).mp (el.symm.trans e8)
      omega
  · refine s_mcall hj hm hW (fun j' i' l' hjm' ej' hi' ei' hl' el' => ?_) (fun j' i' hjm' ej' hi' ei' _ S3 hMR => t_no (by decide) hA hj h ho hMR) (fun c => absurd ⟨j, i, hjm, ej, hi, ei⟩ c)
    obtain rfl : j = j' := (nI_eq (by omega) (by omega)).mp (ej.symm.trans ej')
    have := (nI_eq (by omega) (by decide)).mp (el'.symm.trans e8)
    omega
  · exact s_mcall hj hm hW (fun j i l hjm ej hi ei => absurd ⟨j, i, hjm, ej, hi, ei⟩ ht) (fun j i hjm ej hi ei => absurd ⟨j, i, hjm, ej, hi, ei⟩ ht) (fun _ S3 hMR => t_no (by decide) hA hj h ho hMR)
theorem L_winder (hI : INV q1 q6 q11 S) (hA : ∀ S', INV q1 q6 q11 S' → A S') (hK : ∀ k S', w_M_winder (fun r S'' => w_M_thrown (fun th => TL (A S'') q11 k r S'' th) S'' q6) S' q6 v u → K k S') : w_L_winder K S (some q1) v u (some q11) := by
  obtain ⟨ad, tl, tb, dl, df, n, g, pt, dn, bt, m, wg, rd, hj, rfl, rfl, rfl, h, hm, ho⟩ := hI
  have hm3 := ho.2.2.2.2.2.2.1
  have hW := ho.2.2.2.1
  unfold w_L_winder
  refine ⟨_, rfl, h.1.1, s_winder h (fun k p hk ek hp ep => ?_) (fun ht => ⟨rfl, hK 1 _ ?_⟩)⟩
  · refine t_go (M := fun post S' q => w_M_winder post S' q v u) hA hK h hm Fr.rf hj rfl h ho (fun post hm2 hpp => ?_)
    refine s_mwinder hj hm2 hW (fun k' p' hk' ek' hp' ep' S3 hMR => ?_) (fun c => absurd ⟨k, p, hk, ek, hp, ep⟩ c)
    obtain rfl : k = k' := (nI_eq (by omega) (by omega)).mp (ek.symm.trans ek')
    obtain rfl : p = p' := (nI_eq (by omega) (by omega)).mp (ep.symm.trans ep')
    exact hpp S3 hMR
  · exact s_mwinder hj hm hW (fun k p hk ek hp ep => absurd ⟨k, p, hk, ek, hp, ep⟩ ht) (fun _ S3 hMR => t_no (by decide) hA hj h ho hMR)
theorem L_pass (hI : INV q1 q6 q11 S) (hA : ∀ S', INV q1 q6 q11 S' → A S') (hK : ∀ k S', w_M_pass (fun r S'' => w_M_thrown (fun th => TL (A S'') q11 k r S'' th) S'' q6) S' q6 v → K k S') : w_L_pass K S (some q1) v (some q11) := by
  obtain ⟨ad, tl, tb, dl, df, n, g, pt, dn, bt, m, wg, rd, hj, rfl, rfl, rfl, h, hm, ho⟩ := hI
  have hW := ho.2.2.2.1
  unfold w_L_pass
  refine ⟨_, rfl, h.1.1, s_pass hj h (fun k hk1 hk2 ek S1 h1 f1 => ?_) (fun ht => ⟨rfl, hK 1 _ ?_⟩)⟩
  · refine t_go (M := fun post S' q => w_M_pass post S' q v) hA hK h hm (f1.mono (fun t i ht => by omega)) hj rfl h1 (ho.pass k) (fun post hm2 hpp => ?_)
    refine s_mpassH hj hm2 ho.2.2.1 hW (fun k' hk1' hk2' ek' S3 hMR => ?_) (fun c => absurd ⟨k, hk1, hk2, ek⟩ c)
    obtain rfl : k = k' := (nI_eq (by omega) (by omega)).mp (ek.symm.trans ek')
    exact hpp S3 hMR
  · exact s_mpassH hj hm ho.2.2.1 hW (fun k hk1 hk2 ek => absurd ⟨k, hk1, hk2, ek⟩ ht) (fun _ S3 hMR => t_no (by decide) hA hj h ho hMR)
theorem L_count (hI : INV q1 q6 q11 S) (hA : ∀ S', INV q1 q6 q11 S' → A S') (hK : ∀ k S', w_M_count (fun r S'' => w_M_thrown (fun th => TL (A S'') q11 k r S'' th) S'' q6) S' q6 v → K k S') : w_L_count K S (some q1) v (some q11) := by
  obtain ⟨ad, tl, tb, dl, df, n, g, pt, dn, bt, m, wg, rd, hj, rfl, rfl, rfl, h, hm, ho⟩ := hI
  unfold w_L_count
  refine ⟨_, rfl, h.1.1, s_count h (fun k hk ek => ?_) (fun ht => ⟨rfl, hK 1 _ ?_⟩)⟩
  · refine t_go (M := fun post S' q => w_M_count post S' q v) hA hK h hm Fr.rf hj rfl h ho (fun post hm2 hpp => ?_)
    refine s_mcount hj hm2 (fun k' hk' ek' S3 hMR => ?_) (fun c => absurd ⟨k, hk, ek⟩ c)
    obtain rfl : k = k' := (nI_eq (by omega) (by omega)).mp (ek.symm.trans ek')
    exact hpp S3 hMR
  · exact s_mcount hj hm (fun k hk ek => absurd ⟨k, hk, ek⟩ ht) (fun _ S3 hMR => t_no (by decide) hA hj h ho hMR)
theorem L_foresee (hI : INV q1 q6 q11 S) (hA : ∀ S', INV q1 q6 q11 S' → A S') (hK : ∀ k S', w_M_foresee (fun r S'' => w_M_thrown (fun th => TL (A S'') q11 k r S'' th) S'' q6) S' q6 v u x → K k S') : w_L_foresee K S (some q1) v u x (some q11) := by
  obtain ⟨ad, tl, tb, dl, df, n, g, pt, dn, bt, m, wg, rd, hj, rfl, rfl, rfl, h, hm, ho⟩ := hI
  have hn := h.n8
  have hW := ho.2.2.2.1
  have hO := ho.2.2.1
  have hz := ho.2.2.2.2.2.2.2.2.1
  have ah0 : AH n m g wg g wg := ⟨fun _ _ _ => rfl, fun _ _ _ _ => rfl, hz⟩
  unfold w_L_foresee
  refine ⟨_, rfl, h.1.1, s_foresee hj h hO ho.2.2.2.2.2.2.1 (fun i w k hi ei hw ew hk1 hk2 ek S1 ad1 g2 wg2 cl => ?_) (fun hex hc => Or.inr ⟨rfl, hK 2 _ ?_⟩) (fun ht => Or.inl ⟨rfl, hK 1 _ ?_⟩)⟩
  · obtain ⟨j1, h1, f1, c1, c2⟩ := cl
    refine t_go (M := fun post S' q => w_M_foresee post S' q v u x) hA hK h hm (f1.mono (fun t i ht => by omega)) j1 ((f1.a (t := 1) (i := 0) (by decide) h.1.1).1) h1 ho (fun post hm2 hpp => ?_)
    refine s_mforesee j1 hm2 hO hW ⟨c1, c2, hz⟩ (fun i' w' k' hi' ei' hw' ew' hk1' hk2' ek' S3 hMR => ?_) (fun _ c => absurd ⟨k, hk1, hk2, ek⟩ c) (fun c => absurd ⟨i, w, hi, ei, hw, ew⟩ c)
    obtain rfl : i = i' := (nI_eq (by omega) (by omega)).mp (ei.symm.trans ei')
    obtain rfl : w = w' := (nI_eq (by omega) (by omega)).mp (ew.symm.trans ew')
    obtain rfl : k = k' := (nI_eq (by omega) (by omega)).mp (ek.symm.trans ek')
    exact hpp S3 hMR
  · exact s_mforesee hj hm hO hW ah0 (fun _ _ k _ _ _ _ hk1 hk2 ek => absurd ⟨k, hk1, hk2, ek⟩ hc) (fun _ _ S3 hMR => t_no (by decide) hA hj h ho hMR) (fun c => absurd hex c)
  · exact s_mforesee hj hm hO hW ah0 (fun i w _ hi ei hw ew => absurd ⟨i, w, hi, ei, hw, ew⟩ ht) (fun c => absurd c ht) (fun _ S3 hMR => t_no (by decide) hA hj h ho hMR)
theorem L_firstToStop (hI : INV q1 q6 q11 S) (hA : ∀ S', INV q1 q6 q11 S' → A S') (hK : ∀ k S', w_M_firstToStop (fun r S'' => w_M_thrown (fun th => TL (A S'') q11 k r S'' th) S'' q6) S' q6 v → K k S') : w_L_firstToStop K S (some q1) v (some q11) := by
  obtain ⟨ad, tl, tb, dl, df, n, g, pt, dn, bt, m, wg, rd, hj, rfl, rfl, rfl, h, hm, ho⟩ := hI
  have hW := ho.2.2.2.1
  have hO := ho.2.2.1
  have hz := ho.2.2.2.2.2.2.2.2.1
  have ah0 : AH n m g wg g wg := ⟨fun _ _ _ => rfl, fun _ _ _ _ => rfl, hz⟩
  unfold w_L_firstToStop
  refine ⟨_, rfl, h.1.1, s_firstToStop hj h hO ho.2.2.2.2.2.2.1 (fun k hk1 hk2 ek S1 ad1 g2 wg2 cl => ?_) (fun ht => ⟨rfl, hK 1 _ ?_⟩)⟩
  · obtain ⟨j1, h1, f1, c1, c2⟩ := cl
    refine t_go (M := fun post S' q => w_M_firstToStop post S' q v) hA hK h hm (f1.mono (fun t i ht => by omega)) j1 ((f1.a (t := 1) (i := 0) (by decide) h.1.1).1) h1 ho (fun post hm2 hpp => ?_)
    refine s_mfirst j1 hm2 hO hW ⟨c1, c2, hz⟩ (fun k' hk1' hk2' ek' S3 hMR => ?_) (fun c => absurd ⟨k, hk1, hk2, ek⟩ c)
    obtain rfl : k = k' := (nI_eq (by omega) (by omega)).mp (ek.symm.trans ek')
    exact hpp S3 hMR
  · exact s_mfirst hj hm hO hW ah0 (fun k hk1 hk2 ek => absurd ⟨k, hk1, hk2, ek⟩ ht) (fun _ S3 hMR => t_no (by decide) hA hj h ho hMR)
theorem L_meet (hI : INV q1 q6 q11 S) (hA : ∀ S', INV q1 q6 q11 S' → A S') (hK : ∀ k S', w_M_meet (fun r S'' => w_M_thrown (fun th => TL (A S'') q11 k r S'' th) S'' q6) S' q6 v u x → K k S') : w_L_meet K S (some q1) v u x (some q11) := by
  obtain ⟨ad, tl, tb, dl, df, n, g, pt, dn, bt, m, wg, rd, hj, rfl, rfl, rfl, h, hm, ho⟩ := hI
  have hn := h.n8
  have hW := ho.2.2.2.1
  have hO := ho.2.2.1
  have hz := ho.2.2.2.2.2.2.2.2.1
  have ah0 : AH n m g wg g wg := ⟨fun _ _ _ => rfl, fun _ _ _ _ => rfl, hz⟩
  unfold w_L_meet
  refine ⟨_, rfl, h.1.1, s_meet hj h hO ho.2.2.2.2.2.2.1 (fun a b k ha ea hb eb hab hk1 hk2 ek S1 ad1 g2 wg2 cl => ?_) (fun a b ha ea hb eb hc => Or.inr ⟨rfl, hK 2 _ ?_⟩) (fun ht => Or.inl ⟨rfl, hK 1 _ ?_⟩)⟩
  · obtain ⟨j1, h1, f1, c1, c2⟩ := cl
    refine t_go (M := fun post S' q => w_M_meet post S' q v u x) hA hK h hm (f1.mono (fun t i ht => by omega)) j1 ((f1.a (t := 1) (i := 0) (by decide) h.1.1).1) h1 ho (fun post hm2 hpp => ?_)
    refine s_mmeet j1 hm2 hO hW ⟨c1, c2, hz⟩ (fun a' b' k' ha' ea' hb' eb' _ hk1' hk2' ek' S3 hMR => ?_) (fun a' b' ha' ea' hb' eb' hc => ?_) (fun c => absurd ⟨a, b, ha, ea, hb, eb⟩ c)
    · obtain rfl : a = a' := (nI_eq (by omega) (by omega)).mp (ea.symm.trans ea')
      obtain rfl : b = b' := (nI_eq (by omega) (by omega)).mp (eb.symm.trans eb')
      obtain rfl : k = k' := (nI_eq (by omega) (by omega)).mp (ek.symm.trans ek')
      exact hpp S3 hMR
    · obtain rfl : a = a' := (nI_eq (by omega) (by omega)).mp (ea.symm.trans ea')
      obtain rfl : b = b' := (nI_eq (by omega) (by omega)).mp (eb.symm.trans eb')
      exact absurd ⟨hab, k, hk1, hk2, ek⟩ hc
  · refine s_mmeet hj hm hO hW ah0 (fun a' b' k' ha' ea' hb' eb' hab hk1' hk2' ek' => ?_) (fun a' b' ha' ea' hb' eb' _ S3 hMR => t_no (by decide) hA hj h ho hMR) (fun c => absurd ⟨a, b, ha, ea, hb, eb⟩ c)
    obtain rfl : a = a' := (nI_eq (by omega) (by omega)).mp (ea.symm.trans ea')
    obtain rfl : b = b' := (nI_eq (by omega) (by omega)).mp (eb.symm.trans eb')
    exact absurd ⟨hab, k', hk1', hk2', ek'⟩ hc
  · exact s_mmeet hj hm hO hW ah0 (fun a b _ ha ea hb eb => absurd ⟨a, b, ha, ea, hb, eb⟩ ht) (fun a b ha ea hb eb => absurd ⟨a, b, ha, ea, hb, eb⟩ ht) (fun _ S3 hMR => t_no (by decide) hA hj h ho hMR)
end LH
