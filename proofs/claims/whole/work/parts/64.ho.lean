/-! the hall's numbers through each call -/
section HOS
variable {tl n m k i j l : Nat} {tb dl dn : Nat → Nat} {df g wg rd : Nat → Nat → Int32} {pt : Nat → Option Nat} {x y f c u : Int32}
theorem rs_sm {L : Nat} : Sm n g (fld (rsF k L dn) g n) := by
  have : ∀ q, q ≤ n → Sm n g (fld (rsF k L dn) g q) := by
    intro q hq
    induction q with
    | zero => exact Sm.rf
    | succ q ih =>
      show Sm n g (rsF k L dn (fld (rsF k L dn) g q) q)
      unfold rsF
      split
      · split
        · exact ih (by omega)
        · exact (ih (by omega)).up (by omega)
      · exact ih (by omega)
  exact this n (Nat.le_refl n)
theorem rs_v {L : Nat} (q : Nat) : ∀ f i, fld (rsF k L dn) g q f i = if f = 13 ∧ i < q ∧ dn i = k ∧ ¬ g 13 i < nI L then 0 else g f i := by
  induction q with
  | zero => intro f i; rw [if_neg (fun z => absurd z.2.1 (Nat.not_lt_zero i))]; rfl
  | succ q ih =>
    intro f i
    show rsF k L dn (fld (rsF k L dn) g q) q f i = _
    have e13 : fld (rsF k L dn) g q 13 q = g 13 q := by rw [ih 13 q, if_neg (fun z => absurd z.2.1 (Nat.lt_irrefl q))]
    generalize fld (rsF k L dn) g q = gq at ih e13 ⊢
    unfold rsF
    rw [e13]
    by_cases hd : dn q = k
    · rw [if_pos hd]
      by_cases h13 : g 13 q < nI L
      · rw [if_pos h13, ih f i]
        by_cases ci : i = q
        · subst ci
          rw [if_neg (fun z => absurd z.2.1 (Nat.lt_irrefl i)), if_neg (fun z => z.2.2.2 h13)]
        · have e : (f = 13 ∧ i < q ∧ dn i = k ∧ ¬ g 13 i < nI L) = (f = 13 ∧ i < q + 1 ∧ dn i = k ∧ ¬ g 13 i < nI L) := propext ⟨fun z => ⟨z.1, by omega, z.2.2⟩, fun z => ⟨z.1, by have := z.2.1; omega, z.2.2⟩⟩
          simp only [e]
      · rw [if_neg h13]
        by_cases ci : i = q
        · subst ci
          by_cases cf : f = 13
          · subst cf; rw [up2_at, if_pos ⟨rfl, by omega, hd, h13⟩]
          · rw [up2_f cf, ih f i, if_neg (fun z => cf z.1), if_neg (fun z => cf z.1)]
        · rw [up2_a ci, ih f i]
          have e : (f = 13 ∧ i < q ∧ dn i = k ∧ ¬ g 13 i < nI L) = (f = 13 ∧ i < q + 1 ∧ dn i = k ∧ ¬ g 13 i < nI L) := propext ⟨fun z => ⟨z.1, by omega, z.2.2⟩, fun z => ⟨z.1, by have := z.2.1; omega, z.2.2⟩⟩
          simp only [e]
    · rw [if_neg hd, ih f i]
      by_cases ci : i = q
      · subst ci
        rw [if_neg (fun z => hd z.2.2.1), if_neg (fun z => hd z.2.2.1)]
      · have e : (f = 13 ∧ i < q ∧ dn i = k ∧ ¬ g 13 i < nI L) = (f = 13 ∧ i < q + 1 ∧ dn i = k ∧ ¬ g 13 i < nI L) := propext ⟨fun z => ⟨z.1, by omega, z.2.2⟩, fun z => ⟨z.1, by have := z.2.1; omega, z.2.2⟩⟩
        simp only [e]
theorem HO.tape {tl' : Nat} {tb' : Nat → Nat} (h : HO tl tb dl df n g pt dn m wg rd) (h1 : tl' ≤ 40) (h2 : ∀ j, tb' j < 256) : HO tl' tb' dl df n g pt dn m wg rd := ⟨h1, h2, h.2.2⟩
theorem HO.learn (h : HO tl tb dl df n g pt dn m wg rd) (hk : k < 8) (hd : dOk tl tb) : HO 0 tb (lrL dl k tl) (lrF df k tl tb) n (fld (rsF k tl dn) g n) pt dn m wg rd := by
  obtain ⟨a1, a2, ⟨o1, o2, o3, o4⟩, a4, a5, a6, a7, a8, a9, a10⟩ := h
  obtain ⟨t1, t24, -⟩ := hd
  have e : ∀ f i, f ≠ 13 → fld (rsF k tl dn) g n f i = g f i := fun f i hf => by rw [rs_v n f i, if_neg (fun z => hf z.1)]
  refine ⟨by decide, a2, ⟨fun i hi => ?_, fun i j hi hj p q => ?_, fun i j hi hp => ?_, fun i hi hp => ?_⟩, a4, fun k' hk' => ?_, a6, a7, a8, fun f i hf hi => (rs_sm f i hi).trans (a9 f i hf hi), a10⟩
  · obtain ⟨b1, b2, b3, b4, b5, ⟨p, hp, ep⟩, b7, b8⟩ := o1 i hi
    unfold OkD
    rw [e 7 i (by decide), e 8 i (by decide), e 9 i (by decide), e 10 i (by decide), e 11 i (by decide), e 15 i (by decide), e 16 i (by decide)]
    refine ⟨b1, b2, b3, b4, b5, ?_, b7, b8⟩
    rw [rs_v n 13 i]
    unfold lrL
    by_cases cd : dn i = k
    · rw [if_pos cd]
      by_cases c13 : g 13 i < nI tl
      · rw [if_neg (fun z => z.2.2.2 c13)]
        rw [ep] at c13 ⊢
        have hl := (a5 (dn i) (a8 i hi)).2
        exact ⟨p, (nI_ltI (by omega) (by omega)).mp c13, rfl⟩
      · rw [if_pos ⟨rfl, hi, cd, c13⟩]
        exact ⟨0, by omega, rfl⟩
    · rw [if_neg cd, if_neg (fun z => cd z.2.2.1)]
      exact ⟨p, hp, ep⟩
  · rw [e 7 _ (by decide), e 7 _ (by decide)] at p
    rw [e 8 _ (by decide), e 8 _ (by decide)] at q
    exact o2 i j hi hj p q
  · unfold bes
    rw [e 7 _ (by decide), e 7 _ (by decide), e 8 _ (by decide), e 8 _ (by decide)]
    exact o3 i j hi hp
  · rw [e 15 _ (by decide)]; exact o4 i hi hp
  · unfold lrL
    split
    · exact ⟨t1, t24⟩
    · exact a5 k' hk'
theorem HO.come (h : HO tl tb dl df n g pt dn m wg rd) (hr : cmR x y f c) (hn : n < 8) (hw : whoF n g x y = none) : HO tl tb dl df (n + 1) (cmG g n x y f c) (ptM pt n) (dnC dn n 0) m wg rd := by
  obtain ⟨a1, a2, ⟨o1, o2, o3, o4⟩, a4, a5, a6, a7, a8, a9, a10⟩ := h
  obtain ⟨r1, r2, r3, k, rk1, rk9, rc⟩ := hr
  have e : ∀ f' i, i ≠ n → cmG g n x y f c f' i = g f' i := fun f' i hi => if_neg hi
  have en : ∀ f', cmG g n x y f c f' n = (if f' = 7 then x else if f' = 8 then y else if f' = 9 then f else if f' = 10 then 100 else if f' = 11 then c else 0) := fun f' => if_pos rfl
  have hfree := fst_none.mp hw
  refine ⟨a1, a2, ⟨fun i hi => ?_, fun i j hi hj p q => ?_, fun i j hi hp => ?_, fun i hi hp => ?_⟩, fun j hj => ?_, a5, by omega, a7, fun i hi => ?_, fun f' i hf hi => ?_, a10⟩
  · unfold OkD
    by_cases ci : i = n
    · subst ci
      have ed : dnC dn i 0 i = 0 := if_pos rfl
      rw [en, en, en, en, en, en, en, en, ed]
      have := (a5 0 (by decide)).1
      exact ⟨r1, r2, r3, ⟨100, by decide, rfl⟩, ⟨k, rk1, rk9, rc⟩, ⟨0, by omega, rfl⟩, Or.inl rfl, 0, by decide, rfl⟩
    · rw [e _ _ ci, e _ _ ci, e _ _ ci, e _ _ ci, e _ _ ci, e _ _ ci, e _ _ ci, e _ _ ci]
      unfold dnC
      rw [if_neg ci]
      exact o1 i (by omega)
  · by_cases ci : i = n
    · subst ci
      by_cases cj : j = i
      · exact cj.symm
      · rw [en, e _ _ cj] at p q
        exact absurd ⟨p.symm, q.symm⟩ (hfree j (by omega))
    · by_cases cj : j = n
      · subst cj
        rw [en, e _ _ ci] at p q
        exact absurd ⟨p, q⟩ (hfree i (by omega))
      · rw [e _ _ ci, e _ _ cj] at p q
        exact o2 i j (by omega) (by omega) p q
  · unfold ptM at hp ⊢
    by_cases ci : i = n
    · rw [if_pos ci] at hp; cases hp
    · rw [if_neg ci] at hp
      obtain ⟨b1, b2, b3, b4⟩ := o3 i j (by omega) hp
      refine ⟨by omega, b2, by rw [if_neg (by omega)]; exact b3, ?_⟩
      unfold bes
      rw [e _ _ ci, e _ _ ci, e _ _ (show j ≠ n by omega), e _ _ (show j ≠ n by omega)]
      exact b4
  · by_cases ci : i = n
    · subst ci; rw [en]; rfl
    · unfold ptM at hp
      rw [if_neg ci] at hp
      rw [e _ _ ci]; exact o4 i (by omega) hp
  · obtain ⟨b1, b2, b3, l, t, hl, el, et, hlt, hr⟩ := a4 j hj
    exact ⟨b1, b2, b3, l, t, hl, el, et, hlt, fun p hp => by
      obtain ⟨i, hi, ei⟩ := hr p hp
      exact ⟨i, by omega, ei⟩⟩
  · unfold dnC
    split
    · decide
    · exact a8 i (by omega)
  · rw [e _ _ (by omega)]; exact a9 f' i hf (by omega)
theorem HO.dance (h : HO tl tb dl df n g pt dn m wg rd) (hi : i < n) (hk : k < 8) : HO tl tb dl df n (up2 g 13 i 0) pt (dnC dn i k) m wg rd := by
  obtain ⟨a1, a2, ⟨o1, o2, o3, o4⟩, a4, a5, a6, a7, a8, a9, a10⟩ := h
  refine ⟨a1, a2, ⟨fun x hx => ?_, o2, o3, o4⟩, a4, a5, a6, a7, fun x hx => ?_, fun f' x hf hx => ?_, a10⟩
  · obtain ⟨b1, b2, b3, b4, b5, b6, b7, b8⟩ := o1 x hx
    refine ⟨b1, b2, b3, b4, b5, ?_, b7, b8⟩
    unfold dnC
    by_cases cx : x = i
    · subst cx
      rw [up2_at, if_pos rfl]
      have := (a5 k hk).1
      exact ⟨0, by omega, rfl⟩
    · rw [up2_a cx, if_neg cx]; exact b6
  · unfold dnC
    split
    · exact hk
    · exact a8 x hx
  · rw [up2_a (by omega)]; exact a9 f' x hf hx
theorem bsF_bes (ha : OkD g dl k i) (hb : OkD g dl l j) (h : bsF g i j = 1) : ∃ s, s < 4 ∧ bes g i j s := by
  obtain ⟨⟨a, h1, e1⟩, ⟨b, h2, e2⟩, -⟩ := ha
  obtain ⟨⟨a', h3, e3⟩, ⟨b', h4, e4⟩, -⟩ := hb
  unfold bsF at h
  have hd : dsF (g 7 i) (g 8 i) (g 7 j) (g 8 j) = 1 := Classical.byContradiction fun q => by rw [if_neg q] at h; exact absurd h (by decide)
  unfold dsF at hd
  rw [e1, e2, e3, e4, absC h1 h3, absC h2 h4, nI_add] at hd
  have hs := (nI_eq (b := 1) (by omega) (by decide)).mp hd
  unfold bes
  rw [e1, e2, e3, e4]
  have m1 : ∀ z : Nat, z < 16 → nI (z + 1) + (-1) = nI z := fun z _ => pk_m1 z
  rcases (show (a = a' ∧ b = b' + 1) ∨ (a' = a + 1 ∧ b = b') ∨ (a = a' ∧ b' = b + 1) ∨ (a = a' + 1 ∧ b = b') by omega) with ⟨rfl, rfl⟩ | ⟨rfl, rfl⟩ | ⟨rfl, rfl⟩ | ⟨rfl, rfl⟩
  · exact ⟨0, by decide, (Int32.add_zero _).symm, (pk_m1 b').symm⟩
  · exact ⟨1, by decide, (nI_1 a).symm, (Int32.add_zero _).symm⟩
  · exact ⟨2, by decide, (Int32.add_zero _).symm, (nI_1 b).symm⟩
  · exact ⟨3, by decide, (pk_m1 a').symm, (Int32.add_zero _).symm⟩
theorem HO.pair (h : HO tl tb dl df n g pt dn m wg rd) (hi : i < n) (hj : j < n) (hij : i ≠ j) (pi : pt i = none) (pj : pt j = none) (hb : bsF g i j = 1) : HO tl tb dl df n (up2 g 15 j 1) (ptP pt i j) dn m wg rd := by
  obtain ⟨a1, a2, ⟨o1, o2, o3, o4⟩, a4, a5, a6, a7, a8, a9, a10⟩ := h
  obtain ⟨s, hs, hbes⟩ := bsF_bes (o1 i hi) (o1 j hj) hb
  refine ⟨a1, a2, ⟨fun x hx => ?_, o2, fun x y hx hp => ?_, fun x hx hp => ?_⟩, a4, a5, a6, a7, a8, fun f' x hf hx => ?_, a10⟩
  · obtain ⟨b1, b2, b3, b4, b5, b6, b7, b8⟩ := o1 x hx
    refine ⟨b1, b2, b3, b4, b5, b6, ?_, b8⟩
    by_cases cx : x = j
    · subst cx; rw [up2_at]; exact Or.inr rfl
    · rw [up2_a cx]; exact b7
  · unfold ptP at hp ⊢
    by_cases c1 : x = i
    · subst c1
      rw [if_pos rfl] at hp
      cases hp
      exact ⟨hj, hij, by rw [if_neg (fun e => hij e.symm), if_pos rfl], s, hs, hbes⟩
    · rw [if_neg c1] at hp
      by_cases c2 : x = j
      · subst c2
        rw [if_pos rfl] at hp
        cases hp
        exact ⟨hi, fun e => hij e.symm, by rw [if_pos rfl], (s + 2) % 4, Nat.mod_lt _ (by decide), bes_sym hs hbes⟩
      · rw [if_neg c2] at hp
        obtain ⟨b1, b2, b3, b4⟩ := o3 x y hx hp
        have y1 : y ≠ i := fun e => by rw [e, pi] at b3; cases b3
        have y2 : y ≠ j := fun e => by rw [e, pj] at b3; cases b3
        exact ⟨b1, b2, by rw [if_neg y1, if_neg y2]; exact b3, b4⟩
  · unfold ptP at hp
    by_cases c1 : x = i
    · rw [if_pos c1] at hp; cases hp
    · rw [if_neg c1] at hp
      by_cases c2 : x = j
      · rw [if_pos c2] at hp; cases hp
      · rw [if_neg c2] at hp
        rw [up2_a c2]; exact o4 x hx hp
  · rw [up2_a (by omega)]; exact a9 f' x hf hx
theorem HO.part (h : HO tl tb dl df n g pt dn m wg rd) (hi : i < n) (hp0 : pt i = some j) : HO tl tb dl df n (up2 (up2 g 15 i 0) 15 j 0) (ptN pt i j) dn m wg rd := by
  obtain ⟨a1, a2, ⟨o1, o2, o3, o4⟩, a4, a5, a6, a7, a8, a9, a10⟩ := h
  obtain ⟨hj, hij, pj, -⟩ := o3 i j hi hp0
  have v15 : ∀ x, up2 (up2 g 15 i 0) 15 j 0 15 x = if x = i ∨ x = j then 0 else g 15 x := by
    intro x
    by_cases c2 : x = j
    · subst c2; rw [up2_at, if_pos (Or.inr rfl)]
    · rw [up2_a c2]
      by_cases c1 : x = i
      · subst c1; rw [up2_at, if_pos (Or.inl rfl)]
      · rw [up2_a c1, if_neg (fun q => q.elim c1 c2)]
  refine ⟨a1, a2, ⟨fun x hx => ?_, o2, fun x y hx hp => ?_, fun x hx hp => ?_⟩, a4, a5, a6, a7, a8, fun f' x hf hx => ?_, a10⟩
  · obtain ⟨b1, b2, b3, b4, b5, b6, b7, b8⟩ := o1 x hx
    refine ⟨b1, b2, b3, b4, b5, b6, ?_, b8⟩
    rw [v15 x]
    split
    · exact Or.inl rfl
    · exact b7
  · unfold ptN at hp ⊢
    by_cases c : x = i ∨ x = j
    · rw [if_pos c] at hp; cases hp
    · rw [if_neg c] at hp
      obtain ⟨b1, b2, b3, b4⟩ := o3 x y hx hp
      have y1 : y ≠ i := fun e => c (Or.inr (by rw [e, hp0] at b3; cases b3; rfl))
      have y2 : y ≠ j := fun e => c (Or.inl (by rw [e, pj] at b3; cases b3; rfl))
      exact ⟨b1, b2, by rw [if_neg (fun q => q.elim y1 y2)]; exact b3, b4⟩
  · unfold ptN at hp
    rw [v15 x]
    by_cases c : x = i ∨ x = j
    · rw [if_pos c]
    · rw [if_neg c] at hp ⊢
      exact o4 x hx hp
  · rw [up2_a (by omega), up2_a (by omega)]; exact a9 f' x hf hx
theorem wd_any {s : Int32} : ∃ c, c ≤ 200 ∧ wdF s u = nI c := by
  unfold wdF
  by_cases c1 : s + u < 200
  · rw [if_pos c1]
    by_cases c2 : 0 < s + u
    · rw [if_pos c2]
      have h0 : ¬ s + u < 0 := fun q => by
        rw [Int32.lt_iff_toInt_lt] at q c2
        omega
      obtain ⟨j, hj, ej⟩ := nI_of h0
      rw [ej] at c1 ⊢
      have := (nI_ltI (b := 200) hj (by decide)).mp c1
      exact ⟨j, by omega, rfl⟩
    · rw [if_neg c2]; exact ⟨0, by decide, rfl⟩
  · rw [if_neg c1, if_pos (by decide)]; exact ⟨200, by decide, rfl⟩
theorem HO.wind (h : HO tl tb dl df n g pt dn m wg rd) (hi : i < n) : HO tl tb dl df n (up2 g 10 i (wdF (g 10 i) u)) pt dn m wg rd := by
  obtain ⟨a1, a2, ⟨o1, o2, o3, o4⟩, a4, a5, a6, a7, a8, a9, a10⟩ := h
  refine ⟨a1, a2, ⟨fun x hx => ?_, o2, o3, o4⟩, a4, a5, a6, a7, a8, fun f' x hf hx => ?_, a10⟩
  · obtain ⟨b1, b2, b3, b4, b5, b6, b7, b8⟩ := o1 x hx
    refine ⟨b1, b2, b3, ?_, b5, b6, b7, b8⟩
    by_cases cx : x = i
    · subst cx; rw [up2_at]; exact wd_any
    · rw [up2_a cx]; exact b4
  · rw [up2_a (by omega)]; exact a9 f' x hf hx
theorem HO.winder {s : Int32} (h : HO tl tb dl df n g pt dn m wg rd) (hr : wnR x y s) (hm : m < 3) : HO tl tb dl df n g pt dn (m + 1) (wnG wg m x y s) rd := by
  obtain ⟨a1, a2, a3, a4, a5, a6, a7, a8, a9, a10⟩ := h
  obtain ⟨r1, r2, r3⟩ := hr
  refine ⟨a1, a2, a3, fun j hj => ?_, a5, a6, by omega, a8, a9, fun j p h1 h2 h3 => a10 j p h1 (by omega) h3⟩
  by_cases cj : j = m
  · subst cj
    have en : ∀ f', wnG wg j x y s f' j = (if f' = 26 then x else if f' = 27 then y else if f' = 28 then s else 0) := fun f' => if_pos rfl
    rw [en, en, en, en, en]
    exact ⟨r1, r2, r3, 0, 0, by decide, rfl, rfl, Or.inr ⟨rfl, rfl⟩, fun p hp => absurd hp (Nat.not_lt_zero p)⟩
  · have e : ∀ f', wnG wg m x y s f' j = wg f' j := fun f' => if_neg cj
    rw [e, e, e, e, e]
    exact a4 j (by omega)
theorem HO.call (h : HO tl tb dl df n g pt dn m wg rd) (hj : j < m) (hi : i < n) (hl : l < 8) (el : wg 30 j = nI l) : HO tl tb dl df n g pt dn m (up2 wg 30 j (nI (l + 1))) (rdC rd j l i) := by
  obtain ⟨a1, a2, a3, a4, a5, a6, a7, a8, a9, a10⟩ := h
  refine ⟨a1, a2, a3, fun x hx => ?_, a5, a6, a7, a8, a9, fun x p h1 h2 h3 => ?_⟩
  · obtain ⟨b1, b2, b3, l', t, hl', el', et, hlt, hr⟩ := a4 x hx
    by_cases cx : x = j
    · subst cx
      have e : l = l' := (nI_eq (by omega) (by omega)).mp (el.symm.trans el')
      subst e
      refine ⟨b1, b2, b3, l + 1, t, by omega, up2_at, et, by omega, fun p hp => ?_⟩
      unfold rdC
      by_cases cp : p = l
      · rw [if_pos ⟨rfl, cp⟩]; exact ⟨i, hi, rfl⟩
      · rw [if_neg (fun q => cp q.2)]; exact hr p (by omega)
    · refine ⟨b1, b2, b3, l', t, hl', ?_, et, hlt, fun p hp => ?_⟩
      · rw [up2_a cx]; exact el'
      · unfold rdC
        rw [if_neg (fun q => cx q.1)]; exact hr p hp
  · unfold rdC
    rw [if_neg (fun q => by omega)]; exact a10 x p h1 h2 h3
theorem HO.pass (h : HO tl tb dl df n g pt dn m wg rd) (k : Nat) : HO tl tb dl df n (bts n m pt dn dl df rd g wg k).2.1 pt dn m (bts n m pt dn dl df rd g wg k).2.2 rd := by
  obtain ⟨a1, a2, a3, a4, a5, a6, a7, a8, a9, a10⟩ := h
  obtain ⟨b1, b2⟩ := ok_bts (df := df) a6 a3 a4 (fun i hi => (a5 (dn i) (a8 i hi)).2) k
  exact ⟨a1, a2, b1, b2, a5, a6, a7, a8, fun f i hf hi => (sm_bts a6 (fun i j hi hp => (a3.2.2.1 i j hi hp).1) k f i hi).trans (a9 f i hf hi), a10⟩
end HOS
