theorem pw_cg {sa ea ln ml : Int → Int} {ev : Int} (h : pw_ sa ea ln ev) (hl : ∀ k : Int, 0 ≤ k → k < ev → ml k = ln k) : pw_ sa ea ml ev := by
  obtain ⟨a1, a2, a3, a4⟩ := h
  refine ⟨a1, fun j x y => ?_, fun j x y n => ?_, fun k x y => ?_⟩
  · rcases a2 j x y with t | ⟨t, t', t''⟩
    · exact Or.inl t
    · exact Or.inr ⟨t, t', by rw [hl _ t t']; exact t''⟩
  · rcases a2 j x y with s | ⟨s, s', s''⟩
    · exact absurd s n
    rcases a3 j x y n with t | ⟨t, t', t''⟩
    · exact Or.inl t
    · exact Or.inr ⟨t, t', by rw [hl _ (by omega) t']; exact t''⟩
  · rw [hl k x y]; exact a4 k x y
/-- class and reference between two calls, n calls behind them -/
def cp_ (ky wt sa ea sm ln fi fk fo op : Int → Int) (ni ns ev cu wa fr oo : Int) (mt ml mf mx mi : Int → Int) (K n : Int) : Prop :=
  ix_ ky wt sa ea sm ln fi fk fo op ni ns ev cu wa fr oo K ∧ mt_ mt sa ∧ (∀ k : Int, 0 ≤ k → k < ev → ml k = ln k) ∧
  (∀ f : Int, 0 ≤ f → f < fr → mf f = fi f ∧ ((fk f = 2 ∧ mx f = 1) ∨ (fk f ≠ 2 ∧ mx f = 0))) ∧
  (∀ t : Int, 0 ≤ t → t < oo → 0 ≤ mi t ∧ mi t < fr ∧ fo (mi t) ≤ t ∧ (mi t + 1 < fr → t < fo (mi t + 1))) ∧
  (∀ j : Int, 0 ≤ j → j < 600 → wt j ≤ 1000000000) ∧ (ev ≤ n ∧ oo ≤ n ∧ ni ≤ n)
theorem mt_sg {mt sa : Int → Int} (h : mt_ mt sa) : sg_ mt 600 = sg_ (c1_ sa) 600 := sg_congr 600 (fun j x y => by
  unfold c1_
  rcases h j x y with t | t
  · rw [if_neg t.2]; exact t.1
  · rw [if_pos t.2]; exact t.1)
theorem cp_free {ky wt sa ea sm ln fi fk fo op : Int → Int} {ni ns ev cu wa fr oo : Int} {mt ml mf mx mi : Int → Int} {K n : Int} (h : cp_ ky wt sa ea sm ln fi fk fo op ni ns ev cu wa fr oo mt ml mf mx mi K n) (hn : n < 600) : ∃ j : Int, 0 ≤ j ∧ j < 600 ∧ sa j = -1 := by
  apply Classical.byContradiction
  intro hq
  obtain ⟨⟨hw, hnv, ⟨c1, c2, c3⟩, hr⟩, hmt, hml, hfm, hmi, hwt, hev, hoo, hni⟩ := h
  have e : sg_ (c1_ sa) 600 = 600 := by
    have := sg_all (g := c1_ sa) 600 (fun j x y => by
      unfold c1_
      rw [if_neg (fun z => hq ⟨j, x, by omega, z⟩)])
    exact this
  omega
theorem cp_im {ky wt sa ea sm ln fi fk fo op : Int → Int} {ni ns ev cu wa fr oo : Int} {mt ml mf mx mi : Int → Int} {K n : Int} (h : cp_ ky wt sa ea sm ln fi fk fo op ni ns ev cu wa fr oo mt ml mf mx mi K n) (hn : n < 600) : im_ sa ea mt ky wt sm ml mf mx op mi ni K ev cu fr oo := by
  have hfr := cp_free h hn
  obtain ⟨hI, hmt, hml, hfm, hmi, hwt, hev, hoo, hni⟩ := h
  obtain ⟨hw, ⟨n1, n2, n3, n4, n5, n6, n7⟩, ⟨c1, c2, c3⟩, ⟨hf1, hf2, hi0, hk0, ho0⟩, hkd, hfo, hfmo, ⟨hc0, hc3, hev2, ho1, ho2⟩, hsm, hky, hwt2, ⟨hK0, hwa⟩, hse⟩ := hI
  have hs0 := sg_nn (g := cw_ sa wt) 600 (fun j x y => by
    unfold cw_
    by_cases hq : sa j = -1
    · rw [if_pos hq]; omega
    · rw [if_neg hq]; exact hwt2 j x y)
  refine ⟨pw_cg hw hml, hmt, by rw [mt_sg hmt]; exact c1, by omega, hfr, ⟨hf1, hf2, by rw [(hfm 0 (by omega) (by omega)).1]; exact hi0⟩, fun f f0 f1 => ?_, fun f f0 f1 => ?_, ⟨hc0, hc3, hev2, ho1, ho2⟩, fun t t0 t1 => ?_, hsm, hky, fun j x y => ⟨hwt2 j x y, hwt j x y⟩, ⟨hK0, by omega⟩, fun h1 => ?_⟩
  · rw [(hfm f (by omega) f1).1]; exact n2 f f0 f1
  · have := (hfm f f0 f1).2
    omega
  · have a := n5 t t0 t1
    have b := hmi t t0 t1
    exact ⟨a.1, a.2.1, b.1, by omega⟩
  · rw [(hfm (fr - 1) (by omega) (by omega)).1]; exact n4 h1
/-- the last frame has an open interval: as the class says it, and as the reference does -/
theorem cp_open {ky wt sa ea sm ln fi fk fo op : Int → Int} {ni ns ev cu wa fr oo : Int} {mt ml mf mx mi : Int → Int} {K n : Int} (h : cp_ ky wt sa ea sm ln fi fk fo op ni ns ev cu wa fr oo mt ml mf mx mi K n) : fo (fr - 1) < oo ↔ (0 < oo ∧ mi (oo - 1) = fr - 1) := by
  obtain ⟨hI, hmt, hml, hfm, hmi, hwt, hev, hoo, hni⟩ := h
  obtain ⟨hw, hnv, hct, ⟨hf1, hf2, hi0, hk0, ho0⟩, hkd, hfo, hfmo, ⟨hc0, hc3, hev2, ho1, ho2⟩, hr⟩ := hI
  have a0 := hfo (fr - 1) (by omega) (by omega)
  have mono : ∀ (d : Nat) (f : Int), 0 ≤ f → f + d = fr - 1 → fo f ≤ fo (fr - 1) := by
    intro d
    induction d with
    | zero => intro f f0 f1; rw [show f = fr - 1 by omega]; omega
    | succ d ih =>
      intro f f0 f1
      have b1 := hfmo f f0 (by omega)
      have b2 := ih (f + 1) (by omega) (by omega)
      omega
  constructor
  · intro h1
    obtain ⟨b1, b2, b3, b4⟩ := hmi (oo - 1) (by omega) (by omega)
    refine ⟨by omega, ?_⟩
    apply Classical.byContradiction
    intro hq
    have b5 := b4 (by omega)
    have b6 := mono (fr - 1 - (mi (oo - 1) + 1)).toNat (mi (oo - 1) + 1) (by omega) (by omega)
    omega
  · intro ⟨h1, h2⟩
    have b := hmi (oo - 1) (by omega) (by omega)
    rw [h2] at b
    omega
theorem cp_lm {fi ea mf : Int → Int} {ev fr : Int} (h : mf (fr - 1) = fi (fr - 1)) : lm_ mf ea ev fr = lm_ fi ea ev fr := by
  unfold lm_
  rw [h]
/-- the line behind an insertion -/
theorem pu_mv {sa ea ln sa1 ea1 ln1 : Int → Int} {ev cu : Int} (h : pw_ sa ea ln ev) (hp : pu_ sa ea ln ev cu sa1 ea1 ln1) (c0 : 0 ≤ cu) :
    (∀ j : Int, 0 ≤ j → j < 600 → (sa1 j = -1 ↔ sa j = -1)) ∧ mv2_ sa ea cu (fun p => if p < cu then p else p + 1) sa1 ea1 (cu + 1) := by
  obtain ⟨a1, a2, a3, a4⟩ := h
  obtain ⟨b1, b2, b3, b4⟩ := hp
  have s1 : ∀ j : Int, 0 ≤ j → j < 600 → (sa1 j = -1 ↔ sa j = -1) := fun j x y => by
    have t := b3 j x y
    have w := a2 j x y
    by_cases hq : cu ≤ sa j
    · have := t.1 hq; omega
    · have := t.2 (by omega); omega
  refine ⟨s1, ⟨?_, fun j x y n => ?_⟩⟩
  · show cu + 1 = if cu < cu then cu else cu + 1
    rw [if_neg (by omega)]
  · have n0 : sa j ≠ -1 := fun z => n ((s1 j x y).mpr z)
    have t := b3 j x y
    have u := b4 j x y
    have w := a2 j x y
    have w3 := a3 j x y n0
    have rr : ∀ p q : Int, (p < q ↔ (if p < cu then p else p + 1) < (if q < cu then q else q + 1)) := fun p q => by
      by_cases h1 : p < cu
      · by_cases h2 : q < cu
        · rw [if_pos h1, if_pos h2]
        · rw [if_pos h1, if_neg h2]; omega
      · by_cases h2 : q < cu
        · rw [if_neg h1, if_pos h2]; omega
        · rw [if_neg h1, if_neg h2]; omega
    refine ⟨n0, ?_, fun e => ?_, fun e => ⟨?_, ?_⟩, fun q _ => rr _ _, fun e q _ => rr _ _⟩
    · show sa1 j = if sa j < cu then sa j else sa j + 1
      by_cases hq : sa j < cu
      · rw [if_pos hq]; exact t.2 hq
      · rw [if_neg hq]; exact t.1 (by omega)
    · rw [u.2 (Or.inr (by omega))]; exact e
    · show ea1 j = if ea j < cu then ea j else ea j + 1
      by_cases hq : ea j < cu
      · rw [if_pos hq]; exact u.2 (Or.inr hq)
      · rw [if_neg hq]; exact u.1 n0 (by omega)
    · by_cases hq : ea j < cu
      · rw [u.2 (Or.inr hq)]; exact e
      · rw [u.1 n0 (by omega)]; omega
/-- each interval's start and end in the line with the gap at cu -/
theorem pu_at {sa ea ln sa1 ea1 ln1 : Int → Int} {ev cu : Int} (h : pw_ sa ea ln ev) (hp : pu_ sa ea ln ev cu sa1 ea1 ln1) (c0 : 0 ≤ cu) (c1 : cu ≤ ev) {j : Int} (x : 0 ≤ j) (y : j < 600) (n : sa1 j ≠ -1) :
    sa1 j ≠ cu ∧ ea1 j ≠ cu ∧ 0 ≤ sa1 j ∧ sa1 j ≤ ev ∧ ln1 (sa1 j) = 2 * j ∧ (ea1 j = -1 ∨ (sa1 j < ea1 j ∧ ea1 j ≤ ev ∧ ln1 (ea1 j) = 2 * j + 1)) := by
  have s1 := (pu_mv h hp c0).1 j x y
  obtain ⟨a1, a2, a3, a4⟩ := h
  obtain ⟨b1, b2, b3, b4⟩ := hp
  have n0 : sa j ≠ -1 := fun z => n (s1.mpr z)
  have t := b3 j x y
  have u := b4 j x y
  have lnat : ∀ p : Int, 0 ≤ p → p < ev → (p < cu → ln1 p = ln p) ∧ (cu ≤ p → ln1 (p + 1) = ln p) := fun p p0 p1 => ⟨fun q => b2 p q, fun q => by rw [b1 (p + 1) (by omega) (by omega), show p + 1 - 1 = p by omega]⟩
  rcases a2 j x y with w | ⟨w0, w1, w2⟩
  · exact absurd w n0
  have l1 := lnat (sa j) w0 w1
  have e1 : sa1 j ≠ cu ∧ 0 ≤ sa1 j ∧ sa1 j ≤ ev ∧ ln1 (sa1 j) = 2 * j ∧ (sa1 j = sa j ∨ sa1 j = sa j + 1) := by
    by_cases hq : cu ≤ sa j
    · have e := t.1 hq
      rw [e]; exact ⟨by omega, by omega, by omega, by rw [l1.2 hq]; exact w2, Or.inr rfl⟩
    · have e := t.2 (by omega)
      rw [e]; exact ⟨by omega, by omega, by omega, by rw [l1.1 (by omega)]; exact w2, Or.inl rfl⟩
  rcases a3 j x y n0 with v | ⟨v0, v1, v2⟩
  · have e := u.2 (Or.inr (by omega))
    exact ⟨e1.1, by rw [e]; omega, e1.2.1, e1.2.2.1, e1.2.2.2.1, Or.inl (by rw [e]; exact v)⟩
  · have l2 := lnat (ea j) (by omega) v1
    by_cases hq : cu ≤ ea j
    · have e := u.1 n0 hq
      refine ⟨e1.1, by omega, e1.2.1, e1.2.2.1, e1.2.2.2.1, Or.inr ⟨by omega, by omega, ?_⟩⟩
      rw [e, l2.2 hq]; exact v2
    · have e := u.2 (Or.inr (by omega))
      have e3 := t.2 (by omega)
      refine ⟨e1.1, by omega, e1.2.1, e1.2.2.1, e1.2.2.2.1, Or.inr ⟨by omega, by omega, ?_⟩⟩
      rw [e, l2.1 (by omega)]; exact v2
/-- each place of that line but the gap -/
theorem pu_ln {sa ea ln sa1 ea1 ln1 : Int → Int} {ev cu : Int} (h : pw_ sa ea ln ev) (hp : pu_ sa ea ln ev cu sa1 ea1 ln1) (c0 : 0 ≤ cu) (c1 : cu ≤ ev) {k : Int} (x : 0 ≤ k) (y : k ≤ ev) (n : k ≠ cu) :
    0 ≤ ln1 k ∧ ln1 k < 1200 ∧ (ln1 k % 2 = 0 → sa1 (ln1 k / 2) = k) ∧ (ln1 k % 2 = 1 → sa1 (ln1 k / 2) ≠ -1 ∧ ea1 (ln1 k / 2) = k) := by
  have s1 := (pu_mv h hp c0).1
  obtain ⟨a1, a2, a3, a4⟩ := h
  obtain ⟨b1, b2, b3, b4⟩ := hp
  by_cases hq : k < cu
  · have e := b2 k hq
    obtain ⟨d1, d2, d3, d4⟩ := a4 k x (by omega)
    have t := b3 (ln k / 2) (by omega) (by omega)
    have u := b4 (ln k / 2) (by omega) (by omega)
    have s2 := s1 (ln k / 2) (by omega) (by omega)
    rw [e]
    refine ⟨d1, d2, fun he => ?_, fun he => ⟨fun z => (d4 he).1 (s2.mp z), ?_⟩⟩
    · have := d3 he
      rw [t.2 (by omega)]; exact this
    · have := (d4 he).2
      rw [u.2 (Or.inr (by omega))]; exact this
  · have e := b1 k (by omega) y
    obtain ⟨d1, d2, d3, d4⟩ := a4 (k - 1) (by omega) (by omega)
    have t := b3 (ln (k - 1) / 2) (by omega) (by omega)
    have u := b4 (ln (k - 1) / 2) (by omega) (by omega)
    have s2 := s1 (ln (k - 1) / 2) (by omega) (by omega)
    rw [e]
    refine ⟨d1, d2, fun he => ?_, fun he => ⟨fun z => (d4 he).1 (s2.mp z), ?_⟩⟩
    · have := d3 he
      have := t.1 (by omega)
      omega
    · have g := d4 he
      have := u.1 g.1 (by omega)
      omega
theorem pu_even_pw {sa ea ln sa1 ea1 ln1 : Int → Int} {ev cu i : Int} (h : pw_ sa ea ln ev) (hp : pu_ sa ea ln ev cu sa1 ea1 ln1) (c0 : 0 ≤ cu) (c1 : cu ≤ ev) (hev : ev < 1200) (i0 : 0 ≤ i) (i1 : i < 600) (hi : sa i = -1) (he : ea1 i = -1) : pw_ (up_ sa1 i cu) ea1 (up_ ln1 cu (2 * i)) (ev + 1) := by
  have s1 := (pu_mv h hp c0).1
  have e0 := h.1
  refine ⟨by omega, fun j x y => ?_, fun j x y n => ?_, fun k x y => ?_⟩
  · by_cases hj : j = i
    · rw [hj, up_s, up_s]; exact Or.inr ⟨c0, by omega, rfl⟩
    · rw [up_n hj]
      by_cases hq : sa1 j = -1
      · exact Or.inl hq
      · obtain ⟨p1, p2, p3, p4, p5, p6⟩ := pu_at h hp c0 c1 x y hq
        exact Or.inr ⟨p3, by omega, by rw [up_n p1]; exact p5⟩
  · by_cases hj : j = i
    · rw [hj]; exact Or.inl he
    · rw [up_n hj] at n ⊢
      obtain ⟨p1, p2, p3, p4, p5, p6⟩ := pu_at h hp c0 c1 x y n
      rcases p6 with p6 | ⟨q1, q2, q3⟩
      · exact Or.inl p6
      · exact Or.inr ⟨q1, by omega, by rw [up_n p2]; exact q3⟩
  · by_cases hk : k = cu
    · rw [hk, up_s]
      refine ⟨by omega, by omega, fun _ => ?_, fun q => by omega⟩
      rw [show 2 * i / 2 = i by omega, up_s]
    · rw [up_n hk]
      obtain ⟨d1, d2, d3, d4⟩ := pu_ln h hp c0 c1 x (by omega) hk
      have ne : ln1 k / 2 ≠ i := fun q => by
        by_cases he2 : ln1 k % 2 = 0
        · have z := d3 he2
          rw [q] at z
          have := (s1 i i0 i1).mpr hi
          omega
        · have z := (d4 (by omega)).1
          rw [q] at z
          exact z ((s1 i i0 i1).mpr hi)
      exact ⟨d1, d2, fun q => by rw [up_n ne]; exact d3 q, fun q => by rw [up_n ne]; exact d4 q⟩
theorem pu_odd_pw {sa ea ln sa1 ea1 ln1 : Int → Int} {ev cu i : Int} (h : pw_ sa ea ln ev) (hp : pu_ sa ea ln ev cu sa1 ea1 ln1) (c0 : 0 ≤ cu) (c1 : cu ≤ ev) (hev : ev < 1200) (i0 : 0 ≤ i) (i1 : i < 600) (hi : sa i ≠ -1) (he : ea i = -1) (hc : sa i < cu) : pw_ sa1 (up_ ea1 i cu) (up_ ln1 cu (2 * i + 1)) (ev + 1) := by
  have s1 := (pu_mv h hp c0).1
  have e0 := h.1
  have si : sa1 i = sa i := (hp.2.2.1 i i0 i1).2 hc
  have ei : ea1 i = -1 := by rw [(hp.2.2.2 i i0 i1).2 (Or.inr (by omega))]; exact he
  refine ⟨by omega, fun j x y => ?_, fun j x y n => ?_, fun k x y => ?_⟩
  · by_cases hq : sa1 j = -1
    · exact Or.inl hq
    · obtain ⟨p1, p2, p3, p4, p5, p6⟩ := pu_at h hp c0 c1 x y hq
      exact Or.inr ⟨p3, by omega, by rw [up_n p1]; exact p5⟩
  · by_cases hj : j = i
    · rw [hj, up_s, up_s, si]; exact Or.inr ⟨hc, by omega, rfl⟩
    · rw [up_n hj]
      obtain ⟨p1, p2, p3, p4, p5, p6⟩ := pu_at h hp c0 c1 x y n
      rcases p6 with p6 | ⟨q1, q2, q3⟩
      · exact Or.inl p6
      · exact Or.inr ⟨q1, by omega, by rw [up_n p2]; exact q3⟩
  · by_cases hk : k = cu
    · rw [hk, up_s]
      refine ⟨by omega, by omega, fun q => by omega, fun _ => ?_⟩
      rw [show (2 * i + 1) / 2 = i by omega, up_s]
      exact ⟨by omega, rfl⟩
    · rw [up_n hk]
      obtain ⟨d1, d2, d3, d4⟩ := pu_ln h hp c0 c1 x (by omega) hk
      refine ⟨d1, d2, d3, fun q => ⟨(d4 q).1, ?_⟩⟩
      have z := (d4 q).2
      by_cases hq : ln1 k / 2 = i
      · rw [hq] at z; omega
      · rw [up_n hq]; exact z
