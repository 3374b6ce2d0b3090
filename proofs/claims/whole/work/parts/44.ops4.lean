theorem sg_mono {g h : Int → Int} : ∀ (n : Nat), (∀ j : Int, 0 ≤ j → j < n → g j ≤ h j) → sg_ g n ≤ sg_ h n
  | 0, _ => Int.le_refl _
  | n + 1, H => by
    show sg_ g n + g n ≤ sg_ h n + h n
    have a := sg_mono n (fun j x y => H j x (by omega))
    have b := H n (by omega) (by omega)
    omega
theorem nv_fl {sa ea fi fo op : Int → Int} {cu fr oo : Int} (h : nv_ sa ea cu fi fo fr op oo) : ∀ f : Int, 1 ≤ f → f < fr → ea (fi (fr - 1)) ≤ ea (fi f) := by
  have key : ∀ (k : Nat) (g : Int), 1 ≤ g → g < fr → g = fr - 1 - k → ea (fi (fr - 1)) ≤ ea (fi g) := by
    intro k
    induction k with
    | zero => intro g g0 g1 g2; rw [show g = fr - 1 by omega]; omega
    | succ k ih =>
      intro g g0 g1 g2
      have b1 := ih (g + 1) (by omega) (by omega) (by omega)
      have b2 := h.2.2.1 g g0 (by omega)
      omega
  intro f f0 f1
  exact key (fr - 1 - f).toNat f f0 f1 (by omega)
theorem er_less {sa ea ln sa2 ea2 ln2 sm wt : Int → Int} {ev a b ni ns wa ni2 ns2 wa2 K : Int} (hw : pw_ sa ea ln ev) (h : er_ sa ea ln ev a b sa2 ea2 ln2) (hwt : ∀ j : Int, 0 ≤ j → j < 600 → 0 ≤ wt j) (hc : ct_ sa sm wt ni ns wa K) (hc2 : ct_ sa2 sm wt ni2 ns2 wa2 K) : ni2 ≤ ni ∧ wa2 ≤ wa := by
  have hm := (er_mv (c := 0) hw h).2
  have a1 := sg_mono (g := c1_ sa2) (h := c1_ sa) 600 (fun j x y => by
    unfold c1_
    by_cases q : sa2 j = -1
    · rw [if_pos q]
      by_cases r : sa j = -1
      · rw [if_pos r]; omega
      · rw [if_neg r]; omega
    · rw [if_neg q, if_neg (hm j x (by omega) q).1]; omega)
  have a2 := sg_mono (g := cw_ sa2 wt) (h := cw_ sa wt) 600 (fun j x y => by
    unfold cw_
    have := hwt j x (by omega)
    by_cases q : sa2 j = -1
    · rw [if_pos q]
      by_cases r : sa j = -1
      · rw [if_pos r]; omega
      · rw [if_neg r]; omega
    · rw [if_neg q, if_neg (hm j x (by omega) q).1]; omega)
  obtain ⟨c1, c2, c3⟩ := hc
  obtain ⟨d1, d2, d3⟩ := hc2
  omega
theorem er_se {sa ea ln sa2 ea2 ln2 sm : Int → Int} {ev a b : Int} (hw : pw_ sa ea ln ev) (h : er_ sa ea ln ev a b sa2 ea2 ln2) (hse : ∀ j : Int, 0 ≤ j → j < 600 → sa j ≠ -1 → sm j = 1 → ea j ≠ -1) : ∀ j : Int, 0 ≤ j → j < 600 → sa2 j ≠ -1 → sm j = 1 → ea2 j ≠ -1 := fun j x y n1 n2 => by
  obtain ⟨p1, p2, p3, p4, -⟩ := (er_mv (c := 0) hw h).2 j x y n1
  exact (p4 (hse j x y p1 n2)).2
theorem mt_cg {mt sa sa' : Int → Int} (h : mt_ mt sa) (he : ∀ j : Int, 0 ≤ j → j < 600 → sa j = sa' j) : mt_ mt sa' := fun j x y => by
  rw [← he j x y]; exact h j x y
theorem op_done {ky wt sa ea sm ln fi fk fo op : Int → Int} {ni ns ev cu wa fr oo : Int} {mt ml mf mx mi mg : Int → Int} {K th n z w : Int} {u : SX_} {v : SM_} (h : cp_ ky wt sa ea sm ln fi fk fo op ni ns ev cu wa fr oo mt ml mf mx mi K n) (hn : n < 512) (hx : (z = -1 ∧ u = (ky, wt, sa, ea, sm, ln, fi, fk, fo, op, ni, ns, ev, cu, wa, fr, oo) ∧ (fr = 1 ∨ fo (fr - 1) < oo)) ∨ (1 < fr ∧ oo ≤ fo (fr - 1) ∧ z = fi (fr - 1) ∧ ((fk (fr - 1) = 1 ∧ ∃ (sa2 ea2 ln2 : Int → Int) (ni2 ns2 wa2 : Int), er_ sa ea ln ev cu (ea (fi (fr - 1))) sa2 ea2 ln2 ∧ ct_ sa2 sm wt ni2 ns2 wa2 K ∧ u = (ky, wt, sa2, ea2, sm, ln2, fi, fk, fo, op, ni2, ns2, rz_ (gp_ ln cu (ea (fi (fr - 1)))) ev, ea2 (fi (fr - 1)) + 1, wa2, fr - 1, oo)) ∨ (fk (fr - 1) ≠ 1 ∧ u = (ky, wt, sa, ea, sm, ln, fi, fk, fo, op, ni, ns, ev, ea (fi (fr - 1)) + 1, wa, fr - 1, oo))))) (hm : (w = -1 ∧ v = (mt, ky, wt, sm, ml, mf, mx, op, mi, mg, 0, ni, K, ev, cu, fr, oo) ∧ (fr = 1 ∨ (0 < oo ∧ mi (oo - 1) = fr - 1))) ∨ (1 < fr ∧ (oo ≤ 0 ∨ mi (oo - 1) ≠ fr - 1) ∧ w = mf (fr - 1) ∧ ((mx (fr - 1) = 0 ∧ ∃ (ml2 mg2 mt2 : Int → Int) (mn2 : Int), er_ sa ea ml ev cu (lm_ mf ea ev fr) (es_ sa ml cu (lm_ mf ea ev fr)) (ee_ ea ml cu (lm_ mf ea ev fr)) ml2 ∧ mt_ mt2 (es_ sa ml cu (lm_ mf ea ev fr)) ∧ mn2 = sg_ mt2 600 ∧ v = (mt2, ky, wt, sm, ml2, mf, mx, op, mi, mg2, 0, mn2, K, rz_ (gp_ ml cu (lm_ mf ea ev fr)) ev, ee_ ea ml cu (lm_ mf ea ev fr) (mf (fr - 1)) + 1, fr - 1, oo)) ∨ (mx (fr - 1) = 1 ∧ v = (mt, ky, wt, sm, ml, mf, mx, op, mi, mg, 0, ni, K, ev, ea (mf (fr - 1)) + 1, fr - 1, oo))))) : z = w ∧ cc_ (n + 1) u v := by
  have hu := cp_up h
  obtain ⟨hI, hmt, hml, hfm, hmi, hwt, hev, hoo, hni⟩ := id h
  obtain ⟨hw, hnv, hct, ⟨hf1, hf2, hi0, hk0, ho0⟩, hkd, hfo, hfmo, ⟨hc0, hc3, hev2, ho1, ho2⟩, hsm, hky, hwt2, ⟨hK0, hwa⟩, hse⟩ := id hI
  have hlast := (hfm (fr - 1) (by omega) (by omega)).2
  have hlf := (hfm (fr - 1) (by omega) (by omega)).1
  have hop := cp_open h
  have hlm : lm_ mf ea ev fr = lm_ fi ea ev fr := cp_lm hlf
  have hxf := ix_f hI
  obtain ⟨g1, g2, g3, g4, g5, g6, g7, g8, g9, g10, g11⟩ := hxf
  have hmi2 : oo ≤ fo (fr - 1) → 1 < fr → ∀ t : Int, 0 ≤ t → t < oo → 0 ≤ mi t ∧ mi t < fr - 1 ∧ fo (mi t) ≤ t ∧ (mi t + 1 < fr - 1 → t < fo (mi t + 1)) := fun q r t t0 t1 => by
    obtain ⟨m1, m2, m3, m4⟩ := hmi t t0 t1
    have hne : mi t ≠ fr - 1 := fun s => by rw [s] at m3; omega
    exact ⟨m1, by omega, m3, fun s => m4 (by omega)⟩
  rcases hx with ⟨e, rfl, hx⟩ | ⟨z0, z1, z2, hx⟩
  · rcases hm with ⟨e', rfl, hm⟩ | ⟨y0, y1, y2, hm⟩
    · exact ⟨by omega, _, _, _, _, _, _, _, _, _, _, _, _, _, _, _, _, _, _, _, _, _, _, _, _, _, rfl, rfl, hu⟩
    · exfalso
      rcases hx with hx | hx
      · omega
      · have := hop.mp hx; omega
  · have hfr : 1 < fr := z0
    have hlm2 : lm_ fi ea ev fr = ea (fi (fr - 1)) := by unfold lm_; rw [if_neg (by omega)]
    obtain ⟨p1, p2, p3, p4⟩ := hnv.2.1 (fr - 1) (by omega) (by omega)
    have p5 := hnv.2.2.2.1 hfr
    have p6 := g11 hfr
    rcases hm with ⟨e', rfl, hm⟩ | ⟨y0, y1, y2, hm⟩
    · exfalso
      rcases hm with hm | hm
      · omega
      · have := hop.mpr hm; omega
    · refine ⟨by rw [z2, y2, hlf], ?_⟩
      rcases hx with ⟨x0, sa2, ea2, ln2, ni2, ns2, wa2, her, hct2, rfl⟩ | ⟨x0, rfl⟩
      · rcases hm with ⟨m0, ml2, mg2, mt2, mn2, her', hmt2, hmn, rfl⟩ | ⟨m0, rfl⟩
        · rw [hlm, hlm2] at her' hmt2
          obtain ⟨s1, s2⟩ := er_same hw hml hc0 (show ea (fi (fr - 1)) ≤ ev by omega) her her'
          have hmt3 := mt_cg hmt2 (fun j x y => (s1 j x y).1)
          have hni2 : mn2 = ni2 := by rw [hmn, mt_sg hmt3]; exact hct2.1.symm
          have hst := er_stay hw her hc0 (show ea (fi (fr - 1)) ≤ ev by omega) p1 p2 p3 (Or.inl p5.1) (Or.inr (Int.le_refl _))
          have hee := (s1 (fi (fr - 1)) p1 p2).2 hst.2.1
          have hrz := rz_cg hml hc0 (show ea (fi (fr - 1)) ≤ ev by omega) (Int.le_refl ev)
          have hpw2 := er_pw hw her
          have hls := er_less hw her hwt2 hct hct2
          have hr0 := rz_nn (gp_ ln cu (ea (fi (fr - 1)))) hw.1.1
          have hnv2 := nv_pop (er_nv hw hnv hc0 (show ea (fi (fr - 1)) ≤ ev by omega) (nv_fl hnv) her) hfr z1
          have hen := hpw2.2.2.1 (fi (fr - 1)) p1 p2 hst.2.1
          have hsn := hpw2.2.1 (fi (fr - 1)) p1 p2
          have he2 := hst.2.2.2.1 p4
          have hr1 := rz_nn (gp_ ln cu (ea (fi (fr - 1)))) (show 0 ≤ ea (fi (fr - 1)) by omega)
          refine ⟨_, _, _, _, _, _, _, _, _, _, _, _, _, _, _, _, _, mt2, ml2, mf, mx, mi, mg2, 0, K, rfl, ?_, ?_⟩
          · rw [hlm, hlm2, hlf, hrz, hee, hni2]
          · exact ⟨⟨hpw2, hnv2, hct2, ⟨by omega, by omega, hi0, hk0, ho0⟩, fun f f0 f1 => hkd f f0 (by omega), fun f f0 f1 => hfo f f0 (by omega), fun f f0 f1 => hfmo f f0 (by omega), ⟨by omega, by omega, by omega, ho1, ho2⟩, hsm, hky, hwt2, ⟨hK0, by omega⟩, er_se hw her hse⟩, hmt3, s2, fun f f0 f1 => hfm f f0 (by omega), hmi2 z1 hfr, hwt, by omega, by omega, by omega⟩
        · exfalso; omega
      · rcases hm with ⟨m0, ml2, mg2, mt2, mn2, her', hmt2, hmn, rfl⟩ | ⟨m0, rfl⟩
        · exfalso; omega
        · refine ⟨_, _, _, _, _, _, _, _, _, _, _, _, _, _, _, _, _, mt, ml, mf, mx, mi, mg, 0, K, rfl, ?_, ?_⟩
          · rw [hlf]
          · exact ⟨⟨hw, nv_pop hnv hfr z1, hct, ⟨by omega, by omega, hi0, hk0, ho0⟩, fun f f0 f1 => hkd f f0 (by omega), fun f f0 f1 => hfo f f0 (by omega), fun f f0 f1 => hfmo f f0 (by omega), ⟨by omega, by omega, by omega, ho1, ho2⟩, hsm, hky, hwt2, ⟨hK0, by omega⟩, hse⟩, hmt, hml, fun f f0 f1 => hfm f f0 (by omega), hmi2 z1 hfr, hwt, by omega, by omega, by omega⟩
theorem op_take {key : Int} {ky wt sa ea sm ln fi fk fo op : Int → Int} {ni ns ev cu wa fr oo : Int} {mt ml mf mx mi mg : Int → Int} {K th n z w : Int} {u : SX_} {v : SM_} (h : cp_ ky wt sa ea sm ln fi fk fo op ni ns ev cu wa fr oo mt ml mf mx mi K n) (hn : n < 512) (hx : (z = -1 ∧ u = (ky, wt, sa, ea, sm, ln, fi, fk, fo, op, ni, ns, ev, cu, wa, fr, oo) ∧ (fk (fr - 1) ≠ 1 ∨ fr = 64 ∨ ∀ k : Int, cu ≤ k → k < (lm_ fi ea ev fr) → ¬ (fun k => ln k % 2 = 0 ∧ ky (ln k / 2) = key ∧ sm (ln k / 2) = 0 ∧ ea (ln k / 2) ≠ -1 ∧ ea (ln k / 2) < (lm_ fi ea ev fr)) k)) ∨ (fk (fr - 1) = 1 ∧ fr < 64 ∧ ∃ k : Int, cu ≤ k ∧ k < (lm_ fi ea ev fr) ∧ (fun k => ln k % 2 = 0 ∧ ky (ln k / 2) = key ∧ sm (ln k / 2) = 0 ∧ ea (ln k / 2) ≠ -1 ∧ ea (ln k / 2) < (lm_ fi ea ev fr)) k ∧ (∀ j : Int, cu ≤ j → j < k → ¬ (fun k => ln k % 2 = 0 ∧ ky (ln k / 2) = key ∧ sm (ln k / 2) = 0 ∧ ea (ln k / 2) ≠ -1 ∧ ea (ln k / 2) < (lm_ fi ea ev fr)) j) ∧ z = ln k / 2 ∧ ∃ (sa2 ea2 ln2 : Int → Int) (ni2 ns2 wa2 : Int), er_ sa ea ln ev cu (sa (ln k / 2)) sa2 ea2 ln2 ∧ ct_ sa2 sm wt ni2 ns2 wa2 K ∧ u = (ky, wt, sa2, ea2, sm, ln2, up_ fi fr (ln k / 2), up_ fk fr 2, up_ fo fr oo, op, ni2, ns2, rz_ (gp_ ln cu (sa (ln k / 2))) ev, sa2 (ln k / 2) + 1, wa2, fr + 1, oo))) (hm : (w = -1 ∧ v = (mt, ky, wt, sm, ml, mf, mx, op, mi, mg, 0, ni, K, ev, cu, fr, oo) ∧ (fr = 1 ∨ mx (fr - 1) = 1 ∨ fr = 64 ∨ ∀ k : Int, cu ≤ k → k < (lm_ mf ea ev fr) → ¬ (fun k => ml k % 2 = 0 ∧ ky (ml k / 2) = key ∧ sm (ml k / 2) = 0 ∧ ea (ml k / 2) ≠ -1 ∧ cu ≤ ea (ml k / 2) ∧ ea (ml k / 2) < (lm_ mf ea ev fr)) k)) ∨ (fr ≠ 1 ∧ mx (fr - 1) = 0 ∧ fr < 64 ∧ ∃ k : Int, cu ≤ k ∧ k < (lm_ mf ea ev fr) ∧ (fun k => ml k % 2 = 0 ∧ ky (ml k / 2) = key ∧ sm (ml k / 2) = 0 ∧ ea (ml k / 2) ≠ -1 ∧ cu ≤ ea (ml k / 2) ∧ ea (ml k / 2) < (lm_ mf ea ev fr)) k ∧ (∀ j : Int, cu ≤ j → j < k → ¬ (fun k => ml k % 2 = 0 ∧ ky (ml k / 2) = key ∧ sm (ml k / 2) = 0 ∧ ea (ml k / 2) ≠ -1 ∧ cu ≤ ea (ml k / 2) ∧ ea (ml k / 2) < (lm_ mf ea ev fr)) j) ∧ w = ml k / 2 ∧ ∃ (ml2 mg2 mt2 : Int → Int) (mn2 : Int), er_ sa ea ml ev cu k (es_ sa ml cu k) (ee_ ea ml cu k) ml2 ∧ mt_ mt2 (es_ sa ml cu k) ∧ mn2 = sg_ mt2 600 ∧ v = (mt2, ky, wt, sm, ml2, up_ mf fr (ml k / 2), up_ mx fr 1, op, mi, mg2, 0, mn2, K, rz_ (gp_ ml cu k) ev, es_ sa ml cu k (ml k / 2) + 1, fr + 1, oo))) : z = w ∧ cc_ (n + 1) u v := by
  have hu := cp_up h
  obtain ⟨hI, hmt, hml, hfm, hmi, hwt, hev, hoo, hni⟩ := id h
  obtain ⟨hw, hnv, hct, ⟨hf1, hf2, hi0, hk0, ho0⟩, hkd, hfo, hfmo, ⟨hc0, hc3, hev2, ho1, ho2⟩, hsm, hky, hwt2, ⟨hK0, hwa⟩, hse⟩ := id hI
  have hlast := (hfm (fr - 1) (by omega) (by omega)).2
  have hlf := (hfm (fr - 1) (by omega) (by omega)).1
  have hop := cp_open h
  have hlm : lm_ mf ea ev fr = lm_ fi ea ev fr := cp_lm hlf
  have hxf := ix_f hI
  obtain ⟨g1, g2, g3, g4, g5, g6, g7, g8, g9, g10, g11⟩ := hxf
  rw [hlm] at hm
  have hps : ∀ k : Int, cu ≤ k → k < lm_ fi ea ev fr → ml k = ln k := fun k a b => hml k (by omega) (by omega)
  have hpe : ∀ k : Int, cu ≤ k → k < lm_ fi ea ev fr → ln k % 2 = 0 → ea (ln k / 2) ≠ -1 → cu ≤ ea (ln k / 2) := fun k a b c d => by
    obtain ⟨d1, d2, d3, d4⟩ := hw.2.2.2 k (by omega) (by omega)
    have d5 := d3 c
    have d6 := hw.2.2.1 (ln k / 2) (by omega) (by omega) (by omega)
    omega
  rcases hx with ⟨e, rfl, hx⟩ | ⟨z0, z1, k, k0, k1, k2, k3, k4, sa2, ea2, ln2, ni2, ns2, wa2, her, hct2, rfl⟩
  · rcases hm with ⟨e', rfl, hm⟩ | ⟨y0, y1, y2, j, j0, j1, j2, j3, j4, ml2, mg2, mt2, mn2, her', hmt2, hmn, rfl⟩
    · exact ⟨by omega, _, _, _, _, _, _, _, _, _, _, _, _, _, _, _, _, _, _, _, _, _, _, _, _, _, rfl, rfl, hu⟩
    · exfalso
      rcases hx with hx | hx | hx
      · omega
      · omega
      · rw [hps j j0 j1] at j2
        exact hx j j0 j1 ⟨j2.1, j2.2.1, j2.2.2.1, j2.2.2.2.1, j2.2.2.2.2.2⟩
  · have hbk : ln k % 2 = 0 ∧ ky (ln k / 2) = key ∧ sm (ln k / 2) = 0 ∧ ea (ln k / 2) ≠ -1 ∧ ea (ln k / 2) < lm_ fi ea ev fr := k2
    have hmk : ml k % 2 = 0 ∧ ky (ml k / 2) = key ∧ sm (ml k / 2) = 0 ∧ ea (ml k / 2) ≠ -1 ∧ cu ≤ ea (ml k / 2) ∧ ea (ml k / 2) < lm_ fi ea ev fr := by
      rw [hps k k0 k1]
      exact ⟨hbk.1, hbk.2.1, hbk.2.2.1, hbk.2.2.2.1, hpe k k0 k1 hbk.1 hbk.2.2.2.1, hbk.2.2.2.2⟩
    rcases hm with ⟨e', rfl, hm⟩ | ⟨y0, y1, y2, j, j0, j1, j2, j3, j4, ml2, mg2, mt2, mn2, her', hmt2, hmn, rfl⟩
    · exfalso
      rcases hm with hm | hm | hm | hm
      · omega
      · omega
      · omega
      · exact hm k k0 k1 hmk
    · have hkj : k = j := by
        rcases Int.lt_trichotomy k j with q | q | q
        · exact absurd hmk (j3 k k0 q)
        · exact q
        · rw [hps j j0 j1] at j2
          exact absurd ⟨j2.1, j2.2.1, j2.2.2.1, j2.2.2.2.1, j2.2.2.2.2.2⟩ (k3 j j0 q)
      subst hkj
      rw [hps k k0 k1] at j4
      have hfr : 1 < fr := by omega
      have hlm2 : lm_ fi ea ev fr = ea (fi (fr - 1)) := by unfold lm_; rw [if_neg (by omega)]
      obtain ⟨p1, p2, p3, p4⟩ := hnv.2.1 (fr - 1) (by omega) (by omega)
      have p5 := hnv.2.2.2.1 hfr
      have p6 := g11 hfr
      refine ⟨by omega, ?_⟩
      obtain ⟨d1, d2, d3, d4⟩ := hw.2.2.2 k (by omega) (by omega)
      have d5 := d3 hbk.1
      rw [d5] at her ⊢
      obtain ⟨s1, s2⟩ := er_same hw hml hc0 (show k ≤ ev by omega) her her'
      have hmt3 := mt_cg hmt2 (fun j x y => (s1 j x y).1)
      have hni2 : mn2 = ni2 := by rw [hmn, mt_sg hmt3]; exact hct2.1.symm
      have hrz := rz_cg hml hc0 (show k ≤ ev by omega) (Int.le_refl ev)
      have i0 : 0 ≤ ln k / 2 := by omega
      have i1 : ln k / 2 < 600 := by omega
      have hes := (s1 (ln k / 2) i0 i1).1
      refine ⟨_, _, _, _, _, _, _, _, _, _, _, _, _, _, _, _, _, mt2, ml2, up_ mf fr (ln k / 2), up_ mx fr 1, mi, mg2, 0, K, rfl, ?_, ?_⟩
      · rw [hps k k0 k1, hrz, hes, hni2]
      have hik := hbk.2.2.2
      generalize hi : ln k / 2 = i at d5 i0 i1 hik ⊢
      have hs : sa i ≠ -1 := by omega
      have w3 := hw.2.2.1 i i0 i1 hs
      have hst := er_stay hw her hc0 (show k ≤ ev by omega) i0 i1 hs (Or.inr (by omega)) (Or.inr (by omega))
      have hstl := er_stay hw her hc0 (show k ≤ ev by omega) p1 p2 p3 (Or.inl p5.1) (Or.inr (by omega))
      have hk9 : ¬ gp_ ln cu k k := by
        show ¬ fg_ ln cu k (ln k / 2)
        rw [hi]; exact hst.2.2.2.2
      have hrk : rz_ (gp_ ln cu k) k = rz_ (gp_ ln cu k) cu := by
        have t := rz_const (g := gp_ ln cu k) hc0 (k - cu).toNat (fun p x y => ⟨p, x, by omega, rfl⟩)
        rw [show cu + ((k - cu).toNat : Int) = k by omega] at t
        exact t
      have hsi : sa2 i = rz_ (gp_ ln cu k) k := by rw [hst.1, d5]
      have hpw2 := er_pw hw her
      have hls := er_less hw her hwt2 hct hct2
      have hr0 := rz_nn (gp_ ln cu k) hw.1.1
      have hnv1 := er_nv hw hnv hc0 (show k ≤ ev by omega) (fun f f0 f1 => by have := nv_fl hnv f f0 f1; omega) her
      have hr2 := rz_nn (gp_ ln cu k) (show 0 ≤ k by omega)
      have hr3 := rz_nn (gp_ ln cu k) hc0
      have hei := hst.2.2.2.1 hik.1
      have hr4 := rz_nn (gp_ ln cu k) (show 0 ≤ ea i by omega)
      have hsn := hpw2.2.1 i i0 i1
      have hltl := (rz_lt (g := gp_ ln cu k) (a := k) (b := ea (fi (fr - 1))) (by omega) (by omega) hk9).mpr (by omega)
      have hel := hstl.2.2.2.1 p4
      refine ⟨⟨hpw2, ?_, hct2, ⟨by omega, by omega, by rw [up_n (by omega)]; exact hi0, by rw [up_n (by omega)]; exact hk0, by rw [up_n (by omega)]; exact ho0⟩, fun f f0 f1 => ?_, fun f f0 f1 => ?_, fun f f0 f1 => ?_, ⟨by omega, by omega, by omega, ho1, ho2⟩, hsm, hky, hwt2, ⟨hK0, by omega⟩, er_se hw her hse⟩, hmt3, s2, fun f f0 f1 => ?_, fun t t0 t1 => ?_, hwt, by omega, by omega, by omega⟩
      · exact nv_push hpw2 hnv1 hf1 (fun _ => g3) i0 i1 hst.2.1 (by rw [hei]; omega) (by omega) (fun _ => by omega) (fun _ => by omega) (fun f q => ⟨up_n (by omega), up_n (by omega)⟩) (up_s _ _ _) (up_s _ _ _) (by omega)
      · by_cases hf : f = fr
        · rw [hf, up_s]; exact Or.inr rfl
        · rw [up_n hf]; exact hkd f f0 (by omega)
      · by_cases hf : f = fr
        · rw [hf, up_s]; omega
        · rw [up_n hf]; exact hfo f f0 (by omega)
      · rw [up_n (show f ≠ fr by omega)]
        by_cases hf : f + 1 = fr
        · rw [hf, up_s]; exact (hfo f f0 (by omega)).2
        · rw [up_n hf]; exact hfmo f f0 (by omega)
      · by_cases hf : f = fr
        · rw [hf, up_s, up_s, up_s, up_s]; exact ⟨rfl, Or.inl ⟨rfl, rfl⟩⟩
        · rw [up_n hf, up_n hf, up_n hf, up_n hf]; exact hfm f f0 (by omega)
      · obtain ⟨m1, m2, m3, m4⟩ := hmi t t0 t1
        refine ⟨m1, by omega, by rw [up_n (by omega)]; exact m3, fun q => ?_⟩
        by_cases hf : mi t + 1 = fr
        · rw [hf, up_s]; exact t1
        · rw [up_n hf]; exact m4 (by omega)
