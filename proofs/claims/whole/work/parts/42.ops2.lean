theorem fo_mono {fo : Int → Int} {fr : Int} (h : ∀ f : Int, 0 ≤ f → f + 1 < fr → fo f ≤ fo (f + 1)) : ∀ f : Int, 0 ≤ f → f < fr → fo f ≤ fo (fr - 1) := by
  have key : ∀ (d : Nat) (f : Int), 0 ≤ f → f + d = fr - 1 → fo f ≤ fo (fr - 1) := by
    intro d
    induction d with
    | zero => intro f f0 f1; rw [show f = fr - 1 by omega]; omega
    | succ d ih =>
      intro f f0 f1
      have b1 := h f f0 (by omega)
      have b2 := ih (f + 1) (by omega) (by omega)
      omega
  intro f f0 f1
  exact key (fr - 1 - f).toNat f f0 (by omega)
theorem op_end {ky wt sa ea sm ln fi fk fo op : Int → Int} {ni ns ev cu wa fr oo : Int} {mt ml mf mx mi mg : Int → Int} {K th n z w : Int} {u : SX_} {v : SM_} (h : cp_ ky wt sa ea sm ln fi fk fo op ni ns ev cu wa fr oo mt ml mf mx mi K n) (hn : n < 512) (hx : (z = -1 ∧ u = (ky, wt, sa, ea, sm, ln, fi, fk, fo, op, ni, ns, ev, cu, wa, fr, oo) ∧ oo ≤ fo (fr - 1)) ∨ (fo (fr - 1) < oo ∧ z = op (oo - 1) ∧ ∃ sa1 ea1 ln1 : Int → Int, pu_ sa ea ln ev cu sa1 ea1 ln1 ∧ u = (ky, wt, sa1, up_ ea1 ((2 * z + 1) / 2) cu, sm, up_ ln1 cu (2 * z + 1), fi, fk, fo, op, ni, ns, ev + 1, cu + 1, wa, fr, oo - 1))) (hm : (w = -1 ∧ v = (mt, ky, wt, sm, ml, mf, mx, op, mi, mg, 0, ni, K, ev, cu, fr, oo) ∧ (oo ≤ 0 ∨ mi (oo - 1) ≠ fr - 1)) ∨ (0 < oo ∧ mi (oo - 1) = fr - 1 ∧ w = op (oo - 1) ∧ ∃ ml1 : Int → Int, mp_ ml ev cu ml1 ∧ v = (mt, ky, wt, sm, up_ ml1 cu (2 * w + 1), mf, mx, op, mi, mg, 0, ni, K, ev + 1, cu + 1, fr, oo - 1))) : z = w ∧ cc_ (n + 1) u v := by
  have hu := cp_up h
  obtain ⟨hI, hmt, hml, hfm, hmi, hwt, hev, hoo, hni⟩ := id h
  obtain ⟨hw, hnv, hct, ⟨hf1, hf2, hi0, hk0, ho0⟩, hkd, hfo, hfmo, ⟨hc0, hc3, hev2, ho1, ho2⟩, hsm, hky, hwt2, ⟨hK0, hwa⟩, hse⟩ := id hI
  have hlast := (hfm (fr - 1) (by omega) (by omega)).2
  have hlf := (hfm (fr - 1) (by omega) (by omega)).1
  have hop := cp_open h
  have hlm : lm_ mf ea ev fr = lm_ fi ea ev fr := cp_lm hlf
  have hxf := ix_f hI
  have hmono := fo_mono hfmo
  rcases hx with ⟨e, rfl, hx⟩ | ⟨z0, z1, sa1, ea1, ln1, hpu, rfl⟩
  · rcases hm with ⟨e', rfl, hm⟩ | ⟨y0, y1, y2, ml1, hmp, rfl⟩
    · exact ⟨by omega, _, _, _, _, _, _, _, _, _, _, _, _, _, _, _, _, _, _, _, _, _, _, _, _, _, rfl, rfl, hu⟩
    · exfalso; omega
  · rcases hm with ⟨e', rfl, hm⟩ | ⟨y0, y1, y2, ml1, hmp, rfl⟩
    · exfalso; omega
    · have hzw : z = w := by omega
      subst hzw
      obtain ⟨p0, p1, p2, p3, p4⟩ := hnv.2.2.2.2.1 (oo - 1) (by omega) (by omega)
      rw [← z1] at p0 p1 p2 p3 p4
      refine ⟨rfl, _, _, _, _, _, _, _, _, _, _, _, _, _, _, _, _, _, _, _, _, _, _, _, _, _, rfl, rfl, ?_⟩
      rw [show (2 * z + 1) / 2 = z by omega]
      have s1 := (pu_mv hw hpu hc0).1
      have hgap := nv_gap hw hnv hpu hc0
      refine ⟨⟨pu_odd_pw hw hpu hc0 hc3 hev2 p0 p1 p2 p3 p4, ?_, ct_same hct (fun j x y => (s1 j x y).symm), ⟨hf1, hf2, hi0, hk0, ho0⟩, hkd, fun f f0 f1 => ?_, hfmo, ⟨by omega, by omega, by omega, by omega, by omega⟩, hsm, hky, hwt2, ⟨hK0, hwa⟩, fun j x y n1 n2 => ?_⟩, fun j x y => ?_, fun k x y => ?_, hfm, fun t t0 t1 => hmi t t0 (by omega), hwt, by omega, by omega, by omega⟩
      · refine nv_end hgap (fun j x y q => ?_) hf1 hc0 z0 (by omega) z1.symm (fun f f0 f1 => ⟨(hfo f f0 f1).1, hmono f f0 f1⟩) (fun j x y q => up_n q) (up_s _ _ _)
        have p := pu_at hw hpu hc0 hc3 x y q
        exact ⟨p.1, p.2.1⟩
      · have a := hfo f f0 f1
        have b := hmono f f0 f1
        omega
      · by_cases hj : j = z
        · rw [hj, up_s]; omega
        · rw [up_n hj]
          have q0 : sa j ≠ -1 := fun t => n1 ((s1 j x y).mpr t)
          have q1 := hse j x y q0 n2
          have q2 := hpu.2.2.2 j x y
          by_cases q3 : cu ≤ ea j
          · rw [q2.1 q0 q3]; omega
          · rw [q2.2 (Or.inr (by omega))]; exact q1
      · rcases hmt j x y with t | t
        · exact Or.inl ⟨t.1, fun q => t.2 ((s1 j x y).mp q)⟩
        · exact Or.inr ⟨t.1, (s1 j x y).mpr t.2⟩
      · by_cases hkc : k = cu
        · rw [hkc, up_s, up_s]
        · rw [up_n hkc, up_n hkc]
          by_cases hq : k < cu
          · rw [hmp.2 k hq, hpu.2.1 k hq]; exact hml k x (by omega)
          · rw [hmp.1 k (by omega) (by omega), hpu.1 k (by omega) (by omega)]; exact hml (k - 1) (by omega) (by omega)
theorem cw_up {sa f : Int → Int} {i v : Int} (h0 : 0 ≤ i) (h1 : i < 600) (hs : sa i ≠ -1) : sg_ (cw_ sa (up_ f i v)) 600 = sg_ (cw_ sa f) 600 - f i + v := by
  have a := sg_up (g := cw_ sa (up_ f i v)) (h := cw_ sa f) (i := i) 600 h0 h1 (fun j _ _ hj => by unfold cw_; rw [up_n hj])
  have b : cw_ sa (up_ f i v) i = v := by unfold cw_; rw [if_neg hs, up_s]
  have c : cw_ sa f i = f i := by unfold cw_; rw [if_neg hs]
  rw [b, c] at a
  exact a
theorem cw_one {sa f : Int → Int} {i : Int} (hf : ∀ j : Int, 0 ≤ j → j < 600 → 0 ≤ f j) (h0 : 0 ≤ i) (h1 : i < 600) (hs : sa i ≠ -1) : f i ≤ sg_ (cw_ sa f) 600 := by
  have a := sg_one (g := cw_ sa f) (i := i) 600 (fun j x y => by
    unfold cw_
    by_cases hq : sa j = -1
    · rw [if_pos hq]; omega
    · rw [if_neg hq]; exact hf j x y) h0 h1
  have c : cw_ sa f i = f i := by unfold cw_; rw [if_neg hs]
  rw [c] at a
  exact a
theorem op_weigh {n1 : Int} {ky wt sa ea sm ln fi fk fo op : Int → Int} {ni ns ev cu wa fr oo : Int} {mt ml mf mx mi mg : Int → Int} {K th n z w : Int} {u : SX_} {v : SM_} (h : cp_ ky wt sa ea sm ln fi fk fo op ni ns ev cu wa fr oo mt ml mf mx mi K n) (hn : n < 512) (hx : (z = 0 ∧ u = (ky, wt, sa, ea, sm, ln, fi, fk, fo, op, ni, ns, ev, cu, wa, fr, oo) ∧ (n1 < 0 ∨ fk (fr - 1) = 2 ∨ 1000000000 < wa + n1)) ∨ (z = 1 ∧ 0 ≤ n1 ∧ fk (fr - 1) ≠ 2 ∧ wa + n1 ≤ 1000000000 ∧ ∃ i : Int, ((fo (fr - 1) < oo ∧ i = op (oo - 1)) ∨ (oo ≤ fo (fr - 1) ∧ i = fi (fr - 1))) ∧ ((i = -1 ∧ u = (ky, wt, sa, ea, sm, ln, fi, fk, fo, op, ni, ns, ev, cu, wa + n1, fr, oo)) ∨ (0 ≤ i ∧ i < 600 ∧ u = (ky, up_ wt i (wt i + n1), sa, ea, sm, ln, fi, fk, fo, op, ni, ns, ev, cu, wa + n1, fr, oo))))) (hm : (w = 0 ∧ v = (mt, ky, wt, sm, ml, mf, mx, op, mi, mg, 0, ni, K, ev, cu, fr, oo) ∧ (n1 < 0 ∨ mx (fr - 1) = 1 ∨ 1000000000 < K + sg_ (cw_ sa wt) 600 + n1)) ∨ (w = 1 ∧ 0 ≤ n1 ∧ mx (fr - 1) = 0 ∧ K + sg_ (cw_ sa wt) 600 + n1 ≤ 1000000000 ∧ ∃ i : Int, ((0 < oo ∧ mi (oo - 1) = fr - 1 ∧ i = op (oo - 1)) ∨ ((oo ≤ 0 ∨ mi (oo - 1) ≠ fr - 1) ∧ i = mf (fr - 1))) ∧ ((i = -1 ∧ v = (mt, ky, wt, sm, ml, mf, mx, op, mi, mg, 0, ni, K + n1, ev, cu, fr, oo)) ∨ (0 ≤ i ∧ i < 600 ∧ v = (mt, ky, up_ wt i (wt i + n1), sm, ml, mf, mx, op, mi, mg, 0, ni, K, ev, cu, fr, oo))))) : z = w ∧ cc_ (n + 1) u v := by
  have hu := cp_up h
  obtain ⟨hI, hmt, hml, hfm, hmi, hwt, hev, hoo, hni⟩ := id h
  obtain ⟨hw, hnv, hct, ⟨hf1, hf2, hi0, hk0, ho0⟩, hkd, hfo, hfmo, ⟨hc0, hc3, hev2, ho1, ho2⟩, hsm, hky, hwt2, ⟨hK0, hwa⟩, hse⟩ := id hI
  have hlast := (hfm (fr - 1) (by omega) (by omega)).2
  have hlf := (hfm (fr - 1) (by omega) (by omega)).1
  have hop := cp_open h
  have hlm : lm_ mf ea ev fr = lm_ fi ea ev fr := cp_lm hlf
  have hxf := ix_f hI
  obtain ⟨c1, c2, c3⟩ := id hct
  rcases hx with ⟨e, rfl, hx⟩ | ⟨z0, z1, z2, z3, i, hi, hx⟩
  · rcases hm with ⟨e', rfl, hm⟩ | ⟨y0, y1, y2, y3, i', hi', hm⟩
    · exact ⟨by omega, _, _, _, _, _, _, _, _, _, _, _, _, _, _, _, _, _, _, _, _, _, _, _, _, _, rfl, rfl, hu⟩
    · exfalso; omega
  · rcases hm with ⟨e', rfl, hm⟩ | ⟨y0, y1, y2, y3, i', hi', hm⟩
    · exfalso; omega
    · have hii : i = i' := by omega
      subst hii
      refine ⟨by omega, ?_⟩
      rcases hx with ⟨x0, rfl⟩ | ⟨x0, x1, rfl⟩
      · rcases hm with ⟨m0, rfl⟩ | ⟨m0, m1, rfl⟩
        · refine ⟨_, _, _, _, _, _, _, _, _, _, _, _, _, _, _, _, _, _, _, _, _, _, _, _, _, rfl, rfl, ?_⟩
          exact ⟨⟨hw, hnv, ⟨c1, c2, by omega⟩, ⟨hf1, hf2, hi0, hk0, ho0⟩, hkd, hfo, hfmo, ⟨hc0, hc3, hev2, ho1, ho2⟩, hsm, hky, hwt2, ⟨by omega, by omega⟩, hse⟩, hmt, hml, hfm, hmi, hwt, by omega, by omega, by omega⟩
        · exfalso; omega
      · rcases hm with ⟨m0, rfl⟩ | ⟨m0, m1, rfl⟩
        · exfalso; omega
        · have hs : sa i ≠ -1 := by
            rcases hi with ⟨a, b⟩ | ⟨a, b⟩
            · have := hnv.2.2.2.2.1 (oo - 1) (by omega) (by omega)
              rw [b]; exact this.2.2.1
            · have hfr : 1 < fr := by omega
              have := hnv.2.1 (fr - 1) (by omega) (by omega)
              rw [b]; exact this.2.2.1
          have k1 := cw_up (f := wt) (v := wt i + n1) x0 x1 hs
          have k2 := cw_one (f := wt) hwt2 x0 x1 hs
          refine ⟨_, _, _, _, _, _, _, _, _, _, _, _, _, _, _, _, _, _, _, _, _, _, _, _, _, rfl, rfl, ?_⟩
          refine ⟨⟨hw, hnv, ⟨c1, c2, by omega⟩, ⟨hf1, hf2, hi0, hk0, ho0⟩, hkd, hfo, hfmo, ⟨hc0, hc3, hev2, ho1, ho2⟩, hsm, hky, fun j x y => ?_, ⟨by omega, by omega⟩, hse⟩, hmt, hml, hfm, hmi, fun j x y => ?_, by omega, by omega, by omega⟩
          · by_cases hj : j = i
            · have := hwt2 i x0 x1
              rw [hj, up_s]; omega
            · rw [up_n hj]; exact hwt2 j x y
          · by_cases hj : j = i
            · rw [hj, up_s]; omega
            · rw [up_n hj]; exact hwt j x y
theorem op_stale {i : Int} {ky wt sa ea sm ln fi fk fo op : Int → Int} {ni ns ev cu wa fr oo : Int} {mt ml mf mx mi mg : Int → Int} {K th n z w : Int} {u : SX_} {v : SM_} (h : cp_ ky wt sa ea sm ln fi fk fo op ni ns ev cu wa fr oo mt ml mf mx mi K n) (hn : n < 512) (hx : (z = 0 ∧ u = (ky, wt, sa, ea, sm, ln, fi, fk, fo, op, ni, ns, ev, cu, wa, fr, oo) ∧ (i < 0 ∨ 600 ≤ i ∨ sa i = -1 ∨ ea i = -1 ∨ sm i = 1)) ∨ (z = 1 ∧ 0 ≤ i ∧ i < 600 ∧ sa i ≠ -1 ∧ ea i ≠ -1 ∧ sm i = 0 ∧ u = (ky, wt, sa, ea, up_ sm i 1, ln, fi, fk, fo, op, ni, ns + 1, ev, cu, wa, fr, oo))) (hm : (w = 0 ∧ v = (mt, ky, wt, sm, ml, mf, mx, op, mi, mg, 0, ni, K, ev, cu, fr, oo) ∧ (i < 0 ∨ 600 ≤ i ∨ sa i = -1 ∨ ea i = -1 ∨ sm i = 1)) ∨ (w = 1 ∧ 0 ≤ i ∧ i < 600 ∧ sa i ≠ -1 ∧ ea i ≠ -1 ∧ sm i = 0 ∧ v = (mt, ky, wt, up_ sm i 1, ml, mf, mx, op, mi, mg, 0, ni, K, ev, cu, fr, oo))) : z = w ∧ cc_ (n + 1) u v := by
  have hu := cp_up h
  obtain ⟨hI, hmt, hml, hfm, hmi, hwt, hev, hoo, hni⟩ := id h
  obtain ⟨hw, hnv, hct, ⟨hf1, hf2, hi0, hk0, ho0⟩, hkd, hfo, hfmo, ⟨hc0, hc3, hev2, ho1, ho2⟩, hsm, hky, hwt2, ⟨hK0, hwa⟩, hse⟩ := id hI
  have hlast := (hfm (fr - 1) (by omega) (by omega)).2
  have hlf := (hfm (fr - 1) (by omega) (by omega)).1
  have hop := cp_open h
  have hlm : lm_ mf ea ev fr = lm_ fi ea ev fr := cp_lm hlf
  have hxf := ix_f hI
  obtain ⟨c1, c2, c3⟩ := id hct
  rcases hx with ⟨e, rfl, hx⟩ | ⟨z0, z1, z2, z3, z4, z5, rfl⟩
  · rcases hm with ⟨e', rfl, hm⟩ | ⟨y0, y1, y2, y3, y4, y5, rfl⟩
    · exact ⟨by omega, _, _, _, _, _, _, _, _, _, _, _, _, _, _, _, _, _, _, _, _, _, _, _, _, _, rfl, rfl, hu⟩
    · exfalso; omega
  · rcases hm with ⟨e', rfl, hm⟩ | ⟨y0, y1, y2, y3, y4, y5, rfl⟩
    · exfalso; omega
    · refine ⟨by omega, _, _, _, _, _, _, _, _, _, _, _, _, _, _, _, _, _, _, _, _, _, _, _, _, _, rfl, rfl, ?_⟩
      have k1 := cw_up (f := sm) (v := 1) z1 z2 z3
      refine ⟨⟨hw, hnv, ⟨c1, by omega, c3⟩, ⟨hf1, hf2, hi0, hk0, ho0⟩, hkd, hfo, hfmo, ⟨hc0, hc3, hev2, ho1, ho2⟩, fun j x y => ?_, hky, hwt2, ⟨hK0, hwa⟩, fun j x y n1 n2 => ?_⟩, hmt, hml, hfm, hmi, hwt, by omega, by omega, by omega⟩
      · by_cases hj : j = i
        · rw [hj, up_s]; exact Or.inr rfl
        · rw [up_n hj]; exact hsm j x y
      · by_cases hj : j = i
        · rw [hj]; exact z4
        · rw [up_n hj] at n2; exact hse j x y n1 n2
theorem op_toEnd {ky wt sa ea sm ln fi fk fo op : Int → Int} {ni ns ev cu wa fr oo : Int} {mt ml mf mx mi mg : Int → Int} {K th n z w : Int} {u : SX_} {v : SM_} (h : cp_ ky wt sa ea sm ln fi fk fo op ni ns ev cu wa fr oo mt ml mf mx mi K n) (hn : n < 512) (hx : (z = 1 ∧ fr = 1 ∧ oo ≤ fo (fr - 1) ∧ u = (ky, wt, sa, ea, sm, ln, fi, fk, fo, op, ni, ns, ev, ev, wa, fr, oo)) ∨ (z = 0 ∧ (fr ≠ 1 ∨ fo (fr - 1) < oo) ∧ u = (ky, wt, sa, ea, sm, ln, fi, fk, fo, op, ni, ns, ev, cu, wa, fr, oo))) (hm : (w = 1 ∧ fr = 1 ∧ oo = 0 ∧ v = (mt, ky, wt, sm, ml, mf, mx, op, mi, mg, 0, ni, K, ev, ev, fr, oo)) ∨ (w = 0 ∧ (fr ≠ 1 ∨ oo ≠ 0) ∧ v = (mt, ky, wt, sm, ml, mf, mx, op, mi, mg, 0, ni, K, ev, cu, fr, oo))) : z = w ∧ cc_ (n + 1) u v := by
  have hu := cp_up h
  obtain ⟨hI, hmt, hml, hfm, hmi, hwt, hev, hoo, hni⟩ := id h
  obtain ⟨hw, hnv, hct, ⟨hf1, hf2, hi0, hk0, ho0⟩, hkd, hfo, hfmo, ⟨hc0, hc3, hev2, ho1, ho2⟩, hsm, hky, hwt2, ⟨hK0, hwa⟩, hse⟩ := id hI
  have hlast := (hfm (fr - 1) (by omega) (by omega)).2
  have hlf := (hfm (fr - 1) (by omega) (by omega)).1
  have hop := cp_open h
  have hlm : lm_ mf ea ev fr = lm_ fi ea ev fr := cp_lm hlf
  have hxf := ix_f hI
  rcases hx with ⟨e, x1, x2, rfl⟩ | ⟨e, hx, rfl⟩
  · have e0 : fo (fr - 1) = 0 := by rw [x1]; exact ho0
    rcases hm with ⟨e', m1, m2, rfl⟩ | ⟨e', hm, rfl⟩
    · refine ⟨by omega, _, _, _, _, _, _, _, _, _, _, _, _, _, _, _, _, _, _, _, _, _, _, _, _, _, rfl, rfl, ?_⟩
      exact ⟨⟨hw, nv_free hnv (by omega) (by omega) ev, hct, ⟨hf1, hf2, hi0, hk0, ho0⟩, hkd, hfo, hfmo, ⟨by omega, by omega, hev2, ho1, ho2⟩, hsm, hky, hwt2, ⟨hK0, hwa⟩, hse⟩, hmt, hml, hfm, hmi, hwt, by omega, by omega, by omega⟩
    · exfalso; omega
  · rcases hm with ⟨e', m1, m2, rfl⟩ | ⟨e', hm, rfl⟩
    · exfalso
      have e0 : fo (fr - 1) = 0 := by rw [m1]; exact ho0
      omega
    · exact ⟨by omega, _, _, _, _, _, _, _, _, _, _, _, _, _, _, _, _, _, _, _, _, _, _, _, _, _, rfl, rfl, hu⟩
theorem op_toBegin {ky wt sa ea sm ln fi fk fo op : Int → Int} {ni ns ev cu wa fr oo : Int} {mt ml mf mx mi mg : Int → Int} {K th n z w : Int} {u : SX_} {v : SM_} (h : cp_ ky wt sa ea sm ln fi fk fo op ni ns ev cu wa fr oo mt ml mf mx mi K n) (hn : n < 512) (hx : (z = 1 ∧ fr = 1 ∧ oo ≤ fo (fr - 1) ∧ u = (ky, wt, sa, ea, sm, ln, fi, fk, fo, op, ni, ns, ev, 0, wa, fr, oo)) ∨ (z = 0 ∧ (fr ≠ 1 ∨ fo (fr - 1) < oo) ∧ u = (ky, wt, sa, ea, sm, ln, fi, fk, fo, op, ni, ns, ev, cu, wa, fr, oo))) (hm : (w = 1 ∧ fr = 1 ∧ oo = 0 ∧ v = (mt, ky, wt, sm, ml, mf, mx, op, mi, mg, 0, ni, K, ev, 0, fr, oo)) ∨ (w = 0 ∧ (fr ≠ 1 ∨ oo ≠ 0) ∧ v = (mt, ky, wt, sm, ml, mf, mx, op, mi, mg, 0, ni, K, ev, cu, fr, oo))) : z = w ∧ cc_ (n + 1) u v := by
  have hu := cp_up h
  obtain ⟨hI, hmt, hml, hfm, hmi, hwt, hev, hoo, hni⟩ := id h
  obtain ⟨hw, hnv, hct, ⟨hf1, hf2, hi0, hk0, ho0⟩, hkd, hfo, hfmo, ⟨hc0, hc3, hev2, ho1, ho2⟩, hsm, hky, hwt2, ⟨hK0, hwa⟩, hse⟩ := id hI
  have hlast := (hfm (fr - 1) (by omega) (by omega)).2
  have hlf := (hfm (fr - 1) (by omega) (by omega)).1
  have hop := cp_open h
  have hlm : lm_ mf ea ev fr = lm_ fi ea ev fr := cp_lm hlf
  have hxf := ix_f hI
  rcases hx with ⟨e, x1, x2, rfl⟩ | ⟨e, hx, rfl⟩
  · have e0 : fo (fr - 1) = 0 := by rw [x1]; exact ho0
    rcases hm with ⟨e', m1, m2, rfl⟩ | ⟨e', hm, rfl⟩
    · refine ⟨by omega, _, _, _, _, _, _, _, _, _, _, _, _, _, _, _, _, _, _, _, _, _, _, _, _, _, rfl, rfl, ?_⟩
      exact ⟨⟨hw, nv_free hnv (by omega) (by omega) 0, hct, ⟨hf1, hf2, hi0, hk0, ho0⟩, hkd, hfo, hfmo, ⟨by omega, by omega, hev2, ho1, ho2⟩, hsm, hky, hwt2, ⟨hK0, hwa⟩, hse⟩, hmt, hml, hfm, hmi, hwt, by omega, by omega, by omega⟩
    · exfalso; omega
  · rcases hm with ⟨e', m1, m2, rfl⟩ | ⟨e', hm, rfl⟩
    · exfalso
      have e0 : fo (fr - 1) = 0 := by rw [m1]; exact ho0
      omega
    · exact ⟨by omega, _, _, _, _, _, _, _, _, _, _, _, _, _, _, _, _, _, _, _, _, _, _, _, _, _, rfl, rfl, hu⟩
theorem op_event {k : Int} {ky wt sa ea sm ln fi fk fo op : Int → Int} {ni ns ev cu wa fr oo : Int} {mt ml mf mx mi mg : Int → Int} {K th n z w : Int} {u : SX_} {v : SM_} (h : cp_ ky wt sa ea sm ln fi fk fo op ni ns ev cu wa fr oo mt ml mf mx mi K n) (hn : n < 512) (hx : u = (ky, wt, sa, ea, sm, ln, fi, fk, fo, op, ni, ns, ev, cu, wa, fr, oo) ∧ ((0 ≤ k ∧ k < ev ∧ z = ln k) ∨ ((k < 0 ∨ ev ≤ k) ∧ z = -1))) (hm : v = (mt, ky, wt, sm, ml, mf, mx, op, mi, mg, 0, ni, K, ev, cu, fr, oo) ∧ ((0 ≤ k ∧ k < ev ∧ w = ml k) ∨ ((k < 0 ∨ ev ≤ k) ∧ w = -1))) : z = w ∧ cc_ (n + 1) u v := by
  have hu := cp_up h
  obtain ⟨hI, hmt, hml, hfm, hmi, hwt, hev, hoo, hni⟩ := id h
  obtain ⟨hw, hnv, hct, ⟨hf1, hf2, hi0, hk0, ho0⟩, hkd, hfo, hfmo, ⟨hc0, hc3, hev2, ho1, ho2⟩, hsm, hky, hwt2, ⟨hK0, hwa⟩, hse⟩ := id hI
  have hlast := (hfm (fr - 1) (by omega) (by omega)).2
  have hlf := (hfm (fr - 1) (by omega) (by omega)).1
  have hop := cp_open h
  have hlm : lm_ mf ea ev fr = lm_ fi ea ev fr := cp_lm hlf
  have hxf := ix_f hI
  obtain ⟨rfl, hx⟩ := hx
  obtain ⟨rfl, hm⟩ := hm
  refine ⟨?_, _, _, _, _, _, _, _, _, _, _, _, _, _, _, _, _, _, _, _, _, _, _, _, _, _, rfl, rfl, hu⟩
  rcases hx with ⟨x0, x1, x2⟩ | ⟨x0, x1⟩
  · have := hml k x0 x1
    omega
  · omega
theorem wh_cases (wh : Int) : wh = 0 ∨ wh = 1 ∨ wh = 2 ∨ wh = 3 ∨ wh = 4 ∨ wh = 5 ∨ wh = 6 ∨ wh = 7 ∨ wh = 8 ∨ wh = 9 ∨ (wh < 0 ∨ 9 < wh) := by omega
theorem op_look {wh : Int} {ky wt sa ea sm ln fi fk fo op : Int → Int} {ni ns ev cu wa fr oo : Int} {mt ml mf mx mi mg : Int → Int} {K th n z w : Int} {u : SX_} {v : SM_} (h : cp_ ky wt sa ea sm ln fi fk fo op ni ns ev cu wa fr oo mt ml mf mx mi K n) (hn : n < 512) (hx : u = (ky, wt, sa, ea, sm, ln, fi, fk, fo, op, ni, ns, ev, cu, wa, fr, oo) ∧ (wh = 0 → z = ni) ∧ (wh = 1 → z = ev) ∧ (wh = 2 → z = cu) ∧ (wh = 3 → z = fr) ∧ (wh = 4 → z = wa) ∧ (wh = 5 → z = ns) ∧ (wh = 6 → z = fi (fr - 1)) ∧ (wh = 7 → (fo (fr - 1) < oo → z = op (oo - 1)) ∧ (oo ≤ fo (fr - 1) → z = -1)) ∧ (wh = 8 → z = fk (fr - 1)) ∧ (wh = 9 → z = lm_ fi ea ev fr - cu) ∧ (wh < 0 ∨ 9 < wh → z = -1)) (hm : v = (mt, ky, wt, sm, ml, mf, mx, op, mi, mg, 0, ni, K, ev, cu, fr, oo) ∧ (wh = 0 → w = ni) ∧ (wh = 1 → w = ev) ∧ (wh = 2 → w = cu) ∧ (wh = 3 → w = fr) ∧ (wh = 4 → w = K + sg_ (cw_ sa wt) 600) ∧ (wh = 5 → w = sg_ (cw_ sa sm) 600) ∧ (wh = 6 → w = mf (fr - 1)) ∧ (wh = 7 → (0 < oo ∧ mi (oo - 1) = fr - 1 → w = op (oo - 1)) ∧ ((oo ≤ 0 ∨ mi (oo - 1) ≠ fr - 1) → w = -1)) ∧ (wh = 8 → (fr = 1 → w = 0) ∧ (1 < fr → w = 1 + mx (fr - 1))) ∧ (wh = 9 → w = (lm_ mf ea ev fr) - cu) ∧ (wh < 0 ∨ 9 < wh → w = -1)) : z = w ∧ cc_ (n + 1) u v := by
  have hu := cp_up h
  obtain ⟨hI, hmt, hml, hfm, hmi, hwt, hev, hoo, hni⟩ := id h
  obtain ⟨hw, hnv, hct, ⟨hf1, hf2, hi0, hk0, ho0⟩, hkd, hfo, hfmo, ⟨hc0, hc3, hev2, ho1, ho2⟩, hsm, hky, hwt2, ⟨hK0, hwa⟩, hse⟩ := id hI
  have hlast := (hfm (fr - 1) (by omega) (by omega)).2
  have hlf := (hfm (fr - 1) (by omega) (by omega)).1
  have hop := cp_open h
  have hlm : lm_ mf ea ev fr = lm_ fi ea ev fr := cp_lm hlf
  have hxf := ix_f hI
  obtain ⟨c1, c2, c3⟩ := id hct
  obtain ⟨rfl, x0, x1, x2, x3, x4, x5, x6, x7, x8, x9, x10⟩ := hx
  obtain ⟨rfl, m0, m1, m2, m3, m4, m5, m6, m7, m8, m9, m10⟩ := hm
  refine ⟨?_, _, _, _, _, _, _, _, _, _, _, _, _, _, _, _, _, _, _, _, _, _, _, _, _, _, rfl, rfl, hu⟩
  rcases wh_cases wh with q | q | q | q | q | q | q | q | q | q | q
  · rw [x0 q, m0 q]
  · rw [x1 q, m1 q]
  · rw [x2 q, m2 q]
  · rw [x3 q, m3 q]
  · rw [x4 q, m4 q]; exact c3
  · rw [x5 q, m5 q]; exact c2
  · rw [x6 q, m6 q]; exact hlf.symm
  · have a := x7 q
    have b := m7 q
    by_cases ho : fo (fr - 1) < oo
    · rw [a.1 ho, b.1 (hop.mp ho)]
    · have ho' : oo ≤ 0 ∨ mi (oo - 1) ≠ fr - 1 := by
        rcases Int.lt_or_le 0 oo with t | t
        · exact Or.inr (fun q => ho (hop.mpr ⟨t, q⟩))
        · exact Or.inl t
      rw [a.2 (Int.not_lt.mp ho), b.2 ho']
  · have a := x8 q
    have b := m8 q
    have t1 := hxf.2.2.2.2.2.2.1
    have t2 := hxf.2.2.2.2.2.2.2.1
    by_cases ho : fr = 1
    · rw [a, b.1 ho]; exact t2.mpr ho
    · rw [a, b.2 (Int.lt_iff_le_and_ne.mpr ⟨hf1, Ne.symm ho⟩)]
      rcases hlast with ⟨p, q⟩ | ⟨p, q⟩
      · rw [p, q]; rfl
      · rw [q]
        rcases t1 with t | t | t
        · exact absurd (t2.mp t) ho
        · rw [t]; rfl
        · exact absurd t p
  · rw [x9 q, m9 q, hlm]
  · rw [x10 q, m10 q]
