/-- the states behind a call, n calls made -/
def cc_ (n : Int) (u : SX_) (v : SM_) : Prop := ∃ (ky wt sa ea sm ln fi fk fo op : Int → Int) (ni ns ev cu wa fr oo : Int) (mt ml mf mx mi mg : Int → Int) (th K : Int), u = (ky, wt, sa, ea, sm, ln, fi, fk, fo, op, ni, ns, ev, cu, wa, fr, oo) ∧ v = (mt, ky, wt, sm, ml, mf, mx, op, mi, mg, th, ni, K, ev, cu, fr, oo) ∧ cp_ ky wt sa ea sm ln fi fk fo op ni ns ev cu wa fr oo mt ml mf mx mi K n
theorem cp_up {ky wt sa ea sm ln fi fk fo op : Int → Int} {ni ns ev cu wa fr oo : Int} {mt ml mf mx mi : Int → Int} {K n : Int} (h : cp_ ky wt sa ea sm ln fi fk fo op ni ns ev cu wa fr oo mt ml mf mx mi K n) : cp_ ky wt sa ea sm ln fi fk fo op ni ns ev cu wa fr oo mt ml mf mx mi K (n + 1) := by
  obtain ⟨a1, a2, a3, a4, a5, a6, a7, a8, a9⟩ := h
  exact ⟨a1, a2, a3, a4, a5, a6, by omega, by omega, by omega⟩
theorem nv_ea {sa ea fi fo op : Int → Int} {cu fr oo i v : Int} (h : nv_ sa ea cu fi fo fr op oo) (hi : sa i = -1) : nv_ sa (up_ ea i v) cu fi fo fr op oo := by
  obtain ⟨n1, n2, n3, n4, n5, n6, n7⟩ := h
  have e : ∀ j : Int, sa j ≠ -1 → up_ ea i v j = ea j := fun j hj => up_n (fun q => hj (by rw [q]; exact hi))
  have ef : ∀ f : Int, 1 ≤ f → f < fr → up_ ea i v (fi f) = ea (fi f) := fun f f0 f1 => e _ (n2 f f0 f1).2.2.1
  have hcl : ∀ f : Int, 0 ≤ f → f < fr → cl_ (up_ ea i v) cu fi fr f = cl_ ea cu fi fr f := fun f f0 f1 => by
    unfold cl_
    by_cases hq : f + 1 < fr
    · rw [if_pos hq, if_pos hq, ef (f + 1) (by omega) hq]
    · rw [if_neg hq, if_neg hq]
  refine ⟨fun a b a0 a1 b0 b1 s1 s2 => ?_, fun f f0 f1 => ?_, fun f f0 f1 => ?_, fun f1 => ?_, fun t t0 t1 => ?_, n6, fun f t f0 f1 t0 t1 t2 t3 b b0 b1 sb => ?_⟩
  · rw [e a s1, e b s2]; exact n1 a b a0 a1 b0 b1 s1 s2
  · rw [ef f f0 f1]; exact n2 f f0 f1
  · rw [ef f f0 (by omega), ef (f + 1) (by omega) f1]; exact n3 f f0 f1
  · rw [ef (fr - 1) (by omega) (by omega)]; exact n4 f1
  · rw [e _ (n5 t t0 t1).2.2.1]; exact n5 t t0 t1
  · rw [hcl f f0 f1, e b sb]; exact n7 f t f0 f1 t0 t1 t2 t3 b b0 b1 sb
theorem nv_fe {sa ea fi fo op : Int → Int} {cu fr oo : Int} (h : nv_ sa ea cu fi fo fr op oo) : ∀ f : Int, 1 ≤ f → f < fr → cu ≤ ea (fi f) ∧ sa (fi f) < cu := by
  obtain ⟨n1, n2, n3, n4, n5, n6, n7⟩ := h
  have key : ∀ (k : Nat) (g : Int), 1 ≤ g → g < fr → g = fr - 1 - k → cu ≤ ea (fi g) ∧ sa (fi g) < cu := by
    intro k
    induction k with
    | zero => intro g g0 g1 g2; rw [show g = fr - 1 by omega]; have := n4 (by omega); omega
    | succ k ih =>
      intro g g0 g1 g2
      have b1 := ih (g + 1) (by omega) (by omega) (by omega)
      have b2 := n3 g g0 (by omega)
      omega
  intro f f0 f1
  exact key (fr - 1 - f).toNat f f0 f1 (by omega)
/-- nesting in the line with a gap at the cursor -/
theorem nv_gap {sa ea ln sa1 ea1 ln1 fi fo op : Int → Int} {ev cu fr oo : Int} (hw : pw_ sa ea ln ev) (h : nv_ sa ea cu fi fo fr op oo) (hp : pu_ sa ea ln ev cu sa1 ea1 ln1) (c0 : 0 ≤ cu) : nv_ sa1 ea1 (cu + 1) fi fo fr op oo := by
  obtain ⟨s1, hm⟩ := pu_mv hw hp c0
  have hfe := nv_fe h
  refine nv_move2 h hm (fun j x y n => ?_) c0 (fun f f0 f1 => ?_) (fun f f0 f1 => ?_) (fun t t0 t1 => ?_)
  · have a := hw.2.1 j x y
    have b := hw.2.2.1 j x y n
    exact ⟨by omega, fun _ => by omega⟩
  · have := hfe f f0 f1
    show (if ea (fi f) + 1 < cu then ea (fi f) + 1 else ea (fi f) + 1 + 1) = (if ea (fi f) < cu then ea (fi f) else ea (fi f) + 1) + 1
    rw [if_neg (by omega), if_neg (by omega)]
  · have p := h.2.1 f f0 f1
    exact fun z => p.2.2.1 ((s1 _ p.1 p.2.1).mp z)
  · have p := h.2.2.2.2.1 t t0 t1
    exact fun z => p.2.2.1 ((s1 _ p.1 p.2.1).mp z)
theorem ct_begin {sa sa1 sm wt : Int → Int} {ni ns wa K z c : Int} (h : ct_ sa sm wt ni ns wa K) (hs : ∀ j : Int, 0 ≤ j → j < 600 → (sa1 j = -1 ↔ sa j = -1)) (z0 : 0 ≤ z) (z1 : z < 600) (hz : sa z = -1) (hc : 0 ≤ c) : ct_ (up_ sa1 z c) (up_ sm z 0) (up_ wt z 0) (ni + 1) ns wa K := by
  obtain ⟨a1, a2, a3⟩ := h
  have f1 := sg_up (g := c1_ (up_ sa1 z c)) (h := c1_ sa) (i := z) 600 z0 z1 (fun j x y hj => by
    unfold c1_
    rw [up_n hj]
    by_cases hq : sa j = -1
    · rw [if_pos hq, if_pos ((hs j x y).mpr hq)]
    · rw [if_neg hq, if_neg (fun t => hq ((hs j x y).mp t))])
  have f2 : ∀ g : Int → Int, sg_ (cw_ (up_ sa1 z c) (up_ g z 0)) 600 = sg_ (cw_ sa g) 600 - cw_ sa g z + cw_ (up_ sa1 z c) (up_ g z 0) z := fun g => sg_up 600 z0 z1 (fun j x y hj => by
    unfold cw_
    rw [up_n hj, up_n hj]
    by_cases hq : sa j = -1
    · rw [if_pos hq, if_pos ((hs j x y).mpr hq)]
    · rw [if_neg hq, if_neg (fun t => hq ((hs j x y).mp t))])
  have e1 : c1_ (up_ sa1 z c) z = 1 := by unfold c1_; rw [up_s, if_neg (by omega)]
  have e2 : c1_ sa z = 0 := by unfold c1_; rw [if_pos hz]
  have e3 : ∀ g : Int → Int, cw_ sa g z = 0 := fun g => by unfold cw_; rw [if_pos hz]
  have e4 : ∀ g : Int → Int, cw_ (up_ sa1 z c) (up_ g z 0) z = 0 := fun g => by unfold cw_; rw [up_s, up_s, if_neg (by omega)]
  have g2 := f2 sm
  have g3 := f2 wt
  rw [e3, e4] at g2 g3
  rw [e1, e2] at f1
  exact ⟨by omega, by omega, by omega⟩
theorem op_begin {ky wt sa ea sm ln fi fk fo op : Int → Int} {ni ns ev cu wa fr oo : Int} {mt ml mf mx mi mg : Int → Int} {K th n : Int} {key z w : Int} {u : SX_} {v : SM_} (h : cp_ ky wt sa ea sm ln fi fk fo op ni ns ev cu wa fr oo mt ml mf mx mi K n) (hn : n < 512) (hk : zr_ key) (hx : (z = -1 ∧ u = (ky, wt, sa, ea, sm, ln, fi, fk, fo, op, ni, ns, ev, cu, wa, fr, oo) ∧ (fk (fr - 1) = 2 ∨ ∀ j : Int, 0 ≤ j → j < 600 → sa j ≠ -1)) ∨ (0 ≤ z ∧ z < 600 ∧ sa z = -1 ∧ (∀ j : Int, 0 ≤ j → j < z → sa j ≠ -1) ∧ fk (fr - 1) ≠ 2 ∧ ∃ sa1 ea1 ln1 : Int → Int, pu_ sa (up_ ea z (-1)) ln ev cu sa1 ea1 ln1 ∧ u = (up_ ky z key, up_ wt z 0, up_ sa1 (2 * z / 2) cu, ea1, up_ sm z 0, up_ ln1 cu (2 * z), fi, fk, fo, up_ op oo z, ni + 1, ns, ev + 1, cu + 1, wa, fr, oo + 1))) (hm : (w = -1 ∧ v = (mt, ky, wt, sm, ml, mf, mx, op, mi, mg, 0, ni, K, ev, cu, fr, oo) ∧ mx (fr - 1) = 1) ∨ (0 ≤ w ∧ w < 600 ∧ sa w = -1 ∧ (∀ j : Int, 0 ≤ j → j < w → sa j ≠ -1) ∧ mx (fr - 1) = 0 ∧ ∃ ml1 : Int → Int, mp_ ml ev cu ml1 ∧ v = (up_ mt w 1, up_ ky w key, up_ wt w 0, up_ sm w 0, up_ ml1 cu (2 * w), mf, mx, up_ op oo w, up_ mi oo (fr - 1), mg, 0, ni + 1, K, ev + 1, cu + 1, fr, oo + 1))) : z = w ∧ cc_ (n + 1) u v := by
  have hfree := cp_free h (by omega)
  have hu := cp_up h
  obtain ⟨hI, hmt, hml, hfm, hmi, hwt, hev, hoo, hni⟩ := id h
  obtain ⟨hw, hnv, hct, ⟨hf1, hf2, hi0, hk0, ho0⟩, hkd, hfo, hfmo, ⟨hc0, hc3, hev2, ho1, ho2⟩, hsm, hky, hwt2, ⟨hK0, hwa⟩, hse⟩ := id hI
  have hlast := (hfm (fr - 1) (by omega) (by omega)).2
  rcases hx with ⟨e, rfl, hx⟩ | ⟨z0, z1, z2, z3, z4, sa1, ea1, ln1, hpu, rfl⟩
  · rcases hm with ⟨e', rfl, hm⟩ | ⟨y0, y1, y2, y3, y4, ml1, hmp, rfl⟩
    · exact ⟨by omega, _, _, _, _, _, _, _, _, _, _, _, _, _, _, _, _, _, _, _, _, _, _, _, _, _, rfl, rfl, hu⟩
    · exfalso
      rcases hx with hx | hx
      · omega
      · obtain ⟨j, j0, j1, j2⟩ := hfree
        exact hx j j0 j1 j2
  · rcases hm with ⟨e', rfl, hm⟩ | ⟨y0, y1, y2, y3, y4, ml1, hmp, rfl⟩
    · exfalso; omega
    · have hzw : z = w := by
        rcases Int.lt_trichotomy z w with q | q | q
        · exact absurd z2 (y3 z z0 q)
        · exact q
        · exact absurd y2 (z3 w y0 q)
      subst hzw
      refine ⟨rfl, _, _, _, _, _, _, _, _, _, _, _, _, _, _, _, _, _, _, _, _, _, _, _, _, _, rfl, rfl, ?_⟩
      rw [show 2 * z / 2 = z by omega]
      have hw2 := pw_ea (v := -1) hw z2
      have s1 := (pu_mv hw2 hpu hc0).1
      have ez : ea1 z = -1 := by rw [(hpu.2.2.2 z z0 z1).2 (Or.inl z2)]; exact up_s _ _ _
      have sz : sa1 z = -1 := (s1 z z0 z1).mpr z2
      have hgap := nv_gap hw2 (nv_ea (v := -1) hnv z2) hpu hc0
      have hfl : ∀ f : Int, 0 ≤ f → f < fr → 0 ≤ fo f ∧ fo f ≤ oo := hfo
      refine ⟨⟨pu_even_pw hw2 hpu hc0 hc3 hev2 z0 z1 z2 ez, ?_, ct_begin hct s1 z0 z1 z2 hc0, ⟨hf1, hf2, hi0, hk0, ho0⟩, hkd, fun f f0 f1 => ?_, hfmo, ⟨by omega, by omega, by omega, by omega, by omega⟩, fun j x y => ?_, fun j x y => ?_, fun j x y => ?_, ⟨hK0, hwa⟩, fun j x y n1 n2 => ?_⟩, fun j x y => ?_, fun k x y => ?_, hfm, fun t t0 t1 => ?_, fun j x y => ?_, by omega, by omega, by omega⟩
      · refine nv_begin hgap (fun j x y q => ?_) z0 z1 sz hf1 hc0 ho1 (fun f f0 f1 => (hfl (f + 1) (by omega) f1).2) (fun j x y q => ⟨up_n q, rfl⟩) (up_s _ _ _) ez (fun t q => up_n (by omega)) (up_s _ _ _)
        have p := pu_at hw2 hpu hc0 hc3 x y q
        exact ⟨p.1, p.2.1⟩
      · have := hfo f f0 f1
        omega
      · by_cases hj : j = z
        · rw [hj, up_s]; exact Or.inl rfl
        · rw [up_n hj]; exact hsm j x y
      · by_cases hj : j = z
        · rw [hj, up_s]; exact hk
        · rw [up_n hj]; exact hky j x y
      · by_cases hj : j = z
        · rw [hj, up_s]; omega
        · rw [up_n hj]; exact hwt2 j x y
      · by_cases hj : j = z
        · rw [hj, up_s] at n2; omega
        · rw [up_n hj] at n1 n2
          have q0 : sa j ≠ -1 := fun t => n1 ((s1 j x y).mpr t)
          have q1 := hse j x y q0 n2
          have q2 := hpu.2.2.2 j x y
          rw [up_n hj] at q2
          by_cases q3 : cu ≤ ea j
          · rw [q2.1 q0 q3]; omega
          · rw [q2.2 (Or.inr (by omega))]; exact q1
      · by_cases hj : j = z
        · rw [hj, up_s, up_s]; exact Or.inl ⟨rfl, by omega⟩
        · rw [up_n hj, up_n hj]
          rcases hmt j x y with t | t
          · exact Or.inl ⟨t.1, fun q => t.2 ((s1 j x y).mp q)⟩
          · exact Or.inr ⟨t.1, (s1 j x y).mpr t.2⟩
      · by_cases hkc : k = cu
        · rw [hkc, up_s, up_s]
        · rw [up_n hkc, up_n hkc]
          by_cases hq : k < cu
          · rw [hmp.2 k hq, hpu.2.1 k hq]; exact hml k x (by omega)
          · rw [hmp.1 k (by omega) (by omega), hpu.1 k (by omega) (by omega)]; exact hml (k - 1) (by omega) (by omega)
      · by_cases ht : t = oo
        · rw [ht, up_s]
          have := hfo (fr - 1) (by omega) (by omega)
          exact ⟨by omega, by omega, by omega, fun q => by omega⟩
        · rw [up_n ht]; exact hmi t t0 (by omega)
      · by_cases hj : j = z
        · rw [hj, up_s]; omega
        · rw [up_n hj]; exact hwt j x y
