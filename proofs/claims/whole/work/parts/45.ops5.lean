theorem sg_z {g : Int → Int} (n : Nat) (h : ∀ j : Int, 0 ≤ j → j < n → g j = 0) : sg_ g n = 0 := by
  have a := sg_nn (g := g) n (fun j x y => by rw [h j x y]; omega)
  have b := sg_le (g := g) (c := 0) n (fun j x y => by rw [h j x y]; omega)
  rw [Int.mul_zero] at b
  omega
/-- a state with no intervals and the first frame alone -/
theorem cp_empty {ky wt sa ea sm ln fi fk fo op mt ml mf mx mi : Int → Int} {n : Int} (hsa : ∀ j : Int, 0 ≤ j → j < 600 → sa j = -1) (hmt : ∀ j : Int, 0 ≤ j → j < 600 → mt j = 0) (hfi : fi 0 = -1) (hfk : fk 0 = 0) (hfo : fo 0 = 0) (hmf : mf 0 = -1) (hmx : mx 0 = 0) (hn : 0 ≤ n)
    (hsm : ∀ j : Int, 0 ≤ j → j < 600 → sm j = 0 ∨ sm j = 1) (hky : ∀ j : Int, 0 ≤ j → j < 600 → zr_ (ky j)) (hwt : ∀ j : Int, 0 ≤ j → j < 600 → 0 ≤ wt j ∧ wt j ≤ 1000000000) : cp_ ky wt sa ea sm ln fi fk fo op 0 0 0 0 0 1 0 mt ml mf mx mi 0 n := by
  have z1 : sg_ (c1_ sa) 600 = 0 := sg_z 600 (fun j x y => by unfold c1_; rw [if_pos (hsa j x (by omega))])
  have z2 : ∀ f : Int → Int, sg_ (cw_ sa f) 600 = 0 := fun f => sg_z 600 (fun j x y => by unfold cw_; rw [if_pos (hsa j x (by omega))])
  refine ⟨⟨⟨by omega, fun j x y => Or.inl (hsa j x y), fun j x y n => absurd (hsa j x y) n, fun k x y => by omega⟩, ⟨fun a b a0 a1 b0 b1 s1 => absurd (hsa a a0 a1) s1, fun f f0 f1 => by omega, fun f f0 f1 => by omega, fun f1 => by omega, fun t t0 t1 => by omega, fun t t' t0 t1 t2 => by omega, fun f t f0 f1 t0 t1 t2 => by omega⟩, ⟨z1.symm, (z2 sm).symm, by rw [z2 wt]; omega⟩, ⟨by omega, by omega, hfi, hfk, hfo⟩, fun f f0 f1 => by omega, fun f f0 f1 => ?_, fun f f0 f1 => by omega, ⟨by omega, by omega, by omega, by omega, by omega⟩, hsm, hky, fun j x y => (hwt j x y).1, ⟨by omega, by omega⟩, fun j x y n1 => absurd (hsa j x y) n1⟩, fun j x y => Or.inr ⟨hmt j x y, hsa j x y⟩, fun k x y => by omega, fun f f0 f1 => ?_, fun t t0 t1 => by omega, fun j x y => (hwt j x y).2, hn, hn, hn⟩
  · rw [show f = 0 by omega, hfo]; omega
  · rw [show f = 0 by omega, hfi, hfk, hmf, hmx]; exact ⟨rfl, Or.inr ⟨by omega, rfl⟩⟩
theorem op_wipe {ky wt sa ea sm ln fi fk fo op : Int → Int} {ni ns ev cu wa fr oo : Int} {mt ml mf mx mi mg : Int → Int} {K n : Int} {u : SX_} {v : SM_} (h : cp_ ky wt sa ea sm ln fi fk fo op ni ns ev cu wa fr oo mt ml mf mx mi K n) (hn : 0 ≤ n) (hx : ∃ sa1 : Int → Int, (∀ j : Int, 0 ≤ j → j < 600 → sa1 j = -1) ∧ u = (ky, wt, sa1, ea, sm, ln, up_ fi 0 (-1), up_ fk 0 0, up_ fo 0 0, op, 0, 0, 0, 0, 0, 1, 0)) (hm : ∃ mt1 : Int → Int, (∀ j : Int, 0 ≤ j → j < 600 → mt1 j = 0) ∧ v = (mt1, ky, wt, sm, ml, mf, mx, op, mi, mg, 0, 0, 0, 0, 0, 1, 0)) : cc_ (n + 1) u v := by
  obtain ⟨hI, hmt, hml, hfm, hmi, hwt, hev, hoo, hni⟩ := id h
  obtain ⟨hw, hnv, hct, ⟨hf1, hf2, hi0, hk0, ho0⟩, hkd, hfo, hfmo, ⟨hc0, hc3, hev2, ho1, ho2⟩, hsm, hky, hwt2, ⟨hK0, hwa⟩, hse⟩ := id hI
  obtain ⟨sa1, hs, rfl⟩ := hx
  obtain ⟨mt1, ht, rfl⟩ := hm
  have h0 := hfm 0 (by omega) (by omega)
  refine ⟨_, _, _, _, _, _, _, _, _, _, _, _, _, _, _, _, _, _, _, _, _, _, _, _, _, rfl, rfl, ?_⟩
  exact cp_empty hs ht (up_s _ _ _) (up_s _ _ _) (up_s _ _ _) (by rw [h0.1]; exact hi0) (by omega) (by omega) hsm hky (fun j x y => ⟨hwt2 j x y, hwt j x y⟩)
theorem fl_eq {P P' : Int → Prop} {v v' : Int → Int} {a b z w : Int} (hP : ∀ k : Int, a ≤ k → k < b → (P k ↔ P' k)) (hv : ∀ k : Int, a ≤ k → k < b → v k = v' k) (h : fl_ P v a b z) (h' : fl_ P' v' a b w) : z = w := by
  rcases h with ⟨e, h⟩ | ⟨k, k0, k1, k2, k3, k4⟩
  · rcases h' with ⟨e', h'⟩ | ⟨j, j0, j1, j2, j3, j4⟩
    · omega
    · exact absurd ((hP j j0 j1).mpr j2) (h j j0 j1)
  · rcases h' with ⟨e', h'⟩ | ⟨j, j0, j1, j2, j3, j4⟩
    · exact absurd ((hP k k0 k1).mp k2) (h' k k0 k1)
    · rcases Int.lt_trichotomy k j with q | q | q
      · exact absurd ((hP j j0 j1).mpr j2) (k4 j q j1)
      · subst q; rw [k3, j3]; exact hv k k0 k1
      · exact absurd ((hP k k0 k1).mp k2) (j4 k q k1)
/-- what the class answers to of(i, wh), where it answers -/
def xo_ (ky wt sa ea sm ln : Int → Int) (ev i wh z : Int) : Prop :=
  (wh = 0 → z = ky i) ∧ (wh = 1 → z = wt i) ∧ (wh = 2 → (ea i = -1 → z = 0) ∧ (ea i ≠ -1 → z = 1 + sm i)) ∧ (wh = 3 → z = sa i) ∧ (wh = 4 → z = ea i) ∧ (wh = 5 → fl_ (fun k => ln k % 2 = 0 ∧ (ea (ln k / 2) = -1 ∨ sa i < ea (ln k / 2))) (fun k => ln k / 2) 0 (sa i) z) ∧ (wh = 6 → z = st_ (we_ ln wt) (sa i) (ut_ ea ev i - sa i).toNat)
theorem of_cases {wh : Int} (h0 : 0 ≤ wh) (h1 : wh ≤ 6) : wh = 0 ∨ wh = 1 ∨ wh = 2 ∨ wh = 3 ∨ wh = 4 ∨ wh = 5 ∨ wh = 6 := by omega
theorem op_of {i wh : Int} {ky wt sa ea sm ln fi fk fo op : Int → Int} {ni ns ev cu wa fr oo : Int} {mt ml mf mx mi mg : Int → Int} {K th n z w : Int} {u : SX_} {v : SM_} (h : cp_ ky wt sa ea sm ln fi fk fo op ni ns ev cu wa fr oo mt ml mf mx mi K n) (hn : n < 512) (hi : 0 ≤ i ∧ i < 600 ∧ sa i ≠ -1 ∧ 0 ≤ wh ∧ wh ≤ 6) (hx : xo_ ky wt sa ea sm ln ev i wh z) (hm : ((i < 0 ∨ 600 ≤ i ∨ sa i = -1 ∨ wh < 0 ∨ 6 < wh) ∧ w = 0 ∧ v = (mt, ky, wt, sm, ml, mf, mx, op, mi, mg, 1, ni, K, ev, cu, fr, oo)) ∨ (0 ≤ i ∧ i < 600 ∧ sa i ≠ -1 ∧ 0 ≤ wh ∧ wh ≤ 6 ∧ v = (mt, ky, wt, sm, ml, mf, mx, op, mi, mg, 0, ni, K, ev, cu, fr, oo) ∧ (wh = 0 → w = ky i) ∧ (wh = 1 → w = wt i) ∧ (wh = 2 → (ea i = -1 → w = 0) ∧ (ea i ≠ -1 → w = 1 + sm i)) ∧ (wh = 3 → w = sa i) ∧ (wh = 4 → w = ea i) ∧ (wh = 5 → fl_ (fun k => ml k % 2 = 0 ∧ sa i < ut_ ea ev (ml k / 2)) (fun k => ml k / 2) 0 (sa i) w) ∧ (wh = 6 → w = wt i + st_ (we_ ml wt) (sa i + 1) (ut_ ea ev i - (sa i + 1)).toNat))) : z = w ∧ v = (mt, ky, wt, sm, ml, mf, mx, op, mi, mg, 0, ni, K, ev, cu, fr, oo) := by
  obtain ⟨i0, i1, i2, i3, i4⟩ := hi
  obtain ⟨hI, hmt, hml, hfm, hmi, hwt, hev, hoo, hni⟩ := id h
  have hw := hI.1
  have hur := ut_rng hw i0 i1 i2
  rcases hm with ⟨m0, m1, rfl⟩ | ⟨-, -, -, -, -, rfl, m0, m1, m2, m3, m4, m5, m6⟩
  · exfalso; omega
  obtain ⟨x0, x1, x2, x3, x4, x5, x6⟩ := hx
  refine ⟨?_, rfl⟩
  rcases of_cases i3 i4 with q | q | q | q | q | q | q
  · rw [x0 q, m0 q]
  · rw [x1 q, m1 q]
  · by_cases he : ea i = -1
    · rw [(x2 q).1 he, (m2 q).1 he]
    · rw [(x2 q).2 he, (m2 q).2 he]
  · rw [x3 q, m3 q]
  · rw [x4 q, m4 q]
  · refine fl_eq (fun k k0 k1 => ?_) (fun k k0 k1 => ?_) (x5 q) (m5 q)
    · have e := hml k k0 (by clear x0 x1 x2 x3 x4 x5 x6 m0 m1 m2 m3 m4 m5 m6; omega)
      show (ln k % 2 = 0 ∧ (ea (ln k / 2) = -1 ∨ sa i < ea (ln k / 2))) ↔ (ml k % 2 = 0 ∧ sa i < ut_ ea ev (ml k / 2))
      rw [e]
      unfold ut_
      by_cases hq : ea (ln k / 2) = -1
      · rw [if_pos hq]
        exact ⟨fun t => ⟨t.1, by clear x0 x1 x2 x3 x4 x5 x6 m0 m1 m2 m3 m4 m5 m6; omega⟩, fun t => ⟨t.1, Or.inl hq⟩⟩
      · rw [if_neg hq]
        exact ⟨fun t => ⟨t.1, t.2.resolve_left hq⟩, fun t => ⟨t.1, Or.inr t.2⟩⟩
    · show ln k / 2 = ml k / 2
      rw [hml k k0 (by clear x0 x1 x2 x3 x4 x5 x6 m0 m1 m2 m3 m4 m5 m6; omega)]
  · rw [x6 q, m6 q]
    clear x0 x1 x2 x3 x4 x5 x6 m0 m1 m2 m3 m4 m5 m6
    have w2 := hw.2.1 i i0 i1
    rw [show (ut_ ea ev i - sa i).toNat = (ut_ ea ev i - (sa i + 1)).toNat + 1 by omega, st_first]
    have e1 : we_ ln wt (sa i) = wt i := by
      have e : ln (sa i) = 2 * i := by omega
      unfold we_
      rw [e, if_pos (by omega), show 2 * i / 2 = i by omega]
    rw [e1]
    congr 1
    refine st_congr _ (fun j j0 j1 => ?_)
    unfold we_
    rw [hml j (by omega) (by omega)]
