theorem fl_hit {P : Int → Prop} {v : Int → Int} {a p : Int} (h : a ≤ p) (hp : P p) : fl_ P v a (p + 1) (v p) := Or.inr ⟨p, h, by omega, hp, rfl, fun j x y => by omega⟩
theorem fl_miss {P : Int → Prop} {v : Int → Int} {a p z : Int} (hp : ¬ P p) (h : fl_ P v a p z) : fl_ P v a (p + 1) z := by
  rcases h with ⟨e, h⟩ | ⟨k, h0, h1, h2, h3, h4⟩
  · exact Or.inl ⟨e, fun k x y => if hq : k = p then (by rw [hq]; exact hp) else h k x (by omega)⟩
  · exact Or.inr ⟨k, h0, by omega, h2, h3, fun j x y => if hq : j = p then (by rw [hq]; exact hp) else h4 j x (by omega)⟩
theorem fl_0 {P : Int → Prop} {v : Int → Int} {a : Int} : fl_ P v a a (-1) := Or.inl ⟨rfl, fun k x y => by omega⟩
theorem ut_rng {sa ea ml : Int → Int} {ev i : Int} (hw : pw_ sa ea ml ev) (h0 : 0 ≤ i) (h1 : i < 600) (hs : sa i ≠ -1) : sa i < ut_ ea ev i ∧ ut_ ea ev i ≤ ev ∧ 0 ≤ sa i := by
  have w2 := hw.2.1 i h0 h1
  have w3 := hw.2.2.1 i h0 h1 hs
  unfold ut_
  by_cases hq : ea i = -1
  · rw [if_pos hq]; omega
  · rw [if_neg hq]; omega
theorem nfg_ {sa ea ml : Int → Int} {ev a b z : Int} (hw : pw_ sa ea ml ev) (ha : 0 ≤ a) (hb : b ≤ ev) (h1 : sa z < a ∨ b ≤ sa z) (h2 : ea z < a ∨ b ≤ ea z) : ¬ fg_ ml a b z := by
  intro ⟨k, k0, k1, k2⟩
  obtain ⟨c1, c2, c3, c4⟩ := hw.2.2.2 k (by omega) (by omega)
  rw [k2] at c3 c4
  by_cases he : ml k % 2 = 0
  · have := c3 he; omega
  · have := (c4 (by omega)).2; omega
theorem m4_one {sa ea ml mt mt2 g : Int → Int} {ev a b i : Int} (hw : pw_ sa ea ml ev) (ha : 0 ≤ a) (hb : b ≤ ev) (hm : mt_ mt sa) (hg : mg_ ml a b g) (h : m4_ g mt i mt2) (h0 : 0 ≤ i) (h1 : i < 600) (hi : g i = 1) : mt2 i = 1 := by
  rw [(h i h0 h1).2 (Or.inl (Int.le_refl i))]
  obtain ⟨-, g0⟩ := hg i h0 h1
  have hf : fg_ ml a b i := Classical.byContradiction (fun n => by have := g0 n; omega)
  obtain ⟨k, k0, k1, k2⟩ := hf
  obtain ⟨c1, c2, c3, c4⟩ := hw.2.2.2 k (by omega) (by omega)
  rw [k2] at c3 c4
  have hs : sa i ≠ -1 := by
    by_cases he : ml k % 2 = 0
    · have := c3 he; omega
    · exact (c4 (by omega)).1
  rcases hm i h0 h1 with t | t
  · exact t.1
  · exact absurd t.2 hs
theorem sg_put {g : Int → Int} {i v : Int} (h0 : 0 ≤ i) (h1 : i < 600) : sg_ (up_ g i v) 600 = sg_ g 600 - g i + v := by
  have := sg_up (g := up_ g i v) (h := g) (i := i) 600 h0 h1 (fun j _ _ hj => up_n hj)
  rw [up_s] at this
  exact this
/-- what holds of the reference's state between two calls; sa, ea: where each start and end stands -/
def im_ (sa ea mt mq mw ms ml mf mx mo mi : Int → Int) (mn mh ev cu fr oo : Int) : Prop :=
  pw_ sa ea ml ev ∧ mt_ mt sa ∧ mn = sg_ mt 600 ∧ mn < 600 ∧ (∃ j : Int, 0 ≤ j ∧ j < 600 ∧ sa j = -1) ∧ (1 ≤ fr ∧ fr ≤ 64 ∧ mf 0 = -1) ∧
  (∀ f : Int, 1 ≤ f → f < fr → 0 ≤ mf f ∧ mf f < 600 ∧ sa (mf f) ≠ -1 ∧ ea (mf f) ≠ -1) ∧ (∀ f : Int, 0 ≤ f → f < fr → mx f = 0 ∨ mx f = 1) ∧ (0 ≤ cu ∧ cu ≤ ev ∧ ev < 1200 ∧ 0 ≤ oo ∧ oo < 600) ∧
  (∀ t : Int, 0 ≤ t → t < oo → 0 ≤ mo t ∧ mo t < 600 ∧ 0 ≤ mi t ∧ mi t < 64) ∧ (∀ j : Int, 0 ≤ j → j < 600 → ms j = 0 ∨ ms j = 1) ∧ (∀ j : Int, 0 ≤ j → j < 600 → zr_ (mq j)) ∧
  (∀ j : Int, 0 ≤ j → j < 600 → 0 ≤ mw j ∧ mw j ≤ 1000000000) ∧ (0 ≤ mh ∧ mh ≤ 1000000000) ∧ (1 < fr → sa (mf (fr - 1)) < cu ∧ cu ≤ ea (mf (fr - 1)))
theorem im_f {sa ea mt mq mw ms ml mf mx mo mi : Int → Int} {mn mh ev cu fr oo : Int} (h : im_ sa ea mt mq mw ms ml mf mx mo mi mn mh ev cu fr oo) :
    (fr = 1 → mf (fr - 1) = -1) ∧ (1 < fr → 0 ≤ mf (fr - 1) ∧ mf (fr - 1) < 600 ∧ sa (mf (fr - 1)) ≠ -1) ∧ cu ≤ lm_ mf ea ev fr ∧ lm_ mf ea ev fr ≤ ev ∧ (0 < oo → 0 ≤ mi (oo - 1) ∧ mi (oo - 1) < 64) ∧ (0 < oo → 0 ≤ mo (oo - 1) ∧ mo (oo - 1) < 600) ∧ (mx (fr - 1) = 0 ∨ mx (fr - 1) = 1) ∧ (0 ≤ sg_ (cw_ sa mw) 600 ∧ sg_ (cw_ sa mw) 600 ≤ 600 * 1000000000) ∧ (1 < fr → lm_ mf ea ev fr = ea (mf (fr - 1))) ∧ (-1 ≤ mf (fr - 1) ∧ mf (fr - 1) < 600) := by
  obtain ⟨hw, hmt, hmn, hmn2, hfree, ⟨hf1, hf2, hm9⟩, hmf, hmx, ⟨hc0, hc3, hev, ho1, ho2⟩, hmo, hms, hmq, hmw, hmh, hl9⟩ := h
  have hT := sg_rng (g := cw_ sa mw) (c := 1000000000) (by omega) 600 (by omega) (by omega) (fun j x y => by
    unfold cw_
    have := hmw j x y
    by_cases hq : sa j = -1
    · rw [if_pos hq]; omega
    · rw [if_neg hq]; omega)
  have b1 := hmx (fr - 1) (by omega) (by omega)
  have b2 : 0 < oo → 0 ≤ mi (oo - 1) ∧ mi (oo - 1) < 64 := fun h => (hmo (oo - 1) (by omega) (by omega)).2.2
  have b3 : 0 < oo → 0 ≤ mo (oo - 1) ∧ mo (oo - 1) < 600 := fun h => ⟨(hmo (oo - 1) (by omega) (by omega)).1, (hmo (oo - 1) (by omega) (by omega)).2.1⟩
  by_cases h1 : fr = 1
  · have e1 : fr - 1 = 0 := by omega
    have e2 : lm_ mf ea ev fr = ev := by unfold lm_; rw [e1, if_pos hm9]
    rw [e2]
    refine ⟨fun _ => by rw [e1]; exact hm9, fun h => by omega, hc3, by omega, b2, b3, b1, hT, fun h => by omega, by rw [e1, hm9]; omega⟩
  · obtain ⟨c1, c2, c3, c4⟩ := hmf (fr - 1) (by omega) (by omega)
    have c5 := hl9 (by omega)
    have c6 := hw.2.2.1 _ c1 c2 c3
    have e2 : lm_ mf ea ev fr = ea (mf (fr - 1)) := by unfold lm_; rw [if_neg (by omega)]
    rw [e2]
    exact ⟨fun h => absurd h h1, fun _ => ⟨c1, c2, c3⟩, c5.2, by omega, b2, b3, b1, hT, fun _ => rfl, by omega⟩
