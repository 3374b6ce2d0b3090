theorem fd_s {sa ea ml : Int → Int} {ev i z : Int} (hw : pw_ sa ea ml ev) (h0 : 0 ≤ i) (h1 : i < 600) (h : (z = -1 ∧ ∀ k : Int, 0 ≤ k → k < ev → ml k ≠ 2 * i) ∨ (0 ≤ z ∧ z < ev ∧ ml z = 2 * i ∧ ∀ k : Int, 0 ≤ k → k < z → ml k ≠ 2 * i)) : z = sa i := by
  obtain ⟨a1, a2, a3, a4⟩ := hw
  rcases h with ⟨e, h⟩ | ⟨b0, b1, b2, -⟩
  · rcases a2 i h0 h1 with t | ⟨t, t', t''⟩
    · omega
    · exact absurd t'' (h _ t t')
  · have c := (a4 z b0 b1).2.2.1 (by omega)
    rw [show ml z / 2 = i by omega] at c
    exact c.symm
theorem fd_e {sa ea ml : Int → Int} {ev i z : Int} (hw : pw_ sa ea ml ev) (h0 : 0 ≤ i) (h1 : i < 600) (hs : sa i ≠ -1) (h : (z = -1 ∧ ∀ k : Int, 0 ≤ k → k < ev → ml k ≠ 2 * i + 1) ∨ (0 ≤ z ∧ z < ev ∧ ml z = 2 * i + 1 ∧ ∀ k : Int, 0 ≤ k → k < z → ml k ≠ 2 * i + 1)) : z = ea i := by
  obtain ⟨a1, a2, a3, a4⟩ := hw
  rcases h with ⟨e, h⟩ | ⟨b0, b1, b2, -⟩
  · rcases a2 i h0 h1 with s | ⟨s, s', s''⟩
    · exact absurd s hs
    rcases a3 i h0 h1 hs with t | ⟨t, t', t''⟩
    · omega
    · exact absurd t'' (h _ (by omega) t')
  · have c := ((a4 z b0 b1).2.2.2 (by omega)).2
    rw [show ml z / 2 = i by omega] at c
    exact c.symm
def mt_ (mt sa : Int → Int) : Prop := ∀ j : Int, 0 ≤ j → j < 600 → (mt j = 1 ∧ sa j ≠ -1) ∨ (mt j = 0 ∧ sa j = -1)
theorem sg_go (g : Int → Int) {z : Int} (h : 0 ≤ z) : sg_ g (z + 1).toNat = sg_ g z.toNat + g z := by
  rw [show (z + 1).toNat = z.toNat + 1 by omega]
  show sg_ g z.toNat + g (z.toNat : Int) = _
  rw [Int.toNat_of_nonneg h]
theorem sg_rng {g : Int → Int} {c : Int} (hc : 0 ≤ c) (z : Int) (h0 : 0 ≤ z) (h1 : z ≤ 600) (H : ∀ j : Int, 0 ≤ j → j < 600 → 0 ≤ g j ∧ g j ≤ c) : 0 ≤ sg_ g z.toNat ∧ sg_ g z.toNat ≤ 600 * c := by
  have a := sg_nn (g := g) z.toNat (fun j x y => (H j x (by omega)).1)
  have b := sg_le (g := g) (c := c) z.toNat (fun j x y => (H j x (by omega)).2)
  have d : (z.toNat : Int) * c ≤ 600 * c := Int.mul_le_mul_of_nonneg_right (by omega) hc
  omega
/-- the fourth loop of the reference's erasure, at number i -/
def m4_ (g mt : Int → Int) (i : Int) (mt2 : Int → Int) : Prop := ∀ j : Int, 0 ≤ j → j < 600 → (j < i → g j = 1 → mt2 j = 0) ∧ (i ≤ j ∨ g j = 0 → mt2 j = mt j)
theorem m4_skip {g mt mt2 : Int → Int} {i : Int} (h : m4_ g mt i mt2) (hg : g i = 0) : m4_ g mt (i + 1) mt2 := fun j x y => by
  obtain ⟨a, b⟩ := h j x y
  by_cases hq : j = i
  · subst hq
    exact ⟨fun _ e => by omega, fun _ => b (Or.inl (by omega))⟩
  · exact ⟨fun p e => a (by omega) e, fun p => b (by omega)⟩
theorem m4_put {g mt mt2 : Int → Int} {i : Int} (h : m4_ g mt i mt2) (hg : g i = 1) : m4_ g mt (i + 1) (up_ mt2 i 0) := fun j x y => by
  obtain ⟨a, b⟩ := h j x y
  by_cases hq : j = i
  · subst hq
    rw [up_s]
    exact ⟨fun _ _ => rfl, fun p => by omega⟩
  · rw [up_n hq]
    exact ⟨fun p e => a (by omega) e, fun p => b (by omega)⟩
/-- where starts and ends are behind an erasure -/
noncomputable def es_ (sa ln : Int → Int) (a b : Int) : Int → Int := fun j => @ite Int (sa j = -1 ∨ fg_ ln a b j) (Classical.propDecidable _) (-1) (rz_ (gp_ ln a b) (sa j))
noncomputable def ee_ (ea ln : Int → Int) (a b : Int) : Int → Int := fun j => if ea j = -1 then -1 else rz_ (gp_ ln a b) (ea j)
theorem es_er {sa ea ml ml2 : Int → Int} {ev a b : Int} (h : ∀ k : Int, 0 ≤ k → k < ev → ¬ gp_ ml a b k → ml2 (rz_ (gp_ ml a b) k) = ml k) : er_ sa ea ml ev a b (es_ sa ml a b) (ee_ ea ml a b) ml2 := by
  refine ⟨h, fun j x y => ⟨fun q => ?_, fun n q => ⟨?_, fun e => ?_, fun e => ?_⟩⟩⟩
  · show @ite Int _ (Classical.propDecidable _) _ _ = _
    rw [if_pos q]
  · show @ite Int _ (Classical.propDecidable _) _ _ = _
    rw [if_neg (fun z => z.elim n q)]
  · show (if ea j = -1 then -1 else _) = _
    rw [if_pos e]
  · show (if ea j = -1 then -1 else _) = _
    rw [if_neg e]
/-- behind the marks' loop and the fourth: who is there, how many -/
theorem m4_end {sa ea ml mt mt2 g : Int → Int} {ev a b : Int} (hw : pw_ sa ea ml ev) (hb : b ≤ ev) (ha : 0 ≤ a) (hm : mt_ mt sa) (hg : mg_ ml a b g) (h : m4_ g mt 600 mt2) : mt_ mt2 (es_ sa ml a b) := fun j x y => by
  obtain ⟨p, q⟩ := h j x y
  obtain ⟨g1, g0⟩ := hg j x y
  by_cases hf : fg_ ml a b j
  · refine Or.inr ⟨p (by omega) (g1 hf), ?_⟩
    show @ite Int _ (Classical.propDecidable _) _ _ = _
    rw [if_pos (Or.inr hf)]
  · rw [q (Or.inr (g0 hf))]
    rcases hm j x y with ⟨r1, r2⟩ | ⟨r1, r2⟩
    · refine Or.inl ⟨r1, ?_⟩
      show @ite Int _ (Classical.propDecidable _) _ _ ≠ _
      rw [if_neg (fun z => z.elim r2 hf)]
      have w2 := hw.2.1 j x y
      have := rz_nn (gp_ ml a b) (show 0 ≤ sa j by omega)
      omega
    · refine Or.inr ⟨r1, ?_⟩
      show @ite Int _ (Classical.propDecidable _) _ _ = _
      rw [if_pos (Or.inl r2)]
