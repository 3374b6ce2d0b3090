/-- places are moved, in their order -/
def mv2_ (sa ea : Int → Int) (cu : Int) (r : Int → Int) (sa' ea' : Int → Int) (cu' : Int) : Prop :=
  cu' = r cu ∧
  ∀ j : Int, 0 ≤ j → j < 600 → sa' j ≠ -1 → sa j ≠ -1 ∧ sa' j = r (sa j) ∧ (ea j = -1 → ea' j = -1) ∧ (ea j ≠ -1 → ea' j = r (ea j) ∧ ea' j ≠ -1) ∧
    (∀ q : Int, 0 ≤ q → (sa j < q ↔ r (sa j) < r q)) ∧ (ea j ≠ -1 → ∀ q : Int, 0 ≤ q → (ea j < q ↔ r (ea j) < r q))
theorem nv_move2 {sa ea sa' ea' r fi fo op : Int → Int} {cu cu' fr oo : Int} (h : nv_ sa ea cu fi fo fr op oo) (hm : mv2_ sa ea cu r sa' ea' cu') (h0 : ∀ j : Int, 0 ≤ j → j < 600 → sa j ≠ -1 → 0 ≤ sa j ∧ (ea j ≠ -1 → 0 ≤ ea j)) (hc : 0 ≤ cu)
    (hfe : ∀ f : Int, 1 ≤ f → f < fr → r (ea (fi f) + 1) = r (ea (fi f)) + 1) (hf : ∀ f : Int, 1 ≤ f → f < fr → sa' (fi f) ≠ -1) (ho : ∀ t : Int, 0 ≤ t → t < oo → sa' (op t) ≠ -1) : nv_ sa' ea' cu' fi fo fr op oo := by
  obtain ⟨n1, n2, n3, n4, n5, n6, n7⟩ := h
  obtain ⟨m1, m2⟩ := hm
  subst m1
  refine ⟨fun a b a0 a1 b0 b1 sa1 sb1 ea1 eb1 x y => ?_, fun f f0 f1 => ?_, fun f f0 f1 => ?_, fun f1 => ?_, fun t t0 t1 => ?_, fun t t' t0 t1 t2 => ?_, fun f t f0 f1 t0 t1 t2 t3 b b0 b1 sb eb => ?_⟩
  · obtain ⟨p1, p2, p3, p4, p5, p6⟩ := m2 a a0 a1 sa1
    obtain ⟨q1, q2, q3, q4, q5, q6⟩ := m2 b b0 b1 sb1
    have ha : ea a ≠ -1 := fun z => ea1 (p3 z)
    have hb : ea b ≠ -1 := fun z => eb1 (q3 z)
    have e1 := (p4 ha).1
    have e2 := (q4 hb).1
    have z1 := h0 a a0 a1 p1
    have z2 := h0 b b0 b1 q1
    have x1 := (p5 (sa b) z2.1).mpr (by omega)
    have x2 := (q5 (ea a) (z1.2 ha)).mpr (by omega)
    have x3 := n1 a b a0 a1 b0 b1 p1 q1 ha hb x1 x2
    have x4 := (q6 hb (ea a) (z1.2 ha)).mp x3
    omega
  · obtain ⟨p1, p2, p3, p4⟩ := n2 f f0 f1
    obtain ⟨q1, q2, q3, q4, q5, q6⟩ := m2 (fi f) p1 p2 (hf f f0 f1)
    exact ⟨p1, p2, hf f f0 f1, (q4 p4).2⟩
  · obtain ⟨p1, p2, p3, p4⟩ := n2 f f0 (by omega)
    obtain ⟨q1, q2, q3, q4⟩ := n2 (f + 1) (by omega) f1
    obtain ⟨u1, u2, u3, u4, u5, u6⟩ := m2 (fi f) p1 p2 (hf f f0 (by omega))
    obtain ⟨v1, v2, v3, v4, v5, v6⟩ := m2 (fi (f + 1)) q1 q2 (hf (f + 1) (by omega) f1)
    have w := n3 f f0 f1
    have z1 := h0 (fi f) p1 p2 p3
    have z2 := h0 (fi (f + 1)) q1 q2 q3
    have x1 := (u5 (sa (fi (f + 1))) z2.1).mp w.1
    have x2 := (v6 q4 (ea (fi f)) (z1.2 p4)).mp w.2
    have e1 := (u4 p4).1
    have e2 := (v4 q4).1
    omega
  · have w := n4 f1
    obtain ⟨p1, p2, p3, p4⟩ := n2 (fr - 1) (by omega) (by omega)
    obtain ⟨u1, u2, u3, u4, u5, u6⟩ := m2 (fi (fr - 1)) p1 p2 (hf (fr - 1) (by omega) (by omega))
    have x1 := (u5 cu hc).mp w.1
    have e1 := (u4 p4).1
    refine ⟨by omega, ?_⟩
    apply Int.not_lt.mp
    intro z
    have := (u6 p4 cu hc).mpr (by omega)
    omega
  · obtain ⟨p1, p2, p3, p4, p5⟩ := n5 t t0 t1
    obtain ⟨u1, u2, u3, u4, u5, u6⟩ := m2 (op t) p1 p2 (ho t t0 t1)
    have x1 := (u5 cu hc).mp p5
    exact ⟨p1, p2, ho t t0 t1, u3 p4, by omega⟩
  · obtain ⟨p1, p2, p3, p4, p5⟩ := n5 t t0 (by omega)
    obtain ⟨u1, u2, u3, u4, u5, u6⟩ := m2 (op t) p1 p2 (ho t t0 (by omega))
    obtain ⟨q1, q2, q3, q4, q5⟩ := n5 t' (by omega) t2
    obtain ⟨v1, v2, v3, v4, v5, v6⟩ := m2 (op t') q1 q2 (ho t' (by omega) t2)
    have x1 := (u5 (sa (op t')) (h0 _ q1 q2 q3).1).mp (n6 t t' t0 t1 t2)
    omega
  · obtain ⟨p1, p2, p3, p4, p5⟩ := n5 t t1 t2
    obtain ⟨u1, u2, u3, u4, u5, u6⟩ := m2 (op t) p1 p2 (ho t t1 t2)
    obtain ⟨v1, v2, v3, v4, v5, v6⟩ := m2 b b0 b1 sb
    have hb : ea b ≠ -1 := fun z => eb (v3 z)
    have w := n7 f t f0 f1 t0 t1 t2 t3 b b0 b1 v1 hb
    have z2 := h0 b b0 b1 v1
    have z1 := h0 (op t) p1 p2 p3
    have hcl : cl_ ea' (r cu) fi fr f = r (cl_ ea cu fi fr f) ∧ 0 ≤ cl_ ea cu fi fr f := by
      unfold cl_
      by_cases hq : f + 1 < fr
      · rw [if_pos hq, if_pos hq]
        obtain ⟨q1, q2, q3, q4⟩ := n2 (f + 1) (by omega) hq
        obtain ⟨y1, y2, y3, y4, y5, y6⟩ := m2 (fi (f + 1)) q1 q2 (hf (f + 1) (by omega) hq)
        have := (h0 _ q1 q2 q3).2 q4
        have := (y4 q4).1
        have := hfe (f + 1) (by omega) hq
        omega
      · rw [if_neg hq, if_neg hq]
        exact ⟨rfl, hc⟩
    rw [hcl.1]
    have e1 := (v4 hb).1
    refine ⟨fun x y => ?_, fun x y => ?_⟩
    · have a1 := (u5 (sa b) z2.1).mpr (by omega)
      have a2 := (v5 _ hcl.2).mpr (by omega)
      have a3 := (v6 hb _ hcl.2).mp (w.1 a1 a2)
      omega
    · have a1 := (v5 (sa (op t)) z1.1).mpr (by omega)
      have a2 := (v6 hb _ hcl.2).mpr (by omega)
      have a3 := (v6 hb (sa (op t)) z1.1).mp (w.2 a1 a2)
      omega
