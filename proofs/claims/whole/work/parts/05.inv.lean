/-- where a frame's open intervals are to be ended: at the cursor, or behind the end of the interval of the frame upon it -/
def cl_ (ea : Int → Int) (cu : Int) (fi : Int → Int) (fr f : Int) : Int := if f + 1 < fr then ea (fi (f + 1)) + 1 else cu
/-- the intervals lie in one another; the frames' too, around the cursor; the open ones begin ahead of it -/
def nv_ (sa ea : Int → Int) (cu : Int) (fi fo : Int → Int) (fr : Int) (op : Int → Int) (oo : Int) : Prop :=
  (∀ a b : Int, 0 ≤ a → a < 600 → 0 ≤ b → b < 600 → sa a ≠ -1 → sa b ≠ -1 → ea a ≠ -1 → ea b ≠ -1 → sa a < sa b → sa b < ea a → ea b < ea a) ∧
  (∀ f : Int, 1 ≤ f → f < fr → 0 ≤ fi f ∧ fi f < 600 ∧ sa (fi f) ≠ -1 ∧ ea (fi f) ≠ -1) ∧
  (∀ f : Int, 1 ≤ f → f + 1 < fr → sa (fi f) < sa (fi (f + 1)) ∧ ea (fi (f + 1)) < ea (fi f)) ∧
  (1 < fr → sa (fi (fr - 1)) < cu ∧ cu ≤ ea (fi (fr - 1))) ∧
  (∀ t : Int, 0 ≤ t → t < oo → 0 ≤ op t ∧ op t < 600 ∧ sa (op t) ≠ -1 ∧ ea (op t) = -1 ∧ sa (op t) < cu) ∧
  (∀ t t' : Int, 0 ≤ t → t < t' → t' < oo → sa (op t) < sa (op t')) ∧
  (∀ f t : Int, 0 ≤ f → f < fr → fo f ≤ t → 0 ≤ t → t < oo → (f + 1 < fr → t < fo (f + 1)) → ∀ b : Int, 0 ≤ b → b < 600 → sa b ≠ -1 → ea b ≠ -1 → (sa (op t) < sa b → sa b < cl_ ea cu fi fr f → ea b < cl_ ea cu fi fr f) ∧ (sa b < sa (op t) → ea b < cl_ ea cu fi fr f → ea b < sa (op t)))
/-- places are moved, in their order -/
def mv_ (sa ea : Int → Int) (cu : Int) (r : Int → Int) (sa' ea' : Int → Int) (cu' : Int) : Prop :=
  cu' = r cu ∧
  ∀ j : Int, 0 ≤ j → j < 600 → sa' j ≠ -1 → sa j ≠ -1 ∧ sa' j = r (sa j) ∧ (ea j = -1 → ea' j = -1) ∧ (ea j ≠ -1 → ea' j = r (ea j) ∧ ea' j ≠ -1 ∧ r (ea j + 1) = r (ea j) + 1) ∧
    (∀ q : Int, 0 ≤ q → (sa j < q ↔ r (sa j) < r q)) ∧ (ea j ≠ -1 → ∀ q : Int, 0 ≤ q → (ea j < q ↔ r (ea j) < r q))
theorem nv_move {sa ea sa' ea' r fi fo op : Int → Int} {cu cu' fr oo : Int} (h : nv_ sa ea cu fi fo fr op oo) (hm : mv_ sa ea cu r sa' ea' cu') (h0 : ∀ j : Int, 0 ≤ j → j < 600 → sa j ≠ -1 → 0 ≤ sa j ∧ (ea j ≠ -1 → 0 ≤ ea j)) (hc : 0 ≤ cu)
    (hf : ∀ f : Int, 1 ≤ f → f < fr → sa' (fi f) ≠ -1) (ho : ∀ t : Int, 0 ≤ t → t < oo → sa' (op t) ≠ -1) : nv_ sa' ea' cu' fi fo fr op oo := by
  obtain ⟨n1, n2, n3, n4, n5, n6, n7⟩ := h
  obtain ⟨m1, m2⟩ := hm
  subst m1
  refine ⟨fun a b a0 a1 b0 b1 sa1 sb1 ea1 eb1 x y => ?_, fun f f0 f1 => ?_, fun f f0 f1 => ?_, fun f1 => ?_, fun t t0 t1 => ?_, fun t t' t0 t1 t2 => ?_, fun f t f0 f1 t0 t1 t2 t3 b b0 b1 sb eb => ?_⟩
  · obtain ⟨p1, p2, p3, p4, p5, p6⟩ := m2 a a0 a1 sa1
    obtain ⟨q1, q2, q3, q4, q5, q6⟩ := m2 b b0 b1 sb1
    have ha : ea a ≠ -1 := fun z => ea1 (p3 z)
    have hb : ea b ≠ -1 := fun z => eb1 (q3 z)
    have e1 := (p4 ha).1
    have e2 := (q4 hb).1
    have z1 := h0 a a0 a1 p1
    have z2 := h0 b b0 b1 q1
    have x1 := (p5 (sa b) z2.1).mpr (by omega)
    have x2 := (q5 (ea a) (z1.2 ha)).mpr (by omega)
    have x3 := n1 a b a0 a1 b0 b1 p1 q1 ha hb x1 x2
    have x4 := (q6 hb (ea a) (z1.2 ha)).mp x3
    omega
  · obtain ⟨p1, p2, p3, p4⟩ := n2 f f0 f1
    obtain ⟨q1, q2, q3, q4, q5, q6⟩ := m2 (fi f) p1 p2 (hf f f0 f1)
    exact ⟨p1, p2, hf f f0 f1, (q4 p4).2.1⟩
  · obtain ⟨p1, p2, p3, p4⟩ := n2 f f0 (by omega)
    obtain ⟨q1, q2, q3, q4⟩ := n2 (f + 1) (by omega) f1
    obtain ⟨u1, u2, u3, u4, u5, u6⟩ := m2 (fi f) p1 p2 (hf f f0 (by omega))
    obtain ⟨v1, v2, v3, v4, v5, v6⟩ := m2 (fi (f + 1)) q1 q2 (hf (f + 1) (by omega) f1)
    have w := n3 f f0 f1
    have z1 := h0 (fi f) p1 p2 p3
    have z2 := h0 (fi (f + 1)) q1 q2 q3
    have x1 := (u5 (sa (fi (f + 1))) z2.1).mp w.1
    have x2 := (v6 q4 (ea (fi f)) (z1.2 p4)).mp w.2
    have e1 := (u4 p4).1
    have e2 := (v4 q4).1
    omega
  · have w := n4 f1
    obtain ⟨p1, p2, p3, p4⟩ := n2 (fr - 1) (by omega) (by omega)
    obtain ⟨u1, u2, u3, u4, u5, u6⟩ := m2 (fi (fr - 1)) p1 p2 (hf (fr - 1) (by omega) (by omega))
    have x1 := (u5 cu hc).mp w.1
    have e1 := (u4 p4).1
    refine ⟨by omega, ?_⟩
    apply Int.not_lt.mp
    intro z
    have := (u6 p4 cu hc).mpr (by omega)
    omega
  · obtain ⟨p1, p2, p3, p4, p5⟩ := n5 t t0 t1
    obtain ⟨u1, u2, u3, u4, u5, u6⟩ := m2 (op t) p1 p2 (ho t t0 t1)
    have x1 := (u5 cu hc).mp p5
    exact ⟨p1, p2, ho t t0 t1, u3 p4, by omega⟩
  · obtain ⟨p1, p2, p3, p4, p5⟩ := n5 t t0 (by omega)
    obtain ⟨u1, u2, u3, u4, u5, u6⟩ := m2 (op t) p1 p2 (ho t t0 (by omega))
    obtain ⟨q1, q2, q3, q4, q5⟩ := n5 t' (by omega) t2
    obtain ⟨v1, v2, v3, v4, v5, v6⟩ := m2 (op t') q1 q2 (ho t' (by omega) t2)
    have x1 := (u5 (sa (op t')) (h0 _ q1 q2 q3).1).mp (n6 t t' t0 t1 t2)
    omega
  · obtain ⟨p1, p2, p3, p4, p5⟩ := n5 t t1 t2
    obtain ⟨u1, u2, u3, u4, u5, u6⟩ := m2 (op t) p1 p2 (ho t t1 t2)
    obtain ⟨v1, v2, v3, v4, v5, v6⟩ := m2 b b0 b1 sb
    have hb : ea b ≠ -1 := fun z => eb (v3 z)
    have w := n7 f t f0 f1 t0 t1 t2 t3 b b0 b1 v1 hb
    have z2 := h0 b b0 b1 v1
    have z1 := h0 (op t) p1 p2 p3
    have hcl : cl_ ea' (r cu) fi fr f = r (cl_ ea cu fi fr f) ∧ 0 ≤ cl_ ea cu fi fr f := by
      unfold cl_
      by_cases hq : f + 1 < fr
      · rw [if_pos hq, if_pos hq]
        obtain ⟨q1, q2, q3, q4⟩ := n2 (f + 1) (by omega) hq
        obtain ⟨y1, y2, y3, y4, y5, y6⟩ := m2 (fi (f + 1)) q1 q2 (hf (f + 1) (by omega) hq)
        have := (h0 _ q1 q2 q3).2 q4
        have := y4 q4
        omega
      · rw [if_neg hq, if_neg hq]
        exact ⟨rfl, hc⟩
    rw [hcl.1]
    have e1 := (v4 hb).1
    refine ⟨fun x y => ?_, fun x y => ?_⟩
    · have a1 := (u5 (sa b) z2.1).mpr (by omega)
      have a2 := (v5 _ hcl.2).mpr (by omega)
      have a3 := (v6 hb _ hcl.2).mp (w.1 a1 a2)
      omega
    · have a1 := (v5 (sa (op t)) z1.1).mpr (by omega)
      have a2 := (v6 hb _ hcl.2).mpr (by omega)
      have a3 := (v6 hb (sa (op t)) z1.1).mp (w.2 a1 a2)
      omega
/-- a frame goes: none is open in it -/
theorem nv_pop {sa ea fi fo op : Int → Int} {cu fr oo : Int} (h : nv_ sa ea cu fi fo fr op oo) (h1 : 1 < fr) (hoo : oo ≤ fo (fr - 1)) : nv_ sa ea (ea (fi (fr - 1)) + 1) fi fo (fr - 1) op oo := by
  obtain ⟨n1, n2, n3, n4, n5, n6, n7⟩ := h
  have w := n4 h1
  refine ⟨n1, fun f f0 f1 => n2 f f0 (by omega), fun f f0 f1 => n3 f f0 (by omega), fun f1 => ?_, fun t t0 t1 => ?_, n6, fun f t f0 f1 t0 t1 t2 t3 b b0 b1 sb eb => ?_⟩
  · have := n3 (fr - 1 - 1) (by omega) (by omega)
    rw [show fr - 1 - 1 + 1 = fr - 1 by omega] at this
    omega
  · have := n5 t t0 t1
    exact ⟨this.1, this.2.1, this.2.2.1, this.2.2.2.1, by omega⟩
  · have hcl : cl_ ea (ea (fi (fr - 1)) + 1) fi (fr - 1) f = cl_ ea cu fi fr f := by
      unfold cl_
      by_cases hq : f + 1 < fr - 1
      · rw [if_pos hq, if_pos (by omega)]
      · rw [if_neg hq, if_pos (by omega), show f + 1 = fr - 1 by omega]
    rw [hcl]
    refine n7 f t f0 (by omega) t0 t1 t2 (fun q => ?_) b b0 b1 sb eb
    by_cases hq : f + 1 < fr - 1
    · exact t3 hq
    · rw [show f + 1 = fr - 1 by omega]; omega
/-- with one frame and none open the cursor may go anywhere -/
theorem nv_free {sa ea fi fo op : Int → Int} {cu fr oo : Int} (h : nv_ sa ea cu fi fo fr op oo) (h1 : fr ≤ 1) (hoo : oo ≤ 0) (c : Int) : nv_ sa ea c fi fo fr op oo := by
  obtain ⟨n1, n2, n3, n4, n5, n6, n7⟩ := h
  exact ⟨n1, n2, n3, fun f1 => by omega, fun t t0 t1 => by omega, fun t t' t0 t1 t2 => by omega, fun f t f0 f1 t0 t1 t2 => by omega⟩
/-- a frame is put upon the others, for the interval i -/
theorem nv_push {sa ea ln fi fo op : Int → Int} {ev cu fr oo i : Int} (hw : pw_ sa ea ln ev) (h : nv_ sa ea cu fi fo fr op oo) (hfr : 1 ≤ fr) (hfo : 1 < fr → fo (fr - 1) ≤ oo) (i0 : 0 ≤ i) (i1 : i < 600) (hs : sa i ≠ -1) (he : ea i ≠ -1) (hc : cu ≤ sa i) (hl : 1 < fr → sa i < ea (fi (fr - 1)))
    (hno : fo (fr - 1) < oo → sa i = cu) {fi' fo' : Int → Int} (hfi : ∀ f : Int, f < fr → fi' f = fi f ∧ fo' f = fo f) (hfi2 : fi' fr = i) (hfo2 : fo' fr = oo) (hc0 : 0 ≤ cu) : nv_ sa ea (sa i + 1) fi' fo' (fr + 1) op oo := by
  obtain ⟨w1, w2, w3, w4⟩ := hw
  obtain ⟨n1, n2, n3, n4, n5, n6, n7⟩ := h
  have se : sa i < ea i := by
    have a1 := w2 i i0 i1
    have a2 := w3 i i0 i1 hs
    omega
  refine ⟨n1, fun f f0 f1 => ?_, fun f f0 f1 => ?_, fun f1 => ?_, fun t t0 t1 => ?_, n6, fun f t f0 f1 t0 t1 t2 t3 b b0 b1 sb eb => ?_⟩
  · by_cases hq : f = fr
    · rw [hq, hfi2]; exact ⟨i0, i1, hs, he⟩
    · rw [(hfi f (by omega)).1]; exact n2 f f0 (by omega)
  · by_cases hq : f + 1 = fr
    · rw [hq, hfi2, (hfi f (by omega)).1, show f = fr - 1 by omega]
      have a1 := n4 (by omega)
      have a2 := hl (by omega)
      obtain ⟨p1, p2, p3, p4⟩ := n2 (fr - 1) (by omega) (by omega)
      have a3 := n1 (fi (fr - 1)) i p1 p2 i0 i1 p3 hs p4 he (by omega) a2
      omega
    · rw [(hfi f (by omega)).1, (hfi (f + 1) (by omega)).1]; exact n3 f f0 (by omega)
  · rw [show fr + 1 - 1 = fr by omega, hfi2]; omega
  · have := n5 t t0 t1
    exact ⟨this.1, this.2.1, this.2.2.1, this.2.2.2.1, by omega⟩
  · by_cases hq : f = fr
    · rw [hq, hfo2] at t0; omega
    rw [(hfi f (by omega)).2] at t0
    by_cases hq2 : f + 1 = fr
    · have hf9 : f = fr - 1 := by omega
      rw [hf9] at t0
      have hsc : sa i = cu := hno (by omega)
      have hcl : cl_ ea (sa i + 1) fi' (fr + 1) f = ea i + 1 := by
        unfold cl_
        rw [if_pos (by omega), hq2, hfi2]
      have w := n7 f t f0 (by omega) (by rw [hf9]; exact t0) t1 t2 (by omega) b b0 b1 sb eb
      have hcl2 : cl_ ea cu fi fr f = cu := by
        unfold cl_
        rw [if_neg (by omega)]
      rw [hcl2] at w
      rw [hcl]
      have p := n5 t t1 t2
      have a1 := w2 b b0 b1
      have a2 := w3 b b0 b1 sb
      have a3 := w2 i i0 i1
      have a4 := w3 i i0 i1 hs
      refine ⟨fun x y => ?_, fun x y => ?_⟩
      · by_cases z1 : sa b < cu
        · have := w.1 x z1
          omega
        · by_cases z2 : sa b = sa i
          · have e1 : ln (sa b) = 2 * b := by omega
            have e2 : ln (sa i) = 2 * i := by omega
            rw [z2, e2] at e1
            have : b = i := by omega
            rw [this]; omega
          · have z3 : sa b ≠ ea i := fun z => by
              have e1 : ln (sa b) = 2 * b := by omega
              have e2 : ln (ea i) = 2 * i + 1 := by omega
              rw [z, e2] at e1
              omega
            have := n1 i b i0 i1 b0 b1 hs sb he eb (by omega) (by omega)
            omega
      · by_cases z1 : ea b < cu
        · exact w.2 x z1
        · have z2 : ea b ≠ sa i := fun z => by
            have e1 : ln (ea b) = 2 * b + 1 := by omega
            have e2 : ln (sa i) = 2 * i := by omega
            rw [z, e2] at e1
            omega
          by_cases z3 : ea b = ea i
          · have e1 : ln (ea b) = 2 * b + 1 := by omega
            have e2 : ln (ea i) = 2 * i + 1 := by omega
            rw [z3, e2] at e1
            have : b = i := by omega
            rw [this] at x; omega
          · have := n1 b i b0 b1 i0 i1 sb hs eb he (by omega) (by omega)
            omega
    · have hcl : cl_ ea (sa i + 1) fi' (fr + 1) f = cl_ ea cu fi fr f := by
        unfold cl_
        rw [if_pos (by omega), if_pos (by omega), (hfi (f + 1) (by omega)).1]
      rw [hcl]
      refine n7 f t f0 (by omega) t0 t1 t2 (fun q => ?_) b b0 b1 sb eb
      have := t3 (by omega)
      rw [(hfi (f + 1) (by omega)).2] at this
      exact this
/-- a new interval i begins at the place ahead of the cursor -/
theorem nv_begin {sa ea fi fo op : Int → Int} {cu fr oo i : Int} (h : nv_ sa ea (cu + 1) fi fo fr op oo) (hgap : ∀ j : Int, 0 ≤ j → j < 600 → sa j ≠ -1 → sa j ≠ cu ∧ ea j ≠ cu) (i0 : 0 ≤ i) (i1 : i < 600) (hi : sa i = -1) (hfr : 1 ≤ fr) (hc0 : 0 ≤ cu) (hoo : 0 ≤ oo) (hf1 : ∀ f : Int, 0 ≤ f → f + 1 < fr → fo (f + 1) ≤ oo)
    {sa' ea' op' : Int → Int} (hsa : ∀ j : Int, 0 ≤ j → j < 600 → j ≠ i → sa' j = sa j ∧ ea' j = ea j) (hsi : sa' i = cu) (hei : ea' i = -1) (hop : ∀ t : Int, t < oo → op' t = op t) (hop2 : op' oo = i) : nv_ sa' ea' (cu + 1) fi fo fr op' (oo + 1) := by
  obtain ⟨n1, n2, n3, n4, n5, n6, n7⟩ := h
  have ne_f : ∀ f : Int, 1 ≤ f → f < fr → fi f ≠ i := fun f f0 f1 z => by
    have := n2 f f0 f1
    rw [z] at this
    exact this.2.2.1 hi
  have ne_o : ∀ t : Int, 0 ≤ t → t < oo → op t ≠ i := fun t t0 t1 z => by
    have := n5 t t0 t1
    rw [z] at this
    exact this.2.2.1 hi
  have sf : ∀ f : Int, 1 ≤ f → f < fr → sa' (fi f) = sa (fi f) ∧ ea' (fi f) = ea (fi f) := fun f f0 f1 => by
    have p := n2 f f0 f1
    exact hsa (fi f) p.1 p.2.1 (ne_f f f0 f1)
  have so : ∀ t : Int, 0 ≤ t → t < oo → sa' (op t) = sa (op t) ∧ ea' (op t) = ea (op t) := fun t t0 t1 => by
    have p := n5 t t0 t1
    exact hsa (op t) p.1 p.2.1 (ne_o t t0 t1)
  have hcl : ∀ f : Int, 0 ≤ f → f < fr → cl_ ea' (cu + 1) fi fr f = cl_ ea (cu + 1) fi fr f := fun f f0 f1 => by
    unfold cl_
    by_cases hq : f + 1 < fr
    · rw [if_pos hq, if_pos hq, (sf (f + 1) (by omega) hq).2]
    · rw [if_neg hq, if_neg hq]
  refine ⟨fun a b a0 a1 b0 b1 s1 s2 e1 e2 x y => ?_, fun f f0 f1 => ?_, fun f f0 f1 => ?_, fun f1 => ?_, fun t t0 t1 => ?_, fun t t' t0 t1 t2 => ?_, fun f t f0 f1 t0 t1 t2 t3 b b0 b1 sb eb => ?_⟩
  · have ha : a ≠ i := fun z => by rw [z] at e1; exact e1 hei
    have hb : b ≠ i := fun z => by rw [z] at e2; exact e2 hei
    rw [(hsa a a0 a1 ha).1] at s1 x
    rw [(hsa a a0 a1 ha).2] at e1 y
    rw [(hsa b b0 b1 hb).1] at s2 x y
    rw [(hsa b b0 b1 hb).2] at e2
    rw [(hsa b b0 b1 hb).2, (hsa a a0 a1 ha).2]
    exact n1 a b a0 a1 b0 b1 s1 s2 e1 e2 x y
  · rw [(sf f f0 f1).1, (sf f f0 f1).2]; exact n2 f f0 f1
  · rw [(sf f f0 (by omega)).1, (sf f f0 (by omega)).2, (sf (f + 1) (by omega) f1).1, (sf (f + 1) (by omega) f1).2]; exact n3 f f0 f1
  · rw [(sf (fr - 1) (by omega) (by omega)).1, (sf (fr - 1) (by omega) (by omega)).2]; exact n4 f1
  · by_cases hq : t = oo
    · rw [hq, hop2]; exact ⟨i0, i1, by omega, hei, by omega⟩
    · rw [hop t (by omega), (so t t0 (by omega)).1, (so t t0 (by omega)).2]; exact n5 t t0 (by omega)
  · rw [hop t (by omega), (so t t0 (by omega)).1]
    by_cases hq : t' = oo
    · have p := n5 t t0 (by omega)
      have g := hgap (op t) p.1 p.2.1 p.2.2.1
      rw [hq, hop2, hsi]; omega
    · rw [hop t' (by omega), (so t' (by omega) (by omega)).1]; exact n6 t t' t0 t1 (by omega)
  · have hb : b ≠ i := fun z => by rw [z] at eb; exact eb hei
    rw [(hsa b b0 b1 hb).1] at sb
    rw [(hsa b b0 b1 hb).2] at eb
    rw [hcl f f0 f1, (hsa b b0 b1 hb).1, (hsa b b0 b1 hb).2]
    by_cases hq : t = oo
    · have hq2 : ¬ f + 1 < fr := fun z => by
        have a1 := t3 z
        have a2 := hf1 f f0 z
        omega
      have hc : cl_ ea (cu + 1) fi fr f = cu + 1 := by unfold cl_; rw [if_neg hq2]
      have g := hgap b b0 b1 sb
      rw [hc, hq, hop2, hsi]
      exact ⟨fun x y => by omega, fun x y => by omega⟩
    · rw [hop t (by omega), (so t t1 (by omega)).1]
      exact n7 f t f0 f1 t0 t1 (by omega) t3 b b0 b1 sb eb
/-- the last open interval ends at the place ahead of the cursor -/
theorem nv_end {sa ea fi fo op : Int → Int} {cu fr oo i : Int} (h : nv_ sa ea (cu + 1) fi fo fr op oo) (hgap : ∀ j : Int, 0 ≤ j → j < 600 → sa j ≠ -1 → sa j ≠ cu ∧ ea j ≠ cu) (hfr : 1 ≤ fr) (hc0 : 0 ≤ cu) (hoo : fo (fr - 1) < oo) (h1 : 0 < oo) (hi : op (oo - 1) = i) (hf0 : ∀ f : Int, 0 ≤ f → f < fr → 0 ≤ fo f ∧ fo f ≤ fo (fr - 1))
    {ea' : Int → Int} (hea : ∀ j : Int, 0 ≤ j → j < 600 → j ≠ i → ea' j = ea j) (hei : ea' i = cu) : nv_ sa ea' (cu + 1) fi fo fr op (oo - 1) := by
  obtain ⟨n1, n2, n3, n4, n5, n6, n7⟩ := h
  obtain ⟨i0, i1, i2, i3, i4⟩ := n5 (oo - 1) (by omega) (by omega)
  rw [hi] at i0 i1 i2 i3 i4
  have J := n7 (fr - 1) (oo - 1) (by omega) (by omega) (by omega) (by omega) (by omega) (by omega)
  have hclast : ∀ e9 : Int → Int, cl_ e9 (cu + 1) fi fr (fr - 1) = cu + 1 := fun e9 => by unfold cl_; rw [if_neg (by omega)]
  rw [hclast, hi] at J
  have sf : ∀ f : Int, 1 ≤ f → f < fr → ea' (fi f) = ea (fi f) := fun f f0 f1 => by
    have p := n2 f f0 f1
    exact hea (fi f) p.1 p.2.1 (fun z => by rw [z] at p; exact p.2.2.2 i3)
  have so : ∀ t : Int, 0 ≤ t → t < oo - 1 → ea' (op t) = ea (op t) ∧ sa (op t) < sa i := fun t t0 t1 => by
    have p := n5 t t0 (by omega)
    have q := n6 t (oo - 1) t0 t1 (by omega)
    rw [hi] at q
    exact ⟨hea (op t) p.1 p.2.1 (fun z => by rw [z] at q; omega), q⟩
  have hcl : ∀ f : Int, 0 ≤ f → f < fr → cl_ ea' (cu + 1) fi fr f = cl_ ea (cu + 1) fi fr f := fun f f0 f1 => by
    unfold cl_
    by_cases hq : f + 1 < fr
    · rw [if_pos hq, if_pos hq, sf (f + 1) (by omega) hq]
    · rw [if_neg hq, if_neg hq]
  refine ⟨fun a b a0 a1 b0 b1 s1 s2 e1 e2 x y => ?_, fun f f0 f1 => ?_, fun f f0 f1 => ?_, fun f1 => ?_, fun t t0 t1 => ?_, fun t t' t0 t1 t2 => n6 t t' t0 t1 (by omega), fun f t f0 f1 t0 t1 t2 t3 b b0 b1 sb eb => ?_⟩
  · by_cases ha : a = i
    · have hb : b ≠ i := fun z => by rw [ha, z] at x; omega
      rw [ha] at x y
      rw [hei] at y
      rw [hea b b0 b1 hb] at e2 ⊢
      rw [ha, hei]
      have g := hgap b b0 b1 s2
      have := (J b b0 b1 s2 e2).1 x (by omega)
      omega
    · rw [hea a a0 a1 ha] at e1 y ⊢
      by_cases hb : b = i
      · rw [hb] at x y ⊢
        rw [hei]
        have g := hgap a a0 a1 s1
        apply Int.not_le.mp
        intro z
        have := (J a a0 a1 s1 e1).2 x (by omega)
        omega
      · rw [hea b b0 b1 hb] at e2 ⊢
        exact n1 a b a0 a1 b0 b1 s1 s2 e1 e2 x y
  · rw [sf f f0 f1]; exact n2 f f0 f1
  · rw [sf f f0 (by omega), sf (f + 1) (by omega) f1]; exact n3 f f0 f1
  · rw [sf (fr - 1) (by omega) (by omega)]; exact n4 f1
  · rw [(so t t0 t1).1]; exact n5 t t0 (by omega)
  · rw [hcl f f0 f1]
    have q := (so t t1 t2).2
    by_cases hb : b = i
    · subst hb
      rw [hei]
      have hcc : cu < cl_ ea (cu + 1) fi fr f := by
        unfold cl_
        by_cases hq : f + 1 < fr
        · rw [if_pos hq]
          have a1 := n4 (by omega)
          have a2 : ea (fi (fr - 1)) ≤ ea (fi (f + 1)) := by
            have key : ∀ (k : Nat) (g : Int), 1 ≤ g → g < fr → g = fr - 1 - k → ea (fi (fr - 1)) ≤ ea (fi g) := by
              intro k
              induction k with
              | zero => intro g g0 g1 g2; rw [show g = fr - 1 by omega]; omega
              | succ k ih =>
                intro g g0 g1 g2
                have b1 := ih (g + 1) (by omega) (by omega) (by omega)
                have b2 := n3 g g0 (by omega)
                omega
            exact key (fr - 1 - (f + 1)).toNat (f + 1) (by omega) hq (by omega)
          omega
        · rw [if_neg hq]; omega
      exact ⟨fun x y => hcc, fun x y => by omega⟩
    · rw [hea b b0 b1 hb] at eb ⊢
      exact n7 f t f0 f1 t0 t1 (by omega) t3 b b0 b1 sb eb
