theorem er_mv {sa ea ln sa2 ea2 ln2 : Int → Int} {ev a b c : Int} (hw : pw_ sa ea ln ev) (h : er_ sa ea ln ev a b sa2 ea2 ln2) : mv2_ sa ea c (rz_ (gp_ ln a b)) sa2 ea2 (rz_ (gp_ ln a b) c) := by
  obtain ⟨w1, w2, w3, w4⟩ := hw
  obtain ⟨b2, b3⟩ := h
  refine ⟨rfl, fun j x y n => ?_⟩
  by_cases hs : sa j = -1 ∨ fg_ ln a b j
  · exact absurd ((b3 j x y).1 hs) n
  have hs1 : sa j ≠ -1 := fun z => hs (Or.inl z)
  have hs2 : ¬ fg_ ln a b j := fun z => hs (Or.inr z)
  obtain ⟨u1, u2, u3⟩ := (b3 j x y).2 hs1 hs2
  rcases w2 j x y with t | ⟨t, t', t''⟩
  · exact absurd t hs1
  have k1 : ¬ gp_ ln a b (sa j) := by
    show ¬ fg_ ln a b (ln (sa j) / 2)
    rw [t'', show 2 * j / 2 = j by omega]; exact hs2
  refine ⟨hs1, u1, u2, fun e => ⟨u3 e, ?_⟩, fun q q0 => (rz_lt t q0 k1).symm, fun e q q0 => ?_⟩
  · have v := w3 j x y hs1
    have := rz_nn (gp_ ln a b) (show 0 ≤ ea j by omega)
    rw [u3 e]; omega
  · rcases w3 j x y hs1 with v | ⟨v, v', v''⟩
    · exact absurd v e
    · refine (rz_lt (by omega) q0 ?_).symm
      show ¬ fg_ ln a b (ln (ea j) / 2)
      rw [v'', show (2 * j + 1) / 2 = j by omega]; exact hs2
/-- an interval that has no event among the erased stays -/
theorem er_stay {sa ea ln sa2 ea2 ln2 : Int → Int} {ev a b j : Int} (hw : pw_ sa ea ln ev) (h : er_ sa ea ln ev a b sa2 ea2 ln2) (ha : 0 ≤ a) (hb : b ≤ ev) (j0 : 0 ≤ j) (j1 : j < 600) (hs : sa j ≠ -1) (h1 : sa j < a ∨ b ≤ sa j) (h2 : ea j < a ∨ b ≤ ea j) : sa2 j = rz_ (gp_ ln a b) (sa j) ∧ sa2 j ≠ -1 ∧ (ea j = -1 → ea2 j = -1) ∧ (ea j ≠ -1 → ea2 j = rz_ (gp_ ln a b) (ea j)) ∧ ¬ fg_ ln a b j := by
  have nf := nfg_ hw ha hb h1 h2
  obtain ⟨u1, u2, u3⟩ := (h.2 j j0 j1).2 hs nf
  have w2 := hw.2.1 j j0 j1
  have := rz_nn (gp_ ln a b) (show 0 ≤ sa j by omega)
  exact ⟨u1, by rw [u1]; omega, u2, u3, nf⟩
theorem er_nv {sa ea ln sa2 ea2 ln2 fi fo op : Int → Int} {ev cu b fr oo : Int} (hw : pw_ sa ea ln ev) (hnv : nv_ sa ea cu fi fo fr op oo) (hc0 : 0 ≤ cu) (hb : b ≤ ev) (hbl : ∀ f : Int, 1 ≤ f → f < fr → b ≤ ea (fi f)) (h : er_ sa ea ln ev cu b sa2 ea2 ln2) : nv_ sa2 ea2 (rz_ (gp_ ln cu b) cu) fi fo fr op oo := by
  have hfe := nv_fe hnv
  refine nv_move2 hnv (er_mv hw h) (fun j x y n => ?_) hc0 (fun f f0 f1 => ?_) (fun f f0 f1 => ?_) (fun t t0 t1 => ?_)
  · have a := hw.2.1 j x y
    have b := hw.2.2.1 j x y n
    exact ⟨by omega, fun _ => by omega⟩
  · have p := hnv.2.1 f f0 f1
    have q := hfe f f0 f1
    have r := hbl f f0 f1
    have st := er_stay hw h hc0 hb p.1 p.2.1 p.2.2.1 (Or.inl q.2) (Or.inr r)
    have w3 := hw.2.2.1 _ p.1 p.2.1 p.2.2.1
    refine rz_stay (by omega) ?_
    show ¬ fg_ ln cu b (ln (ea (fi f)) / 2)
    have e : ln (ea (fi f)) = 2 * fi f + 1 := by omega
    rw [e, show (2 * fi f + 1) / 2 = fi f by omega]
    exact st.2.2.2.2
  · have p := hnv.2.1 f f0 f1
    have q := hfe f f0 f1
    exact (er_stay hw h hc0 hb p.1 p.2.1 p.2.2.1 (Or.inl q.2) (Or.inr (hbl f f0 f1))).2.1
  · have p := hnv.2.2.2.2.1 t t0 t1
    exact (er_stay hw h hc0 hb p.1 p.2.1 p.2.2.1 (Or.inl p.2.2.2.2) (Or.inl (by omega))).2.1
theorem fg_cg {ln ml : Int → Int} {ev a b j : Int} (hl : ∀ k : Int, 0 ≤ k → k < ev → ml k = ln k) (ha : 0 ≤ a) (hb : b ≤ ev) : fg_ ml a b j ↔ fg_ ln a b j := by
  constructor
  · intro ⟨k, k0, k1, k2⟩
    exact ⟨k, k0, k1, by rw [← hl k (by omega) (by omega)]; exact k2⟩
  · intro ⟨k, k0, k1, k2⟩
    exact ⟨k, k0, k1, by rw [hl k (by omega) (by omega)]; exact k2⟩
theorem rz_cg {ln ml : Int → Int} {ev a b p : Int} (hl : ∀ k : Int, 0 ≤ k → k < ev → ml k = ln k) (ha : 0 ≤ a) (hb : b ≤ ev) (hp : p ≤ ev) : rz_ (gp_ ml a b) p = rz_ (gp_ ln a b) p := rz_congr (fun j j0 j1 => by
  show fg_ ml a b (ml j / 2) ↔ fg_ ln a b (ln j / 2)
  rw [hl j j0 (by omega)]
  exact fg_cg hl ha hb)
/-- class and reference erase the same -/
theorem er_same {sa ea ln ml sa2 ea2 ln2 sa3 ea3 ml2 : Int → Int} {ev a b : Int} (hw : pw_ sa ea ln ev) (hl : ∀ k : Int, 0 ≤ k → k < ev → ml k = ln k) (ha : 0 ≤ a) (hb : b ≤ ev) (h : er_ sa ea ln ev a b sa2 ea2 ln2) (h' : er_ sa ea ml ev a b sa3 ea3 ml2) :
    (∀ j : Int, 0 ≤ j → j < 600 → sa3 j = sa2 j ∧ (sa2 j ≠ -1 → ea3 j = ea2 j)) ∧ (∀ k : Int, 0 ≤ k → k < rz_ (gp_ ln a b) ev → ml2 k = ln2 k) := by
  refine ⟨fun j x y => ?_, fun k x y => ?_⟩
  · have q1 := h.2 j x y
    have q2 := h'.2 j x y
    have w2 := hw.2.1 j x y
    by_cases hs : sa j = -1 ∨ fg_ ln a b j
    · have e := q1.1 hs
      have e' := q2.1 (hs.imp id (fun t => (fg_cg hl ha hb).mpr t))
      exact ⟨by rw [e, e'], fun n => absurd e n⟩
    · have hs1 : sa j ≠ -1 := fun z => hs (Or.inl z)
      have hs2 : ¬ fg_ ln a b j := fun z => hs (Or.inr z)
      obtain ⟨u1, u2, u3⟩ := q1.2 hs1 hs2
      obtain ⟨v1, v2, v3⟩ := q2.2 hs1 (fun t => hs2 ((fg_cg hl ha hb).mp t))
      refine ⟨by rw [u1, v1]; exact rz_cg hl ha hb (by omega), fun _ => ?_⟩
      by_cases he : ea j = -1
      · rw [u2 he, v2 he]
      · have w3 := hw.2.2.1 j x y hs1
        rw [u3 he, v3 he]; exact rz_cg hl ha hb (by omega)
  · obtain ⟨z, z0, z1, z2, z3⟩ := rz_onto hw.1.1 x y
    have e1 := h.1 z z0 z1 z2
    have e2 := h'.1 z z0 z1 (fun t => z2 (by
      have t' : fg_ ml a b (ml z / 2) := t
      rw [hl z z0 z1] at t'
      exact (fg_cg hl ha hb).mp t'))
    rw [rz_cg hl ha hb (by omega : z ≤ ev)] at e2
    rw [← z3, e1, e2]; exact hl z z0 z1
theorem rz_const {g : Int → Prop} {a : Int} (ha : 0 ≤ a) : ∀ (d : Nat), (∀ p : Int, a ≤ p → p < a + d → g p) → rz_ g (a + d) = rz_ g a
  | 0, _ => by simp
  | d + 1, H => by
    have i := rz_const ha d (fun p x y => H p x (by omega))
    have s := rz_go (g := g) (z := a + d) (by omega) (H (a + d) (by omega) (by omega))
    rw [show a + ((d + 1 : Nat) : Int) = a + d + 1 by omega, s]
    exact i
theorem op_resume {ky wt sa ea sm ln fi fk fo op : Int → Int} {ni ns ev cu wa fr oo : Int} {mt ml mf mx mi mg : Int → Int} {K th n z w : Int} {u : SX_} {v : SM_} (h : cp_ ky wt sa ea sm ln fi fk fo op ni ns ev cu wa fr oo mt ml mf mx mi K n) (hn : n < 512) (hx : (z = -1 ∧ u = (ky, wt, sa, ea, sm, ln, fi, fk, fo, op, ni, ns, ev, cu, wa, fr, oo) ∧ (fk (fr - 1) = 1 ∨ fo (fr - 1) < oo ∨ fr = 64 ∨ ∀ k : Int, cu ≤ k → k < (lm_ fi ea ev fr) → ¬ (fun k => ln k % 2 = 0 ∧ sm (ln k / 2) = 1) k)) ∨ (fk (fr - 1) ≠ 1 ∧ oo ≤ fo (fr - 1) ∧ fr < 64 ∧ ∃ k : Int, cu ≤ k ∧ k < (lm_ fi ea ev fr) ∧ (fun k => ln k % 2 = 0 ∧ sm (ln k / 2) = 1) k ∧ (∀ j : Int, cu ≤ j → j < k → ¬ (fun k => ln k % 2 = 0 ∧ sm (ln k / 2) = 1) j) ∧ z = ln k / 2 ∧ u = (ky, up_ wt (ln k / 2) 0, sa, ea, up_ sm (ln k / 2) 0, ln, up_ fi fr (ln k / 2), up_ fk fr 1, up_ fo fr oo, op, ni, ns - 1, ev, sa (ln k / 2) + 1, wa - wt (ln k / 2), fr + 1, oo))) (hm : (w = -1 ∧ v = (mt, ky, wt, sm, ml, mf, mx, op, mi, mg, 0, ni, K, ev, cu, fr, oo) ∧ ((1 < fr ∧ mx (fr - 1) = 0) ∨ (0 < oo ∧ mi (oo - 1) = fr - 1) ∨ fr = 64 ∨ ∀ k : Int, cu ≤ k → k < (lm_ mf ea ev fr) → ¬ (fun k => ml k % 2 = 0 ∧ sm (ml k / 2) = 1) k)) ∨ ((fr ≤ 1 ∨ mx (fr - 1) = 1) ∧ (oo ≤ 0 ∨ mi (oo - 1) ≠ fr - 1) ∧ fr < 64 ∧ ∃ k : Int, cu ≤ k ∧ k < (lm_ mf ea ev fr) ∧ (fun k => ml k % 2 = 0 ∧ sm (ml k / 2) = 1) k ∧ (∀ j : Int, cu ≤ j → j < k → ¬ (fun k => ml k % 2 = 0 ∧ sm (ml k / 2) = 1) j) ∧ w = ml k / 2 ∧ v = (mt, ky, up_ wt (ml k / 2) 0, up_ sm (ml k / 2) 0, ml, up_ mf fr (ml k / 2), up_ mx fr 0, op, mi, mg, 0, ni, K, ev, sa (ml k / 2) + 1, fr + 1, oo))) : z = w ∧ cc_ (n + 1) u v := by
  have hu := cp_up h
  obtain ⟨hI, hmt, hml, hfm, hmi, hwt, hev, hoo, hni⟩ := id h
  obtain ⟨hw, hnv, hct, ⟨hf1, hf2, hi0, hk0, ho0⟩, hkd, hfo, hfmo, ⟨hc0, hc3, hev2, ho1, ho2⟩, hsm, hky, hwt2, ⟨hK0, hwa⟩, hse⟩ := id hI
  have hlast := (hfm (fr - 1) (by omega) (by omega)).2
  have hlf := (hfm (fr - 1) (by omega) (by omega)).1
  have hop := cp_open h
  have hlm : lm_ mf ea ev fr = lm_ fi ea ev fr := cp_lm hlf
  have hxf := ix_f hI
  obtain ⟨g1, g2, g3, g4, g5, g6, g7, g8, g9, g10, g11⟩ := hxf
  rw [hlm] at hm
  have hps : ∀ k : Int, cu ≤ k → k < lm_ fi ea ev fr → ml k = ln k := fun k a b => hml k (by omega) (by omega)
  rcases hx with ⟨e, rfl, hx⟩ | ⟨z0, z1, z2, k, k0, k1, k2, k3, k4, rfl⟩
  · rcases hm with ⟨e', rfl, hm⟩ | ⟨y0, y1, y2, j, j0, j1, j2, j3, j4, rfl⟩
    · exact ⟨by omega, _, _, _, _, _, _, _, _, _, _, _, _, _, _, _, _, _, _, _, _, _, _, _, _, _, rfl, rfl, hu⟩
    · exfalso
      rcases hx with hx | hx | hx | hx
      · omega
      · have := hop.mp hx; omega
      · omega
      · exact hx j j0 j1 (by rw [hps j j0 j1] at j2; exact j2)
  · rcases hm with ⟨e', rfl, hm⟩ | ⟨y0, y1, y2, j, j0, j1, j2, j3, j4, rfl⟩
    · exfalso
      rcases hm with hm | hm | hm | hm
      · omega
      · have := hop.mpr hm; omega
      · omega
      · exact hm k k0 k1 (by show ml k % 2 = 0 ∧ sm (ml k / 2) = 1; rw [hps k k0 k1]; exact k2)
    · have hkj : k = j := by
        rcases Int.lt_trichotomy k j with q | q | q
        · exact absurd (j3 k k0 q) (fun t => t (by show ml k % 2 = 0 ∧ sm (ml k / 2) = 1; rw [hps k k0 k1]; exact k2))
        · exact q
        · exact absurd (by rw [hps j j0 j1] at j2; exact j2) (k3 j j0 q)
      subst hkj
      rw [hps k k0 k1] at j4
      refine ⟨by omega, _, _, _, _, _, _, _, _, _, _, _, _, _, _, _, _, _, _, _, _, _, _, _, _, _, rfl, (by rw [hps k k0 k1]), ?_⟩
      obtain ⟨d1, d2, d3, d4⟩ := hw.2.2.2 k (by omega) (by omega)
      have d5 := d3 k2.1
      have d6 := k2.2
      generalize hi : ln k / 2 = i at d5 d6 ⊢
      have i0 : 0 ≤ i := by omega
      have i1 : i < 600 := by omega
      have hs : sa i ≠ -1 := by omega
      have he := hse i i0 i1 hs d6
      obtain ⟨c1, c2, c3⟩ := id hct
      have q1 := cw_up (f := sm) (v := 0) i0 i1 hs
      have q2 := cw_up (f := wt) (v := 0) i0 i1 hs
      have q3 := hwt2 i i0 i1
      have q4 := hw.2.1 i i0 i1
      have hlm2 : 1 < fr → lm_ fi ea ev fr = ea (fi (fr - 1)) := fun t => by unfold lm_; rw [if_neg (by omega)]
      refine ⟨⟨hw, ?_, ⟨c1, by omega, by omega⟩, ⟨by omega, by omega, by rw [up_n (by omega)]; exact hi0, by rw [up_n (by omega)]; exact hk0, by rw [up_n (by omega)]; exact ho0⟩, fun f f0 f1 => ?_, fun f f0 f1 => ?_, fun f f0 f1 => ?_, ⟨by omega, by omega, hev2, ho1, ho2⟩, fun j x y => ?_, hky, fun j x y => ?_, ⟨hK0, by omega⟩, fun j x y n1 n2 => ?_⟩, hmt, hml, fun f f0 f1 => ?_, fun t t0 t1 => ?_, fun j x y => ?_, by omega, by omega, by omega⟩
      · exact nv_push hw hnv hf1 (fun _ => g3) i0 i1 hs he (by omega) (fun t => by have := hlm2 t; omega) (fun t => by omega) (fun f q => ⟨up_n (by omega), up_n (by omega)⟩) (up_s _ _ _) (up_s _ _ _) hc0
      · by_cases hf : f = fr
        · rw [hf, up_s]; exact Or.inl rfl
        · rw [up_n hf]; exact hkd f f0 (by omega)
      · by_cases hf : f = fr
        · rw [hf, up_s]; omega
        · rw [up_n hf]; exact hfo f f0 (by omega)
      · rw [up_n (show f ≠ fr by omega)]
        by_cases hf : f + 1 = fr
        · rw [hf, up_s]; exact (hfo f f0 (by omega)).2
        · rw [up_n hf]; exact hfmo f f0 (by omega)
      · by_cases hj : j = i
        · rw [hj, up_s]; exact Or.inl rfl
        · rw [up_n hj]; exact hsm j x y
      · by_cases hj : j = i
        · rw [hj, up_s]; omega
        · rw [up_n hj]; exact hwt2 j x y
      · by_cases hj : j = i
        · rw [hj, up_s] at n2; omega
        · rw [up_n hj] at n2; exact hse j x y n1 n2
      · by_cases hf : f = fr
        · rw [hf, up_s, up_s, up_s, up_s]; exact ⟨rfl, Or.inr ⟨by omega, rfl⟩⟩
        · rw [up_n hf, up_n hf, up_n hf, up_n hf]; exact hfm f f0 (by omega)
      · obtain ⟨m1, m2, m3, m4⟩ := hmi t t0 t1
        refine ⟨m1, by omega, by rw [up_n (by omega)]; exact m3, fun q => ?_⟩
        by_cases hf : mi t + 1 = fr
        · rw [hf, up_s]; exact t1
        · rw [up_n hf]; exact m4 (by omega)
      · by_cases hj : j = i
        · rw [hj, up_s]; omega
        · rw [up_n hj]; exact hwt j x y
