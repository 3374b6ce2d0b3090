set_option maxHeartbeats 400000 in
set_option maxRecDepth 100000 in
theorem kM_erase (l : Launch) (dC : Nat → ClassId) (dI : Nat → Nat → Nat) (q : Nat → Nat) (cA : Nat → ClassId) (mt mq mw ms ml mf mx mo mi mg : Int → Int) (th mn mh ev cu fr oo : Int) (a1 b1 : Int) (sa ea : Int → Int) (hw : pw_ sa ea ml ev) (hmt : mt_ mt sa) (hmn : mn = sg_ mt 600) (ha0 : 0 ≤ a1) (hab : a1 ≤ b1) (hbe : b1 ≤ ev) (hc0 : 0 ≤ cu) (hc1 : cu ≤ ev) : mc_v l (dC, dI) vwCl (tM_ cA) (wM_ q cA) yX1_erase wsX1_erase ({ frames := 0, cells := 0, slots := 0, locals := 0 }) (mt, mq, mw, ms, ml, mf, mx, mo, mi, mg, th, mn, mh, ev, cu, fr, oo) [.ref (q 0), .int (zi_ a1), .int (zi_ b1)] (fun (u : SM_) => ∃ (ml2 mg2 mt2 : Int → Int) (mn2 : Int), er_ sa ea ml ev a1 b1 (es_ sa ml a1 b1) (ee_ ea ml a1 b1) ml2 ∧ mt_ mt2 (es_ sa ml a1 b1) ∧ mn2 = sg_ mt2 600 ∧ u = (mt2, mq, mw, ms, ml2, mf, mx, mo, mi, mg2, th, mn2, mh, rz_ (gp_ ml a1 b1) ev, rz_ (gp_ ml a1 b1) cu, fr, oo)) := by
  refine mc_v_of (cc := cX1_erase) (maxL := 6) (ret := none) (by decide) rfl (Nat.le_of_ble_eq_true rfl) ?_
  intro p e s m below meth c A ls hE hml hown hts hr hlk hA hK hh hl
  have hown : s.vm.findClass RX1 = some m.cls := hown
  have hX : ∀ w ∈ wsM_, w.before _ s = true := fun w h => hts w (List.mem_cons_of_mem _ h)
  have hl : lv_has ls 6 [(0, .ref (q 0)), (1, .int (zi_ a1)), (2, .int (zi_ b1))] := hl
  have w1 := hw.1
  have loop_140 : ∀ (n : Nat) (i lf cu2 mn2 : Int) (mg1 ml2 mt2 : Int → Int), (0 ≤ i) → (i ≤ 600) → (600 - i < (n : Int)) → (mg_ ml a1 b1 mg1) → (m3_ ml ev cu a1 b1 ev ml2 cu2) → (lf = rz_ (gp_ ml a1 b1) ev) → (m4_ mg1 mt i mt2) → (mn2 = sg_ mt2 600) → ∀ (H : Heap) (locs : List Loc), hp_ (dC, dI) vwCl A s.heap (wM_ q cA (mt2, mq, mw, ms, ml2, mf, mx, mo, mi, mg1, th, mn2, mh, lf, cu2, fr, oo)) H locs → ∀ (ls : Array Slot), lv_has ls 6 [(5, .int (zi_ i)), (0, .ref (q 0))] → W p l e ({ frames := 0, cells := 0, slots := 0, locals := 0 }) s m ([.ref (q 0), .int (zi_ a1), .int (zi_ b1)] : List Value).toArray below meth c H locs 0 0 (MQ below (mc_Qv (dC, dI) vwCl (tM_ cA) (wM_ q cA) (fun (u : SM_) => ∃ (ml2 mg2 mt2 : Int → Int) (mn2 : Int), er_ sa ea ml ev a1 b1 (es_ sa ml a1 b1) (ee_ ea ml a1 b1) ml2 ∧ mt_ mt2 (es_ sa ml a1 b1) ∧ mn2 = sg_ mt2 600 ∧ u = (mt2, mq, mw, ms, ml2, mf, mx, mo, mi, mg2, th, mn2, mh, rz_ (gp_ ml a1 b1) ev, rz_ (gp_ ml a1 b1) cu, fr, oo)) A) ([.ref (q 0), .int (zi_ a1), .int (zi_ b1)] : List Value).toArray s 0 0 A) (F0 m 140 ls []) := by
    intro n
    induction n with
    | zero => intros; exfalso; omega
    | succ n ih =>
      intro i lf cu2 mn2 mg1 ml2 mt2 h0 h1 hn hmg hm3 hlf hm4 hmn2 H locs hh ls hl
      refine lv_iload hE.1 hE.2 dX1_erase_140 (lv_at hl 0 rfl) ?_
      refine zv_sipush hE dX1_erase_142 (by decide) ?_
      refine zv_icmp_ge (tgt := 182) hE dX1_erase_145 (by decide) ⟨by omega, by omega⟩ ⟨by omega, by omega⟩ (fun hc_1 => ?_) (fun hc_1 => ?_)
      · refine mc_retv (u := (mt2, mq, mw, ms, ml2, mf, mx, mo, mi, mg1, th, mn2, mh, lf, cu2, fr, oo)) hE hr hlk hK hh dX1_erase_182 ?_
        have hi6 : i = 600 := by omega
        rw [hi6] at hm4
        exact ⟨ml2, mg1, mt2, mn2, es_er hm3.2.1, m4_end hw hbe ha0 hmt hmg hm4, hmn2, by rw [hlf, hm3.2.2.2 hc1]⟩
      · refine lv_aload_n hE.1 hE.2 dX1_erase_148 rfl (lv_at hl 1 rfl) ?_
        refine gM_goes hE hX hown hK hh dX1_erase_149 ?_
        refine lv_iload hE.1 hE.2 dX1_erase_152 (lv_at hl 0 rfl) ?_
        have hx3 := hmg i (by omega) (by omega)
        have hx5 : mg1 i = 0 ∨ mg1 i = 1 := by
          rcases Classical.em (fg_ ml a1 b1 i) with t | t
          · exact Or.inr (hx3.1 t)
          · exact Or.inl (hx3.2 t)
        refine rM_goes hE hK hh ⟨by omega, by omega⟩ dX1_erase_154 ?_
        refine zv_if_eq (tgt := 176) hE dX1_erase_155 (by decide) ⟨by omega, by omega⟩ (fun hc_2 => ?_) (fun hc_2 => ?_)
        · refine zv_iinc (lv' := [(5, .int (zi_ (i + 1))), (0, .ref (q 0))]) hE dX1_erase_176 hl (k := 0) rfl (by decide) rfl (fun ls hl => ?_)
          refine lv_goto (tgt := 140) hE.1 hE.2 dX1_erase_179 (by decide) ?_
          exact ih (i + 1) lf cu2 mn2 mg1 ml2 mt2 (by omega) (by omega) (by omega) hmg hm3 hlf (by first | exact m4_skip hm4 (by omega) | exact m4_put hm4 (by omega)) (by first | exact hmn2 | (rw [sg_put h0 (by omega), m4_one hw ha0 hbe hmt hmg hm4 h0 (by omega) (by omega), hmn2]; omega)) _ _ hh ls (lv_sub hl [0, 1] rfl)
        · refine lv_aload_n hE.1 hE.2 dX1_erase_158 rfl (lv_at hl 1 rfl) ?_
          refine gM_there hE hX hown hK hh dX1_erase_159 ?_
          refine lv_iload hE.1 hE.2 dX1_erase_162 (lv_at hl 0 rfl) ?_
          refine zv_iconst hE dX1_erase_164 ?_
          refine sM_there hE hK hh ⟨by omega, by omega⟩ (by first | exact Or.inl rfl | exact Or.inr rfl | assumption) dX1_erase_165 (fun H locs hh => ?_)
          refine lv_aload_n hE.1 hE.2 dX1_erase_166 rfl (lv_at hl 1 rfl) ?_
          refine lv_dup hE.1 hE.2 dX1_erase_167 rfl ?_
          refine gM_many hE hX hown hK hh dX1_erase_168 ?_
          refine zv_iconst hE dX1_erase_171 ?_
          refine zv_isub hE dX1_erase_172 ?_
          refine pM_many hE hX hown hK hh dX1_erase_173 (fun H locs hh => ?_)
          refine zv_iinc (lv' := [(5, .int (zi_ (i + 1))), (0, .ref (q 0))]) hE dX1_erase_176 hl (k := 0) rfl (by decide) rfl (fun ls hl => ?_)
          refine lv_goto (tgt := 140) hE.1 hE.2 dX1_erase_179 (by decide) ?_
          exact ih (i + 1) lf cu2 (mn2 - 1) mg1 ml2 (up_ mt2 i 0) (by omega) (by omega) (by omega) hmg hm3 hlf (by first | exact m4_skip hm4 (by omega) | exact m4_put hm4 (by omega)) (by first | exact hmn2 | (rw [sg_put h0 (by omega), m4_one hw ha0 hbe hmt hmg hm4 h0 (by omega) (by omega), hmn2]; omega)) _ _ hh ls (lv_sub hl [0, 1] rfl)
  have loop_60 : ∀ (n : Nat) (pl lf cu2 : Int) (mg1 ml2 : Int → Int), (0 ≤ pl) → (pl ≤ ev) → (ev - pl < (n : Int)) → (mg_ ml a1 b1 mg1) → (m3_ ml ev cu a1 b1 pl ml2 cu2) → (lf = rz_ (gp_ ml a1 b1) pl) → ∀ (H : Heap) (locs : List Loc), hp_ (dC, dI) vwCl A s.heap (wM_ q cA (mt, mq, mw, ms, ml2, mf, mx, mo, mi, mg1, th, mn, mh, ev, cu2, fr, oo)) H locs → ∀ (ls : Array Slot), lv_has ls 6 [(5, .int (zi_ pl)), (4, .int (zi_ cu)), (3, .int (zi_ lf)), (0, .ref (q 0))] → W p l e ({ frames := 0, cells := 0, slots := 0, locals := 0 }) s m ([.ref (q 0), .int (zi_ a1), .int (zi_ b1)] : List Value).toArray below meth c H locs 0 0 (MQ below (mc_Qv (dC, dI) vwCl (tM_ cA) (wM_ q cA) (fun (u : SM_) => ∃ (ml2 mg2 mt2 : Int → Int) (mn2 : Int), er_ sa ea ml ev a1 b1 (es_ sa ml a1 b1) (ee_ ea ml a1 b1) ml2 ∧ mt_ mt2 (es_ sa ml a1 b1) ∧ mn2 = sg_ mt2 600 ∧ u = (mt2, mq, mw, ms, ml2, mf, mx, mo, mi, mg2, th, mn2, mh, rz_ (gp_ ml a1 b1) ev, rz_ (gp_ ml a1 b1) cu, fr, oo)) A) ([.ref (q 0), .int (zi_ a1), .int (zi_ b1)] : List Value).toArray s 0 0 A) (F0 m 60 ls []) := by
    intro n
    induction n with
    | zero => intros; exfalso; omega
    | succ n ih =>
      intro pl lf cu2 mg1 ml2 g0 g1 hn hmg hm3 hlf H locs hh ls hl
      refine lv_iload hE.1 hE.2 dX1_erase_60 (lv_at hl 0 rfl) ?_
      refine lv_aload_n hE.1 hE.2 dX1_erase_62 rfl (lv_at hl 3 rfl) ?_
      refine gM_events hE hX hown hK hh dX1_erase_63 ?_
      refine zv_icmp_ge (tgt := 132) hE dX1_erase_66 (by decide) ⟨by omega, by omega⟩ ⟨by omega, by omega⟩ (fun hc_3 => ?_) (fun hc_3 => ?_)
      · refine lv_aload_n hE.1 hE.2 dX1_erase_132 rfl (lv_at hl 3 rfl) ?_
        refine lv_iload_n hE.1 hE.2 dX1_erase_133 rfl (lv_at hl 2 rfl) ?_
        refine pM_events hE hX hown hK hh dX1_erase_134 (fun H locs hh => ?_)
        refine zv_iconst hE dX1_erase_137 ?_
        refine lv_istore (lv' := [(5, .int (zi_ 0)), (4, .int (zi_ cu)), (3, .int (zi_ lf)), (0, .ref (q 0))]) hE.1 hE.2 dX1_erase_138 hl (by decide) rfl (fun ls hl => ?_)
        exact loop_140 601 0 lf cu2 mn mg1 ml2 mt (by omega) (by omega) (by omega) hmg ((show pl = ev by omega) ▸ hm3) ((show pl = ev by omega) ▸ hlf) (fun j x y => ⟨fun z => by omega, fun _ => rfl⟩) hmn _ _ hh ls (lv_sub hl [0, 3] rfl)
      · refine lv_aload_n hE.1 hE.2 dX1_erase_69 rfl (lv_at hl 3 rfl) ?_
        refine gM_goes hE hX hown hK hh dX1_erase_70 ?_
        refine lv_aload_n hE.1 hE.2 dX1_erase_73 rfl (lv_at hl 3 rfl) ?_
        refine gM_line hE hX hown hK hh dX1_erase_74 ?_
        refine lv_iload hE.1 hE.2 dX1_erase_77 (lv_at hl 0 rfl) ?_
        have hx1 := hm3.1 pl (by omega) (by omega)
        have hx2 := hw.2.2.2 pl (by omega) (by omega)
        have hx3 := hmg (ml2 pl / 2) (by omega) (by omega)
        have hx4 : (mg1 (ml2 pl / 2) = 0 ∧ ¬ gp_ ml a1 b1 pl) ∨ (mg1 (ml2 pl / 2) = 1 ∧ gp_ ml a1 b1 pl) := by
          rw [hx1] at hx3 ⊢
          rcases Classical.em (gp_ ml a1 b1 pl) with t | t
          · exact Or.inr ⟨hx3.1 t, t⟩
          · exact Or.inl ⟨hx3.2 t, t⟩
        have hgo : mg1 (ml2 pl / 2) ≠ 0 → gp_ ml a1 b1 pl := fun h => by
          rcases hx4 with t | t
          · exact absurd t.1 h
          · exact t.2
        have hst : mg1 (ml2 pl / 2) = 0 → ¬ gp_ ml a1 b1 pl := fun h => by
          rcases hx4 with t | t
          · exact t.2
          · omega
        have hr0 := rz_nn (gp_ ml a1 b1) g0
        have hx5 : mg1 (ml2 pl / 2) = 0 ∨ mg1 (ml2 pl / 2) = 1 := by omega
        refine rM_line hE hK hh ⟨by omega, by omega⟩ dX1_erase_79 ?_
        refine zv_iconst hE dX1_erase_80 ?_
        refine zv_half hE ⟨by omega, by omega⟩ dX1_erase_81 ?_
        refine rM_goes hE hK hh ⟨by omega, by omega⟩ dX1_erase_82 ?_
        refine zv_if_eq (tgt := 110) hE dX1_erase_83 (by decide) ⟨by omega, by omega⟩ (fun hc_4 => ?_) (fun hc_4 => ?_)
        · refine lv_aload_n hE.1 hE.2 dX1_erase_110 rfl (lv_at hl 3 rfl) ?_
          refine gM_line hE hX hown hK hh dX1_erase_111 ?_
          refine lv_iload_n hE.1 hE.2 dX1_erase_114 rfl (lv_at hl 2 rfl) ?_
          refine lv_aload_n hE.1 hE.2 dX1_erase_115 rfl (lv_at hl 3 rfl) ?_
          refine gM_line hE hX hown hK hh dX1_erase_116 ?_
          refine lv_iload hE.1 hE.2 dX1_erase_119 (lv_at hl 0 rfl) ?_
          refine rM_line hE hK hh ⟨by omega, by omega⟩ dX1_erase_121 ?_
          refine sM_line hE hK hh ⟨by omega, by omega⟩ dX1_erase_122 (fun H locs hh => ?_)
          refine zv_iinc (lv' := [(3, .int (zi_ (lf + 1))), (5, .int (zi_ pl)), (4, .int (zi_ cu)), (0, .ref (q 0))]) hE dX1_erase_123 hl (k := 2) rfl (by decide) rfl (fun ls hl => ?_)
          refine zv_iinc (lv' := [(5, .int (zi_ (pl + 1))), (3, .int (zi_ (lf + 1))), (4, .int (zi_ cu)), (0, .ref (q 0))]) hE dX1_erase_126 hl (k := 1) rfl (by decide) rfl (fun ls hl => ?_)
          refine lv_goto (tgt := 60) hE.1 hE.2 dX1_erase_129 (by decide) ?_
          exact ih (pl + 1) (lf + 1) cu2 mg1 (up_ ml2 lf (ml2 pl)) (by omega) (by omega) (by omega) hmg (by first | (have t := (m3_go hm3 g0 hc0 (hgo (by omega))).1; rw [if_pos (by omega)] at t; exact t) | (have t := (m3_go hm3 g0 hc0 (hgo (by omega))).1; rw [if_neg (by omega)] at t; rw [Int.sub_zero]; exact t) | (rw [hlf]; exact (m3_keep hm3 g0 (by omega) hc0 (hst (by omega))).1)) (by first | (have t := (m3_go hm3 g0 hc0 (hgo (by omega))).2; omega) | (have t := (m3_keep hm3 g0 (by omega) hc0 (hst (by omega))).2; omega)) _ _ hh ls (lv_sub hl [0, 2, 1, 3] rfl)
        · refine lv_aload_n hE.1 hE.2 dX1_erase_86 rfl (lv_at hl 3 rfl) ?_
          refine lv_dup hE.1 hE.2 dX1_erase_87 rfl ?_
          refine gM_cursor hE hX hown hK hh dX1_erase_88 ?_
          refine lv_iload hE.1 hE.2 dX1_erase_91 (lv_at hl 0 rfl) ?_
          refine lv_iload hE.1 hE.2 dX1_erase_93 (lv_at hl 1 rfl) ?_
          refine zv_icmp_ge (tgt := 102) hE dX1_erase_95 (by decide) ⟨by omega, by omega⟩ ⟨by omega, by omega⟩ (fun hc_5 => ?_) (fun hc_5 => ?_)
          · refine zv_iconst hE dX1_erase_102 ?_
            refine zv_isub hE dX1_erase_103 ?_
            refine pM_cursor hE hX hown hK hh dX1_erase_104 (fun H locs hh => ?_)
            refine lv_goto (tgt := 126) hE.1 hE.2 dX1_erase_107 (by decide) ?_
            refine zv_iinc (lv' := [(5, .int (zi_ (pl + 1))), (4, .int (zi_ cu)), (3, .int (zi_ lf)), (0, .ref (q 0))]) hE dX1_erase_126 hl (k := 0) rfl (by decide) rfl (fun ls hl => ?_)
            refine lv_goto (tgt := 60) hE.1 hE.2 dX1_erase_129 (by decide) ?_
            exact ih (pl + 1) lf (cu2 - 0) mg1 ml2 (by omega) (by omega) (by omega) hmg (by first | (have t := (m3_go hm3 g0 hc0 (hgo (by omega))).1; rw [if_pos (by omega)] at t; exact t) | (have t := (m3_go hm3 g0 hc0 (hgo (by omega))).1; rw [if_neg (by omega)] at t; rw [Int.sub_zero]; exact t) | (rw [hlf]; exact (m3_keep hm3 g0 (by omega) hc0 (hst (by omega))).1)) (by first | (have t := (m3_go hm3 g0 hc0 (hgo (by omega))).2; omega) | (have t := (m3_keep hm3 g0 (by omega) hc0 (hst (by omega))).2; omega)) _ _ hh ls (lv_sub hl [0, 1, 2, 3] rfl)
          · refine zv_iconst hE dX1_erase_98 ?_
            refine lv_goto (tgt := 103) hE.1 hE.2 dX1_erase_99 (by decide) ?_
            refine zv_isub hE dX1_erase_103 ?_
            refine pM_cursor hE hX hown hK hh dX1_erase_104 (fun H locs hh => ?_)
            refine lv_goto (tgt := 126) hE.1 hE.2 dX1_erase_107 (by decide) ?_
            refine zv_iinc (lv' := [(5, .int (zi_ (pl + 1))), (4, .int (zi_ cu)), (3, .int (zi_ lf)), (0, .ref (q 0))]) hE dX1_erase_126 hl (k := 0) rfl (by decide) rfl (fun ls hl => ?_)
            refine lv_goto (tgt := 60) hE.1 hE.2 dX1_erase_129 (by decide) ?_
            exact ih (pl + 1) lf (cu2 - 1) mg1 ml2 (by omega) (by omega) (by omega) hmg (by first | (have t := (m3_go hm3 g0 hc0 (hgo (by omega))).1; rw [if_pos (by omega)] at t; exact t) | (have t := (m3_go hm3 g0 hc0 (hgo (by omega))).1; rw [if_neg (by omega)] at t; rw [Int.sub_zero]; exact t) | (rw [hlf]; exact (m3_keep hm3 g0 (by omega) hc0 (hst (by omega))).1)) (by first | (have t := (m3_go hm3 g0 hc0 (hgo (by omega))).2; omega) | (have t := (m3_keep hm3 g0 (by omega) hc0 (hst (by omega))).2; omega)) _ _ hh ls (lv_sub hl [0, 1, 2, 3] rfl)
  have loop_24 : ∀ (n : Nat) (pl : Int) (mg1 : Int → Int), (a1 ≤ pl) → (pl ≤ b1) → (b1 - pl < (n : Int)) → (mg_ ml a1 pl mg1) → ∀ (H : Heap) (locs : List Loc), hp_ (dC, dI) vwCl A s.heap (wM_ q cA (mt, mq, mw, ms, ml, mf, mx, mo, mi, mg1, th, mn, mh, ev, cu, fr, oo)) H locs → ∀ (ls : Array Slot), lv_has ls 6 [(3, .int (zi_ pl)), (1, .int (zi_ a1)), (2, .int (zi_ b1)), (0, .ref (q 0))] → W p l e ({ frames := 0, cells := 0, slots := 0, locals := 0 }) s m ([.ref (q 0), .int (zi_ a1), .int (zi_ b1)] : List Value).toArray below meth c H locs 0 0 (MQ below (mc_Qv (dC, dI) vwCl (tM_ cA) (wM_ q cA) (fun (u : SM_) => ∃ (ml2 mg2 mt2 : Int → Int) (mn2 : Int), er_ sa ea ml ev a1 b1 (es_ sa ml a1 b1) (ee_ ea ml a1 b1) ml2 ∧ mt_ mt2 (es_ sa ml a1 b1) ∧ mn2 = sg_ mt2 600 ∧ u = (mt2, mq, mw, ms, ml2, mf, mx, mo, mi, mg2, th, mn2, mh, rz_ (gp_ ml a1 b1) ev, rz_ (gp_ ml a1 b1) cu, fr, oo)) A) ([.ref (q 0), .int (zi_ a1), .int (zi_ b1)] : List Value).toArray s 0 0 A) (F0 m 24 ls []) := by
    intro n
    induction n with
    | zero => intros; exfalso; omega
    | succ n ih =>
      intro pl mg1 g0 g1 hn hmg H locs hh ls hl
      refine lv_iload_n hE.1 hE.2 dX1_erase_24 rfl (lv_at hl 0 rfl) ?_
      refine lv_iload_n hE.1 hE.2 dX1_erase_25 rfl (lv_at hl 2 rfl) ?_
      refine zv_icmp_ge (tgt := 49) hE dX1_erase_26 (by decide) ⟨by omega, by omega⟩ ⟨by omega, by omega⟩ (fun hc_6 => ?_) (fun hc_6 => ?_)
      · refine zv_iconst hE dX1_erase_49 ?_
        refine lv_istore_n (lv' := [(3, .int (zi_ 0)), (1, .int (zi_ a1)), (2, .int (zi_ b1)), (0, .ref (q 0))]) hE.1 hE.2 dX1_erase_50 rfl hl (by decide) rfl (fun ls hl => ?_)
        refine lv_aload_n hE.1 hE.2 dX1_erase_51 rfl (lv_at hl 3 rfl) ?_
        refine gM_cursor hE hX hown hK hh dX1_erase_52 ?_
        refine lv_istore (lv' := [(4, .int (zi_ cu)), (3, .int (zi_ 0)), (1, .int (zi_ a1)), (2, .int (zi_ b1)), (0, .ref (q 0))]) hE.1 hE.2 dX1_erase_55 hl (by decide) rfl (fun ls hl => ?_)
        refine zv_iconst hE dX1_erase_57 ?_
        refine lv_istore (lv' := [(5, .int (zi_ 0)), (4, .int (zi_ cu)), (3, .int (zi_ 0)), (1, .int (zi_ a1)), (2, .int (zi_ b1)), (0, .ref (q 0))]) hE.1 hE.2 dX1_erase_58 hl (by decide) rfl (fun ls hl => ?_)
        exact loop_60 1300 0 0 cu mg1 ml (by omega) (by omega) (by omega) ((show pl = b1 by omega) ▸ hmg) (m3_0 hc0) (rz_0 _).symm _ _ hh ls (lv_sub hl [0, 1, 2, 5] rfl)
      · refine lv_aload_n hE.1 hE.2 dX1_erase_29 rfl (lv_at hl 3 rfl) ?_
        refine gM_goes hE hX hown hK hh dX1_erase_30 ?_
        refine lv_aload_n hE.1 hE.2 dX1_erase_33 rfl (lv_at hl 3 rfl) ?_
        refine gM_line hE hX hown hK hh dX1_erase_34 ?_
        refine lv_iload_n hE.1 hE.2 dX1_erase_37 rfl (lv_at hl 0 rfl) ?_
        have hx2 := hw.2.2.2 pl (by omega) (by omega)
        refine rM_line hE hK hh ⟨by omega, by omega⟩ dX1_erase_38 ?_
        refine zv_iconst hE dX1_erase_39 ?_
        refine zv_half hE ⟨by omega, by omega⟩ dX1_erase_40 ?_
        refine zv_iconst hE dX1_erase_41 ?_
        refine sM_goes hE hK hh ⟨by omega, by omega⟩ (by first | exact Or.inl rfl | exact Or.inr rfl | assumption) dX1_erase_42 (fun H locs hh => ?_)
        refine zv_iinc (lv' := [(3, .int (zi_ (pl + 1))), (1, .int (zi_ a1)), (2, .int (zi_ b1)), (0, .ref (q 0))]) hE dX1_erase_43 hl (k := 0) rfl (by decide) rfl (fun ls hl => ?_)
        refine lv_goto (tgt := 24) hE.1 hE.2 dX1_erase_46 (by decide) ?_
        exact ih (pl + 1) (up_ mg1 ((ml pl) / 2) 1) (by omega) (by omega) (by omega) (mg_s hmg g0) _ _ hh ls (lv_sub hl [0, 1, 2, 3] rfl)
  have loop_2 : ∀ (n : Nat) (i : Int) (mg1 : Int → Int), (0 ≤ i) → (i ≤ 600) → (600 - i < (n : Int)) → (∀ j : Int, 0 ≤ j → j < i → mg1 j = 0) → ∀ (H : Heap) (locs : List Loc), hp_ (dC, dI) vwCl A s.heap (wM_ q cA (mt, mq, mw, ms, ml, mf, mx, mo, mi, mg1, th, mn, mh, ev, cu, fr, oo)) H locs → ∀ (ls : Array Slot), lv_has ls 6 [(3, .int (zi_ i)), (1, .int (zi_ a1)), (2, .int (zi_ b1)), (0, .ref (q 0))] → W p l e ({ frames := 0, cells := 0, slots := 0, locals := 0 }) s m ([.ref (q 0), .int (zi_ a1), .int (zi_ b1)] : List Value).toArray below meth c H locs 0 0 (MQ below (mc_Qv (dC, dI) vwCl (tM_ cA) (wM_ q cA) (fun (u : SM_) => ∃ (ml2 mg2 mt2 : Int → Int) (mn2 : Int), er_ sa ea ml ev a1 b1 (es_ sa ml a1 b1) (ee_ ea ml a1 b1) ml2 ∧ mt_ mt2 (es_ sa ml a1 b1) ∧ mn2 = sg_ mt2 600 ∧ u = (mt2, mq, mw, ms, ml2, mf, mx, mo, mi, mg2, th, mn2, mh, rz_ (gp_ ml a1 b1) ev, rz_ (gp_ ml a1 b1) cu, fr, oo)) A) ([.ref (q 0), .int (zi_ a1), .int (zi_ b1)] : List Value).toArray s 0 0 A) (F0 m 2 ls []) := by
    intro n
    induction n with
    | zero => intros; exfalso; omega
    | succ n ih =>
      intro i mg1 h0 h1 hn hj H locs hh ls hl
      refine lv_iload_n hE.1 hE.2 dX1_erase_2 rfl (lv_at hl 0 rfl) ?_
      refine zv_sipush hE dX1_erase_3 (by decide) ?_
      refine zv_icmp_ge (tgt := 22) hE dX1_erase_6 (by decide) ⟨by omega, by omega⟩ ⟨by omega, by omega⟩ (fun hc_7 => ?_) (fun hc_7 => ?_)
      · refine lv_iload_n hE.1 hE.2 dX1_erase_22 rfl (lv_at hl 1 rfl) ?_
        refine lv_istore_n (lv' := [(3, .int (zi_ a1)), (1, .int (zi_ a1)), (2, .int (zi_ b1)), (0, .ref (q 0))]) hE.1 hE.2 dX1_erase_23 rfl hl (by decide) rfl (fun ls hl => ?_)
        exact loop_24 1300 a1 mg1 (by omega) (by omega) (by omega) (mg_0 (fun j x y => hj j x (by omega))) _ _ hh ls (lv_sub hl [0, 1, 2, 3] rfl)
      · refine lv_aload_n hE.1 hE.2 dX1_erase_9 rfl (lv_at hl 3 rfl) ?_
        refine gM_goes hE hX hown hK hh dX1_erase_10 ?_
        refine lv_iload_n hE.1 hE.2 dX1_erase_13 rfl (lv_at hl 0 rfl) ?_
        refine zv_iconst hE dX1_erase_14 ?_
        refine sM_goes hE hK hh ⟨by omega, by omega⟩ (by first | exact Or.inl rfl | exact Or.inr rfl | assumption) dX1_erase_15 (fun H locs hh => ?_)
        refine zv_iinc (lv' := [(3, .int (zi_ (i + 1))), (1, .int (zi_ a1)), (2, .int (zi_ b1)), (0, .ref (q 0))]) hE dX1_erase_16 hl (k := 0) rfl (by decide) rfl (fun ls hl => ?_)
        refine lv_goto (tgt := 2) hE.1 hE.2 dX1_erase_19 (by decide) ?_
        exact ih (i + 1) (up_ mg1 i 0) (by omega) (by omega) (by omega) (fun j x y => if hq : j = i then (by rw [hq]; exact up_s _ _ _) else (by rw [up_n hq]; exact hj j x (by omega))) _ _ hh ls (lv_sub hl [0, 1, 2, 3] rfl)
  refine zv_iconst hE dX1_erase_0 ?_
  refine lv_istore_n (lv' := [(3, .int (zi_ 0)), (0, .ref (q 0)), (1, .int (zi_ a1)), (2, .int (zi_ b1))]) hE.1 hE.2 dX1_erase_1 rfl hl (by decide) rfl (fun ls hl => ?_)
  exact loop_2 601 0 mg (by omega) (by omega) (by omega) (fun j x y => by omega) _ _ hh ls (lv_sub hl [0, 2, 3, 1] rfl)
set_option maxHeartbeats 400000 in
set_option maxRecDepth 100000 in
theorem kM_around (l : Launch) (dC : Nat → ClassId) (dI : Nat → Nat → Nat) (q : Nat → Nat) (cA : Nat → ClassId) (mt mq mw ms ml mf mx mo mi mg : Int → Int) (th mn mh ev cu fr oo : Int) (i : Int) (sa ea : Int → Int) (hw : pw_ sa ea ml ev) (h0 : 0 ≤ i) (h1 : i < 600) (hs : sa i ≠ -1) : mc_i l (dC, dI) vwCl (tM_ cA) (wM_ q cA) yX1_around wsX1_around ({ frames := 2, cells := 0, slots := 0, locals := 80 }) (mt, mq, mw, ms, ml, mf, mx, mo, mi, mg, th, mn, mh, ev, cu, fr, oo) [.ref (q 0), .int (zi_ i)] (fun (z : Int) (u : SM_) => u = (mt, mq, mw, ms, ml, mf, mx, mo, mi, mg, th, mn, mh, ev, cu, fr, oo) ∧ fl_ (fun k => ml k % 2 = 0 ∧ sa i < ut_ ea ev (ml k / 2)) (fun k => ml k / 2) 0 (sa i) z) := by
  refine mc_i_of (cc := cX1_around) (maxL := 5) (ret := (some .int)) (by decide) rfl (Nat.le_of_ble_eq_true rfl) ?_
  intro p e s m below meth c A ls hE hml hown hts hr hlk hA hK hh hl
  have hown : s.vm.findClass RX1 = some m.cls := hown
  have hX : ∀ w ∈ wsM_, w.before _ s = true := fun w h => hts w (List.mem_cons_of_mem _ h)
  have hl : lv_has ls 5 [(0, .ref (q 0)), (1, .int (zi_ i))] := hl
  have w1 := hw.1
  have w2 := hw.2.1 i h0 h1
  have w3 := hw.2.2.1 i h0 h1 hs
  have loop_13 : ∀ (n : Nat) (pl fd : Int), (0 ≤ pl) → (pl ≤ sa i) → (sa i - pl < (n : Int)) → (fl_ (fun k => ml k % 2 = 0 ∧ sa i < ut_ ea ev (ml k / 2)) (fun k => ml k / 2) 0 pl fd) → ∀ (H : Heap) (locs : List Loc), hp_ (dC, dI) vwCl A s.heap (wM_ q cA (mt, mq, mw, ms, ml, mf, mx, mo, mi, mg, th, mn, mh, ev, cu, fr, oo)) H locs → ∀ (ls : Array Slot), lv_has ls 5 [(4, .int (zi_ pl)), (3, .int (zi_ fd)), (2, .int (zi_ (sa i))), (1, .int (zi_ i)), (0, .ref (q 0))] → W p l e ({ frames := 2, cells := 0, slots := 0, locals := 80 }) s m ([.ref (q 0), .int (zi_ i)] : List Value).toArray below meth c H locs 0 0 (MQ below (mc_Qi (dC, dI) vwCl (tM_ cA) (wM_ q cA) (fun (z : Int) (u : SM_) => u = (mt, mq, mw, ms, ml, mf, mx, mo, mi, mg, th, mn, mh, ev, cu, fr, oo) ∧ fl_ (fun k => ml k % 2 = 0 ∧ sa i < ut_ ea ev (ml k / 2)) (fun k => ml k / 2) 0 (sa i) z) A) ([.ref (q 0), .int (zi_ i)] : List Value).toArray s 0 0 A) (F0 m 13 ls []) := by
    intro n
    induction n with
    | zero => intros; exfalso; omega
    | succ n ih =>
      intro pl fd g0 g1 hn hfl H locs hh ls hl
      refine lv_iload hE.1 hE.2 dX1_around_13 (lv_at hl 0 rfl) ?_
      refine lv_iload_n hE.1 hE.2 dX1_around_15 rfl (lv_at hl 2 rfl) ?_
      refine zv_icmp_ge (tgt := 68) hE dX1_around_16 (by decide) ⟨by omega, by omega⟩ ⟨by omega, by omega⟩ (fun hc_1 => ?_) (fun hc_1 => ?_)
      · refine lv_iload_n hE.1 hE.2 dX1_around_68 rfl (lv_at hl 1 rfl) ?_
        refine mc_ret (u := (mt, mq, mw, ms, ml, mf, mx, mo, mi, mg, th, mn, mh, ev, cu, fr, oo)) hE hr hlk hK hh dX1_around_69 ?_
        exact ⟨rfl, (show pl = sa i by omega) ▸ hfl⟩
      · refine lv_aload_n hE.1 hE.2 dX1_around_19 rfl (lv_at hl 4 rfl) ?_
        refine gM_line hE hX hown hK hh dX1_around_20 ?_
        refine lv_iload hE.1 hE.2 dX1_around_23 (lv_at hl 0 rfl) ?_
        have hx2 := hw.2.2.2 pl (by omega) (by omega)
        have hx6 : sa (ml pl / 2) ≠ -1 := by
          have t1 := hx2.2.2.1
          have t2 := hx2.2.2.2
          omega
        have hx7 := ut_rng hw (i := ml pl / 2) (by omega) (by omega) hx6
        refine rM_line hE hK hh ⟨by omega, by omega⟩ dX1_around_25 ?_
        refine zv_iconst hE dX1_around_26 ?_
        refine zv_rem2 hE ⟨by omega, by omega⟩ dX1_around_27 ?_
        refine zv_if_ne (tgt := 60) hE dX1_around_28 (by decide) ⟨by omega, by omega⟩ (fun hc_2 => ?_) (fun hc_2 => ?_)
        · refine lv_iload_n hE.1 hE.2 dX1_around_60 rfl (lv_at hl 1 rfl) ?_
          refine lv_istore_n (lv' := [(3, .int (zi_ fd)), (4, .int (zi_ pl)), (2, .int (zi_ (sa i))), (1, .int (zi_ i)), (0, .ref (q 0))]) hE.1 hE.2 dX1_around_61 rfl hl (by decide) rfl (fun ls hl => ?_)
          refine zv_iinc (lv' := [(4, .int (zi_ (pl + 1))), (3, .int (zi_ fd)), (2, .int (zi_ (sa i))), (1, .int (zi_ i)), (0, .ref (q 0))]) hE dX1_around_62 hl (k := 1) rfl (by decide) rfl (fun ls hl => ?_)
          refine lv_goto (tgt := 13) hE.1 hE.2 dX1_around_65 (by decide) ?_
          exact ih (pl + 1) fd (by omega) (by omega) (by omega) (by first | exact fl_hit (P := (fun k => ml k % 2 = 0 ∧ sa i < ut_ ea ev (ml k / 2))) (v := (fun k => ml k / 2)) g0 ⟨by omega, by omega⟩ | exact fl_miss (fun t => by have t1 := t.1; have t2 := t.2; omega) hfl) _ _ hh ls (lv_sub hl [0, 1, 2, 3, 4] rfl)
        · refine lv_aload_n hE.1 hE.2 dX1_around_31 rfl (lv_at hl 4 rfl) ?_
          refine lv_aload_n hE.1 hE.2 dX1_around_32 rfl (lv_at hl 4 rfl) ?_
          refine gM_line hE hX hown hK hh dX1_around_33 ?_
          refine lv_iload hE.1 hE.2 dX1_around_36 (lv_at hl 0 rfl) ?_
          refine rM_line hE hK hh ⟨by omega, by omega⟩ dX1_around_38 ?_
          refine zv_iconst hE dX1_around_39 ?_
          refine zv_half hE ⟨by omega, by omega⟩ dX1_around_40 ?_
          refine mc_call (rest := []) (As := [.int (zi_ ((ml pl) / 2))]) hE hml hown hX hA hK hh (kM_endOf l dC dI q cA mt mq mw ms ml mf mx mo mi mg th mn mh ev cu fr oo ((ml pl) / 2) sa ea hw (by omega) (by omega) (by first | assumption | omega)) (cwV 1 hX qM_endOf rfl rfl rfl (by decide +kernel) ⟨Nat.le_of_ble_eq_true rfl, Nat.le_of_ble_eq_true rfl⟩) rfl rfl hl.1 rfl (Nat.le_of_ble_eq_true rfl) dX1_around_41 ⟨Nat.zero_le _, Nat.zero_le _⟩ rfl (fun z_4 u H locs hq_3 hh => ?_)
          obtain ⟨rfl, rfl⟩ := hq_3
          refine lv_iload_n hE.1 hE.2 dX1_around_44 rfl (lv_at hl 2 rfl) ?_
          refine zv_icmp_le (tgt := 60) hE dX1_around_45 (by decide) ⟨by omega, by omega⟩ ⟨by omega, by omega⟩ (fun hc_5 => ?_) (fun hc_5 => ?_)
          · refine lv_iload_n hE.1 hE.2 dX1_around_60 rfl (lv_at hl 1 rfl) ?_
            refine lv_istore_n (lv' := [(3, .int (zi_ fd)), (4, .int (zi_ pl)), (2, .int (zi_ (sa i))), (1, .int (zi_ i)), (0, .ref (q 0))]) hE.1 hE.2 dX1_around_61 rfl hl (by decide) rfl (fun ls hl => ?_)
            refine zv_iinc (lv' := [(4, .int (zi_ (pl + 1))), (3, .int (zi_ fd)), (2, .int (zi_ (sa i))), (1, .int (zi_ i)), (0, .ref (q 0))]) hE dX1_around_62 hl (k := 1) rfl (by decide) rfl (fun ls hl => ?_)
            refine lv_goto (tgt := 13) hE.1 hE.2 dX1_around_65 (by decide) ?_
            exact ih (pl + 1) fd (by omega) (by omega) (by omega) (by first | exact fl_hit (P := (fun k => ml k % 2 = 0 ∧ sa i < ut_ ea ev (ml k / 2))) (v := (fun k => ml k / 2)) g0 ⟨by omega, by omega⟩ | exact fl_miss (fun t => by have t1 := t.1; have t2 := t.2; omega) hfl) _ _ hh ls (lv_sub hl [0, 1, 2, 3, 4] rfl)
          · refine lv_aload_n hE.1 hE.2 dX1_around_48 rfl (lv_at hl 4 rfl) ?_
            refine gM_line hE hX hown hK hh dX1_around_49 ?_
            refine lv_iload hE.1 hE.2 dX1_around_52 (lv_at hl 0 rfl) ?_
            refine rM_line hE hK hh ⟨by omega, by omega⟩ dX1_around_54 ?_
            refine zv_iconst hE dX1_around_55 ?_
            refine zv_half hE ⟨by omega, by omega⟩ dX1_around_56 ?_
            refine lv_goto (tgt := 61) hE.1 hE.2 dX1_around_57 (by decide) ?_
            refine lv_istore_n (lv' := [(3, .int (zi_ ((ml pl) / 2))), (4, .int (zi_ pl)), (2, .int (zi_ (sa i))), (1, .int (zi_ i)), (0, .ref (q 0))]) hE.1 hE.2 dX1_around_61 rfl hl (by decide) rfl (fun ls hl => ?_)
            refine zv_iinc (lv' := [(4, .int (zi_ (pl + 1))), (3, .int (zi_ ((ml pl) / 2))), (2, .int (zi_ (sa i))), (1, .int (zi_ i)), (0, .ref (q 0))]) hE dX1_around_62 hl (k := 1) rfl (by decide) rfl (fun ls hl => ?_)
            refine lv_goto (tgt := 13) hE.1 hE.2 dX1_around_65 (by decide) ?_
            exact ih (pl + 1) ((ml pl) / 2) (by omega) (by omega) (by omega) (by first | exact fl_hit (P := (fun k => ml k % 2 = 0 ∧ sa i < ut_ ea ev (ml k / 2))) (v := (fun k => ml k / 2)) g0 ⟨by omega, by omega⟩ | exact fl_miss (fun t => by have t1 := t.1; have t2 := t.2; omega) hfl) _ _ hh ls (lv_sub hl [0, 1, 2, 3, 4] rfl)
  refine lv_aload_n hE.1 hE.2 dX1_around_0 rfl (lv_at hl 0 rfl) ?_
  refine zv_iconst hE dX1_around_1 ?_
  refine lv_iload_n hE.1 hE.2 dX1_around_2 rfl (lv_at hl 1 rfl) ?_
  refine zv_imul hE dX1_around_3 ?_
  refine mc_call (rest := []) (As := [.int (zi_ (2 * i))]) hE hml hown hX hA hK hh (kM_find l dC dI q cA mt mq mw ms ml mf mx mo mi mg th mn mh ev cu fr oo (2 * i) (hw.1.1) (hw.1.2) (fun k x y => ⟨(hw.2.2.2 k x y).1, (hw.2.2.2 k x y).2.1⟩) (by exact ⟨by omega, by omega⟩)) (cwV 1 hX qM_find rfl rfl rfl (by decide +kernel) ⟨Nat.le_of_ble_eq_true rfl, Nat.le_of_ble_eq_true rfl⟩) rfl rfl hl.1 rfl (Nat.le_of_ble_eq_true rfl) dX1_around_4 ⟨Nat.zero_le _, Nat.zero_le _⟩ rfl (fun z_7 u H locs hq_6 hh => ?_)
  obtain ⟨rfl, hq_6⟩ := hq_6
  obtain rfl := fd_s hw (by omega) (by omega) hq_6
  refine lv_istore_n (lv' := [(2, .int (zi_ (sa i))), (0, .ref (q 0)), (1, .int (zi_ i))]) hE.1 hE.2 dX1_around_7 rfl hl (by decide) rfl (fun ls hl => ?_)
  refine zv_iconst hE dX1_around_8 ?_
  refine lv_istore_n (lv' := [(3, .int (zi_ (-1))), (2, .int (zi_ (sa i))), (0, .ref (q 0)), (1, .int (zi_ i))]) hE.1 hE.2 dX1_around_9 rfl hl (by decide) rfl (fun ls hl => ?_)
  refine zv_iconst hE dX1_around_10 ?_
  refine lv_istore (lv' := [(4, .int (zi_ 0)), (3, .int (zi_ (-1))), (2, .int (zi_ (sa i))), (0, .ref (q 0)), (1, .int (zi_ i))]) hE.1 hE.2 dX1_around_11 hl (by decide) rfl (fun ls hl => ?_)
  exact loop_13 1300 0 (-1) (by omega) (by omega) (by omega) fl_0 _ _ hh ls (lv_sub hl [0, 1, 2, 4, 3] rfl)
set_option maxHeartbeats 400000 in
set_option maxRecDepth 100000 in
theorem kM_sumOf (l : Launch) (dC : Nat → ClassId) (dI : Nat → Nat → Nat) (q : Nat → Nat) (cA : Nat → ClassId) (mt mq mw ms ml mf mx mo mi mg : Int → Int) (th mn mh ev cu fr oo : Int) (i : Int) (sa ea : Int → Int) (hw : pw_ sa ea ml ev) (h0 : 0 ≤ i) (h1 : i < 600) (hs : sa i ≠ -1) : mc_i l (dC, dI) vwCl (tM_ cA) (wM_ q cA) yX1_sumOf wsX1_sumOf ({ frames := 2, cells := 0, slots := 0, locals := 80 }) (mt, mq, mw, ms, ml, mf, mx, mo, mi, mg, th, mn, mh, ev, cu, fr, oo) [.ref (q 0), .int (zi_ i)] (fun (z : Int) (u : SM_) => u = (mt, mq, mw, ms, ml, mf, mx, mo, mi, mg, th, mn, mh, ev, cu, fr, oo) ∧ z = mw i + st_ (we_ ml mw) (sa i + 1) ((ut_ ea ev i) - (sa i + 1)).toNat) := by
  refine mc_i_of (cc := cX1_sumOf) (maxL := 4) (ret := (some .int)) (by decide) rfl (Nat.le_of_ble_eq_true rfl) ?_
  intro p e s m below meth c A ls hE hml hown hts hr hlk hA hK hh hl
  have hown : s.vm.findClass RX1 = some m.cls := hown
  have hX : ∀ w ∈ wsM_, w.before _ s = true := fun w h => hts w (List.mem_cons_of_mem _ h)
  have hl : lv_has ls 4 [(0, .ref (q 0)), (1, .int (zi_ i))] := hl
  have w1 := hw.1
  have w2 := hw.2.1 i h0 h1
  have w3 := hw.2.2.1 i h0 h1 hs
  have w5 := ut_rng hw h0 h1 hs
  have loop_17 : ∀ (n : Nat) (pl sm1 : Int), (sa i + 1 ≤ pl) → (pl ≤ (ut_ ea ev i)) → ((ut_ ea ev i) - pl < (n : Int)) → (sm1 = mw i + st_ (we_ ml mw) (sa i + 1) (pl - (sa i + 1)).toNat) → ∀ (H : Heap) (locs : List Loc), hp_ (dC, dI) vwCl A s.heap (wM_ q cA (mt, mq, mw, ms, ml, mf, mx, mo, mi, mg, th, mn, mh, ev, cu, fr, oo)) H locs → ∀ (ls : Array Slot), lv_has ls 4 [(3, .int (zi_ pl)), (2, .int (zi_ sm1)), (1, .int (zi_ i)), (0, .ref (q 0))] → W p l e ({ frames := 2, cells := 0, slots := 0, locals := 80 }) s m ([.ref (q 0), .int (zi_ i)] : List Value).toArray below meth c H locs 0 0 (MQ below (mc_Qi (dC, dI) vwCl (tM_ cA) (wM_ q cA) (fun (z : Int) (u : SM_) => u = (mt, mq, mw, ms, ml, mf, mx, mo, mi, mg, th, mn, mh, ev, cu, fr, oo) ∧ z = mw i + st_ (we_ ml mw) (sa i + 1) ((ut_ ea ev i) - (sa i + 1)).toNat) A) ([.ref (q 0), .int (zi_ i)] : List Value).toArray s 0 0 A) (F0 m 17 ls []) := by
    intro n
    induction n with
    | zero => intros; exfalso; omega
    | succ n ih =>
      intro pl sm1 g0 g1 hn hsum H locs hh ls hl
      refine lv_iload_n hE.1 hE.2 dX1_sumOf_17 rfl (lv_at hl 0 rfl) ?_
      refine lv_aload_n hE.1 hE.2 dX1_sumOf_18 rfl (lv_at hl 3 rfl) ?_
      refine lv_iload_n hE.1 hE.2 dX1_sumOf_19 rfl (lv_at hl 2 rfl) ?_
      refine mc_call (rest := [.int (zi_ pl)]) (As := [.int (zi_ i)]) hE hml hown hX hA hK hh (kM_endOf l dC dI q cA mt mq mw ms ml mf mx mo mi mg th mn mh ev cu fr oo i sa ea hw (by omega) (by omega) (by first | assumption | omega)) (cwV 1 hX qM_endOf rfl rfl rfl (by decide +kernel) ⟨Nat.le_of_ble_eq_true rfl, Nat.le_of_ble_eq_true rfl⟩) rfl rfl hl.1 rfl (Nat.le_of_ble_eq_true rfl) dX1_sumOf_20 ⟨Nat.zero_le _, Nat.zero_le _⟩ rfl (fun z_2 u H locs hq_1 hh => ?_)
      obtain ⟨rfl, rfl⟩ := hq_1
      refine zv_icmp_ge (tgt := 63) hE dX1_sumOf_23 (by decide) ⟨by omega, by omega⟩ ⟨by omega, by omega⟩ (fun hc_3 => ?_) (fun hc_3 => ?_)
      · refine lv_iload_n hE.1 hE.2 dX1_sumOf_63 rfl (lv_at hl 1 rfl) ?_
        refine mc_ret (u := (mt, mq, mw, ms, ml, mf, mx, mo, mi, mg, th, mn, mh, ev, cu, fr, oo)) hE hr hlk hK hh dX1_sumOf_64 ?_
        exact ⟨rfl, by rw [hsum, show pl = ut_ ea ev i by omega]⟩
      · refine lv_iload_n hE.1 hE.2 dX1_sumOf_26 rfl (lv_at hl 1 rfl) ?_
        refine lv_aload_n hE.1 hE.2 dX1_sumOf_27 rfl (lv_at hl 3 rfl) ?_
        refine gM_line hE hX hown hK hh dX1_sumOf_28 ?_
        refine lv_iload_n hE.1 hE.2 dX1_sumOf_31 rfl (lv_at hl 0 rfl) ?_
        have hx2 := hw.2.2.2 pl (by omega) (by omega)
        refine rM_line hE hK hh ⟨by omega, by omega⟩ dX1_sumOf_32 ?_
        refine zv_iconst hE dX1_sumOf_33 ?_
        refine zv_rem2 hE ⟨by omega, by omega⟩ dX1_sumOf_34 ?_
        refine zv_if_ne (tgt := 54) hE dX1_sumOf_35 (by decide) ⟨by omega, by omega⟩ (fun hc_4 => ?_) (fun hc_4 => ?_)
        · refine zv_iconst hE dX1_sumOf_54 ?_
          refine zv_iadd hE dX1_sumOf_55 ?_
          refine lv_istore_n (lv' := [(2, .int (zi_ (sm1 + 0))), (3, .int (zi_ pl)), (1, .int (zi_ i)), (0, .ref (q 0))]) hE.1 hE.2 dX1_sumOf_56 rfl hl (by decide) rfl (fun ls hl => ?_)
          refine zv_iinc (lv' := [(3, .int (zi_ (pl + 1))), (2, .int (zi_ (sm1 + 0))), (1, .int (zi_ i)), (0, .ref (q 0))]) hE dX1_sumOf_57 hl (k := 1) rfl (by decide) rfl (fun ls hl => ?_)
          refine lv_goto (tgt := 17) hE.1 hE.2 dX1_sumOf_60 (by decide) ?_
          exact ih (pl + 1) (sm1 + 0) (by omega) (by omega) (by omega) (by rw [st_go g0, hsum]; unfold we_; first | (rw [if_pos (by omega)]; omega) | (rw [if_neg (by omega)]; omega)) _ _ hh ls (lv_sub hl [0, 1, 2, 3] rfl)
        · refine lv_aload_n hE.1 hE.2 dX1_sumOf_38 rfl (lv_at hl 3 rfl) ?_
          refine gM_weights hE hX hown hK hh dX1_sumOf_39 ?_
          refine lv_aload_n hE.1 hE.2 dX1_sumOf_42 rfl (lv_at hl 3 rfl) ?_
          refine gM_line hE hX hown hK hh dX1_sumOf_43 ?_
          refine lv_iload_n hE.1 hE.2 dX1_sumOf_46 rfl (lv_at hl 0 rfl) ?_
          refine rM_line hE hK hh ⟨by omega, by omega⟩ dX1_sumOf_47 ?_
          refine zv_iconst hE dX1_sumOf_48 ?_
          refine zv_half hE ⟨by omega, by omega⟩ dX1_sumOf_49 ?_
          refine rM_weights hE hK hh ⟨by omega, by omega⟩ dX1_sumOf_50 ?_
          refine lv_goto (tgt := 55) hE.1 hE.2 dX1_sumOf_51 (by decide) ?_
          refine zv_iadd hE dX1_sumOf_55 ?_
          refine lv_istore_n (lv' := [(2, .int (zi_ (sm1 + (mw ((ml pl) / 2))))), (3, .int (zi_ pl)), (1, .int (zi_ i)), (0, .ref (q 0))]) hE.1 hE.2 dX1_sumOf_56 rfl hl (by decide) rfl (fun ls hl => ?_)
          refine zv_iinc (lv' := [(3, .int (zi_ (pl + 1))), (2, .int (zi_ (sm1 + (mw ((ml pl) / 2))))), (1, .int (zi_ i)), (0, .ref (q 0))]) hE dX1_sumOf_57 hl (k := 1) rfl (by decide) rfl (fun ls hl => ?_)
          refine lv_goto (tgt := 17) hE.1 hE.2 dX1_sumOf_60 (by decide) ?_
          exact ih (pl + 1) (sm1 + (mw ((ml pl) / 2))) (by omega) (by omega) (by omega) (by rw [st_go g0, hsum]; unfold we_; first | (rw [if_pos (by omega)]; omega) | (rw [if_neg (by omega)]; omega)) _ _ hh ls (lv_sub hl [0, 1, 2, 3] rfl)
  refine lv_aload_n hE.1 hE.2 dX1_sumOf_0 rfl (lv_at hl 0 rfl) ?_
  refine gM_weights hE hX hown hK hh dX1_sumOf_1 ?_
  refine lv_iload_n hE.1 hE.2 dX1_sumOf_4 rfl (lv_at hl 1 rfl) ?_
  refine rM_weights hE hK hh ⟨by omega, by omega⟩ dX1_sumOf_5 ?_
  refine lv_istore_n (lv' := [(2, .int (zi_ (mw i))), (0, .ref (q 0)), (1, .int (zi_ i))]) hE.1 hE.2 dX1_sumOf_6 rfl hl (by decide) rfl (fun ls hl => ?_)
  refine lv_aload_n hE.1 hE.2 dX1_sumOf_7 rfl (lv_at hl 1 rfl) ?_
  refine zv_iconst hE dX1_sumOf_8 ?_
  refine lv_iload_n hE.1 hE.2 dX1_sumOf_9 rfl (lv_at hl 2 rfl) ?_
  refine zv_imul hE dX1_sumOf_10 ?_
  refine mc_call (rest := []) (As := [.int (zi_ (2 * i))]) hE hml hown hX hA hK hh (kM_find l dC dI q cA mt mq mw ms ml mf mx mo mi mg th mn mh ev cu fr oo (2 * i) (hw.1.1) (hw.1.2) (fun k x y => ⟨(hw.2.2.2 k x y).1, (hw.2.2.2 k x y).2.1⟩) (by exact ⟨by omega, by omega⟩)) (cwV 1 hX qM_find rfl rfl rfl (by decide +kernel) ⟨Nat.le_of_ble_eq_true rfl, Nat.le_of_ble_eq_true rfl⟩) rfl rfl hl.1 rfl (Nat.le_of_ble_eq_true rfl) dX1_sumOf_11 ⟨Nat.zero_le _, Nat.zero_le _⟩ rfl (fun z_6 u H locs hq_5 hh => ?_)
  obtain ⟨rfl, hq_5⟩ := hq_5
  obtain rfl := fd_s hw (by omega) (by omega) hq_5
  refine zv_iconst hE dX1_sumOf_14 ?_
  refine zv_iadd hE dX1_sumOf_15 ?_
  refine lv_istore_n (lv' := [(3, .int (zi_ ((sa i) + 1))), (2, .int (zi_ (mw i))), (0, .ref (q 0)), (1, .int (zi_ i))]) hE.1 hE.2 dX1_sumOf_16 rfl hl (by decide) rfl (fun ls hl => ?_)
  exact loop_17 1300 (sa i + 1) (mw i) (by omega) (by omega) (by omega) (by rw [show (sa i + 1 - (sa i + 1)).toNat = 0 by omega]; show mw i = mw i + 0; omega) _ _ hh ls (lv_sub hl [0, 1, 3, 2] rfl)
