set_option maxHeartbeats 400000 in
set_option maxRecDepth 100000 in
theorem kM_done (l : Launch) (dC : Nat → ClassId) (dI : Nat → Nat → Nat) (q : Nat → Nat) (cA : Nat → ClassId) (mt mq mw ms ml mf mx mo mi mg : Int → Int) (th mn mh ev cu fr oo : Int) (sa ea : Int → Int) (hI : im_ sa ea mt mq mw ms ml mf mx mo mi mn mh ev cu fr oo) : mc_i l (dC, dI) vwCl (tM_ cA) (wM_ q cA) yX1_done wsX1_done ({ frames := 3, cells := 0, slots := 0, locals := 140 }) (mt, mq, mw, ms, ml, mf, mx, mo, mi, mg, th, mn, mh, ev, cu, fr, oo) [.ref (q 0)] (fun (z : Int) (u : SM_) => (z = -1 ∧ u = (mt, mq, mw, ms, ml, mf, mx, mo, mi, mg, 0, mn, mh, ev, cu, fr, oo) ∧ (fr = 1 ∨ (0 < oo ∧ mi (oo - 1) = fr - 1))) ∨ (1 < fr ∧ (oo ≤ 0 ∨ mi (oo - 1) ≠ fr - 1) ∧ z = mf (fr - 1) ∧ ((mx (fr - 1) = 0 ∧ ∃ (ml2 mg2 mt2 : Int → Int) (mn2 : Int), er_ sa ea ml ev cu (lm_ mf ea ev fr) (es_ sa ml cu (lm_ mf ea ev fr)) (ee_ ea ml cu (lm_ mf ea ev fr)) ml2 ∧ mt_ mt2 (es_ sa ml cu (lm_ mf ea ev fr)) ∧ mn2 = sg_ mt2 600 ∧ u = (mt2, mq, mw, ms, ml2, mf, mx, mo, mi, mg2, 0, mn2, mh, rz_ (gp_ ml cu (lm_ mf ea ev fr)) ev, ee_ ea ml cu (lm_ mf ea ev fr) (mf (fr - 1)) + 1, fr - 1, oo)) ∨ (mx (fr - 1) = 1 ∧ u = (mt, mq, mw, ms, ml, mf, mx, mo, mi, mg, 0, mn, mh, ev, ea (mf (fr - 1)) + 1, fr - 1, oo))))) := by
  refine mc_i_of (cc := cX1_done) (maxL := 2) (ret := (some .int)) (by decide) rfl (Nat.le_of_ble_eq_true rfl) ?_
  intro p e s m below meth c A ls hE hml hown hts hr hlk hA hK hh hl
  have hown : s.vm.findClass RX1 = some m.cls := hown
  have hX : ∀ w ∈ wsM_, w.before _ s = true := fun w h => hts w (List.mem_cons_of_mem _ h)
  have hl : lv_has ls 2 [(0, .ref (q 0))] := hl
  obtain ⟨hm0, hm1, hc1, hc2, hmi, hmo1, hx1b, hT, hlm, hmr⟩ := im_f hI
  obtain ⟨hw, hmt, hmn, hmn2, ⟨j0, hj0, hj1, hj2⟩, ⟨hf1, hf2, hm9⟩, hmf, hmx, ⟨hc0, hc3, hev, ho0, ho2⟩, hmo, hms, hmq, hmw, hmh, hl9⟩ := hI
  have ho1 : oo ≤ 600 := by omega
  refine lv_aload_n hE.1 hE.2 dX1_done_0 rfl (lv_at hl 0 rfl) ?_
  refine zv_iconst hE dX1_done_1 ?_
  refine pM_thrown hE hX hown hK hh dX1_done_2 (fun H locs hh => ?_)
  refine lv_aload_n hE.1 hE.2 dX1_done_5 rfl (lv_at hl 0 rfl) ?_
  refine gM_frames hE hX hown hK hh dX1_done_6 ?_
  refine zv_iconst hE dX1_done_9 ?_
  refine zv_icmp_eq (tgt := 20) hE dX1_done_10 (by decide) ⟨by omega, by omega⟩ ⟨by omega, by omega⟩ (fun hc_1 => ?_) (fun hc_1 => ?_)
  · refine zv_iconst hE dX1_done_20 ?_
    refine mc_ret (u := (mt, mq, mw, ms, ml, mf, mx, mo, mi, mg, 0, mn, mh, ev, cu, fr, oo)) hE hr hlk hK hh dX1_done_21 ?_
    first | exact Or.inl ⟨rfl, rfl, by omega⟩ | exact Or.inr ⟨by omega, by omega, rfl, Or.inl ⟨by omega, ml2, mg2, mt2, mn2, her, hmt2, hmn9, rfl⟩⟩ | exact Or.inr ⟨by omega, by omega, rfl, Or.inr ⟨by omega, rfl⟩⟩ | (exfalso; omega)
  · refine lv_aload_n hE.1 hE.2 dX1_done_13 rfl (lv_at hl 0 rfl) ?_
    refine mc_call (rest := []) (As := []) hE hml hown hX hA hK hh (kM_hasOpen l dC dI q cA mt mq mw ms ml mf mx mo mi mg 0 mn mh ev cu fr oo ho0 ho1 hf1 hf2 hmi) (cwV 0 hX qM_hasOpen rfl rfl rfl (by decide +kernel) ⟨Nat.le_of_ble_eq_true rfl, Nat.le_of_ble_eq_true rfl⟩) rfl rfl hl.1 rfl (Nat.le_of_ble_eq_true rfl) dX1_done_14 ⟨Nat.zero_le _, Nat.zero_le _⟩ rfl (fun z_3 u H locs hq_2 hh => ?_)
    obtain ⟨rfl, hq_2a, hq_2b⟩ := hq_2
    have hq_2z : zr_ z_3 := ⟨by omega, by omega⟩
    refine zv_if_eq (tgt := 22) hE dX1_done_17 (by decide) ⟨by omega, by omega⟩ (fun hc_4 => ?_) (fun hc_4 => ?_)
    · refine lv_aload_n hE.1 hE.2 dX1_done_22 rfl (lv_at hl 0 rfl) ?_
      refine gM_frameOf hE hX hown hK hh dX1_done_23 ?_
      refine lv_aload_n hE.1 hE.2 dX1_done_26 rfl (lv_at hl 0 rfl) ?_
      refine mc_call (rest := [.ref (q 6)]) (As := []) hE hml hown hX hA hK hh (kM_last l dC dI q cA mt mq mw ms ml mf mx mo mi mg 0 mn mh ev cu fr oo) (cwV 0 hX qM_last rfl rfl rfl (by decide +kernel) ⟨Nat.le_of_ble_eq_true rfl, Nat.le_of_ble_eq_true rfl⟩) rfl rfl hl.1 rfl (Nat.le_of_ble_eq_true rfl) dX1_done_27 ⟨Nat.zero_le _, Nat.zero_le _⟩ rfl (fun z_6 u H locs hq_5 hh => ?_)
      obtain ⟨rfl, rfl⟩ := hq_5
      have hx := hm1 (by omega)
      have hx3 := hx.2.2
      refine rM_frameOf hE hK hh ⟨by omega, by omega⟩ dX1_done_30 ?_
      refine lv_istore_n (lv' := [(1, .int (zi_ (mf (fr - 1)))), (0, .ref (q 0))]) hE.1 hE.2 dX1_done_31 rfl hl (by decide) rfl (fun ls hl => ?_)
      refine lv_aload_n hE.1 hE.2 dX1_done_32 rfl (lv_at hl 1 rfl) ?_
      refine gM_taken hE hX hown hK hh dX1_done_33 ?_
      refine lv_aload_n hE.1 hE.2 dX1_done_36 rfl (lv_at hl 1 rfl) ?_
      refine mc_call (rest := [.ref (q 7)]) (As := []) hE hml hown hX hA hK hh (kM_last l dC dI q cA mt mq mw ms ml mf mx mo mi mg 0 mn mh ev cu fr oo) (cwV 0 hX qM_last rfl rfl rfl (by decide +kernel) ⟨Nat.le_of_ble_eq_true rfl, Nat.le_of_ble_eq_true rfl⟩) rfl rfl hl.1 rfl (Nat.le_of_ble_eq_true rfl) dX1_done_37 ⟨Nat.zero_le _, Nat.zero_le _⟩ rfl (fun z_8 u H locs hq_7 hh => ?_)
      obtain ⟨rfl, rfl⟩ := hq_7
      refine rM_taken hE hK hh ⟨by omega, by omega⟩ dX1_done_40 ?_
      refine zv_if_ne (tgt := 56) hE dX1_done_41 (by decide) ⟨by omega, by omega⟩ (fun hc_9 => ?_) (fun hc_9 => ?_)
      · refine lv_aload_n hE.1 hE.2 dX1_done_56 rfl (lv_at hl 1 rfl) ?_
        refine lv_aload_n hE.1 hE.2 dX1_done_57 rfl (lv_at hl 1 rfl) ?_
        refine zv_iconst hE dX1_done_58 ?_
        refine lv_iload_n hE.1 hE.2 dX1_done_59 rfl (lv_at hl 0 rfl) ?_
        refine zv_imul hE dX1_done_60 ?_
        refine zv_iconst hE dX1_done_61 ?_
        refine zv_iadd hE dX1_done_62 ?_
        refine mc_call (rest := [.ref (q 0)]) (As := [.int (zi_ ((2 * (mf (fr - 1))) + 1))]) hE hml hown hX hA hK hh (kM_find l dC dI q cA mt mq mw ms ml mf mx mo mi mg 0 mn mh ev cu fr oo ((2 * (mf (fr - 1))) + 1) (hw.1.1) (hw.1.2) (fun k x y => ⟨(hw.2.2.2 k x y).1, (hw.2.2.2 k x y).2.1⟩) (by exact ⟨by omega, by omega⟩)) (cwV 1 hX qM_find rfl rfl rfl (by decide +kernel) ⟨Nat.le_of_ble_eq_true rfl, Nat.le_of_ble_eq_true rfl⟩) rfl rfl hl.1 rfl (Nat.le_of_ble_eq_true rfl) dX1_done_63 ⟨Nat.zero_le _, Nat.zero_le _⟩ rfl (fun z_11 u H locs hq_10 hh => ?_)
        obtain ⟨rfl, hq_10⟩ := hq_10
        obtain rfl := fd_e hw (by omega) (by omega) (by first | assumption | omega) hq_10
        refine zv_iconst hE dX1_done_66 ?_
        refine zv_iadd hE dX1_done_67 ?_
        refine pM_cursor hE hX hown hK hh dX1_done_68 (fun H locs hh => ?_)
        refine lv_aload_n hE.1 hE.2 dX1_done_71 rfl (lv_at hl 1 rfl) ?_
        refine lv_dup hE.1 hE.2 dX1_done_72 rfl ?_
        refine gM_frames hE hX hown hK hh dX1_done_73 ?_
        refine zv_iconst hE dX1_done_76 ?_
        refine zv_isub hE dX1_done_77 ?_
        refine pM_frames hE hX hown hK hh dX1_done_78 (fun H locs hh => ?_)
        refine lv_iload_n hE.1 hE.2 dX1_done_81 rfl (lv_at hl 0 rfl) ?_
        refine mc_ret (u := (mt, mq, mw, ms, ml, mf, mx, mo, mi, mg, 0, mn, mh, ev, (ea (mf (fr - 1))) + 1, fr - 1, oo)) hE hr hlk hK hh dX1_done_82 ?_
        first | exact Or.inl ⟨rfl, rfl, by omega⟩ | exact Or.inr ⟨by omega, by omega, rfl, Or.inl ⟨by omega, ml2, mg2, mt2, mn2, her, hmt2, hmn9, rfl⟩⟩ | exact Or.inr ⟨by omega, by omega, rfl, Or.inr ⟨by omega, rfl⟩⟩ | (exfalso; omega)
      · refine lv_aload_n hE.1 hE.2 dX1_done_44 rfl (lv_at hl 1 rfl) ?_
        refine lv_aload_n hE.1 hE.2 dX1_done_45 rfl (lv_at hl 1 rfl) ?_
        refine gM_cursor hE hX hown hK hh dX1_done_46 ?_
        refine lv_aload_n hE.1 hE.2 dX1_done_49 rfl (lv_at hl 1 rfl) ?_
        refine mc_call (rest := [.int (zi_ cu), .ref (q 0)]) (As := []) hE hml hown hX hA hK hh (kM_limit l dC dI q cA mt mq mw ms ml mf mx mo mi mg 0 mn mh ev cu fr oo sa ea hw hf1 hf2 hm0 hm1) (cwV 0 hX qM_limit rfl rfl rfl (by decide +kernel) ⟨Nat.le_of_ble_eq_true rfl, Nat.le_of_ble_eq_true rfl⟩) rfl rfl hl.1 rfl (Nat.le_of_ble_eq_true rfl) dX1_done_50 ⟨Nat.zero_le _, Nat.zero_le _⟩ rfl (fun z_13 u H locs hq_12 hh => ?_)
        obtain ⟨rfl, rfl⟩ := hq_12
        refine mc_callv (rest := []) (As := [.int (zi_ cu), .int (zi_ (lm_ mf ea ev fr))]) hE hml hown hX hA hK hh (kM_erase l dC dI q cA mt mq mw ms ml mf mx mo mi mg 0 mn mh ev cu fr oo cu (lm_ mf ea ev fr) sa ea hw hmt hmn (by omega) (by omega) (by omega) (by omega) (by omega)) (cwV 2 hX qM_erase rfl rfl rfl (by decide +kernel) ⟨Nat.le_of_ble_eq_true rfl, Nat.le_of_ble_eq_true rfl⟩) rfl rfl hl.1 rfl (Nat.le_of_ble_eq_true rfl) dX1_done_53 ⟨Nat.zero_le _, Nat.zero_le _⟩ rfl (fun u H locs hq_14 hh => ?_)
        obtain ⟨ml2, mg2, mt2, mn2, her, hmt2, hmn9, rfl⟩ := hq_14
        have hw2 := er_pw hw her
        have hes : es_ sa ml cu (lm_ mf ea ev fr) (mf (fr - 1)) ≠ -1 := by
          have t1 := hm1 (by omega)
          have t2 := hl9 (by omega)
          have t3 := hlm (by omega)
          have t4 : ¬ fg_ ml cu (lm_ mf ea ev fr) (mf (fr - 1)) := nfg_ hw hc0 hc2 (by omega) (by omega)
          have t5 := (her.2 (mf (fr - 1)) t1.1 t1.2.1).2 t1.2.2 t4
          have t6 := hw.2.1 (mf (fr - 1)) t1.1 t1.2.1
          have t7 := rz_nn (gp_ ml cu (lm_ mf ea ev fr)) (show 0 ≤ sa (mf (fr - 1)) by omega)
          rw [t5.1]
          omega
        refine lv_aload_n hE.1 hE.2 dX1_done_56 rfl (lv_at hl 1 rfl) ?_
        refine lv_aload_n hE.1 hE.2 dX1_done_57 rfl (lv_at hl 1 rfl) ?_
        refine zv_iconst hE dX1_done_58 ?_
        refine lv_iload_n hE.1 hE.2 dX1_done_59 rfl (lv_at hl 0 rfl) ?_
        refine zv_imul hE dX1_done_60 ?_
        refine zv_iconst hE dX1_done_61 ?_
        refine zv_iadd hE dX1_done_62 ?_
        refine mc_call (rest := [.ref (q 0)]) (As := [.int (zi_ ((2 * (mf (fr - 1))) + 1))]) hE hml hown hX hA hK hh (kM_find l dC dI q cA mt2 mq mw ms ml2 mf mx mo mi mg2 0 mn2 mh (rz_ (gp_ ml cu (lm_ mf ea ev fr)) ev) (rz_ (gp_ ml cu (lm_ mf ea ev fr)) cu) fr oo ((2 * (mf (fr - 1))) + 1) (hw2.1.1) (hw2.1.2) (fun k x y => ⟨(hw2.2.2.2 k x y).1, (hw2.2.2.2 k x y).2.1⟩) (by exact ⟨by omega, by omega⟩)) (cwV 1 hX qM_find rfl rfl rfl (by decide +kernel) ⟨Nat.le_of_ble_eq_true rfl, Nat.le_of_ble_eq_true rfl⟩) rfl rfl hl.1 rfl (Nat.le_of_ble_eq_true rfl) dX1_done_63 ⟨Nat.zero_le _, Nat.zero_le _⟩ rfl (fun z_17 u H locs hq_16 hh => ?_)
        obtain ⟨rfl, hq_16⟩ := hq_16
        obtain rfl := fd_e hw2 (by omega) (by omega) (by first | assumption | omega) hq_16
        refine zv_iconst hE dX1_done_66 ?_
        refine zv_iadd hE dX1_done_67 ?_
        refine pM_cursor hE hX hown hK hh dX1_done_68 (fun H locs hh => ?_)
        refine lv_aload_n hE.1 hE.2 dX1_done_71 rfl (lv_at hl 1 rfl) ?_
        refine lv_dup hE.1 hE.2 dX1_done_72 rfl ?_
        refine gM_frames hE hX hown hK hh dX1_done_73 ?_
        refine zv_iconst hE dX1_done_76 ?_
        refine zv_isub hE dX1_done_77 ?_
        refine pM_frames hE hX hown hK hh dX1_done_78 (fun H locs hh => ?_)
        refine lv_iload_n hE.1 hE.2 dX1_done_81 rfl (lv_at hl 0 rfl) ?_
        refine mc_ret (u := (mt2, mq, mw, ms, ml2, mf, mx, mo, mi, mg2, 0, mn2, mh, rz_ (gp_ ml cu (lm_ mf ea ev fr)) ev, ((ee_ ea ml cu (lm_ mf ea ev fr)) (mf (fr - 1))) + 1, fr - 1, oo)) hE hr hlk hK hh dX1_done_82 ?_
        first | exact Or.inl ⟨rfl, rfl, by omega⟩ | exact Or.inr ⟨by omega, by omega, rfl, Or.inl ⟨by omega, ml2, mg2, mt2, mn2, her, hmt2, hmn9, rfl⟩⟩ | exact Or.inr ⟨by omega, by omega, rfl, Or.inr ⟨by omega, rfl⟩⟩ | (exfalso; omega)
    · refine zv_iconst hE dX1_done_20 ?_
      refine mc_ret (u := (mt, mq, mw, ms, ml, mf, mx, mo, mi, mg, 0, mn, mh, ev, cu, fr, oo)) hE hr hlk hK hh dX1_done_21 ?_
      first | exact Or.inl ⟨rfl, rfl, by omega⟩ | exact Or.inr ⟨by omega, by omega, rfl, Or.inl ⟨by omega, ml2, mg2, mt2, mn2, her, hmt2, hmn9, rfl⟩⟩ | exact Or.inr ⟨by omega, by omega, rfl, Or.inr ⟨by omega, rfl⟩⟩ | (exfalso; omega)
set_option maxHeartbeats 400000 in
set_option maxRecDepth 100000 in
theorem kM_toEnd (l : Launch) (dC : Nat → ClassId) (dI : Nat → Nat → Nat) (q : Nat → Nat) (cA : Nat → ClassId) (mt mq mw ms ml mf mx mo mi mg : Int → Int) (th mn mh ev cu fr oo : Int) (sa ea : Int → Int) (hI : im_ sa ea mt mq mw ms ml mf mx mo mi mn mh ev cu fr oo) : mc_i l (dC, dI) vwCl (tM_ cA) (wM_ q cA) yX1_toEnd wsX1_toEnd ({ frames := 3, cells := 0, slots := 0, locals := 140 }) (mt, mq, mw, ms, ml, mf, mx, mo, mi, mg, th, mn, mh, ev, cu, fr, oo) [.ref (q 0)] (fun (z : Int) (u : SM_) => (z = 1 ∧ fr = 1 ∧ oo = 0 ∧ u = (mt, mq, mw, ms, ml, mf, mx, mo, mi, mg, 0, mn, mh, ev, ev, fr, oo)) ∨ (z = 0 ∧ (fr ≠ 1 ∨ oo ≠ 0) ∧ u = (mt, mq, mw, ms, ml, mf, mx, mo, mi, mg, 0, mn, mh, ev, cu, fr, oo))) := by
  refine mc_i_of (cc := cX1_toEnd) (maxL := 1) (ret := (some .boolean)) (by decide) rfl (Nat.le_of_ble_eq_true rfl) ?_
  intro p e s m below meth c A ls hE hml hown hts hr hlk hA hK hh hl
  have hown : s.vm.findClass RX1 = some m.cls := hown
  have hX : ∀ w ∈ wsM_, w.before _ s = true := fun w h => hts w (List.mem_cons_of_mem _ h)
  have hl : lv_has ls 1 [(0, .ref (q 0))] := hl
  obtain ⟨hm0, hm1, hc1, hc2, hmi, hmo1, hx1b, hT, hlm, hmr⟩ := im_f hI
  obtain ⟨hw, hmt, hmn, hmn2, ⟨j0, hj0, hj1, hj2⟩, ⟨hf1, hf2, hm9⟩, hmf, hmx, ⟨hc0, hc3, hev, ho0, ho2⟩, hmo, hms, hmq, hmw, hmh, hl9⟩ := hI
  have ho1 : oo ≤ 600 := by omega
  refine lv_aload_n hE.1 hE.2 dX1_toEnd_0 rfl (lv_at hl 0 rfl) ?_
  refine zv_iconst hE dX1_toEnd_1 ?_
  refine pM_thrown hE hX hown hK hh dX1_toEnd_2 (fun H locs hh => ?_)
  refine lv_aload_n hE.1 hE.2 dX1_toEnd_5 rfl (lv_at hl 0 rfl) ?_
  refine lv_aload_n hE.1 hE.2 dX1_toEnd_6 rfl (lv_at hl 0 rfl) ?_
  refine mc_call (rest := [.ref (q 0)]) (As := []) hE hml hown hX hA hK hh (kM_isFree l dC dI q cA mt mq mw ms ml mf mx mo mi mg 0 mn mh ev cu fr oo ho0 ho1 hf1 hf2) (cwV 0 hX qM_isFree rfl rfl rfl (by decide +kernel) ⟨Nat.le_of_ble_eq_true rfl, Nat.le_of_ble_eq_true rfl⟩) rfl rfl hl.1 rfl (Nat.le_of_ble_eq_true rfl) dX1_toEnd_7 ⟨Nat.zero_le _, Nat.zero_le _⟩ rfl (fun z_2 u H locs hq_1 hh => ?_)
  obtain ⟨rfl, hq_1a, hq_1b⟩ := hq_1
  have hq_1z : zr_ z_2 := ⟨by omega, by omega⟩
  refine zv_if_eq (tgt := 20) hE dX1_toEnd_10 (by decide) ⟨by omega, by omega⟩ (fun hc_3 => ?_) (fun hc_3 => ?_)
  · refine lv_aload_n hE.1 hE.2 dX1_toEnd_20 rfl (lv_at hl 0 rfl) ?_
    refine gM_cursor hE hX hown hK hh dX1_toEnd_21 ?_
    refine pM_cursor hE hX hown hK hh dX1_toEnd_24 (fun H locs hh => ?_)
    refine lv_aload_n hE.1 hE.2 dX1_toEnd_27 rfl (lv_at hl 0 rfl) ?_
    refine mc_call (rest := []) (As := []) hE hml hown hX hA hK hh (kM_isFree l dC dI q cA mt mq mw ms ml mf mx mo mi mg 0 mn mh ev cu fr oo ho0 ho1 hf1 hf2) (cwV 0 hX qM_isFree rfl rfl rfl (by decide +kernel) ⟨Nat.le_of_ble_eq_true rfl, Nat.le_of_ble_eq_true rfl⟩) rfl rfl hl.1 rfl (Nat.le_of_ble_eq_true rfl) dX1_toEnd_28 ⟨Nat.zero_le _, Nat.zero_le _⟩ rfl (fun z_5 u H locs hq_4 hh => ?_)
    obtain ⟨rfl, hq_4a, hq_4b⟩ := hq_4
    have hq_4z : zr_ z_5 := ⟨by omega, by omega⟩
    refine mc_retz (u := (mt, mq, mw, ms, ml, mf, mx, mo, mi, mg, 0, mn, mh, ev, cu, fr, oo)) hE hr hlk hK hh dX1_toEnd_31 (by first | exact Or.inl rfl | exact Or.inr rfl | assumption | (unfold zb_; omega)) ?_
    first | exact Or.inl ⟨by omega, by omega, by omega, rfl⟩ | exact Or.inr ⟨by omega, by omega, rfl⟩ | (exfalso; omega)
  · refine lv_aload_n hE.1 hE.2 dX1_toEnd_13 rfl (lv_at hl 0 rfl) ?_
    refine gM_events hE hX hown hK hh dX1_toEnd_14 ?_
    refine lv_goto (tgt := 24) hE.1 hE.2 dX1_toEnd_17 (by decide) ?_
    refine pM_cursor hE hX hown hK hh dX1_toEnd_24 (fun H locs hh => ?_)
    refine lv_aload_n hE.1 hE.2 dX1_toEnd_27 rfl (lv_at hl 0 rfl) ?_
    refine mc_call (rest := []) (As := []) hE hml hown hX hA hK hh (kM_isFree l dC dI q cA mt mq mw ms ml mf mx mo mi mg 0 mn mh ev ev fr oo ho0 ho1 hf1 hf2) (cwV 0 hX qM_isFree rfl rfl rfl (by decide +kernel) ⟨Nat.le_of_ble_eq_true rfl, Nat.le_of_ble_eq_true rfl⟩) rfl rfl hl.1 rfl (Nat.le_of_ble_eq_true rfl) dX1_toEnd_28 ⟨Nat.zero_le _, Nat.zero_le _⟩ rfl (fun z_7 u H locs hq_6 hh => ?_)
    obtain ⟨rfl, hq_6a, hq_6b⟩ := hq_6
    have hq_6z : zr_ z_7 := ⟨by omega, by omega⟩
    refine mc_retz (u := (mt, mq, mw, ms, ml, mf, mx, mo, mi, mg, 0, mn, mh, ev, ev, fr, oo)) hE hr hlk hK hh dX1_toEnd_31 (by first | exact Or.inl rfl | exact Or.inr rfl | assumption | (unfold zb_; omega)) ?_
    first | exact Or.inl ⟨by omega, by omega, by omega, rfl⟩ | exact Or.inr ⟨by omega, by omega, rfl⟩ | (exfalso; omega)
set_option maxHeartbeats 400000 in
set_option maxRecDepth 100000 in
theorem kM_toBegin (l : Launch) (dC : Nat → ClassId) (dI : Nat → Nat → Nat) (q : Nat → Nat) (cA : Nat → ClassId) (mt mq mw ms ml mf mx mo mi mg : Int → Int) (th mn mh ev cu fr oo : Int) (sa ea : Int → Int) (hI : im_ sa ea mt mq mw ms ml mf mx mo mi mn mh ev cu fr oo) : mc_i l (dC, dI) vwCl (tM_ cA) (wM_ q cA) yX1_toBegin wsX1_toBegin ({ frames := 3, cells := 0, slots := 0, locals := 140 }) (mt, mq, mw, ms, ml, mf, mx, mo, mi, mg, th, mn, mh, ev, cu, fr, oo) [.ref (q 0)] (fun (z : Int) (u : SM_) => (z = 1 ∧ fr = 1 ∧ oo = 0 ∧ u = (mt, mq, mw, ms, ml, mf, mx, mo, mi, mg, 0, mn, mh, ev, 0, fr, oo)) ∨ (z = 0 ∧ (fr ≠ 1 ∨ oo ≠ 0) ∧ u = (mt, mq, mw, ms, ml, mf, mx, mo, mi, mg, 0, mn, mh, ev, cu, fr, oo))) := by
  refine mc_i_of (cc := cX1_toBegin) (maxL := 1) (ret := (some .boolean)) (by decide) rfl (Nat.le_of_ble_eq_true rfl) ?_
  intro p e s m below meth c A ls hE hml hown hts hr hlk hA hK hh hl
  have hown : s.vm.findClass RX1 = some m.cls := hown
  have hX : ∀ w ∈ wsM_, w.before _ s = true := fun w h => hts w (List.mem_cons_of_mem _ h)
  have hl : lv_has ls 1 [(0, .ref (q 0))] := hl
  obtain ⟨hm0, hm1, hc1, hc2, hmi, hmo1, hx1b, hT, hlm, hmr⟩ := im_f hI
  obtain ⟨hw, hmt, hmn, hmn2, ⟨j0, hj0, hj1, hj2⟩, ⟨hf1, hf2, hm9⟩, hmf, hmx, ⟨hc0, hc3, hev, ho0, ho2⟩, hmo, hms, hmq, hmw, hmh, hl9⟩ := hI
  have ho1 : oo ≤ 600 := by omega
  refine lv_aload_n hE.1 hE.2 dX1_toBegin_0 rfl (lv_at hl 0 rfl) ?_
  refine zv_iconst hE dX1_toBegin_1 ?_
  refine pM_thrown hE hX hown hK hh dX1_toBegin_2 (fun H locs hh => ?_)
  refine lv_aload_n hE.1 hE.2 dX1_toBegin_5 rfl (lv_at hl 0 rfl) ?_
  refine lv_aload_n hE.1 hE.2 dX1_toBegin_6 rfl (lv_at hl 0 rfl) ?_
  refine mc_call (rest := [.ref (q 0)]) (As := []) hE hml hown hX hA hK hh (kM_isFree l dC dI q cA mt mq mw ms ml mf mx mo mi mg 0 mn mh ev cu fr oo ho0 ho1 hf1 hf2) (cwV 0 hX qM_isFree rfl rfl rfl (by decide +kernel) ⟨Nat.le_of_ble_eq_true rfl, Nat.le_of_ble_eq_true rfl⟩) rfl rfl hl.1 rfl (Nat.le_of_ble_eq_true rfl) dX1_toBegin_7 ⟨Nat.zero_le _, Nat.zero_le _⟩ rfl (fun z_2 u H locs hq_1 hh => ?_)
  obtain ⟨rfl, hq_1a, hq_1b⟩ := hq_1
  have hq_1z : zr_ z_2 := ⟨by omega, by omega⟩
  refine zv_if_eq (tgt := 17) hE dX1_toBegin_10 (by decide) ⟨by omega, by omega⟩ (fun hc_3 => ?_) (fun hc_3 => ?_)
  · refine lv_aload_n hE.1 hE.2 dX1_toBegin_17 rfl (lv_at hl 0 rfl) ?_
    refine gM_cursor hE hX hown hK hh dX1_toBegin_18 ?_
    refine pM_cursor hE hX hown hK hh dX1_toBegin_21 (fun H locs hh => ?_)
    refine lv_aload_n hE.1 hE.2 dX1_toBegin_24 rfl (lv_at hl 0 rfl) ?_
    refine mc_call (rest := []) (As := []) hE hml hown hX hA hK hh (kM_isFree l dC dI q cA mt mq mw ms ml mf mx mo mi mg 0 mn mh ev cu fr oo ho0 ho1 hf1 hf2) (cwV 0 hX qM_isFree rfl rfl rfl (by decide +kernel) ⟨Nat.le_of_ble_eq_true rfl, Nat.le_of_ble_eq_true rfl⟩) rfl rfl hl.1 rfl (Nat.le_of_ble_eq_true rfl) dX1_toBegin_25 ⟨Nat.zero_le _, Nat.zero_le _⟩ rfl (fun z_5 u H locs hq_4 hh => ?_)
    obtain ⟨rfl, hq_4a, hq_4b⟩ := hq_4
    have hq_4z : zr_ z_5 := ⟨by omega, by omega⟩
    refine mc_retz (u := (mt, mq, mw, ms, ml, mf, mx, mo, mi, mg, 0, mn, mh, ev, cu, fr, oo)) hE hr hlk hK hh dX1_toBegin_28 (by first | exact Or.inl rfl | exact Or.inr rfl | assumption | (unfold zb_; omega)) ?_
    first | exact Or.inl ⟨by omega, by omega, by omega, rfl⟩ | exact Or.inr ⟨by omega, by omega, rfl⟩ | (exfalso; omega)
  · refine zv_iconst hE dX1_toBegin_13 ?_
    refine lv_goto (tgt := 21) hE.1 hE.2 dX1_toBegin_14 (by decide) ?_
    refine pM_cursor hE hX hown hK hh dX1_toBegin_21 (fun H locs hh => ?_)
    refine lv_aload_n hE.1 hE.2 dX1_toBegin_24 rfl (lv_at hl 0 rfl) ?_
    refine mc_call (rest := []) (As := []) hE hml hown hX hA hK hh (kM_isFree l dC dI q cA mt mq mw ms ml mf mx mo mi mg 0 mn mh ev 0 fr oo ho0 ho1 hf1 hf2) (cwV 0 hX qM_isFree rfl rfl rfl (by decide +kernel) ⟨Nat.le_of_ble_eq_true rfl, Nat.le_of_ble_eq_true rfl⟩) rfl rfl hl.1 rfl (Nat.le_of_ble_eq_true rfl) dX1_toBegin_25 ⟨Nat.zero_le _, Nat.zero_le _⟩ rfl (fun z_7 u H locs hq_6 hh => ?_)
    obtain ⟨rfl, hq_6a, hq_6b⟩ := hq_6
    have hq_6z : zr_ z_7 := ⟨by omega, by omega⟩
    refine mc_retz (u := (mt, mq, mw, ms, ml, mf, mx, mo, mi, mg, 0, mn, mh, ev, 0, fr, oo)) hE hr hlk hK hh dX1_toBegin_28 (by first | exact Or.inl rfl | exact Or.inr rfl | assumption | (unfold zb_; omega)) ?_
    first | exact Or.inl ⟨by omega, by omega, by omega, rfl⟩ | exact Or.inr ⟨by omega, by omega, rfl⟩ | (exfalso; omega)
set_option maxHeartbeats 400000 in
set_option maxRecDepth 100000 in
theorem kM_wipe (l : Launch) (dC : Nat → ClassId) (dI : Nat → Nat → Nat) (q : Nat → Nat) (cA : Nat → ClassId) (mt mq mw ms ml mf mx mo mi mg : Int → Int) (th mn mh ev cu fr oo : Int)  : mc_v l (dC, dI) vwCl (tM_ cA) (wM_ q cA) yX1_wipe wsX1_wipe ({ frames := 0, cells := 0, slots := 0, locals := 0 }) (mt, mq, mw, ms, ml, mf, mx, mo, mi, mg, th, mn, mh, ev, cu, fr, oo) [.ref (q 0)] (fun (u : SM_) => ∃ mt1 : Int → Int, (∀ j : Int, 0 ≤ j → j < 600 → mt1 j = 0) ∧ u = (mt1, mq, mw, ms, ml, mf, mx, mo, mi, mg, 0, 0, 0, 0, 0, 1, 0)) := by
  refine mc_v_of (cc := cX1_wipe) (maxL := 2) (ret := none) (by decide) rfl (Nat.le_of_ble_eq_true rfl) ?_
  intro p e s m below meth c A ls hE hml hown hts hr hlk hA hK hh hl
  have hown : s.vm.findClass RX1 = some m.cls := hown
  have hX : ∀ w ∈ wsM_, w.before _ s = true := fun w h => hts w (List.mem_cons_of_mem _ h)
  have hl : lv_has ls 2 [(0, .ref (q 0))] := hl
  have loop_7 : ∀ (n : Nat) (i : Int) (mt1 : Int → Int), (0 ≤ i) → (i ≤ 600) → (600 - i < (n : Int)) → (∀ j : Int, 0 ≤ j → j < i → mt1 j = 0) → ∀ (H : Heap) (locs : List Loc), hp_ (dC, dI) vwCl A s.heap (wM_ q cA (mt1, mq, mw, ms, ml, mf, mx, mo, mi, mg, 0, mn, mh, ev, cu, fr, oo)) H locs → ∀ (ls : Array Slot), lv_has ls 2 [(1, .int (zi_ i)), (0, .ref (q 0))] → W p l e ({ frames := 0, cells := 0, slots := 0, locals := 0 }) s m ([.ref (q 0)] : List Value).toArray below meth c H locs 0 0 (MQ below (mc_Qv (dC, dI) vwCl (tM_ cA) (wM_ q cA) (fun (u : SM_) => ∃ mt1 : Int → Int, (∀ j : Int, 0 ≤ j → j < 600 → mt1 j = 0) ∧ u = (mt1, mq, mw, ms, ml, mf, mx, mo, mi, mg, 0, 0, 0, 0, 0, 1, 0)) A) ([.ref (q 0)] : List Value).toArray s 0 0 A) (F0 m 7 ls []) := by
    intro n
    induction n with
    | zero => intros; exfalso; omega
    | succ n ih =>
      intro i mt1 h0 h1 hn hj H locs hh ls hl
      refine lv_iload_n hE.1 hE.2 dX1_wipe_7 rfl (lv_at hl 0 rfl) ?_
      refine zv_sipush hE dX1_wipe_8 (by decide) ?_
      refine zv_icmp_ge (tgt := 27) hE dX1_wipe_11 (by decide) ⟨by omega, by omega⟩ ⟨by omega, by omega⟩ (fun hc_1 => ?_) (fun hc_1 => ?_)
      · refine lv_aload_n hE.1 hE.2 dX1_wipe_27 rfl (lv_at hl 1 rfl) ?_
        refine zv_iconst hE dX1_wipe_28 ?_
        refine pM_many hE hX hown hK hh dX1_wipe_29 (fun H locs hh => ?_)
        refine lv_aload_n hE.1 hE.2 dX1_wipe_32 rfl (lv_at hl 1 rfl) ?_
        refine zv_iconst hE dX1_wipe_33 ?_
        refine pM_whole hE hX hown hK hh dX1_wipe_34 (fun H locs hh => ?_)
        refine lv_aload_n hE.1 hE.2 dX1_wipe_37 rfl (lv_at hl 1 rfl) ?_
        refine zv_iconst hE dX1_wipe_38 ?_
        refine pM_events hE hX hown hK hh dX1_wipe_39 (fun H locs hh => ?_)
        refine lv_aload_n hE.1 hE.2 dX1_wipe_42 rfl (lv_at hl 1 rfl) ?_
        refine zv_iconst hE dX1_wipe_43 ?_
        refine pM_cursor hE hX hown hK hh dX1_wipe_44 (fun H locs hh => ?_)
        refine lv_aload_n hE.1 hE.2 dX1_wipe_47 rfl (lv_at hl 1 rfl) ?_
        refine zv_iconst hE dX1_wipe_48 ?_
        refine pM_frames hE hX hown hK hh dX1_wipe_49 (fun H locs hh => ?_)
        refine lv_aload_n hE.1 hE.2 dX1_wipe_52 rfl (lv_at hl 1 rfl) ?_
        refine zv_iconst hE dX1_wipe_53 ?_
        refine pM_opens hE hX hown hK hh dX1_wipe_54 (fun H locs hh => ?_)
        refine mc_retv (u := (mt1, mq, mw, ms, ml, mf, mx, mo, mi, mg, 0, 0, 0, 0, 0, 1, 0)) hE hr hlk hK hh dX1_wipe_57 ?_
        exact ⟨mt1, fun j a b => hj j a (by omega), rfl⟩
      · refine lv_aload_n hE.1 hE.2 dX1_wipe_14 rfl (lv_at hl 1 rfl) ?_
        refine gM_there hE hX hown hK hh dX1_wipe_15 ?_
        refine lv_iload_n hE.1 hE.2 dX1_wipe_18 rfl (lv_at hl 0 rfl) ?_
        refine zv_iconst hE dX1_wipe_19 ?_
        refine sM_there hE hK hh ⟨by omega, by omega⟩ (by first | exact Or.inl rfl | exact Or.inr rfl | assumption) dX1_wipe_20 (fun H locs hh => ?_)
        refine zv_iinc (lv' := [(1, .int (zi_ (i + 1))), (0, .ref (q 0))]) hE dX1_wipe_21 hl (k := 0) rfl (by decide) rfl (fun ls hl => ?_)
        refine lv_goto (tgt := 7) hE.1 hE.2 dX1_wipe_24 (by decide) ?_
        exact ih (i + 1) (up_ mt1 i 0) (by omega) (by omega) (by omega) (fun j x y => if hq : j = i then (by rw [hq]; exact up_s _ _ _) else (by rw [up_n hq]; exact hj j x (by omega))) _ _ hh ls (lv_sub hl [0, 1] rfl)
  refine lv_aload_n hE.1 hE.2 dX1_wipe_0 rfl (lv_at hl 0 rfl) ?_
  refine zv_iconst hE dX1_wipe_1 ?_
  refine pM_thrown hE hX hown hK hh dX1_wipe_2 (fun H locs hh => ?_)
  refine zv_iconst hE dX1_wipe_5 ?_
  refine lv_istore_n (lv' := [(1, .int (zi_ 0)), (0, .ref (q 0))]) hE.1 hE.2 dX1_wipe_6 rfl hl (by decide) rfl (fun ls hl => ?_)
  exact loop_7 601 0 mt (by omega) (by omega) (by omega) (fun j x y => by omega) _ _ hh ls (lv_sub hl [0, 1] rfl)
set_option maxHeartbeats 400000 in
set_option maxRecDepth 100000 in
theorem kM_event (l : Launch) (dC : Nat → ClassId) (dI : Nat → Nat → Nat) (q : Nat → Nat) (cA : Nat → ClassId) (mt mq mw ms ml mf mx mo mi mg : Int → Int) (th mn mh ev cu fr oo : Int) (k : Int) (sa ea : Int → Int) (hI : im_ sa ea mt mq mw ms ml mf mx mo mi mn mh ev cu fr oo) (hk9 : zr_ k) : mc_i l (dC, dI) vwCl (tM_ cA) (wM_ q cA) yX1_event wsX1_event ({ frames := 3, cells := 0, slots := 0, locals := 140 }) (mt, mq, mw, ms, ml, mf, mx, mo, mi, mg, th, mn, mh, ev, cu, fr, oo) [.ref (q 0), .int (zi_ k)] (fun (z : Int) (u : SM_) => u = (mt, mq, mw, ms, ml, mf, mx, mo, mi, mg, 0, mn, mh, ev, cu, fr, oo) ∧ ((0 ≤ k ∧ k < ev ∧ z = ml k) ∨ ((k < 0 ∨ ev ≤ k) ∧ z = -1))) := by
  refine mc_i_of (cc := cX1_event) (maxL := 2) (ret := (some .int)) (by decide) rfl (Nat.le_of_ble_eq_true rfl) ?_
  intro p e s m below meth c A ls hE hml hown hts hr hlk hA hK hh hl
  have hown : s.vm.findClass RX1 = some m.cls := hown
  have hX : ∀ w ∈ wsM_, w.before _ s = true := fun w h => hts w (List.mem_cons_of_mem _ h)
  have hl : lv_has ls 2 [(0, .ref (q 0)), (1, .int (zi_ k))] := hl
  obtain ⟨hm0, hm1, hc1, hc2, hmi, hmo1, hx1b, hT, hlm, hmr⟩ := im_f hI
  obtain ⟨hw, hmt, hmn, hmn2, ⟨j0, hj0, hj1, hj2⟩, ⟨hf1, hf2, hm9⟩, hmf, hmx, ⟨hc0, hc3, hev, ho0, ho2⟩, hmo, hms, hmq, hmw, hmh, hl9⟩ := hI
  have ho1 : oo ≤ 600 := by omega
  refine lv_aload_n hE.1 hE.2 dX1_event_0 rfl (lv_at hl 0 rfl) ?_
  refine zv_iconst hE dX1_event_1 ?_
  refine pM_thrown hE hX hown hK hh dX1_event_2 (fun H locs hh => ?_)
  refine lv_iload_n hE.1 hE.2 dX1_event_5 rfl (lv_at hl 1 rfl) ?_
  refine zv_if_lt (tgt := 17) hE dX1_event_6 (by decide) ⟨by omega, by omega⟩ (fun hc_1 => ?_) (fun hc_1 => ?_)
  · refine zv_iconst hE dX1_event_17 ?_
    refine lv_goto (tgt := 27) hE.1 hE.2 dX1_event_18 (by decide) ?_
    refine mc_ret (u := (mt, mq, mw, ms, ml, mf, mx, mo, mi, mg, 0, mn, mh, ev, cu, fr, oo)) hE hr hlk hK hh dX1_event_27 ?_
    exact ⟨rfl, by omega⟩
  · refine lv_iload_n hE.1 hE.2 dX1_event_9 rfl (lv_at hl 1 rfl) ?_
    refine lv_aload_n hE.1 hE.2 dX1_event_10 rfl (lv_at hl 0 rfl) ?_
    refine gM_events hE hX hown hK hh dX1_event_11 ?_
    refine zv_icmp_lt (tgt := 21) hE dX1_event_14 (by decide) ⟨by omega, by omega⟩ ⟨by omega, by omega⟩ (fun hc_2 => ?_) (fun hc_2 => ?_)
    · refine lv_aload_n hE.1 hE.2 dX1_event_21 rfl (lv_at hl 0 rfl) ?_
      refine gM_line hE hX hown hK hh dX1_event_22 ?_
      refine lv_iload_n hE.1 hE.2 dX1_event_25 rfl (lv_at hl 1 rfl) ?_
      refine rM_line hE hK hh ⟨by omega, by omega⟩ dX1_event_26 ?_
      refine mc_ret (u := (mt, mq, mw, ms, ml, mf, mx, mo, mi, mg, 0, mn, mh, ev, cu, fr, oo)) hE hr hlk hK hh dX1_event_27 ?_
      exact ⟨rfl, by omega⟩
    · refine zv_iconst hE dX1_event_17 ?_
      refine lv_goto (tgt := 27) hE.1 hE.2 dX1_event_18 (by decide) ?_
      refine mc_ret (u := (mt, mq, mw, ms, ml, mf, mx, mo, mi, mg, 0, mn, mh, ev, cu, fr, oo)) hE hr hlk hK hh dX1_event_27 ?_
      exact ⟨rfl, by omega⟩
set_option maxHeartbeats 400000 in
set_option maxRecDepth 100000 in
theorem kM_look (l : Launch) (dC : Nat → ClassId) (dI : Nat → Nat → Nat) (q : Nat → Nat) (cA : Nat → ClassId) (mt mq mw ms ml mf mx mo mi mg : Int → Int) (th mn mh ev cu fr oo : Int) (wh : Int) (sa ea : Int → Int) (hI : im_ sa ea mt mq mw ms ml mf mx mo mi mn mh ev cu fr oo) (hk9 : zr_ wh) : mc_i l (dC, dI) vwCl (tM_ cA) (wM_ q cA) yX1_look wsX1_look ({ frames := 3, cells := 0, slots := 0, locals := 140 }) (mt, mq, mw, ms, ml, mf, mx, mo, mi, mg, th, mn, mh, ev, cu, fr, oo) [.ref (q 0), .int (zi_ wh)] (fun (z : Int) (u : SM_) => u = (mt, mq, mw, ms, ml, mf, mx, mo, mi, mg, 0, mn, mh, ev, cu, fr, oo) ∧ (wh = 0 → z = mn) ∧ (wh = 1 → z = ev) ∧ (wh = 2 → z = cu) ∧ (wh = 3 → z = fr) ∧ (wh = 4 → z = mh + sg_ (cw_ sa mw) 600) ∧ (wh = 5 → z = sg_ (cw_ sa ms) 600) ∧ (wh = 6 → z = mf (fr - 1)) ∧ (wh = 7 → (0 < oo ∧ mi (oo - 1) = fr - 1 → z = mo (oo - 1)) ∧ ((oo ≤ 0 ∨ mi (oo - 1) ≠ fr - 1) → z = -1)) ∧ (wh = 8 → (fr = 1 → z = 0) ∧ (1 < fr → z = 1 + mx (fr - 1))) ∧ (wh = 9 → z = (lm_ mf ea ev fr) - cu) ∧ (wh < 0 ∨ 9 < wh → z = -1)) := by
  refine mc_i_of (cc := cX1_look) (maxL := 4) (ret := (some .int)) (by decide) rfl (Nat.le_of_ble_eq_true rfl) ?_
  intro p e s m below meth c A ls hE hml hown hts hr hlk hA hK hh hl
  have hown : s.vm.findClass RX1 = some m.cls := hown
  have hX : ∀ w ∈ wsM_, w.before _ s = true := fun w h => hts w (List.mem_cons_of_mem _ h)
  have hl : lv_has ls 4 [(0, .ref (q 0)), (1, .int (zi_ wh))] := hl
  obtain ⟨hm0, hm1, hc1, hc2, hmi, hmo1, hx1b, hT, hlm, hmr⟩ := im_f hI
  obtain ⟨hw, hmt, hmn, hmn2, ⟨j0, hj0, hj1, hj2⟩, ⟨hf1, hf2, hm9⟩, hmf, hmx, ⟨hc0, hc3, hev, ho0, ho2⟩, hmo, hms, hmq, hmw, hmh, hl9⟩ := hI
  have ho1 : oo ≤ 600 := by omega
  have loop_9 : ∀ (n : Nat) (i sm1 : Int), (0 ≤ i) → (i ≤ 600) → (600 - i < (n : Int)) → (sm1 = sg_ (cw_ sa ms) i.toNat) → ∀ (H : Heap) (locs : List Loc), hp_ (dC, dI) vwCl A s.heap (wM_ q cA (mt, mq, mw, ms, ml, mf, mx, mo, mi, mg, 0, mn, mh, ev, cu, fr, oo)) H locs → ∀ (ls : Array Slot), lv_has ls 4 [(3, .int (zi_ i)), (2, .int (zi_ sm1)), (1, .int (zi_ wh)), (0, .ref (q 0))] → W p l e ({ frames := 3, cells := 0, slots := 0, locals := 140 }) s m ([.ref (q 0), .int (zi_ wh)] : List Value).toArray below meth c H locs 0 0 (MQ below (mc_Qi (dC, dI) vwCl (tM_ cA) (wM_ q cA) (fun (z : Int) (u : SM_) => u = (mt, mq, mw, ms, ml, mf, mx, mo, mi, mg, 0, mn, mh, ev, cu, fr, oo) ∧ (wh = 0 → z = mn) ∧ (wh = 1 → z = ev) ∧ (wh = 2 → z = cu) ∧ (wh = 3 → z = fr) ∧ (wh = 4 → z = mh + sg_ (cw_ sa mw) 600) ∧ (wh = 5 → z = sg_ (cw_ sa ms) 600) ∧ (wh = 6 → z = mf (fr - 1)) ∧ (wh = 7 → (0 < oo ∧ mi (oo - 1) = fr - 1 → z = mo (oo - 1)) ∧ ((oo ≤ 0 ∨ mi (oo - 1) ≠ fr - 1) → z = -1)) ∧ (wh = 8 → (fr = 1 → z = 0) ∧ (1 < fr → z = 1 + mx (fr - 1))) ∧ (wh = 9 → z = (lm_ mf ea ev fr) - cu) ∧ (wh < 0 ∨ 9 < wh → z = -1)) A) ([.ref (q 0), .int (zi_ wh)] : List Value).toArray s 0 0 A) (F0 m 9 ls []) := by
    intro n
    induction n with
    | zero => intros; exfalso; omega
    | succ n ih =>
      intro i sm1 h0 h1 hn hsum H locs hh ls hl
      have hs9 : i = 600 → sm1 = sg_ (cw_ sa ms) 600 := fun t => by rw [hsum, t]; rfl
      refine lv_iload_n hE.1 hE.2 dX1_look_9 rfl (lv_at hl 0 rfl) ?_
      refine zv_sipush hE dX1_look_10 (by decide) ?_
      refine zv_icmp_ge (tgt := 48) hE dX1_look_13 (by decide) ⟨by omega, by omega⟩ ⟨by omega, by omega⟩ (fun hc_1 => ?_) (fun hc_1 => ?_)
      · refine lv_iload_n hE.1 hE.2 dX1_look_48 rfl (lv_at hl 2 rfl) ?_
        rcases (show wh = 0 ∨ wh = 1 ∨ wh = 2 ∨ wh = 3 ∨ wh = 4 ∨ wh = 5 ∨ wh = 6 ∨ wh = 7 ∨ wh = 8 ∨ wh = 9 ∨ (wh < 0 ∨ 9 < wh) by omega) with hsw | hsw | hsw | hsw | hsw | hsw | hsw | hsw | hsw | hsw | hsw
        · subst hsw
          refine zv_tblIn (tgt := 104) hE dX1_look_49 ⟨by decide, by decide⟩ (by decide) (by decide) rfl (by decide) ?_
          refine lv_aload_n hE.1 hE.2 dX1_look_104 rfl (lv_at hl 3 rfl) ?_
          refine gM_many hE hX hown hK hh dX1_look_105 ?_
          refine mc_ret (u := (mt, mq, mw, ms, ml, mf, mx, mo, mi, mg, 0, mn, mh, ev, cu, fr, oo)) hE hr hlk hK hh dX1_look_108 ?_
          exact ⟨rfl, by omega, by omega, by omega, by omega, by omega, by omega, by omega, by omega, by omega, by omega, by omega⟩
        · subst hsw
          refine zv_tblIn (tgt := 109) hE dX1_look_49 ⟨by decide, by decide⟩ (by decide) (by decide) rfl (by decide) ?_
          refine lv_aload_n hE.1 hE.2 dX1_look_109 rfl (lv_at hl 3 rfl) ?_
          refine gM_events hE hX hown hK hh dX1_look_110 ?_
          refine mc_ret (u := (mt, mq, mw, ms, ml, mf, mx, mo, mi, mg, 0, mn, mh, ev, cu, fr, oo)) hE hr hlk hK hh dX1_look_113 ?_
          exact ⟨rfl, by omega, by omega, by omega, by omega, by omega, by omega, by omega, by omega, by omega, by omega, by omega⟩
        · subst hsw
          refine zv_tblIn (tgt := 114) hE dX1_look_49 ⟨by decide, by decide⟩ (by decide) (by decide) rfl (by decide) ?_
          refine lv_aload_n hE.1 hE.2 dX1_look_114 rfl (lv_at hl 3 rfl) ?_
          refine gM_cursor hE hX hown hK hh dX1_look_115 ?_
          refine mc_ret (u := (mt, mq, mw, ms, ml, mf, mx, mo, mi, mg, 0, mn, mh, ev, cu, fr, oo)) hE hr hlk hK hh dX1_look_118 ?_
          exact ⟨rfl, by omega, by omega, by omega, by omega, by omega, by omega, by omega, by omega, by omega, by omega, by omega⟩
        · subst hsw
          refine zv_tblIn (tgt := 119) hE dX1_look_49 ⟨by decide, by decide⟩ (by decide) (by decide) rfl (by decide) ?_
          refine lv_aload_n hE.1 hE.2 dX1_look_119 rfl (lv_at hl 3 rfl) ?_
          refine gM_frames hE hX hown hK hh dX1_look_120 ?_
          refine mc_ret (u := (mt, mq, mw, ms, ml, mf, mx, mo, mi, mg, 0, mn, mh, ev, cu, fr, oo)) hE hr hlk hK hh dX1_look_123 ?_
          exact ⟨rfl, by omega, by omega, by omega, by omega, by omega, by omega, by omega, by omega, by omega, by omega, by omega⟩
        · subst hsw
          refine zv_tblIn (tgt := 124) hE dX1_look_49 ⟨by decide, by decide⟩ (by decide) (by decide) rfl (by decide) ?_
          refine lv_aload_n hE.1 hE.2 dX1_look_124 rfl (lv_at hl 3 rfl) ?_
          refine mc_calll (rest := []) (As := []) hE hml hown hX hA hK hh (kM_allWeights l dC dI q cA mt mq mw ms ml mf mx mo mi mg 0 mn mh ev cu fr oo sa hmt hmh hmw) (cwV 0 hX qM_allWeights rfl rfl rfl (by decide +kernel) ⟨Nat.le_of_ble_eq_true rfl, Nat.le_of_ble_eq_true rfl⟩) rfl rfl hl.1 rfl (Nat.le_of_ble_eq_true rfl) dX1_look_125 ⟨Nat.zero_le _, Nat.zero_le _⟩ rfl (fun z_3 u H locs hq_2 hh => ?_)
          obtain ⟨rfl, rfl⟩ := hq_2
          refine zv_l2i hE dX1_look_128 ?_
          refine mc_ret (u := (mt, mq, mw, ms, ml, mf, mx, mo, mi, mg, 0, mn, mh, ev, cu, fr, oo)) hE hr hlk hK hh dX1_look_129 ?_
          exact ⟨rfl, by omega, by omega, by omega, by omega, by omega, by omega, by omega, by omega, by omega, by omega, by omega⟩
        · subst hsw
          refine zv_tblIn (tgt := 130) hE dX1_look_49 ⟨by decide, by decide⟩ (by decide) (by decide) rfl (by decide) ?_
          refine lv_iload_n hE.1 hE.2 dX1_look_130 rfl (lv_at hl 1 rfl) ?_
          refine mc_ret (u := (mt, mq, mw, ms, ml, mf, mx, mo, mi, mg, 0, mn, mh, ev, cu, fr, oo)) hE hr hlk hK hh dX1_look_131 ?_
          exact ⟨rfl, by omega, by omega, by omega, by omega, by omega, by omega, by omega, by omega, by omega, by omega, by omega⟩
        · subst hsw
          refine zv_tblIn (tgt := 132) hE dX1_look_49 ⟨by decide, by decide⟩ (by decide) (by decide) rfl (by decide) ?_
          refine lv_aload_n hE.1 hE.2 dX1_look_132 rfl (lv_at hl 3 rfl) ?_
          refine gM_frameOf hE hX hown hK hh dX1_look_133 ?_
          refine lv_aload_n hE.1 hE.2 dX1_look_136 rfl (lv_at hl 3 rfl) ?_
          refine mc_call (rest := [.ref (q 6)]) (As := []) hE hml hown hX hA hK hh (kM_last l dC dI q cA mt mq mw ms ml mf mx mo mi mg 0 mn mh ev cu fr oo) (cwV 0 hX qM_last rfl rfl rfl (by decide +kernel) ⟨Nat.le_of_ble_eq_true rfl, Nat.le_of_ble_eq_true rfl⟩) rfl rfl hl.1 rfl (Nat.le_of_ble_eq_true rfl) dX1_look_137 ⟨Nat.zero_le _, Nat.zero_le _⟩ rfl (fun z_5 u H locs hq_4 hh => ?_)
          obtain ⟨rfl, rfl⟩ := hq_4
          refine rM_frameOf hE hK hh ⟨by omega, by omega⟩ dX1_look_140 ?_
          refine mc_ret (u := (mt, mq, mw, ms, ml, mf, mx, mo, mi, mg, 0, mn, mh, ev, cu, fr, oo)) hE hr hlk hK hh dX1_look_141 ?_
          exact ⟨rfl, by omega, by omega, by omega, by omega, by omega, by omega, by omega, by omega, by omega, by omega, by omega⟩
        · subst hsw
          refine zv_tblIn (tgt := 142) hE dX1_look_49 ⟨by decide, by decide⟩ (by decide) (by decide) rfl (by decide) ?_
          refine lv_aload_n hE.1 hE.2 dX1_look_142 rfl (lv_at hl 3 rfl) ?_
          refine mc_call (rest := []) (As := []) hE hml hown hX hA hK hh (kM_hasOpen l dC dI q cA mt mq mw ms ml mf mx mo mi mg 0 mn mh ev cu fr oo ho0 ho1 hf1 hf2 hmi) (cwV 0 hX qM_hasOpen rfl rfl rfl (by decide +kernel) ⟨Nat.le_of_ble_eq_true rfl, Nat.le_of_ble_eq_true rfl⟩) rfl rfl hl.1 rfl (Nat.le_of_ble_eq_true rfl) dX1_look_143 ⟨Nat.zero_le _, Nat.zero_le _⟩ rfl (fun z_7 u H locs hq_6 hh => ?_)
          obtain ⟨rfl, hq_6a, hq_6b⟩ := hq_6
          have hq_6z : zr_ z_7 := ⟨by omega, by omega⟩
          refine zv_if_eq (tgt := 163) hE dX1_look_146 (by decide) ⟨by omega, by omega⟩ (fun hc_8 => ?_) (fun hc_8 => ?_)
          · refine zv_iconst hE dX1_look_163 ?_
            refine mc_ret (u := (mt, mq, mw, ms, ml, mf, mx, mo, mi, mg, 0, mn, mh, ev, cu, fr, oo)) hE hr hlk hK hh dX1_look_164 ?_
            exact ⟨rfl, by omega, by omega, by omega, by omega, by omega, by omega, by omega, by omega, by omega, by omega, by omega⟩
          · refine lv_aload_n hE.1 hE.2 dX1_look_149 rfl (lv_at hl 3 rfl) ?_
            refine gM_open hE hX hown hK hh dX1_look_150 ?_
            refine lv_aload_n hE.1 hE.2 dX1_look_153 rfl (lv_at hl 3 rfl) ?_
            refine gM_opens hE hX hown hK hh dX1_look_154 ?_
            refine zv_iconst hE dX1_look_157 ?_
            refine zv_isub hE dX1_look_158 ?_
            refine rM_open hE hK hh ⟨by omega, by omega⟩ dX1_look_159 ?_
            refine lv_goto (tgt := 164) hE.1 hE.2 dX1_look_160 (by decide) ?_
            refine mc_ret (u := (mt, mq, mw, ms, ml, mf, mx, mo, mi, mg, 0, mn, mh, ev, cu, fr, oo)) hE hr hlk hK hh dX1_look_164 ?_
            exact ⟨rfl, by omega, by omega, by omega, by omega, by omega, by omega, by omega, by omega, by omega, by omega, by omega⟩
        · subst hsw
          refine zv_tblIn (tgt := 165) hE dX1_look_49 ⟨by decide, by decide⟩ (by decide) (by decide) rfl (by decide) ?_
          refine lv_aload_n hE.1 hE.2 dX1_look_165 rfl (lv_at hl 3 rfl) ?_
          refine gM_frames hE hX hown hK hh dX1_look_166 ?_
          refine zv_iconst hE dX1_look_169 ?_
          refine zv_icmp_ne (tgt := 177) hE dX1_look_170 (by decide) ⟨by omega, by omega⟩ ⟨by omega, by omega⟩ (fun hc_9 => ?_) (fun hc_9 => ?_)
          · refine lv_aload_n hE.1 hE.2 dX1_look_177 rfl (lv_at hl 3 rfl) ?_
            refine gM_taken hE hX hown hK hh dX1_look_178 ?_
            refine lv_aload_n hE.1 hE.2 dX1_look_181 rfl (lv_at hl 3 rfl) ?_
            refine mc_call (rest := [.ref (q 7)]) (As := []) hE hml hown hX hA hK hh (kM_last l dC dI q cA mt mq mw ms ml mf mx mo mi mg 0 mn mh ev cu fr oo) (cwV 0 hX qM_last rfl rfl rfl (by decide +kernel) ⟨Nat.le_of_ble_eq_true rfl, Nat.le_of_ble_eq_true rfl⟩) rfl rfl hl.1 rfl (Nat.le_of_ble_eq_true rfl) dX1_look_182 ⟨Nat.zero_le _, Nat.zero_le _⟩ rfl (fun z_11 u H locs hq_10 hh => ?_)
            obtain ⟨rfl, rfl⟩ := hq_10
            refine rM_taken hE hK hh ⟨by omega, by omega⟩ dX1_look_185 ?_
            refine zv_if_eq (tgt := 193) hE dX1_look_186 (by decide) ⟨by omega, by omega⟩ (fun hc_12 => ?_) (fun hc_12 => ?_)
            · refine zv_iconst hE dX1_look_193 ?_
              refine mc_ret (u := (mt, mq, mw, ms, ml, mf, mx, mo, mi, mg, 0, mn, mh, ev, cu, fr, oo)) hE hr hlk hK hh dX1_look_194 ?_
              exact ⟨rfl, by omega, by omega, by omega, by omega, by omega, by omega, by omega, by omega, by omega, by omega, by omega⟩
            · refine zv_iconst hE dX1_look_189 ?_
              refine lv_goto (tgt := 194) hE.1 hE.2 dX1_look_190 (by decide) ?_
              refine mc_ret (u := (mt, mq, mw, ms, ml, mf, mx, mo, mi, mg, 0, mn, mh, ev, cu, fr, oo)) hE hr hlk hK hh dX1_look_194 ?_
              exact ⟨rfl, by omega, by omega, by omega, by omega, by omega, by omega, by omega, by omega, by omega, by omega, by omega⟩
          · refine zv_iconst hE dX1_look_173 ?_
            refine lv_goto (tgt := 194) hE.1 hE.2 dX1_look_174 (by decide) ?_
            refine mc_ret (u := (mt, mq, mw, ms, ml, mf, mx, mo, mi, mg, 0, mn, mh, ev, cu, fr, oo)) hE hr hlk hK hh dX1_look_194 ?_
            exact ⟨rfl, by omega, by omega, by omega, by omega, by omega, by omega, by omega, by omega, by omega, by omega, by omega⟩
        · subst hsw
          refine zv_tblIn (tgt := 195) hE dX1_look_49 ⟨by decide, by decide⟩ (by decide) (by decide) rfl (by decide) ?_
          refine lv_aload_n hE.1 hE.2 dX1_look_195 rfl (lv_at hl 3 rfl) ?_
          refine mc_call (rest := []) (As := []) hE hml hown hX hA hK hh (kM_limit l dC dI q cA mt mq mw ms ml mf mx mo mi mg 0 mn mh ev cu fr oo sa ea hw hf1 hf2 hm0 hm1) (cwV 0 hX qM_limit rfl rfl rfl (by decide +kernel) ⟨Nat.le_of_ble_eq_true rfl, Nat.le_of_ble_eq_true rfl⟩) rfl rfl hl.1 rfl (Nat.le_of_ble_eq_true rfl) dX1_look_196 ⟨Nat.zero_le _, Nat.zero_le _⟩ rfl (fun z_14 u H locs hq_13 hh => ?_)
          obtain ⟨rfl, rfl⟩ := hq_13
          refine lv_aload_n hE.1 hE.2 dX1_look_199 rfl (lv_at hl 3 rfl) ?_
          refine gM_cursor hE hX hown hK hh dX1_look_200 ?_
          refine zv_icmp_le (tgt := 218) hE dX1_look_203 (by decide) ⟨by omega, by omega⟩ ⟨by omega, by omega⟩ (fun hc_15 => ?_) (fun hc_15 => ?_)
          · refine zv_iconst hE dX1_look_218 ?_
            refine mc_ret (u := (mt, mq, mw, ms, ml, mf, mx, mo, mi, mg, 0, mn, mh, ev, cu, fr, oo)) hE hr hlk hK hh dX1_look_219 ?_
            exact ⟨rfl, by omega, by omega, by omega, by omega, by omega, by omega, by omega, by omega, by omega, by omega, by omega⟩
          · refine lv_aload_n hE.1 hE.2 dX1_look_206 rfl (lv_at hl 3 rfl) ?_
            refine mc_call (rest := []) (As := []) hE hml hown hX hA hK hh (kM_limit l dC dI q cA mt mq mw ms ml mf mx mo mi mg 0 mn mh ev cu fr oo sa ea hw hf1 hf2 hm0 hm1) (cwV 0 hX qM_limit rfl rfl rfl (by decide +kernel) ⟨Nat.le_of_ble_eq_true rfl, Nat.le_of_ble_eq_true rfl⟩) rfl rfl hl.1 rfl (Nat.le_of_ble_eq_true rfl) dX1_look_207 ⟨Nat.zero_le _, Nat.zero_le _⟩ rfl (fun z_17 u H locs hq_16 hh => ?_)
            obtain ⟨rfl, rfl⟩ := hq_16
            refine lv_aload_n hE.1 hE.2 dX1_look_210 rfl (lv_at hl 3 rfl) ?_
            refine gM_cursor hE hX hown hK hh dX1_look_211 ?_
            refine zv_isub hE dX1_look_214 ?_
            refine lv_goto (tgt := 219) hE.1 hE.2 dX1_look_215 (by decide) ?_
            refine mc_ret (u := (mt, mq, mw, ms, ml, mf, mx, mo, mi, mg, 0, mn, mh, ev, cu, fr, oo)) hE hr hlk hK hh dX1_look_219 ?_
            exact ⟨rfl, by omega, by omega, by omega, by omega, by omega, by omega, by omega, by omega, by omega, by omega, by omega⟩
        · refine zv_tblOut (tgt := 220) hE dX1_look_49 ⟨by omega, by omega⟩ hsw (by decide) ?_
          refine zv_iconst hE dX1_look_220 ?_
          refine mc_ret (u := (mt, mq, mw, ms, ml, mf, mx, mo, mi, mg, 0, mn, mh, ev, cu, fr, oo)) hE hr hlk hK hh dX1_look_221 ?_
          exact ⟨rfl, by omega, by omega, by omega, by omega, by omega, by omega, by omega, by omega, by omega, by omega, by omega⟩
      · refine lv_iload_n hE.1 hE.2 dX1_look_16 rfl (lv_at hl 1 rfl) ?_
        refine lv_aload_n hE.1 hE.2 dX1_look_17 rfl (lv_at hl 3 rfl) ?_
        refine gM_there hE hX hown hK hh dX1_look_18 ?_
        refine lv_iload_n hE.1 hE.2 dX1_look_21 rfl (lv_at hl 0 rfl) ?_
        have hb1 := hmt i (by omega) (by omega)
        have hb2 := hms i (by omega) (by omega)
        refine rM_there hE hK hh ⟨by omega, by omega⟩ dX1_look_22 ?_
        refine zv_if_eq (tgt := 39) hE dX1_look_23 (by decide) ⟨by omega, by omega⟩ (fun hc_18 => ?_) (fun hc_18 => ?_)
        · refine zv_iconst hE dX1_look_39 ?_
          refine zv_iadd hE dX1_look_40 ?_
          refine lv_istore_n (lv' := [(2, .int (zi_ (sm1 + 0))), (3, .int (zi_ i)), (1, .int (zi_ wh)), (0, .ref (q 0))]) hE.1 hE.2 dX1_look_41 rfl hl (by decide) rfl (fun ls hl => ?_)
          refine zv_iinc (lv' := [(3, .int (zi_ (i + 1))), (2, .int (zi_ (sm1 + 0))), (1, .int (zi_ wh)), (0, .ref (q 0))]) hE dX1_look_42 hl (k := 1) rfl (by decide) rfl (fun ls hl => ?_)
          refine lv_goto (tgt := 9) hE.1 hE.2 dX1_look_45 (by decide) ?_
          exact ih (i + 1) (sm1 + 0) (by omega) (by omega) (by omega) (by rw [sg_go _ h0, hsum]; unfold cw_; first | (rw [if_pos (by omega)]; done) | (rw [if_pos (by omega)]; omega) | (rw [if_neg (by omega)]; done) | (rw [if_neg (by omega)]; omega)) _ _ hh ls (lv_sub hl [0, 1, 2, 3] rfl)
        · refine lv_aload_n hE.1 hE.2 dX1_look_26 rfl (lv_at hl 3 rfl) ?_
          refine gM_isStale hE hX hown hK hh dX1_look_27 ?_
          refine lv_iload_n hE.1 hE.2 dX1_look_30 rfl (lv_at hl 0 rfl) ?_
          refine rM_isStale hE hK hh ⟨by omega, by omega⟩ dX1_look_31 ?_
          refine zv_if_eq (tgt := 39) hE dX1_look_32 (by decide) ⟨by omega, by omega⟩ (fun hc_19 => ?_) (fun hc_19 => ?_)
          · refine zv_iconst hE dX1_look_39 ?_
            refine zv_iadd hE dX1_look_40 ?_
            refine lv_istore_n (lv' := [(2, .int (zi_ (sm1 + 0))), (3, .int (zi_ i)), (1, .int (zi_ wh)), (0, .ref (q 0))]) hE.1 hE.2 dX1_look_41 rfl hl (by decide) rfl (fun ls hl => ?_)
            refine zv_iinc (lv' := [(3, .int (zi_ (i + 1))), (2, .int (zi_ (sm1 + 0))), (1, .int (zi_ wh)), (0, .ref (q 0))]) hE dX1_look_42 hl (k := 1) rfl (by decide) rfl (fun ls hl => ?_)
            refine lv_goto (tgt := 9) hE.1 hE.2 dX1_look_45 (by decide) ?_
            exact ih (i + 1) (sm1 + 0) (by omega) (by omega) (by omega) (by rw [sg_go _ h0, hsum]; unfold cw_; first | (rw [if_pos (by omega)]; done) | (rw [if_pos (by omega)]; omega) | (rw [if_neg (by omega)]; done) | (rw [if_neg (by omega)]; omega)) _ _ hh ls (lv_sub hl [0, 1, 2, 3] rfl)
          · refine zv_iconst hE dX1_look_35 ?_
            refine lv_goto (tgt := 40) hE.1 hE.2 dX1_look_36 (by decide) ?_
            refine zv_iadd hE dX1_look_40 ?_
            refine lv_istore_n (lv' := [(2, .int (zi_ (sm1 + 1))), (3, .int (zi_ i)), (1, .int (zi_ wh)), (0, .ref (q 0))]) hE.1 hE.2 dX1_look_41 rfl hl (by decide) rfl (fun ls hl => ?_)
            refine zv_iinc (lv' := [(3, .int (zi_ (i + 1))), (2, .int (zi_ (sm1 + 1))), (1, .int (zi_ wh)), (0, .ref (q 0))]) hE dX1_look_42 hl (k := 1) rfl (by decide) rfl (fun ls hl => ?_)
            refine lv_goto (tgt := 9) hE.1 hE.2 dX1_look_45 (by decide) ?_
            exact ih (i + 1) (sm1 + 1) (by omega) (by omega) (by omega) (by rw [sg_go _ h0, hsum]; unfold cw_; first | (rw [if_pos (by omega)]; done) | (rw [if_pos (by omega)]; omega) | (rw [if_neg (by omega)]; done) | (rw [if_neg (by omega)]; omega)) _ _ hh ls (lv_sub hl [0, 1, 2, 3] rfl)
  refine lv_aload_n hE.1 hE.2 dX1_look_0 rfl (lv_at hl 0 rfl) ?_
  refine zv_iconst hE dX1_look_1 ?_
  refine pM_thrown hE hX hown hK hh dX1_look_2 (fun H locs hh => ?_)
  refine zv_iconst hE dX1_look_5 ?_
  refine lv_istore_n (lv' := [(2, .int (zi_ 0)), (0, .ref (q 0)), (1, .int (zi_ wh))]) hE.1 hE.2 dX1_look_6 rfl hl (by decide) rfl (fun ls hl => ?_)
  refine zv_iconst hE dX1_look_7 ?_
  refine lv_istore_n (lv' := [(3, .int (zi_ 0)), (2, .int (zi_ 0)), (0, .ref (q 0)), (1, .int (zi_ wh))]) hE.1 hE.2 dX1_look_8 rfl hl (by decide) rfl (fun ls hl => ?_)
  exact loop_9 601 0 0 (by omega) (by omega) (by omega) rfl _ _ hh ls (lv_sub hl [0, 1, 3, 2] rfl)
set_option maxHeartbeats 400000 in
set_option maxRecDepth 100000 in
theorem kM_of (l : Launch) (dC : Nat → ClassId) (dI : Nat → Nat → Nat) (q : Nat → Nat) (cA : Nat → ClassId) (mt mq mw ms ml mf mx mo mi mg : Int → Int) (th mn mh ev cu fr oo : Int) (i wh : Int) (sa ea : Int → Int) (hI : im_ sa ea mt mq mw ms ml mf mx mo mi mn mh ev cu fr oo) (hk9 : zr_ i) (hk8 : zr_ wh) : mc_i l (dC, dI) vwCl (tM_ cA) (wM_ q cA) yX1_of wsX1_of ({ frames := 3, cells := 0, slots := 0, locals := 140 }) (mt, mq, mw, ms, ml, mf, mx, mo, mi, mg, th, mn, mh, ev, cu, fr, oo) [.ref (q 0), .int (zi_ i), .int (zi_ wh)] (fun (z : Int) (u : SM_) => ((i < 0 ∨ 600 ≤ i ∨ sa i = -1 ∨ wh < 0 ∨ 6 < wh) ∧ z = 0 ∧ u = (mt, mq, mw, ms, ml, mf, mx, mo, mi, mg, 1, mn, mh, ev, cu, fr, oo)) ∨ (0 ≤ i ∧ i < 600 ∧ sa i ≠ -1 ∧ 0 ≤ wh ∧ wh ≤ 6 ∧ u = (mt, mq, mw, ms, ml, mf, mx, mo, mi, mg, 0, mn, mh, ev, cu, fr, oo) ∧ (wh = 0 → z = mq i) ∧ (wh = 1 → z = mw i) ∧ (wh = 2 → (ea i = -1 → z = 0) ∧ (ea i ≠ -1 → z = 1 + ms i)) ∧ (wh = 3 → z = sa i) ∧ (wh = 4 → z = ea i) ∧ (wh = 5 → fl_ (fun k => ml k % 2 = 0 ∧ sa i < ut_ ea ev (ml k / 2)) (fun k => ml k / 2) 0 (sa i) z) ∧ (wh = 6 → z = mw i + st_ (we_ ml mw) (sa i + 1) (ut_ ea ev i - (sa i + 1)).toNat))) := by
  refine mc_i_of (cc := cX1_of) (maxL := 3) (ret := (some .int)) (by decide) rfl (Nat.le_of_ble_eq_true rfl) ?_
  intro p e s m below meth c A ls hE hml hown hts hr hlk hA hK hh hl
  have hown : s.vm.findClass RX1 = some m.cls := hown
  have hX : ∀ w ∈ wsM_, w.before _ s = true := fun w h => hts w (List.mem_cons_of_mem _ h)
  have hl : lv_has ls 3 [(0, .ref (q 0)), (1, .int (zi_ i)), (2, .int (zi_ wh))] := hl
  obtain ⟨hm0, hm1, hc1, hc2, hmi, hmo1, hx1b, hT, hlm, hmr⟩ := im_f hI
  obtain ⟨hw, hmt, hmn, hmn2, ⟨j0, hj0, hj1, hj2⟩, ⟨hf1, hf2, hm9⟩, hmf, hmx, ⟨hc0, hc3, hev, ho0, ho2⟩, hmo, hms, hmq, hmw, hmh, hl9⟩ := hI
  have ho1 : oo ≤ 600 := by omega
  refine lv_aload_n hE.1 hE.2 dX1_of_0 rfl (lv_at hl 0 rfl) ?_
  refine lv_aload_n hE.1 hE.2 dX1_of_1 rfl (lv_at hl 0 rfl) ?_
  refine lv_iload_n hE.1 hE.2 dX1_of_2 rfl (lv_at hl 1 rfl) ?_
  refine mc_call (rest := [.ref (q 0)]) (As := [.int (zi_ i)]) hE hml hown hX hA hK hh (kM_isThere l dC dI q cA mt mq mw ms ml mf mx mo mi mg th mn mh ev cu fr oo i sa (by assumption) hmt) (cwV 1 hX qM_isThere rfl rfl rfl (by decide +kernel) ⟨Nat.le_of_ble_eq_true rfl, Nat.le_of_ble_eq_true rfl⟩) rfl rfl hl.1 rfl (Nat.le_of_ble_eq_true rfl) dX1_of_3 ⟨Nat.zero_le _, Nat.zero_le _⟩ rfl (fun z_2 u H locs hq_1 hh => ?_)
  obtain ⟨rfl, hq_1a, hq_1b⟩ := hq_1
  have hq_1z : zr_ z_2 := ⟨by omega, by omega⟩
  refine zv_if_eq (tgt := 23) hE dX1_of_6 (by decide) ⟨by omega, by omega⟩ (fun hc_3 => ?_) (fun hc_3 => ?_)
  · refine zv_iconst hE dX1_of_23 ?_
    refine pM_thrown hE hX hown hK hh dX1_of_24 (fun H locs hh => ?_)
    refine lv_aload_n hE.1 hE.2 dX1_of_27 rfl (lv_at hl 0 rfl) ?_
    refine gM_thrown hE hX hown hK hh dX1_of_28 ?_
    refine zv_if_le (tgt := 36) hE dX1_of_31 (by decide) ⟨by omega, by omega⟩ (fun hc_4 => ?_) (fun hc_4 => ?_)
    · exact absurd hc_4 (by decide)
    · refine zv_iconst hE dX1_of_34 ?_
      refine mc_ret (u := (mt, mq, mw, ms, ml, mf, mx, mo, mi, mg, 1, mn, mh, ev, cu, fr, oo)) hE hr hlk hK hh dX1_of_35 ?_
      first | exact Or.inl ⟨by omega, rfl, rfl⟩ | exact Or.inr ⟨by omega, by omega, by omega, by omega, by omega, rfl, by omega, by omega, by omega, by omega, by omega, (fun t => by first | assumption | (exfalso; omega)), by omega⟩ | (exfalso; omega)
  · refine lv_iload_n hE.1 hE.2 dX1_of_9 rfl (lv_at hl 2 rfl) ?_
    refine zv_if_lt (tgt := 23) hE dX1_of_10 (by decide) ⟨by omega, by omega⟩ (fun hc_5 => ?_) (fun hc_5 => ?_)
    · refine zv_iconst hE dX1_of_23 ?_
      refine pM_thrown hE hX hown hK hh dX1_of_24 (fun H locs hh => ?_)
      refine lv_aload_n hE.1 hE.2 dX1_of_27 rfl (lv_at hl 0 rfl) ?_
      refine gM_thrown hE hX hown hK hh dX1_of_28 ?_
      refine zv_if_le (tgt := 36) hE dX1_of_31 (by decide) ⟨by omega, by omega⟩ (fun hc_6 => ?_) (fun hc_6 => ?_)
      · exact absurd hc_6 (by decide)
      · refine zv_iconst hE dX1_of_34 ?_
        refine mc_ret (u := (mt, mq, mw, ms, ml, mf, mx, mo, mi, mg, 1, mn, mh, ev, cu, fr, oo)) hE hr hlk hK hh dX1_of_35 ?_
        first | exact Or.inl ⟨by omega, rfl, rfl⟩ | exact Or.inr ⟨by omega, by omega, by omega, by omega, by omega, rfl, by omega, by omega, by omega, by omega, by omega, (fun t => by first | assumption | (exfalso; omega)), by omega⟩ | (exfalso; omega)
    · refine lv_iload_n hE.1 hE.2 dX1_of_13 rfl (lv_at hl 2 rfl) ?_
      refine zv_bipush hE dX1_of_14 (by decide) ?_
      refine zv_icmp_gt (tgt := 23) hE dX1_of_16 (by decide) ⟨by omega, by omega⟩ ⟨by omega, by omega⟩ (fun hc_7 => ?_) (fun hc_7 => ?_)
      · refine zv_iconst hE dX1_of_23 ?_
        refine pM_thrown hE hX hown hK hh dX1_of_24 (fun H locs hh => ?_)
        refine lv_aload_n hE.1 hE.2 dX1_of_27 rfl (lv_at hl 0 rfl) ?_
        refine gM_thrown hE hX hown hK hh dX1_of_28 ?_
        refine zv_if_le (tgt := 36) hE dX1_of_31 (by decide) ⟨by omega, by omega⟩ (fun hc_8 => ?_) (fun hc_8 => ?_)
        · exact absurd hc_8 (by decide)
        · refine zv_iconst hE dX1_of_34 ?_
          refine mc_ret (u := (mt, mq, mw, ms, ml, mf, mx, mo, mi, mg, 1, mn, mh, ev, cu, fr, oo)) hE hr hlk hK hh dX1_of_35 ?_
          first | exact Or.inl ⟨by omega, rfl, rfl⟩ | exact Or.inr ⟨by omega, by omega, by omega, by omega, by omega, rfl, by omega, by omega, by omega, by omega, by omega, (fun t => by first | assumption | (exfalso; omega)), by omega⟩ | (exfalso; omega)
      · refine zv_iconst hE dX1_of_19 ?_
        refine lv_goto (tgt := 24) hE.1 hE.2 dX1_of_20 (by decide) ?_
        refine pM_thrown hE hX hown hK hh dX1_of_24 (fun H locs hh => ?_)
        refine lv_aload_n hE.1 hE.2 dX1_of_27 rfl (lv_at hl 0 rfl) ?_
        refine gM_thrown hE hX hown hK hh dX1_of_28 ?_
        refine zv_if_le (tgt := 36) hE dX1_of_31 (by decide) ⟨by omega, by omega⟩ (fun hc_9 => ?_) (fun hc_9 => ?_)
        · refine lv_iload_n hE.1 hE.2 dX1_of_36 rfl (lv_at hl 2 rfl) ?_
          rcases (show wh = 0 ∨ wh = 1 ∨ wh = 2 ∨ wh = 3 ∨ wh = 4 ∨ wh = 5 ∨ (wh < 0 ∨ 5 < wh) by omega) with hsw | hsw | hsw | hsw | hsw | hsw | hsw
          · subst hsw
            refine zv_tblIn (tgt := 76) hE dX1_of_37 ⟨by decide, by decide⟩ (by decide) (by decide) rfl (by decide) ?_
            refine lv_aload_n hE.1 hE.2 dX1_of_76 rfl (lv_at hl 0 rfl) ?_
            refine gM_keys hE hX hown hK hh dX1_of_77 ?_
            refine lv_iload_n hE.1 hE.2 dX1_of_80 rfl (lv_at hl 1 rfl) ?_
            refine rM_keys hE hK hh ⟨by omega, by omega⟩ dX1_of_81 ?_
            refine mc_ret (u := (mt, mq, mw, ms, ml, mf, mx, mo, mi, mg, 0, mn, mh, ev, cu, fr, oo)) hE hr hlk hK hh dX1_of_82 ?_
            first | exact Or.inl ⟨by omega, rfl, rfl⟩ | exact Or.inr ⟨by omega, by omega, by omega, by omega, by omega, rfl, by omega, by omega, by omega, by omega, by omega, (fun t => by first | assumption | (exfalso; omega)), by omega⟩ | (exfalso; omega)
          · subst hsw
            refine zv_tblIn (tgt := 83) hE dX1_of_37 ⟨by decide, by decide⟩ (by decide) (by decide) rfl (by decide) ?_
            refine lv_aload_n hE.1 hE.2 dX1_of_83 rfl (lv_at hl 0 rfl) ?_
            refine gM_weights hE hX hown hK hh dX1_of_84 ?_
            refine lv_iload_n hE.1 hE.2 dX1_of_87 rfl (lv_at hl 1 rfl) ?_
            refine rM_weights hE hK hh ⟨by omega, by omega⟩ dX1_of_88 ?_
            refine mc_ret (u := (mt, mq, mw, ms, ml, mf, mx, mo, mi, mg, 0, mn, mh, ev, cu, fr, oo)) hE hr hlk hK hh dX1_of_89 ?_
            first | exact Or.inl ⟨by omega, rfl, rfl⟩ | exact Or.inr ⟨by omega, by omega, by omega, by omega, by omega, rfl, by omega, by omega, by omega, by omega, by omega, (fun t => by first | assumption | (exfalso; omega)), by omega⟩ | (exfalso; omega)
          · subst hsw
            refine zv_tblIn (tgt := 90) hE dX1_of_37 ⟨by decide, by decide⟩ (by decide) (by decide) rfl (by decide) ?_
            refine lv_aload_n hE.1 hE.2 dX1_of_90 rfl (lv_at hl 0 rfl) ?_
            refine lv_iload_n hE.1 hE.2 dX1_of_91 rfl (lv_at hl 1 rfl) ?_
            refine mc_call (rest := []) (As := [.int (zi_ i)]) hE hml hown hX hA hK hh (kM_isEnded l dC dI q cA mt mq mw ms ml mf mx mo mi mg 0 mn mh ev cu fr oo i sa ea hw (by omega) (by omega) (by first | assumption | omega)) (cwV 1 hX qM_isEnded rfl rfl rfl (by decide +kernel) ⟨Nat.le_of_ble_eq_true rfl, Nat.le_of_ble_eq_true rfl⟩) rfl rfl hl.1 rfl (Nat.le_of_ble_eq_true rfl) dX1_of_92 ⟨Nat.zero_le _, Nat.zero_le _⟩ rfl (fun z_11 u H locs hq_10 hh => ?_)
            obtain ⟨rfl, hq_10a, hq_10b⟩ := hq_10
            have hq_10z : zr_ z_11 := ⟨by omega, by omega⟩
            refine zv_if_ne (tgt := 102) hE dX1_of_95 (by decide) ⟨by omega, by omega⟩ (fun hc_12 => ?_) (fun hc_12 => ?_)
            · refine lv_aload_n hE.1 hE.2 dX1_of_102 rfl (lv_at hl 0 rfl) ?_
              refine gM_isStale hE hX hown hK hh dX1_of_103 ?_
              refine lv_iload_n hE.1 hE.2 dX1_of_106 rfl (lv_at hl 1 rfl) ?_
              have hx4 := hms i (by omega) (by omega)
              refine rM_isStale hE hK hh ⟨by omega, by omega⟩ dX1_of_107 ?_
              refine zv_if_eq (tgt := 115) hE dX1_of_108 (by decide) ⟨by omega, by omega⟩ (fun hc_13 => ?_) (fun hc_13 => ?_)
              · refine zv_iconst hE dX1_of_115 ?_
                refine mc_ret (u := (mt, mq, mw, ms, ml, mf, mx, mo, mi, mg, 0, mn, mh, ev, cu, fr, oo)) hE hr hlk hK hh dX1_of_116 ?_
                first | exact Or.inl ⟨by omega, rfl, rfl⟩ | exact Or.inr ⟨by omega, by omega, by omega, by omega, by omega, rfl, by omega, by omega, by omega, by omega, by omega, (fun t => by first | assumption | (exfalso; omega)), by omega⟩ | (exfalso; omega)
              · refine zv_iconst hE dX1_of_111 ?_
                refine lv_goto (tgt := 116) hE.1 hE.2 dX1_of_112 (by decide) ?_
                refine mc_ret (u := (mt, mq, mw, ms, ml, mf, mx, mo, mi, mg, 0, mn, mh, ev, cu, fr, oo)) hE hr hlk hK hh dX1_of_116 ?_
                first | exact Or.inl ⟨by omega, rfl, rfl⟩ | exact Or.inr ⟨by omega, by omega, by omega, by omega, by omega, rfl, by omega, by omega, by omega, by omega, by omega, (fun t => by first | assumption | (exfalso; omega)), by omega⟩ | (exfalso; omega)
            · refine zv_iconst hE dX1_of_98 ?_
              refine lv_goto (tgt := 116) hE.1 hE.2 dX1_of_99 (by decide) ?_
              refine mc_ret (u := (mt, mq, mw, ms, ml, mf, mx, mo, mi, mg, 0, mn, mh, ev, cu, fr, oo)) hE hr hlk hK hh dX1_of_116 ?_
              first | exact Or.inl ⟨by omega, rfl, rfl⟩ | exact Or.inr ⟨by omega, by omega, by omega, by omega, by omega, rfl, by omega, by omega, by omega, by omega, by omega, (fun t => by first | assumption | (exfalso; omega)), by omega⟩ | (exfalso; omega)
          · subst hsw
            refine zv_tblIn (tgt := 117) hE dX1_of_37 ⟨by decide, by decide⟩ (by decide) (by decide) rfl (by decide) ?_
            refine lv_aload_n hE.1 hE.2 dX1_of_117 rfl (lv_at hl 0 rfl) ?_
            refine zv_iconst hE dX1_of_118 ?_
            refine lv_iload_n hE.1 hE.2 dX1_of_119 rfl (lv_at hl 1 rfl) ?_
            refine zv_imul hE dX1_of_120 ?_
            refine mc_call (rest := []) (As := [.int (zi_ (2 * i))]) hE hml hown hX hA hK hh (kM_find l dC dI q cA mt mq mw ms ml mf mx mo mi mg 0 mn mh ev cu fr oo (2 * i) (hw.1.1) (hw.1.2) (fun k x y => ⟨(hw.2.2.2 k x y).1, (hw.2.2.2 k x y).2.1⟩) (by exact ⟨by omega, by omega⟩)) (cwV 1 hX qM_find rfl rfl rfl (by decide +kernel) ⟨Nat.le_of_ble_eq_true rfl, Nat.le_of_ble_eq_true rfl⟩) rfl rfl hl.1 rfl (Nat.le_of_ble_eq_true rfl) dX1_of_121 ⟨Nat.zero_le _, Nat.zero_le _⟩ rfl (fun z_15 u H locs hq_14 hh => ?_)
            obtain ⟨rfl, hq_14⟩ := hq_14
            obtain rfl := fd_s hw (by omega) (by omega) hq_14
            refine mc_ret (u := (mt, mq, mw, ms, ml, mf, mx, mo, mi, mg, 0, mn, mh, ev, cu, fr, oo)) hE hr hlk hK hh dX1_of_124 ?_
            first | exact Or.inl ⟨by omega, rfl, rfl⟩ | exact Or.inr ⟨by omega, by omega, by omega, by omega, by omega, rfl, by omega, by omega, by omega, by omega, by omega, (fun t => by first | assumption | (exfalso; omega)), by omega⟩ | (exfalso; omega)
          · subst hsw
            refine zv_tblIn (tgt := 125) hE dX1_of_37 ⟨by decide, by decide⟩ (by decide) (by decide) rfl (by decide) ?_
            refine lv_aload_n hE.1 hE.2 dX1_of_125 rfl (lv_at hl 0 rfl) ?_
            refine zv_iconst hE dX1_of_126 ?_
            refine lv_iload_n hE.1 hE.2 dX1_of_127 rfl (lv_at hl 1 rfl) ?_
            refine zv_imul hE dX1_of_128 ?_
            refine zv_iconst hE dX1_of_129 ?_
            refine zv_iadd hE dX1_of_130 ?_
            refine mc_call (rest := []) (As := [.int (zi_ ((2 * i) + 1))]) hE hml hown hX hA hK hh (kM_find l dC dI q cA mt mq mw ms ml mf mx mo mi mg 0 mn mh ev cu fr oo ((2 * i) + 1) (hw.1.1) (hw.1.2) (fun k x y => ⟨(hw.2.2.2 k x y).1, (hw.2.2.2 k x y).2.1⟩) (by exact ⟨by omega, by omega⟩)) (cwV 1 hX qM_find rfl rfl rfl (by decide +kernel) ⟨Nat.le_of_ble_eq_true rfl, Nat.le_of_ble_eq_true rfl⟩) rfl rfl hl.1 rfl (Nat.le_of_ble_eq_true rfl) dX1_of_131 ⟨Nat.zero_le _, Nat.zero_le _⟩ rfl (fun z_17 u H locs hq_16 hh => ?_)
            obtain ⟨rfl, hq_16⟩ := hq_16
            obtain rfl := fd_e hw (by omega) (by omega) (by first | assumption | omega) hq_16
            refine mc_ret (u := (mt, mq, mw, ms, ml, mf, mx, mo, mi, mg, 0, mn, mh, ev, cu, fr, oo)) hE hr hlk hK hh dX1_of_134 ?_
            first | exact Or.inl ⟨by omega, rfl, rfl⟩ | exact Or.inr ⟨by omega, by omega, by omega, by omega, by omega, rfl, by omega, by omega, by omega, by omega, by omega, (fun t => by first | assumption | (exfalso; omega)), by omega⟩ | (exfalso; omega)
          · subst hsw
            refine zv_tblIn (tgt := 135) hE dX1_of_37 ⟨by decide, by decide⟩ (by decide) (by decide) rfl (by decide) ?_
            refine lv_aload_n hE.1 hE.2 dX1_of_135 rfl (lv_at hl 0 rfl) ?_
            refine lv_iload_n hE.1 hE.2 dX1_of_136 rfl (lv_at hl 1 rfl) ?_
            refine mc_call (rest := []) (As := [.int (zi_ i)]) hE hml hown hX hA hK hh (kM_around l dC dI q cA mt mq mw ms ml mf mx mo mi mg 0 mn mh ev cu fr oo i sa ea hw (by omega) (by omega) (by omega)) (cwV 1 hX qM_around rfl rfl rfl (by decide +kernel) ⟨Nat.le_of_ble_eq_true rfl, Nat.le_of_ble_eq_true rfl⟩) rfl rfl hl.1 rfl (Nat.le_of_ble_eq_true rfl) dX1_of_137 ⟨Nat.zero_le _, Nat.zero_le _⟩ rfl (fun z_19 u H locs hq_18 hh => ?_)
            obtain ⟨rfl, hq_18⟩ := hq_18
            refine mc_ret (u := (mt, mq, mw, ms, ml, mf, mx, mo, mi, mg, 0, mn, mh, ev, cu, fr, oo)) hE hr hlk hK hh dX1_of_140 ?_
            first | exact Or.inl ⟨by omega, rfl, rfl⟩ | exact Or.inr ⟨by omega, by omega, by omega, by omega, by omega, rfl, by omega, by omega, by omega, by omega, by omega, (fun t => by first | assumption | (exfalso; omega)), by omega⟩ | (exfalso; omega)
          · refine zv_tblOut (tgt := 141) hE dX1_of_37 ⟨by omega, by omega⟩ hsw (by decide) ?_
            refine lv_aload_n hE.1 hE.2 dX1_of_141 rfl (lv_at hl 0 rfl) ?_
            refine lv_iload_n hE.1 hE.2 dX1_of_142 rfl (lv_at hl 1 rfl) ?_
            refine mc_call (rest := []) (As := [.int (zi_ i)]) hE hml hown hX hA hK hh (kM_sumOf l dC dI q cA mt mq mw ms ml mf mx mo mi mg 0 mn mh ev cu fr oo i sa ea hw (by omega) (by omega) (by omega)) (cwV 1 hX qM_sumOf rfl rfl rfl (by decide +kernel) ⟨Nat.le_of_ble_eq_true rfl, Nat.le_of_ble_eq_true rfl⟩) rfl rfl hl.1 rfl (Nat.le_of_ble_eq_true rfl) dX1_of_143 ⟨Nat.zero_le _, Nat.zero_le _⟩ rfl (fun z_21 u H locs hq_20 hh => ?_)
            obtain ⟨rfl, hq_20⟩ := hq_20
            refine mc_ret (u := (mt, mq, mw, ms, ml, mf, mx, mo, mi, mg, 0, mn, mh, ev, cu, fr, oo)) hE hr hlk hK hh dX1_of_146 ?_
            first | exact Or.inl ⟨by omega, rfl, rfl⟩ | exact Or.inr ⟨by omega, by omega, by omega, by omega, by omega, rfl, by omega, by omega, by omega, by omega, by omega, (fun t => by first | assumption | (exfalso; omega)), by omega⟩ | (exfalso; omega)
        · exact absurd hc_9 (by decide)
