set_option maxHeartbeats 400000 in
set_option maxRecDepth 100000 in
theorem kM_begin (l : Launch) (dC : Nat → ClassId) (dI : Nat → Nat → Nat) (q : Nat → Nat) (cA : Nat → ClassId) (mt mq mw ms ml mf mx mo mi mg : Int → Int) (th mn mh ev cu fr oo : Int) (key : Int) (sa ea : Int → Int) (hI : im_ sa ea mt mq mw ms ml mf mx mo mi mn mh ev cu fr oo) (hk9 : zr_ key) : mc_i l (dC, dI) vwCl (tM_ cA) (wM_ q cA) yX1_begin wsX1_begin ({ frames := 3, cells := 0, slots := 0, locals := 140 }) (mt, mq, mw, ms, ml, mf, mx, mo, mi, mg, th, mn, mh, ev, cu, fr, oo) [.ref (q 0), .int (zi_ key)] (fun (z : Int) (u : SM_) => (z = -1 ∧ u = (mt, mq, mw, ms, ml, mf, mx, mo, mi, mg, 0, mn, mh, ev, cu, fr, oo) ∧ mx (fr - 1) = 1) ∨ (0 ≤ z ∧ z < 600 ∧ sa z = -1 ∧ (∀ j : Int, 0 ≤ j → j < z → sa j ≠ -1) ∧ mx (fr - 1) = 0 ∧ ∃ ml1 : Int → Int, mp_ ml ev cu ml1 ∧ u = (up_ mt z 1, up_ mq z key, up_ mw z 0, up_ ms z 0, up_ ml1 cu (2 * z), mf, mx, up_ mo oo z, up_ mi oo (fr - 1), mg, 0, mn + 1, mh, ev + 1, cu + 1, fr, oo + 1))) := by
  refine mc_i_of (cc := cX1_begin) (maxL := 3) (ret := (some .int)) (by decide) rfl (Nat.le_of_ble_eq_true rfl) ?_
  intro p e s m below meth c A ls hE hml hown hts hr hlk hA hK hh hl
  have hown : s.vm.findClass RX1 = some m.cls := hown
  have hX : ∀ w ∈ wsM_, w.before _ s = true := fun w h => hts w (List.mem_cons_of_mem _ h)
  have hl : lv_has ls 3 [(0, .ref (q 0)), (1, .int (zi_ key))] := hl
  obtain ⟨hm0, hm1, hc1, hc2, hmi, hmo1, hx1b, hT, hlm, hmr⟩ := im_f hI
  obtain ⟨hw, hmt, hmn, hmn2, ⟨j0, hj0, hj1, hj2⟩, ⟨hf1, hf2, hm9⟩, hmf, hmx, ⟨hc0, hc3, hev, ho0, ho2⟩, hmo, hms, hmq, hmw, hmh, hl9⟩ := hI
  have ho1 : oo ≤ 600 := by omega
  have hmn3 := sg_nn (g := mt) 600 (fun j x y => by have := hmt j x y; omega)
  have loop_31 : ∀ (n : Nat) (i : Int), (0 ≤ i) → (i ≤ j0) → (j0 - i < (n : Int)) → (∀ j : Int, 0 ≤ j → j < i → sa j ≠ -1) → (mx (fr - 1) = 0) → ∀ (H : Heap) (locs : List Loc), hp_ (dC, dI) vwCl A s.heap (wM_ q cA (mt, mq, mw, ms, ml, mf, mx, mo, mi, mg, 0, mn, mh, ev, cu, fr, oo)) H locs → ∀ (ls : Array Slot), lv_has ls 3 [(2, .int (zi_ i)), (1, .int (zi_ key)), (0, .ref (q 0))] → W p l e ({ frames := 3, cells := 0, slots := 0, locals := 140 }) s m ([.ref (q 0), .int (zi_ key)] : List Value).toArray below meth c H locs 0 0 (MQ below (mc_Qi (dC, dI) vwCl (tM_ cA) (wM_ q cA) (fun (z : Int) (u : SM_) => (z = -1 ∧ u = (mt, mq, mw, ms, ml, mf, mx, mo, mi, mg, 0, mn, mh, ev, cu, fr, oo) ∧ mx (fr - 1) = 1) ∨ (0 ≤ z ∧ z < 600 ∧ sa z = -1 ∧ (∀ j : Int, 0 ≤ j → j < z → sa j ≠ -1) ∧ mx (fr - 1) = 0 ∧ ∃ ml1 : Int → Int, mp_ ml ev cu ml1 ∧ u = (up_ mt z 1, up_ mq z key, up_ mw z 0, up_ ms z 0, up_ ml1 cu (2 * z), mf, mx, up_ mo oo z, up_ mi oo (fr - 1), mg, 0, mn + 1, mh, ev + 1, cu + 1, fr, oo + 1))) A) ([.ref (q 0), .int (zi_ key)] : List Value).toArray s 0 0 A) (F0 m 31 ls []) := by
    intro n
    induction n with
    | zero => intros; exfalso; omega
    | succ n ih =>
      intro i h0 h1 hn hj hx9 H locs hh ls hl
      have hb1 := hmt i h0 (by omega)
      have hb2 : mt i ≠ 0 → i ≠ j0 := fun t q => by
        rw [q] at hb1 t
        omega
      refine lv_aload_n hE.1 hE.2 dX1_begin_31 rfl (lv_at hl 2 rfl) ?_
      refine gM_there hE hX hown hK hh dX1_begin_32 ?_
      refine lv_iload_n hE.1 hE.2 dX1_begin_35 rfl (lv_at hl 0 rfl) ?_
      refine rM_there hE hK hh ⟨by omega, by omega⟩ dX1_begin_36 ?_
      refine zv_if_eq (tgt := 46) hE dX1_begin_37 (by decide) ⟨by omega, by omega⟩ (fun hc_1 => ?_) (fun hc_1 => ?_)
      · refine lv_aload_n hE.1 hE.2 dX1_begin_46 rfl (lv_at hl 2 rfl) ?_
        refine gM_there hE hX hown hK hh dX1_begin_47 ?_
        refine lv_iload_n hE.1 hE.2 dX1_begin_50 rfl (lv_at hl 0 rfl) ?_
        refine zv_iconst hE dX1_begin_51 ?_
        refine sM_there hE hK hh ⟨by omega, by omega⟩ (by first | exact Or.inl rfl | exact Or.inr rfl | assumption) dX1_begin_52 (fun H locs hh => ?_)
        refine lv_aload_n hE.1 hE.2 dX1_begin_53 rfl (lv_at hl 2 rfl) ?_
        refine gM_keys hE hX hown hK hh dX1_begin_54 ?_
        refine lv_iload_n hE.1 hE.2 dX1_begin_57 rfl (lv_at hl 0 rfl) ?_
        refine lv_iload_n hE.1 hE.2 dX1_begin_58 rfl (lv_at hl 1 rfl) ?_
        refine sM_keys hE hK hh ⟨by omega, by omega⟩ dX1_begin_59 (fun H locs hh => ?_)
        refine lv_aload_n hE.1 hE.2 dX1_begin_60 rfl (lv_at hl 2 rfl) ?_
        refine gM_weights hE hX hown hK hh dX1_begin_61 ?_
        refine lv_iload_n hE.1 hE.2 dX1_begin_64 rfl (lv_at hl 0 rfl) ?_
        refine zv_iconst hE dX1_begin_65 ?_
        refine sM_weights hE hK hh ⟨by omega, by omega⟩ dX1_begin_66 (fun H locs hh => ?_)
        refine lv_aload_n hE.1 hE.2 dX1_begin_67 rfl (lv_at hl 2 rfl) ?_
        refine gM_isStale hE hX hown hK hh dX1_begin_68 ?_
        refine lv_iload_n hE.1 hE.2 dX1_begin_71 rfl (lv_at hl 0 rfl) ?_
        refine zv_iconst hE dX1_begin_72 ?_
        refine sM_isStale hE hK hh ⟨by omega, by omega⟩ (by first | exact Or.inl rfl | exact Or.inr rfl | assumption) dX1_begin_73 (fun H locs hh => ?_)
        refine lv_aload_n hE.1 hE.2 dX1_begin_74 rfl (lv_at hl 2 rfl) ?_
        refine lv_dup hE.1 hE.2 dX1_begin_75 rfl ?_
        refine gM_many hE hX hown hK hh dX1_begin_76 ?_
        refine zv_iconst hE dX1_begin_79 ?_
        refine zv_iadd hE dX1_begin_80 ?_
        refine pM_many hE hX hown hK hh dX1_begin_81 (fun H locs hh => ?_)
        refine lv_aload_n hE.1 hE.2 dX1_begin_84 rfl (lv_at hl 2 rfl) ?_
        refine zv_iconst hE dX1_begin_85 ?_
        refine lv_iload_n hE.1 hE.2 dX1_begin_86 rfl (lv_at hl 0 rfl) ?_
        refine zv_imul hE dX1_begin_87 ?_
        refine mc_callv (rest := []) (As := [.int (zi_ (2 * i))]) hE hml hown hX hA hK hh (kM_put l dC dI q cA (up_ mt i 1) (up_ mq i key) (up_ mw i 0) (up_ ms i 0) ml mf mx mo mi mg 0 (mn + 1) mh ev cu fr oo (2 * i) (by omega) (by omega) (by omega)) (cwV 1 hX qM_put rfl rfl rfl (by decide +kernel) ⟨Nat.le_of_ble_eq_true rfl, Nat.le_of_ble_eq_true rfl⟩) rfl rfl hl.1 rfl (Nat.le_of_ble_eq_true rfl) dX1_begin_88 ⟨Nat.zero_le _, Nat.zero_le _⟩ rfl (fun u H locs hq_2 hh => ?_)
        obtain ⟨ml1, hmp, rfl⟩ := hq_2
        refine lv_aload_n hE.1 hE.2 dX1_begin_91 rfl (lv_at hl 2 rfl) ?_
        refine gM_open hE hX hown hK hh dX1_begin_92 ?_
        refine lv_aload_n hE.1 hE.2 dX1_begin_95 rfl (lv_at hl 2 rfl) ?_
        refine gM_opens hE hX hown hK hh dX1_begin_96 ?_
        refine lv_iload_n hE.1 hE.2 dX1_begin_99 rfl (lv_at hl 0 rfl) ?_
        refine sM_open hE hK hh ⟨by omega, by omega⟩ dX1_begin_100 (fun H locs hh => ?_)
        refine lv_aload_n hE.1 hE.2 dX1_begin_101 rfl (lv_at hl 2 rfl) ?_
        refine gM_openIn hE hX hown hK hh dX1_begin_102 ?_
        refine lv_aload_n hE.1 hE.2 dX1_begin_105 rfl (lv_at hl 2 rfl) ?_
        refine gM_opens hE hX hown hK hh dX1_begin_106 ?_
        refine lv_aload_n hE.1 hE.2 dX1_begin_109 rfl (lv_at hl 2 rfl) ?_
        refine mc_call (rest := [.int (zi_ oo), .ref (q 9)]) (As := []) hE hml hown hX hA hK hh (kM_last l dC dI q cA (up_ mt i 1) (up_ mq i key) (up_ mw i 0) (up_ ms i 0) (up_ ml1 cu (2 * i)) mf mx (up_ mo oo i) mi mg 0 (mn + 1) mh (ev + 1) (cu + 1) fr oo) (cwV 0 hX qM_last rfl rfl rfl (by decide +kernel) ⟨Nat.le_of_ble_eq_true rfl, Nat.le_of_ble_eq_true rfl⟩) rfl rfl hl.1 rfl (Nat.le_of_ble_eq_true rfl) dX1_begin_110 ⟨Nat.zero_le _, Nat.zero_le _⟩ rfl (fun z_5 u H locs hq_4 hh => ?_)
        obtain ⟨rfl, rfl⟩ := hq_4
        refine sM_openIn hE hK hh ⟨by omega, by omega⟩ dX1_begin_113 (fun H locs hh => ?_)
        refine lv_aload_n hE.1 hE.2 dX1_begin_114 rfl (lv_at hl 2 rfl) ?_
        refine lv_dup hE.1 hE.2 dX1_begin_115 rfl ?_
        refine gM_opens hE hX hown hK hh dX1_begin_116 ?_
        refine zv_iconst hE dX1_begin_119 ?_
        refine zv_iadd hE dX1_begin_120 ?_
        refine pM_opens hE hX hown hK hh dX1_begin_121 (fun H locs hh => ?_)
        refine lv_iload_n hE.1 hE.2 dX1_begin_124 rfl (lv_at hl 0 rfl) ?_
        refine mc_ret (u := (up_ mt i 1, up_ mq i key, up_ mw i 0, up_ ms i 0, up_ ml1 cu (2 * i), mf, mx, up_ mo oo i, up_ mi oo (fr - 1), mg, 0, mn + 1, mh, ev + 1, cu + 1, fr, oo + 1)) hE hr hlk hK hh dX1_begin_125 ?_
        first | exact Or.inl ⟨rfl, rfl, by omega⟩ | exact Or.inr ⟨by omega, by omega, by omega, hj, by omega, ml1, hmp, rfl⟩ | (exfalso; omega)
      · refine zv_iinc (lv' := [(2, .int (zi_ (i + 1))), (1, .int (zi_ key)), (0, .ref (q 0))]) hE dX1_begin_40 hl (k := 0) rfl (by decide) rfl (fun ls hl => ?_)
        refine lv_goto (tgt := 31) hE.1 hE.2 dX1_begin_43 (by decide) ?_
        exact ih (i + 1) (by omega) (by have := hb2 (by omega); omega) (by omega) (fun j x y => if hq : j = i then (by rw [hq]; omega) else hj j x (by omega)) hx9 _ _ hh ls (lv_sub hl [0, 1, 2] rfl)
  refine lv_aload_n hE.1 hE.2 dX1_begin_0 rfl (lv_at hl 0 rfl) ?_
  refine zv_iconst hE dX1_begin_1 ?_
  refine pM_thrown hE hX hown hK hh dX1_begin_2 (fun H locs hh => ?_)
  refine lv_aload_n hE.1 hE.2 dX1_begin_5 rfl (lv_at hl 0 rfl) ?_
  refine gM_many hE hX hown hK hh dX1_begin_6 ?_
  refine zv_sipush hE dX1_begin_9 (by decide) ?_
  refine zv_icmp_eq (tgt := 27) hE dX1_begin_12 (by decide) ⟨by omega, by omega⟩ ⟨by omega, by omega⟩ (fun hc_6 => ?_) (fun hc_6 => ?_)
  · refine zv_iconst hE dX1_begin_27 ?_
    refine mc_ret (u := (mt, mq, mw, ms, ml, mf, mx, mo, mi, mg, 0, mn, mh, ev, cu, fr, oo)) hE hr hlk hK hh dX1_begin_28 ?_
    first | exact Or.inl ⟨rfl, rfl, by omega⟩ | exact Or.inr ⟨by omega, by omega, by omega, hj, by omega, ml1, hmp, rfl⟩ | (exfalso; omega)
  · refine lv_aload_n hE.1 hE.2 dX1_begin_15 rfl (lv_at hl 0 rfl) ?_
    refine gM_taken hE hX hown hK hh dX1_begin_16 ?_
    refine lv_aload_n hE.1 hE.2 dX1_begin_19 rfl (lv_at hl 0 rfl) ?_
    refine mc_call (rest := [.ref (q 7)]) (As := []) hE hml hown hX hA hK hh (kM_last l dC dI q cA mt mq mw ms ml mf mx mo mi mg 0 mn mh ev cu fr oo) (cwV 0 hX qM_last rfl rfl rfl (by decide +kernel) ⟨Nat.le_of_ble_eq_true rfl, Nat.le_of_ble_eq_true rfl⟩) rfl rfl hl.1 rfl (Nat.le_of_ble_eq_true rfl) dX1_begin_20 ⟨Nat.zero_le _, Nat.zero_le _⟩ rfl (fun z_8 u H locs hq_7 hh => ?_)
    obtain ⟨rfl, rfl⟩ := hq_7
    refine rM_taken hE hK hh ⟨by omega, by omega⟩ dX1_begin_23 ?_
    refine zv_if_eq (tgt := 29) hE dX1_begin_24 (by decide) ⟨by omega, by omega⟩ (fun hc_9 => ?_) (fun hc_9 => ?_)
    · refine zv_iconst hE dX1_begin_29 ?_
      refine lv_istore_n (lv' := [(2, .int (zi_ 0)), (0, .ref (q 0)), (1, .int (zi_ key))]) hE.1 hE.2 dX1_begin_30 rfl hl (by decide) rfl (fun ls hl => ?_)
      exact loop_31 601 0 (by omega) (by omega) (by omega) (fun j x y => by omega) (by omega) _ _ hh ls (lv_sub hl [0, 2, 1] rfl)
    · refine zv_iconst hE dX1_begin_27 ?_
      refine mc_ret (u := (mt, mq, mw, ms, ml, mf, mx, mo, mi, mg, 0, mn, mh, ev, cu, fr, oo)) hE hr hlk hK hh dX1_begin_28 ?_
      first | exact Or.inl ⟨rfl, rfl, by omega⟩ | exact Or.inr ⟨by omega, by omega, by omega, hj, by omega, ml1, hmp, rfl⟩ | (exfalso; omega)
set_option maxHeartbeats 400000 in
set_option maxRecDepth 100000 in
theorem kM_end (l : Launch) (dC : Nat → ClassId) (dI : Nat → Nat → Nat) (q : Nat → Nat) (cA : Nat → ClassId) (mt mq mw ms ml mf mx mo mi mg : Int → Int) (th mn mh ev cu fr oo : Int) (sa ea : Int → Int) (hI : im_ sa ea mt mq mw ms ml mf mx mo mi mn mh ev cu fr oo) : mc_i l (dC, dI) vwCl (tM_ cA) (wM_ q cA) yX1_end wsX1_end ({ frames := 3, cells := 0, slots := 0, locals := 140 }) (mt, mq, mw, ms, ml, mf, mx, mo, mi, mg, th, mn, mh, ev, cu, fr, oo) [.ref (q 0)] (fun (z : Int) (u : SM_) => (z = -1 ∧ u = (mt, mq, mw, ms, ml, mf, mx, mo, mi, mg, 0, mn, mh, ev, cu, fr, oo) ∧ (oo ≤ 0 ∨ mi (oo - 1) ≠ fr - 1)) ∨ (0 < oo ∧ mi (oo - 1) = fr - 1 ∧ z = mo (oo - 1) ∧ ∃ ml1 : Int → Int, mp_ ml ev cu ml1 ∧ u = (mt, mq, mw, ms, up_ ml1 cu (2 * z + 1), mf, mx, mo, mi, mg, 0, mn, mh, ev + 1, cu + 1, fr, oo - 1))) := by
  refine mc_i_of (cc := cX1_end) (maxL := 1) (ret := (some .int)) (by decide) rfl (Nat.le_of_ble_eq_true rfl) ?_
  intro p e s m below meth c A ls hE hml hown hts hr hlk hA hK hh hl
  have hown : s.vm.findClass RX1 = some m.cls := hown
  have hX : ∀ w ∈ wsM_, w.before _ s = true := fun w h => hts w (List.mem_cons_of_mem _ h)
  have hl : lv_has ls 1 [(0, .ref (q 0))] := hl
  obtain ⟨hm0, hm1, hc1, hc2, hmi, hmo1, hx1b, hT, hlm, hmr⟩ := im_f hI
  obtain ⟨hw, hmt, hmn, hmn2, ⟨j0, hj0, hj1, hj2⟩, ⟨hf1, hf2, hm9⟩, hmf, hmx, ⟨hc0, hc3, hev, ho0, ho2⟩, hmo, hms, hmq, hmw, hmh, hl9⟩ := hI
  have ho1 : oo ≤ 600 := by omega
  refine lv_aload_n hE.1 hE.2 dX1_end_0 rfl (lv_at hl 0 rfl) ?_
  refine zv_iconst hE dX1_end_1 ?_
  refine pM_thrown hE hX hown hK hh dX1_end_2 (fun H locs hh => ?_)
  refine lv_aload_n hE.1 hE.2 dX1_end_5 rfl (lv_at hl 0 rfl) ?_
  refine mc_call (rest := []) (As := []) hE hml hown hX hA hK hh (kM_hasOpen l dC dI q cA mt mq mw ms ml mf mx mo mi mg 0 mn mh ev cu fr oo ho0 ho1 hf1 hf2 hmi) (cwV 0 hX qM_hasOpen rfl rfl rfl (by decide +kernel) ⟨Nat.le_of_ble_eq_true rfl, Nat.le_of_ble_eq_true rfl⟩) rfl rfl hl.1 rfl (Nat.le_of_ble_eq_true rfl) dX1_end_6 ⟨Nat.zero_le _, Nat.zero_le _⟩ rfl (fun z_2 u H locs hq_1 hh => ?_)
  obtain ⟨rfl, hq_1a, hq_1b⟩ := hq_1
  have hq_1z : zr_ z_2 := ⟨by omega, by omega⟩
  refine zv_if_ne (tgt := 14) hE dX1_end_9 (by decide) ⟨by omega, by omega⟩ (fun hc_3 => ?_) (fun hc_3 => ?_)
  · refine lv_aload_n hE.1 hE.2 dX1_end_14 rfl (lv_at hl 0 rfl) ?_
    refine lv_dup hE.1 hE.2 dX1_end_15 rfl ?_
    refine gM_opens hE hX hown hK hh dX1_end_16 ?_
    refine zv_iconst hE dX1_end_19 ?_
    refine zv_isub hE dX1_end_20 ?_
    refine pM_opens hE hX hown hK hh dX1_end_21 (fun H locs hh => ?_)
    refine lv_aload_n hE.1 hE.2 dX1_end_24 rfl (lv_at hl 0 rfl) ?_
    refine zv_iconst hE dX1_end_25 ?_
    refine lv_aload_n hE.1 hE.2 dX1_end_26 rfl (lv_at hl 0 rfl) ?_
    refine gM_open hE hX hown hK hh dX1_end_27 ?_
    refine lv_aload_n hE.1 hE.2 dX1_end_30 rfl (lv_at hl 0 rfl) ?_
    refine gM_opens hE hX hown hK hh dX1_end_31 ?_
    refine rM_open hE hK hh ⟨by omega, by omega⟩ dX1_end_34 ?_
    refine zv_imul hE dX1_end_35 ?_
    refine zv_iconst hE dX1_end_36 ?_
    refine zv_iadd hE dX1_end_37 ?_
    refine mc_callv (rest := []) (As := [.int (zi_ ((2 * (mo (oo - 1))) + 1))]) hE hml hown hX hA hK hh (kM_put l dC dI q cA mt mq mw ms ml mf mx mo mi mg 0 mn mh ev cu fr (oo - 1) ((2 * (mo (oo - 1))) + 1) (by omega) (by omega) (by omega)) (cwV 1 hX qM_put rfl rfl rfl (by decide +kernel) ⟨Nat.le_of_ble_eq_true rfl, Nat.le_of_ble_eq_true rfl⟩) rfl rfl hl.1 rfl (Nat.le_of_ble_eq_true rfl) dX1_end_38 ⟨Nat.zero_le _, Nat.zero_le _⟩ rfl (fun u H locs hq_4 hh => ?_)
    obtain ⟨ml1, hmp, rfl⟩ := hq_4
    refine lv_aload_n hE.1 hE.2 dX1_end_41 rfl (lv_at hl 0 rfl) ?_
    refine gM_open hE hX hown hK hh dX1_end_42 ?_
    refine lv_aload_n hE.1 hE.2 dX1_end_45 rfl (lv_at hl 0 rfl) ?_
    refine gM_opens hE hX hown hK hh dX1_end_46 ?_
    refine rM_open hE hK hh ⟨by omega, by omega⟩ dX1_end_49 ?_
    refine mc_ret (u := (mt, mq, mw, ms, up_ ml1 cu ((2 * (mo (oo - 1))) + 1), mf, mx, mo, mi, mg, 0, mn, mh, ev + 1, cu + 1, fr, oo - 1)) hE hr hlk hK hh dX1_end_50 ?_
    first | exact Or.inl ⟨rfl, rfl, by omega⟩ | exact Or.inr ⟨by omega, by omega, rfl, ml1, hmp, rfl⟩
  · refine zv_iconst hE dX1_end_12 ?_
    refine mc_ret (u := (mt, mq, mw, ms, ml, mf, mx, mo, mi, mg, 0, mn, mh, ev, cu, fr, oo)) hE hr hlk hK hh dX1_end_13 ?_
    first | exact Or.inl ⟨rfl, rfl, by omega⟩ | exact Or.inr ⟨by omega, by omega, rfl, ml1, hmp, rfl⟩
set_option maxHeartbeats 400000 in
set_option maxRecDepth 100000 in
theorem kM_weigh (l : Launch) (dC : Nat → ClassId) (dI : Nat → Nat → Nat) (q : Nat → Nat) (cA : Nat → ClassId) (mt mq mw ms ml mf mx mo mi mg : Int → Int) (th mn mh ev cu fr oo : Int) (n1 : Int) (sa ea : Int → Int) (hI : im_ sa ea mt mq mw ms ml mf mx mo mi mn mh ev cu fr oo) (hk9 : zr_ n1) : mc_i l (dC, dI) vwCl (tM_ cA) (wM_ q cA) yX1_weigh wsX1_weigh ({ frames := 3, cells := 0, slots := 0, locals := 140 }) (mt, mq, mw, ms, ml, mf, mx, mo, mi, mg, th, mn, mh, ev, cu, fr, oo) [.ref (q 0), .int (zi_ n1)] (fun (z : Int) (u : SM_) => (z = 0 ∧ u = (mt, mq, mw, ms, ml, mf, mx, mo, mi, mg, 0, mn, mh, ev, cu, fr, oo) ∧ (n1 < 0 ∨ mx (fr - 1) = 1 ∨ 1000000000 < mh + sg_ (cw_ sa mw) 600 + n1)) ∨ (z = 1 ∧ 0 ≤ n1 ∧ mx (fr - 1) = 0 ∧ mh + sg_ (cw_ sa mw) 600 + n1 ≤ 1000000000 ∧ ∃ i : Int, ((0 < oo ∧ mi (oo - 1) = fr - 1 ∧ i = mo (oo - 1)) ∨ ((oo ≤ 0 ∨ mi (oo - 1) ≠ fr - 1) ∧ i = mf (fr - 1))) ∧ ((i = -1 ∧ u = (mt, mq, mw, ms, ml, mf, mx, mo, mi, mg, 0, mn, mh + n1, ev, cu, fr, oo)) ∨ (0 ≤ i ∧ i < 600 ∧ u = (mt, mq, up_ mw i (mw i + n1), ms, ml, mf, mx, mo, mi, mg, 0, mn, mh, ev, cu, fr, oo))))) := by
  refine mc_i_of (cc := cX1_weigh) (maxL := 3) (ret := (some .boolean)) (by decide) rfl (Nat.le_of_ble_eq_true rfl) ?_
  intro p e s m below meth c A ls hE hml hown hts hr hlk hA hK hh hl
  have hown : s.vm.findClass RX1 = some m.cls := hown
  have hX : ∀ w ∈ wsM_, w.before _ s = true := fun w h => hts w (List.mem_cons_of_mem _ h)
  have hl : lv_has ls 3 [(0, .ref (q 0)), (1, .int (zi_ n1))] := hl
  obtain ⟨hm0, hm1, hc1, hc2, hmi, hmo1, hx1b, hT, hlm, hmr⟩ := im_f hI
  obtain ⟨hw, hmt, hmn, hmn2, ⟨j0, hj0, hj1, hj2⟩, ⟨hf1, hf2, hm9⟩, hmf, hmx, ⟨hc0, hc3, hev, ho0, ho2⟩, hmo, hms, hmq, hmw, hmh, hl9⟩ := hI
  have ho1 : oo ≤ 600 := by omega
  refine lv_aload_n hE.1 hE.2 dX1_weigh_0 rfl (lv_at hl 0 rfl) ?_
  refine zv_iconst hE dX1_weigh_1 ?_
  refine pM_thrown hE hX hown hK hh dX1_weigh_2 (fun H locs hh => ?_)
  refine lv_iload_n hE.1 hE.2 dX1_weigh_5 rfl (lv_at hl 1 rfl) ?_
  refine zv_if_lt (tgt := 35) hE dX1_weigh_6 (by decide) ⟨by omega, by omega⟩ (fun hc_1 => ?_) (fun hc_1 => ?_)
  · refine zv_iconst hE dX1_weigh_35 ?_
    refine mc_retz (u := (mt, mq, mw, ms, ml, mf, mx, mo, mi, mg, 0, mn, mh, ev, cu, fr, oo)) hE hr hlk hK hh dX1_weigh_36 (by first | exact Or.inl rfl | exact Or.inr rfl | assumption | (unfold zb_; omega)) ?_
    first | exact Or.inl ⟨rfl, rfl, by omega⟩ | exact Or.inr ⟨rfl, by omega, by omega, by omega, mo (oo - 1), Or.inl ⟨by omega, by omega, rfl⟩, Or.inr ⟨by omega, by omega, rfl⟩⟩ | exact Or.inr ⟨rfl, by omega, by omega, by omega, mf (fr - 1), Or.inr ⟨by omega, rfl⟩, Or.inr ⟨by omega, by omega, rfl⟩⟩ | exact Or.inr ⟨rfl, by omega, by omega, by omega, mf (fr - 1), Or.inr ⟨by omega, rfl⟩, Or.inl ⟨by omega, rfl⟩⟩ | (exfalso; omega)
  · refine lv_aload_n hE.1 hE.2 dX1_weigh_9 rfl (lv_at hl 0 rfl) ?_
    refine gM_taken hE hX hown hK hh dX1_weigh_10 ?_
    refine lv_aload_n hE.1 hE.2 dX1_weigh_13 rfl (lv_at hl 0 rfl) ?_
    refine mc_call (rest := [.ref (q 7)]) (As := []) hE hml hown hX hA hK hh (kM_last l dC dI q cA mt mq mw ms ml mf mx mo mi mg 0 mn mh ev cu fr oo) (cwV 0 hX qM_last rfl rfl rfl (by decide +kernel) ⟨Nat.le_of_ble_eq_true rfl, Nat.le_of_ble_eq_true rfl⟩) rfl rfl hl.1 rfl (Nat.le_of_ble_eq_true rfl) dX1_weigh_14 ⟨Nat.zero_le _, Nat.zero_le _⟩ rfl (fun z_3 u H locs hq_2 hh => ?_)
    obtain ⟨rfl, rfl⟩ := hq_2
    refine rM_taken hE hK hh ⟨by omega, by omega⟩ dX1_weigh_17 ?_
    refine zv_if_ne (tgt := 35) hE dX1_weigh_18 (by decide) ⟨by omega, by omega⟩ (fun hc_4 => ?_) (fun hc_4 => ?_)
    · refine zv_iconst hE dX1_weigh_35 ?_
      refine mc_retz (u := (mt, mq, mw, ms, ml, mf, mx, mo, mi, mg, 0, mn, mh, ev, cu, fr, oo)) hE hr hlk hK hh dX1_weigh_36 (by first | exact Or.inl rfl | exact Or.inr rfl | assumption | (unfold zb_; omega)) ?_
      first | exact Or.inl ⟨rfl, rfl, by omega⟩ | exact Or.inr ⟨rfl, by omega, by omega, by omega, mo (oo - 1), Or.inl ⟨by omega, by omega, rfl⟩, Or.inr ⟨by omega, by omega, rfl⟩⟩ | exact Or.inr ⟨rfl, by omega, by omega, by omega, mf (fr - 1), Or.inr ⟨by omega, rfl⟩, Or.inr ⟨by omega, by omega, rfl⟩⟩ | exact Or.inr ⟨rfl, by omega, by omega, by omega, mf (fr - 1), Or.inr ⟨by omega, rfl⟩, Or.inl ⟨by omega, rfl⟩⟩ | (exfalso; omega)
    · refine lv_aload_n hE.1 hE.2 dX1_weigh_21 rfl (lv_at hl 0 rfl) ?_
      refine mc_calll (rest := []) (As := []) hE hml hown hX hA hK hh (kM_allWeights l dC dI q cA mt mq mw ms ml mf mx mo mi mg 0 mn mh ev cu fr oo sa hmt hmh hmw) (cwV 0 hX qM_allWeights rfl rfl rfl (by decide +kernel) ⟨Nat.le_of_ble_eq_true rfl, Nat.le_of_ble_eq_true rfl⟩) rfl rfl hl.1 rfl (Nat.le_of_ble_eq_true rfl) dX1_weigh_22 ⟨Nat.zero_le _, Nat.zero_le _⟩ rfl (fun z_6 u H locs hq_5 hh => ?_)
      obtain ⟨rfl, rfl⟩ := hq_5
      refine lv_iload_n hE.1 hE.2 dX1_weigh_25 rfl (lv_at hl 1 rfl) ?_
      refine zv_i2l hE ⟨by omega, by omega⟩ dX1_weigh_26 ?_
      refine zv_ladd hE dX1_weigh_27 ?_
      refine lv_ldc2 (v := zl_ 1000000000) hE.1 hE.2 hown (hX _ mM_cn_86) dX1_weigh_28 ?_
      refine zv_lcmp hE ⟨by omega, by omega⟩ ⟨by omega, by omega⟩ dX1_weigh_31 ?_
      refine zv_if_le (tgt := 37) hE dX1_weigh_32 (by decide) (sn_zr _ _) (fun hc_7 => ?_) (fun hc_7 => ?_)
      · rw [sn_le] at hc_7
        refine lv_aload_n hE.1 hE.2 dX1_weigh_37 rfl (lv_at hl 0 rfl) ?_
        refine mc_call (rest := []) (As := []) hE hml hown hX hA hK hh (kM_hasOpen l dC dI q cA mt mq mw ms ml mf mx mo mi mg 0 mn mh ev cu fr oo ho0 ho1 hf1 hf2 hmi) (cwV 0 hX qM_hasOpen rfl rfl rfl (by decide +kernel) ⟨Nat.le_of_ble_eq_true rfl, Nat.le_of_ble_eq_true rfl⟩) rfl rfl hl.1 rfl (Nat.le_of_ble_eq_true rfl) dX1_weigh_38 ⟨Nat.zero_le _, Nat.zero_le _⟩ rfl (fun z_9 u H locs hq_8 hh => ?_)
        obtain ⟨rfl, hq_8a, hq_8b⟩ := hq_8
        have hq_8z : zr_ z_9 := ⟨by omega, by omega⟩
        refine zv_if_eq (tgt := 58) hE dX1_weigh_41 (by decide) ⟨by omega, by omega⟩ (fun hc_10 => ?_) (fun hc_10 => ?_)
        · refine lv_aload_n hE.1 hE.2 dX1_weigh_58 rfl (lv_at hl 0 rfl) ?_
          refine gM_frameOf hE hX hown hK hh dX1_weigh_59 ?_
          refine lv_aload_n hE.1 hE.2 dX1_weigh_62 rfl (lv_at hl 0 rfl) ?_
          refine mc_call (rest := [.ref (q 6)]) (As := []) hE hml hown hX hA hK hh (kM_last l dC dI q cA mt mq mw ms ml mf mx mo mi mg 0 mn mh ev cu fr oo) (cwV 0 hX qM_last rfl rfl rfl (by decide +kernel) ⟨Nat.le_of_ble_eq_true rfl, Nat.le_of_ble_eq_true rfl⟩) rfl rfl hl.1 rfl (Nat.le_of_ble_eq_true rfl) dX1_weigh_63 ⟨Nat.zero_le _, Nat.zero_le _⟩ rfl (fun z_12 u H locs hq_11 hh => ?_)
          obtain ⟨rfl, rfl⟩ := hq_11
          refine rM_frameOf hE hK hh ⟨by omega, by omega⟩ dX1_weigh_66 ?_
          refine lv_istore_n (lv' := [(2, .int (zi_ (mf (fr - 1)))), (0, .ref (q 0)), (1, .int (zi_ n1))]) hE.1 hE.2 dX1_weigh_67 rfl hl (by decide) rfl (fun ls hl => ?_)
          refine lv_iload_n hE.1 hE.2 dX1_weigh_68 rfl (lv_at hl 0 rfl) ?_
          refine zv_if_ge (tgt := 85) hE dX1_weigh_69 (by decide) ⟨by omega, by omega⟩ (fun hc_13 => ?_) (fun hc_13 => ?_)
          · refine lv_aload_n hE.1 hE.2 dX1_weigh_85 rfl (lv_at hl 1 rfl) ?_
            refine gM_weights hE hX hown hK hh dX1_weigh_86 ?_
            refine lv_iload_n hE.1 hE.2 dX1_weigh_89 rfl (lv_at hl 0 rfl) ?_
            refine lv_dup2_11 hE.1 hE.2 dX1_weigh_90 rfl rfl ?_
            refine rM_weights hE hK hh ⟨by omega, by omega⟩ dX1_weigh_91 ?_
            refine lv_iload_n hE.1 hE.2 dX1_weigh_92 rfl (lv_at hl 2 rfl) ?_
            refine zv_iadd hE dX1_weigh_93 ?_
            refine sM_weights hE hK hh ⟨by omega, by omega⟩ dX1_weigh_94 (fun H locs hh => ?_)
            refine zv_iconst hE dX1_weigh_95 ?_
            refine mc_retz (u := (mt, mq, up_ mw (mf (fr - 1)) ((mw (mf (fr - 1))) + n1), ms, ml, mf, mx, mo, mi, mg, 0, mn, mh, ev, cu, fr, oo)) hE hr hlk hK hh dX1_weigh_96 (by first | exact Or.inl rfl | exact Or.inr rfl | assumption | (unfold zb_; omega)) ?_
            first | exact Or.inl ⟨rfl, rfl, by omega⟩ | exact Or.inr ⟨rfl, by omega, by omega, by omega, mo (oo - 1), Or.inl ⟨by omega, by omega, rfl⟩, Or.inr ⟨by omega, by omega, rfl⟩⟩ | exact Or.inr ⟨rfl, by omega, by omega, by omega, mf (fr - 1), Or.inr ⟨by omega, rfl⟩, Or.inr ⟨by omega, by omega, rfl⟩⟩ | exact Or.inr ⟨rfl, by omega, by omega, by omega, mf (fr - 1), Or.inr ⟨by omega, rfl⟩, Or.inl ⟨by omega, rfl⟩⟩ | (exfalso; omega)
          · refine lv_aload_n hE.1 hE.2 dX1_weigh_72 rfl (lv_at hl 1 rfl) ?_
            refine lv_dup hE.1 hE.2 dX1_weigh_73 rfl ?_
            refine gM_whole hE hX hown hK hh dX1_weigh_74 ?_
            refine lv_iload_n hE.1 hE.2 dX1_weigh_77 rfl (lv_at hl 2 rfl) ?_
            refine zv_iadd hE dX1_weigh_78 ?_
            refine pM_whole hE hX hown hK hh dX1_weigh_79 (fun H locs hh => ?_)
            refine lv_goto (tgt := 95) hE.1 hE.2 dX1_weigh_82 (by decide) ?_
            refine zv_iconst hE dX1_weigh_95 ?_
            refine mc_retz (u := (mt, mq, mw, ms, ml, mf, mx, mo, mi, mg, 0, mn, mh + n1, ev, cu, fr, oo)) hE hr hlk hK hh dX1_weigh_96 (by first | exact Or.inl rfl | exact Or.inr rfl | assumption | (unfold zb_; omega)) ?_
            first | exact Or.inl ⟨rfl, rfl, by omega⟩ | exact Or.inr ⟨rfl, by omega, by omega, by omega, mo (oo - 1), Or.inl ⟨by omega, by omega, rfl⟩, Or.inr ⟨by omega, by omega, rfl⟩⟩ | exact Or.inr ⟨rfl, by omega, by omega, by omega, mf (fr - 1), Or.inr ⟨by omega, rfl⟩, Or.inr ⟨by omega, by omega, rfl⟩⟩ | exact Or.inr ⟨rfl, by omega, by omega, by omega, mf (fr - 1), Or.inr ⟨by omega, rfl⟩, Or.inl ⟨by omega, rfl⟩⟩ | (exfalso; omega)
        · refine lv_aload_n hE.1 hE.2 dX1_weigh_44 rfl (lv_at hl 0 rfl) ?_
          refine gM_open hE hX hown hK hh dX1_weigh_45 ?_
          refine lv_aload_n hE.1 hE.2 dX1_weigh_48 rfl (lv_at hl 0 rfl) ?_
          refine gM_opens hE hX hown hK hh dX1_weigh_49 ?_
          refine zv_iconst hE dX1_weigh_52 ?_
          refine zv_isub hE dX1_weigh_53 ?_
          refine rM_open hE hK hh ⟨by omega, by omega⟩ dX1_weigh_54 ?_
          refine lv_goto (tgt := 67) hE.1 hE.2 dX1_weigh_55 (by decide) ?_
          refine lv_istore_n (lv' := [(2, .int (zi_ (mo (oo - 1)))), (0, .ref (q 0)), (1, .int (zi_ n1))]) hE.1 hE.2 dX1_weigh_67 rfl hl (by decide) rfl (fun ls hl => ?_)
          refine lv_iload_n hE.1 hE.2 dX1_weigh_68 rfl (lv_at hl 0 rfl) ?_
          refine zv_if_ge (tgt := 85) hE dX1_weigh_69 (by decide) ⟨by omega, by omega⟩ (fun hc_14 => ?_) (fun hc_14 => ?_)
          · refine lv_aload_n hE.1 hE.2 dX1_weigh_85 rfl (lv_at hl 1 rfl) ?_
            refine gM_weights hE hX hown hK hh dX1_weigh_86 ?_
            refine lv_iload_n hE.1 hE.2 dX1_weigh_89 rfl (lv_at hl 0 rfl) ?_
            refine lv_dup2_11 hE.1 hE.2 dX1_weigh_90 rfl rfl ?_
            refine rM_weights hE hK hh ⟨by omega, by omega⟩ dX1_weigh_91 ?_
            refine lv_iload_n hE.1 hE.2 dX1_weigh_92 rfl (lv_at hl 2 rfl) ?_
            refine zv_iadd hE dX1_weigh_93 ?_
            refine sM_weights hE hK hh ⟨by omega, by omega⟩ dX1_weigh_94 (fun H locs hh => ?_)
            refine zv_iconst hE dX1_weigh_95 ?_
            refine mc_retz (u := (mt, mq, up_ mw (mo (oo - 1)) ((mw (mo (oo - 1))) + n1), ms, ml, mf, mx, mo, mi, mg, 0, mn, mh, ev, cu, fr, oo)) hE hr hlk hK hh dX1_weigh_96 (by first | exact Or.inl rfl | exact Or.inr rfl | assumption | (unfold zb_; omega)) ?_
            first | exact Or.inl ⟨rfl, rfl, by omega⟩ | exact Or.inr ⟨rfl, by omega, by omega, by omega, mo (oo - 1), Or.inl ⟨by omega, by omega, rfl⟩, Or.inr ⟨by omega, by omega, rfl⟩⟩ | exact Or.inr ⟨rfl, by omega, by omega, by omega, mf (fr - 1), Or.inr ⟨by omega, rfl⟩, Or.inr ⟨by omega, by omega, rfl⟩⟩ | exact Or.inr ⟨rfl, by omega, by omega, by omega, mf (fr - 1), Or.inr ⟨by omega, rfl⟩, Or.inl ⟨by omega, rfl⟩⟩ | (exfalso; omega)
          · refine lv_aload_n hE.1 hE.2 dX1_weigh_72 rfl (lv_at hl 1 rfl) ?_
            refine lv_dup hE.1 hE.2 dX1_weigh_73 rfl ?_
            refine gM_whole hE hX hown hK hh dX1_weigh_74 ?_
            refine lv_iload_n hE.1 hE.2 dX1_weigh_77 rfl (lv_at hl 2 rfl) ?_
            refine zv_iadd hE dX1_weigh_78 ?_
            refine pM_whole hE hX hown hK hh dX1_weigh_79 (fun H locs hh => ?_)
            refine lv_goto (tgt := 95) hE.1 hE.2 dX1_weigh_82 (by decide) ?_
            refine zv_iconst hE dX1_weigh_95 ?_
            refine mc_retz (u := (mt, mq, mw, ms, ml, mf, mx, mo, mi, mg, 0, mn, mh + n1, ev, cu, fr, oo)) hE hr hlk hK hh dX1_weigh_96 (by first | exact Or.inl rfl | exact Or.inr rfl | assumption | (unfold zb_; omega)) ?_
            first | exact Or.inl ⟨rfl, rfl, by omega⟩ | exact Or.inr ⟨rfl, by omega, by omega, by omega, mo (oo - 1), Or.inl ⟨by omega, by omega, rfl⟩, Or.inr ⟨by omega, by omega, rfl⟩⟩ | exact Or.inr ⟨rfl, by omega, by omega, by omega, mf (fr - 1), Or.inr ⟨by omega, rfl⟩, Or.inr ⟨by omega, by omega, rfl⟩⟩ | exact Or.inr ⟨rfl, by omega, by omega, by omega, mf (fr - 1), Or.inr ⟨by omega, rfl⟩, Or.inl ⟨by omega, rfl⟩⟩ | (exfalso; omega)
      · rw [← Int.not_le, sn_le] at hc_7
        refine zv_iconst hE dX1_weigh_35 ?_
        refine mc_retz (u := (mt, mq, mw, ms, ml, mf, mx, mo, mi, mg, 0, mn, mh, ev, cu, fr, oo)) hE hr hlk hK hh dX1_weigh_36 (by first | exact Or.inl rfl | exact Or.inr rfl | assumption | (unfold zb_; omega)) ?_
        first | exact Or.inl ⟨rfl, rfl, by omega⟩ | exact Or.inr ⟨rfl, by omega, by omega, by omega, mo (oo - 1), Or.inl ⟨by omega, by omega, rfl⟩, Or.inr ⟨by omega, by omega, rfl⟩⟩ | exact Or.inr ⟨rfl, by omega, by omega, by omega, mf (fr - 1), Or.inr ⟨by omega, rfl⟩, Or.inr ⟨by omega, by omega, rfl⟩⟩ | exact Or.inr ⟨rfl, by omega, by omega, by omega, mf (fr - 1), Or.inr ⟨by omega, rfl⟩, Or.inl ⟨by omega, rfl⟩⟩ | (exfalso; omega)
set_option maxHeartbeats 400000 in
set_option maxRecDepth 100000 in
theorem kM_stale (l : Launch) (dC : Nat → ClassId) (dI : Nat → Nat → Nat) (q : Nat → Nat) (cA : Nat → ClassId) (mt mq mw ms ml mf mx mo mi mg : Int → Int) (th mn mh ev cu fr oo : Int) (i : Int) (sa ea : Int → Int) (hI : im_ sa ea mt mq mw ms ml mf mx mo mi mn mh ev cu fr oo) (hk9 : zr_ i) : mc_i l (dC, dI) vwCl (tM_ cA) (wM_ q cA) yX1_stale wsX1_stale ({ frames := 3, cells := 0, slots := 0, locals := 140 }) (mt, mq, mw, ms, ml, mf, mx, mo, mi, mg, th, mn, mh, ev, cu, fr, oo) [.ref (q 0), .int (zi_ i)] (fun (z : Int) (u : SM_) => (z = 0 ∧ u = (mt, mq, mw, ms, ml, mf, mx, mo, mi, mg, 0, mn, mh, ev, cu, fr, oo) ∧ (i < 0 ∨ 600 ≤ i ∨ sa i = -1 ∨ ea i = -1 ∨ ms i = 1)) ∨ (z = 1 ∧ 0 ≤ i ∧ i < 600 ∧ sa i ≠ -1 ∧ ea i ≠ -1 ∧ ms i = 0 ∧ u = (mt, mq, mw, up_ ms i 1, ml, mf, mx, mo, mi, mg, 0, mn, mh, ev, cu, fr, oo))) := by
  refine mc_i_of (cc := cX1_stale) (maxL := 2) (ret := (some .boolean)) (by decide) rfl (Nat.le_of_ble_eq_true rfl) ?_
  intro p e s m below meth c A ls hE hml hown hts hr hlk hA hK hh hl
  have hown : s.vm.findClass RX1 = some m.cls := hown
  have hX : ∀ w ∈ wsM_, w.before _ s = true := fun w h => hts w (List.mem_cons_of_mem _ h)
  have hl : lv_has ls 2 [(0, .ref (q 0)), (1, .int (zi_ i))] := hl
  obtain ⟨hm0, hm1, hc1, hc2, hmi, hmo1, hx1b, hT, hlm, hmr⟩ := im_f hI
  obtain ⟨hw, hmt, hmn, hmn2, ⟨j0, hj0, hj1, hj2⟩, ⟨hf1, hf2, hm9⟩, hmf, hmx, ⟨hc0, hc3, hev, ho0, ho2⟩, hmo, hms, hmq, hmw, hmh, hl9⟩ := hI
  have ho1 : oo ≤ 600 := by omega
  refine lv_aload_n hE.1 hE.2 dX1_stale_0 rfl (lv_at hl 0 rfl) ?_
  refine zv_iconst hE dX1_stale_1 ?_
  refine pM_thrown hE hX hown hK hh dX1_stale_2 (fun H locs hh => ?_)
  refine lv_aload_n hE.1 hE.2 dX1_stale_5 rfl (lv_at hl 0 rfl) ?_
  refine lv_iload_n hE.1 hE.2 dX1_stale_6 rfl (lv_at hl 1 rfl) ?_
  refine mc_call (rest := []) (As := [.int (zi_ i)]) hE hml hown hX hA hK hh (kM_isThere l dC dI q cA mt mq mw ms ml mf mx mo mi mg 0 mn mh ev cu fr oo i sa (by assumption) hmt) (cwV 1 hX qM_isThere rfl rfl rfl (by decide +kernel) ⟨Nat.le_of_ble_eq_true rfl, Nat.le_of_ble_eq_true rfl⟩) rfl rfl hl.1 rfl (Nat.le_of_ble_eq_true rfl) dX1_stale_7 ⟨Nat.zero_le _, Nat.zero_le _⟩ rfl (fun z_2 u H locs hq_1 hh => ?_)
  obtain ⟨rfl, hq_1a, hq_1b⟩ := hq_1
  have hq_1z : zr_ z_2 := ⟨by omega, by omega⟩
  refine zv_if_eq (tgt := 30) hE dX1_stale_10 (by decide) ⟨by omega, by omega⟩ (fun hc_3 => ?_) (fun hc_3 => ?_)
  · refine zv_iconst hE dX1_stale_30 ?_
    refine mc_retz (u := (mt, mq, mw, ms, ml, mf, mx, mo, mi, mg, 0, mn, mh, ev, cu, fr, oo)) hE hr hlk hK hh dX1_stale_31 (by first | exact Or.inl rfl | exact Or.inr rfl | assumption | (unfold zb_; omega)) ?_
    first | exact Or.inl ⟨rfl, rfl, by omega⟩ | exact Or.inr ⟨rfl, by omega, by omega, by omega, by omega, by omega, rfl⟩
  · refine lv_aload_n hE.1 hE.2 dX1_stale_13 rfl (lv_at hl 0 rfl) ?_
    refine lv_iload_n hE.1 hE.2 dX1_stale_14 rfl (lv_at hl 1 rfl) ?_
    refine mc_call (rest := []) (As := [.int (zi_ i)]) hE hml hown hX hA hK hh (kM_isEnded l dC dI q cA mt mq mw ms ml mf mx mo mi mg 0 mn mh ev cu fr oo i sa ea hw (by omega) (by omega) (by first | assumption | omega)) (cwV 1 hX qM_isEnded rfl rfl rfl (by decide +kernel) ⟨Nat.le_of_ble_eq_true rfl, Nat.le_of_ble_eq_true rfl⟩) rfl rfl hl.1 rfl (Nat.le_of_ble_eq_true rfl) dX1_stale_15 ⟨Nat.zero_le _, Nat.zero_le _⟩ rfl (fun z_5 u H locs hq_4 hh => ?_)
    obtain ⟨rfl, hq_4a, hq_4b⟩ := hq_4
    have hq_4z : zr_ z_5 := ⟨by omega, by omega⟩
    refine zv_if_eq (tgt := 30) hE dX1_stale_18 (by decide) ⟨by omega, by omega⟩ (fun hc_6 => ?_) (fun hc_6 => ?_)
    · refine zv_iconst hE dX1_stale_30 ?_
      refine mc_retz (u := (mt, mq, mw, ms, ml, mf, mx, mo, mi, mg, 0, mn, mh, ev, cu, fr, oo)) hE hr hlk hK hh dX1_stale_31 (by first | exact Or.inl rfl | exact Or.inr rfl | assumption | (unfold zb_; omega)) ?_
      first | exact Or.inl ⟨rfl, rfl, by omega⟩ | exact Or.inr ⟨rfl, by omega, by omega, by omega, by omega, by omega, rfl⟩
    · refine lv_aload_n hE.1 hE.2 dX1_stale_21 rfl (lv_at hl 0 rfl) ?_
      refine gM_isStale hE hX hown hK hh dX1_stale_22 ?_
      refine lv_iload_n hE.1 hE.2 dX1_stale_25 rfl (lv_at hl 1 rfl) ?_
      have hx4 := hms i (by omega) (by omega)
      refine rM_isStale hE hK hh ⟨by omega, by omega⟩ dX1_stale_26 ?_
      refine zv_if_eq (tgt := 32) hE dX1_stale_27 (by decide) ⟨by omega, by omega⟩ (fun hc_7 => ?_) (fun hc_7 => ?_)
      · refine lv_aload_n hE.1 hE.2 dX1_stale_32 rfl (lv_at hl 0 rfl) ?_
        refine gM_isStale hE hX hown hK hh dX1_stale_33 ?_
        refine lv_iload_n hE.1 hE.2 dX1_stale_36 rfl (lv_at hl 1 rfl) ?_
        refine zv_iconst hE dX1_stale_37 ?_
        refine sM_isStale hE hK hh ⟨by omega, by omega⟩ (by first | exact Or.inl rfl | exact Or.inr rfl | assumption) dX1_stale_38 (fun H locs hh => ?_)
        refine zv_iconst hE dX1_stale_39 ?_
        refine mc_retz (u := (mt, mq, mw, up_ ms i 1, ml, mf, mx, mo, mi, mg, 0, mn, mh, ev, cu, fr, oo)) hE hr hlk hK hh dX1_stale_40 (by first | exact Or.inl rfl | exact Or.inr rfl | assumption | (unfold zb_; omega)) ?_
        first | exact Or.inl ⟨rfl, rfl, by omega⟩ | exact Or.inr ⟨rfl, by omega, by omega, by omega, by omega, by omega, rfl⟩
      · refine zv_iconst hE dX1_stale_30 ?_
        refine mc_retz (u := (mt, mq, mw, ms, ml, mf, mx, mo, mi, mg, 0, mn, mh, ev, cu, fr, oo)) hE hr hlk hK hh dX1_stale_31 (by first | exact Or.inl rfl | exact Or.inr rfl | assumption | (unfold zb_; omega)) ?_
        first | exact Or.inl ⟨rfl, rfl, by omega⟩ | exact Or.inr ⟨rfl, by omega, by omega, by omega, by omega, by omega, rfl⟩
set_option maxHeartbeats 400000 in
set_option maxRecDepth 100000 in
theorem kM_resume (l : Launch) (dC : Nat → ClassId) (dI : Nat → Nat → Nat) (q : Nat → Nat) (cA : Nat → ClassId) (mt mq mw ms ml mf mx mo mi mg : Int → Int) (th mn mh ev cu fr oo : Int) (sa ea : Int → Int) (hI : im_ sa ea mt mq mw ms ml mf mx mo mi mn mh ev cu fr oo) : mc_i l (dC, dI) vwCl (tM_ cA) (wM_ q cA) yX1_resume wsX1_resume ({ frames := 3, cells := 0, slots := 0, locals := 140 }) (mt, mq, mw, ms, ml, mf, mx, mo, mi, mg, th, mn, mh, ev, cu, fr, oo) [.ref (q 0)] (fun (z : Int) (u : SM_) => (z = -1 ∧ u = (mt, mq, mw, ms, ml, mf, mx, mo, mi, mg, 0, mn, mh, ev, cu, fr, oo) ∧ ((1 < fr ∧ mx (fr - 1) = 0) ∨ (0 < oo ∧ mi (oo - 1) = fr - 1) ∨ fr = 64 ∨ ∀ k : Int, cu ≤ k → k < (lm_ mf ea ev fr) → ¬ (fun k => ml k % 2 = 0 ∧ ms (ml k / 2) = 1) k)) ∨ ((fr ≤ 1 ∨ mx (fr - 1) = 1) ∧ (oo ≤ 0 ∨ mi (oo - 1) ≠ fr - 1) ∧ fr < 64 ∧ ∃ k : Int, cu ≤ k ∧ k < (lm_ mf ea ev fr) ∧ (fun k => ml k % 2 = 0 ∧ ms (ml k / 2) = 1) k ∧ (∀ j : Int, cu ≤ j → j < k → ¬ (fun k => ml k % 2 = 0 ∧ ms (ml k / 2) = 1) j) ∧ z = ml k / 2 ∧ u = (mt, mq, up_ mw (ml k / 2) 0, up_ ms (ml k / 2) 0, ml, up_ mf fr (ml k / 2), up_ mx fr 0, mo, mi, mg, 0, mn, mh, ev, sa (ml k / 2) + 1, fr + 1, oo))) := by
  refine mc_i_of (cc := cX1_resume) (maxL := 5) (ret := (some .int)) (by decide) rfl (Nat.le_of_ble_eq_true rfl) ?_
  intro p e s m below meth c A ls hE hml hown hts hr hlk hA hK hh hl
  have hown : s.vm.findClass RX1 = some m.cls := hown
  have hX : ∀ w ∈ wsM_, w.before _ s = true := fun w h => hts w (List.mem_cons_of_mem _ h)
  have hl : lv_has ls 5 [(0, .ref (q 0))] := hl
  obtain ⟨hm0, hm1, hc1, hc2, hmi, hmo1, hx1b, hT, hlm, hmr⟩ := im_f hI
  obtain ⟨hw, hmt, hmn, hmn2, ⟨j0, hj0, hj1, hj2⟩, ⟨hf1, hf2, hm9⟩, hmf, hmx, ⟨hc0, hc3, hev, ho0, ho2⟩, hmo, hms, hmq, hmw, hmh, hl9⟩ := hI
  have ho1 : oo ≤ 600 := by omega
  have loop_63 : ∀ (n : Nat) (pl : Int), (cu ≤ pl) → (pl ≤ (lm_ mf ea ev fr)) → ((lm_ mf ea ev fr) - pl < (n : Int)) → (∀ k : Int, cu ≤ k → k < pl → ¬ (fun k => ml k % 2 = 0 ∧ ms (ml k / 2) = 1) k) → ((fr ≤ 1 ∨ mx (fr - 1) = 1) ∧ (oo ≤ 0 ∨ mi (oo - 1) ≠ fr - 1) ∧ fr < 64) → ∀ (H : Heap) (locs : List Loc), hp_ (dC, dI) vwCl A s.heap (wM_ q cA (mt, mq, mw, ms, ml, mf, mx, mo, mi, mg, 0, mn, mh, ev, cu, fr, oo)) H locs → ∀ (ls : Array Slot), lv_has ls 5 [(3, .int (zi_ pl)), (2, .int (zi_ (lm_ mf ea ev fr))), (0, .ref (q 0))] → W p l e ({ frames := 3, cells := 0, slots := 0, locals := 140 }) s m ([.ref (q 0)] : List Value).toArray below meth c H locs 0 0 (MQ below (mc_Qi (dC, dI) vwCl (tM_ cA) (wM_ q cA) (fun (z : Int) (u : SM_) => (z = -1 ∧ u = (mt, mq, mw, ms, ml, mf, mx, mo, mi, mg, 0, mn, mh, ev, cu, fr, oo) ∧ ((1 < fr ∧ mx (fr - 1) = 0) ∨ (0 < oo ∧ mi (oo - 1) = fr - 1) ∨ fr = 64 ∨ ∀ k : Int, cu ≤ k → k < (lm_ mf ea ev fr) → ¬ (fun k => ml k % 2 = 0 ∧ ms (ml k / 2) = 1) k)) ∨ ((fr ≤ 1 ∨ mx (fr - 1) = 1) ∧ (oo ≤ 0 ∨ mi (oo - 1) ≠ fr - 1) ∧ fr < 64 ∧ ∃ k : Int, cu ≤ k ∧ k < (lm_ mf ea ev fr) ∧ (fun k => ml k % 2 = 0 ∧ ms (ml k / 2) = 1) k ∧ (∀ j : Int, cu ≤ j → j < k → ¬ (fun k => ml k % 2 = 0 ∧ ms (ml k / 2) = 1) j) ∧ z = ml k / 2 ∧ u = (mt, mq, up_ mw (ml k / 2) 0, up_ ms (ml k / 2) 0, ml, up_ mf fr (ml k / 2), up_ mx fr 0, mo, mi, mg, 0, mn, mh, ev, sa (ml k / 2) + 1, fr + 1, oo))) A) ([.ref (q 0)] : List Value).toArray s 0 0 A) (F0 m 63 ls []) := by
    intro n
    induction n with
    | zero => intros; exfalso; omega
    | succ n ih =>
      intro pl g0 g1 hn hj hp1 H locs hh ls hl
      refine lv_iload_n hE.1 hE.2 dX1_resume_63 rfl (lv_at hl 0 rfl) ?_
      refine lv_iload_n hE.1 hE.2 dX1_resume_64 rfl (lv_at hl 1 rfl) ?_
      refine zv_icmp_ge (tgt := 131) hE dX1_resume_65 (by decide) ⟨by omega, by omega⟩ ⟨by omega, by omega⟩ (fun hc_1 => ?_) (fun hc_1 => ?_)
      · refine zv_iconst hE dX1_resume_131 ?_
        refine mc_ret (u := (mt, mq, mw, ms, ml, mf, mx, mo, mi, mg, 0, mn, mh, ev, cu, fr, oo)) hE hr hlk hK hh dX1_resume_132 ?_
        first | exact Or.inl ⟨rfl, rfl, Or.inr (Or.inr (Or.inr (fun k a b => hj k a (by omega))))⟩ | exact Or.inl ⟨rfl, rfl, by omega⟩ | exact Or.inr ⟨by omega, by omega, by omega, pl, by omega, by omega, ⟨by omega, by omega⟩, hj, rfl, rfl⟩ | (exfalso; omega)
      · refine lv_aload_n hE.1 hE.2 dX1_resume_68 rfl (lv_at hl 2 rfl) ?_
        refine gM_line hE hX hown hK hh dX1_resume_69 ?_
        refine lv_iload_n hE.1 hE.2 dX1_resume_72 rfl (lv_at hl 0 rfl) ?_
        have hx2 := hw.2.2.2 pl (by omega) (by omega)
        have hx4 := hms (ml pl / 2) (by omega) (by omega)
        refine rM_line hE hK hh ⟨by omega, by omega⟩ dX1_resume_73 ?_
        refine zv_iconst hE dX1_resume_74 ?_
        refine zv_half hE ⟨by omega, by omega⟩ dX1_resume_75 ?_
        refine lv_istore (lv' := [(4, .int (zi_ ((ml pl) / 2))), (3, .int (zi_ pl)), (2, .int (zi_ (lm_ mf ea ev fr))), (0, .ref (q 0))]) hE.1 hE.2 dX1_resume_76 hl (by decide) rfl (fun ls hl => ?_)
        refine lv_aload_n hE.1 hE.2 dX1_resume_78 rfl (lv_at hl 3 rfl) ?_
        refine gM_line hE hX hown hK hh dX1_resume_79 ?_
        refine lv_iload_n hE.1 hE.2 dX1_resume_82 rfl (lv_at hl 1 rfl) ?_
        refine rM_line hE hK hh ⟨by omega, by omega⟩ dX1_resume_83 ?_
        refine zv_iconst hE dX1_resume_84 ?_
        refine zv_rem2 hE ⟨by omega, by omega⟩ dX1_resume_85 ?_
        refine zv_if_ne (tgt := 125) hE dX1_resume_86 (by decide) ⟨by omega, by omega⟩ (fun hc_2 => ?_) (fun hc_2 => ?_)
        · refine zv_iinc (lv' := [(3, .int (zi_ (pl + 1))), (4, .int (zi_ ((ml pl) / 2))), (2, .int (zi_ (lm_ mf ea ev fr))), (0, .ref (q 0))]) hE dX1_resume_125 hl (k := 1) rfl (by decide) rfl (fun ls hl => ?_)
          refine lv_goto (tgt := 63) hE.1 hE.2 dX1_resume_128 (by decide) ?_
          exact ih (pl + 1) (by omega) (by omega) (by omega) (fun k a b => if hq : k = pl then (by rw [hq]; intro hz; omega) else hj k a (by omega)) hp1 _ _ hh ls (lv_sub hl [0, 2, 3] rfl)
        · refine lv_aload_n hE.1 hE.2 dX1_resume_89 rfl (lv_at hl 3 rfl) ?_
          refine gM_isStale hE hX hown hK hh dX1_resume_90 ?_
          refine lv_iload hE.1 hE.2 dX1_resume_93 (lv_at hl 0 rfl) ?_
          refine rM_isStale hE hK hh ⟨by omega, by omega⟩ dX1_resume_95 ?_
          refine zv_if_eq (tgt := 125) hE dX1_resume_96 (by decide) ⟨by omega, by omega⟩ (fun hc_3 => ?_) (fun hc_3 => ?_)
          · refine zv_iinc (lv' := [(3, .int (zi_ (pl + 1))), (4, .int (zi_ ((ml pl) / 2))), (2, .int (zi_ (lm_ mf ea ev fr))), (0, .ref (q 0))]) hE dX1_resume_125 hl (k := 1) rfl (by decide) rfl (fun ls hl => ?_)
            refine lv_goto (tgt := 63) hE.1 hE.2 dX1_resume_128 (by decide) ?_
            exact ih (pl + 1) (by omega) (by omega) (by omega) (fun k a b => if hq : k = pl then (by rw [hq]; intro hz; omega) else hj k a (by omega)) hp1 _ _ hh ls (lv_sub hl [0, 2, 3] rfl)
          · refine lv_aload_n hE.1 hE.2 dX1_resume_99 rfl (lv_at hl 3 rfl) ?_
            refine gM_isStale hE hX hown hK hh dX1_resume_100 ?_
            refine lv_iload hE.1 hE.2 dX1_resume_103 (lv_at hl 0 rfl) ?_
            refine zv_iconst hE dX1_resume_105 ?_
            refine sM_isStale hE hK hh ⟨by omega, by omega⟩ (by first | exact Or.inl rfl | exact Or.inr rfl | assumption) dX1_resume_106 (fun H locs hh => ?_)
            refine lv_aload_n hE.1 hE.2 dX1_resume_107 rfl (lv_at hl 3 rfl) ?_
            refine gM_weights hE hX hown hK hh dX1_resume_108 ?_
            refine lv_iload hE.1 hE.2 dX1_resume_111 (lv_at hl 0 rfl) ?_
            refine zv_iconst hE dX1_resume_113 ?_
            refine sM_weights hE hK hh ⟨by omega, by omega⟩ dX1_resume_114 (fun H locs hh => ?_)
            refine lv_aload_n hE.1 hE.2 dX1_resume_115 rfl (lv_at hl 3 rfl) ?_
            refine lv_iload hE.1 hE.2 dX1_resume_116 (lv_at hl 0 rfl) ?_
            refine zv_iconst hE dX1_resume_118 ?_
            refine mc_callv (rest := []) (As := [.int (zi_ ((ml pl) / 2)), .int (zi_ 0)]) hE hml hown hX hA hK hh (kM_frame l dC dI q cA mt mq (up_ mw ((ml pl) / 2) 0) (up_ ms ((ml pl) / 2) 0) ml mf mx mo mi mg 0 mn mh ev cu fr oo ((ml pl) / 2) 0 sa ea hw hf1 (by omega) (by omega) (by omega) (by first | exact Or.inl rfl | exact Or.inr rfl)) (cwV 2 hX qM_frame rfl rfl rfl (by decide +kernel) ⟨Nat.le_of_ble_eq_true rfl, Nat.le_of_ble_eq_true rfl⟩) rfl rfl hl.1 rfl (Nat.le_of_ble_eq_true rfl) dX1_resume_119 ⟨Nat.zero_le _, Nat.zero_le _⟩ rfl (fun u H locs hq_4 hh => ?_)
            subst hq_4
            refine lv_iload hE.1 hE.2 dX1_resume_122 (lv_at hl 0 rfl) ?_
            refine mc_ret (u := (mt, mq, up_ mw ((ml pl) / 2) 0, up_ ms ((ml pl) / 2) 0, ml, up_ mf fr ((ml pl) / 2), up_ mx fr 0, mo, mi, mg, 0, mn, mh, ev, sa ((ml pl) / 2) + 1, fr + 1, oo)) hE hr hlk hK hh dX1_resume_124 ?_
            first | exact Or.inl ⟨rfl, rfl, Or.inr (Or.inr (Or.inr (fun k a b => hj k a (by omega))))⟩ | exact Or.inl ⟨rfl, rfl, by omega⟩ | exact Or.inr ⟨by omega, by omega, by omega, pl, by omega, by omega, ⟨by omega, by omega⟩, hj, rfl, rfl⟩ | (exfalso; omega)
  refine lv_aload_n hE.1 hE.2 dX1_resume_0 rfl (lv_at hl 0 rfl) ?_
  refine zv_iconst hE dX1_resume_1 ?_
  refine pM_thrown hE hX hown hK hh dX1_resume_2 (fun H locs hh => ?_)
  refine lv_aload_n hE.1 hE.2 dX1_resume_5 rfl (lv_at hl 0 rfl) ?_
  refine gM_frames hE hX hown hK hh dX1_resume_6 ?_
  refine zv_iconst hE dX1_resume_9 ?_
  refine zv_icmp_le (tgt := 29) hE dX1_resume_10 (by decide) ⟨by omega, by omega⟩ ⟨by omega, by omega⟩ (fun hc_6 => ?_) (fun hc_6 => ?_)
  · refine zv_iconst hE dX1_resume_29 ?_
    refine lv_istore_n (lv' := [(1, .int (zi_ 0)), (0, .ref (q 0))]) hE.1 hE.2 dX1_resume_30 rfl hl (by decide) rfl (fun ls hl => ?_)
    refine lv_iload_n hE.1 hE.2 dX1_resume_31 rfl (lv_at hl 0 rfl) ?_
    refine zv_if_ne (tgt := 51) hE dX1_resume_32 (by decide) ⟨by omega, by omega⟩ (fun hc_7 => ?_) (fun hc_7 => ?_)
    · exact absurd hc_7 (by decide)
    · refine lv_aload_n hE.1 hE.2 dX1_resume_35 rfl (lv_at hl 1 rfl) ?_
      refine mc_call (rest := []) (As := []) hE hml hown hX hA hK hh (kM_hasOpen l dC dI q cA mt mq mw ms ml mf mx mo mi mg 0 mn mh ev cu fr oo ho0 ho1 hf1 hf2 hmi) (cwV 0 hX qM_hasOpen rfl rfl rfl (by decide +kernel) ⟨Nat.le_of_ble_eq_true rfl, Nat.le_of_ble_eq_true rfl⟩) rfl rfl hl.1 rfl (Nat.le_of_ble_eq_true rfl) dX1_resume_36 ⟨Nat.zero_le _, Nat.zero_le _⟩ rfl (fun z_9 u H locs hq_8 hh => ?_)
      obtain ⟨rfl, hq_8a, hq_8b⟩ := hq_8
      have hq_8z : zr_ z_9 := ⟨by omega, by omega⟩
      refine zv_if_ne (tgt := 51) hE dX1_resume_39 (by decide) ⟨by omega, by omega⟩ (fun hc_10 => ?_) (fun hc_10 => ?_)
      · refine zv_iconst hE dX1_resume_51 ?_
        refine mc_ret (u := (mt, mq, mw, ms, ml, mf, mx, mo, mi, mg, 0, mn, mh, ev, cu, fr, oo)) hE hr hlk hK hh dX1_resume_52 ?_
        first | exact Or.inl ⟨rfl, rfl, Or.inr (Or.inr (Or.inr (fun k a b => hj k a (by omega))))⟩ | exact Or.inl ⟨rfl, rfl, by omega⟩ | exact Or.inr ⟨by omega, by omega, by omega, pl, by omega, by omega, ⟨by omega, by omega⟩, hj, rfl, rfl⟩ | (exfalso; omega)
      · refine lv_aload_n hE.1 hE.2 dX1_resume_42 rfl (lv_at hl 1 rfl) ?_
        refine gM_frames hE hX hown hK hh dX1_resume_43 ?_
        refine zv_bipush hE dX1_resume_46 (by decide) ?_
        refine zv_icmp_ne (tgt := 53) hE dX1_resume_48 (by decide) ⟨by omega, by omega⟩ ⟨by omega, by omega⟩ (fun hc_11 => ?_) (fun hc_11 => ?_)
        · refine lv_aload_n hE.1 hE.2 dX1_resume_53 rfl (lv_at hl 1 rfl) ?_
          refine mc_call (rest := []) (As := []) hE hml hown hX hA hK hh (kM_limit l dC dI q cA mt mq mw ms ml mf mx mo mi mg 0 mn mh ev cu fr oo sa ea hw hf1 hf2 hm0 hm1) (cwV 0 hX qM_limit rfl rfl rfl (by decide +kernel) ⟨Nat.le_of_ble_eq_true rfl, Nat.le_of_ble_eq_true rfl⟩) rfl rfl hl.1 rfl (Nat.le_of_ble_eq_true rfl) dX1_resume_54 ⟨Nat.zero_le _, Nat.zero_le _⟩ rfl (fun z_13 u H locs hq_12 hh => ?_)
          obtain ⟨rfl, rfl⟩ := hq_12
          refine lv_istore_n (lv' := [(2, .int (zi_ (lm_ mf ea ev fr))), (1, .int (zi_ 0)), (0, .ref (q 0))]) hE.1 hE.2 dX1_resume_57 rfl hl (by decide) rfl (fun ls hl => ?_)
          refine lv_aload_n hE.1 hE.2 dX1_resume_58 rfl (lv_at hl 2 rfl) ?_
          refine gM_cursor hE hX hown hK hh dX1_resume_59 ?_
          refine lv_istore_n (lv' := [(3, .int (zi_ cu)), (2, .int (zi_ (lm_ mf ea ev fr))), (1, .int (zi_ 0)), (0, .ref (q 0))]) hE.1 hE.2 dX1_resume_62 rfl hl (by decide) rfl (fun ls hl => ?_)
          exact loop_63 1300 cu (by omega) (by omega) (by omega) (fun k a b => by omega) (by omega) _ _ hh ls (lv_sub hl [0, 1, 3] rfl)
        · refine zv_iconst hE dX1_resume_51 ?_
          refine mc_ret (u := (mt, mq, mw, ms, ml, mf, mx, mo, mi, mg, 0, mn, mh, ev, cu, fr, oo)) hE hr hlk hK hh dX1_resume_52 ?_
          first | exact Or.inl ⟨rfl, rfl, Or.inr (Or.inr (Or.inr (fun k a b => hj k a (by omega))))⟩ | exact Or.inl ⟨rfl, rfl, by omega⟩ | exact Or.inr ⟨by omega, by omega, by omega, pl, by omega, by omega, ⟨by omega, by omega⟩, hj, rfl, rfl⟩ | (exfalso; omega)
  · refine lv_aload_n hE.1 hE.2 dX1_resume_13 rfl (lv_at hl 0 rfl) ?_
    refine gM_taken hE hX hown hK hh dX1_resume_14 ?_
    refine lv_aload_n hE.1 hE.2 dX1_resume_17 rfl (lv_at hl 0 rfl) ?_
    refine mc_call (rest := [.ref (q 7)]) (As := []) hE hml hown hX hA hK hh (kM_last l dC dI q cA mt mq mw ms ml mf mx mo mi mg 0 mn mh ev cu fr oo) (cwV 0 hX qM_last rfl rfl rfl (by decide +kernel) ⟨Nat.le_of_ble_eq_true rfl, Nat.le_of_ble_eq_true rfl⟩) rfl rfl hl.1 rfl (Nat.le_of_ble_eq_true rfl) dX1_resume_18 ⟨Nat.zero_le _, Nat.zero_le _⟩ rfl (fun z_15 u H locs hq_14 hh => ?_)
    obtain ⟨rfl, rfl⟩ := hq_14
    refine rM_taken hE hK hh ⟨by omega, by omega⟩ dX1_resume_21 ?_
    refine zv_if_ne (tgt := 29) hE dX1_resume_22 (by decide) ⟨by omega, by omega⟩ (fun hc_16 => ?_) (fun hc_16 => ?_)
    · refine zv_iconst hE dX1_resume_29 ?_
      refine lv_istore_n (lv' := [(1, .int (zi_ 0)), (0, .ref (q 0))]) hE.1 hE.2 dX1_resume_30 rfl hl (by decide) rfl (fun ls hl => ?_)
      refine lv_iload_n hE.1 hE.2 dX1_resume_31 rfl (lv_at hl 0 rfl) ?_
      refine zv_if_ne (tgt := 51) hE dX1_resume_32 (by decide) ⟨by omega, by omega⟩ (fun hc_17 => ?_) (fun hc_17 => ?_)
      · exact absurd hc_17 (by decide)
      · refine lv_aload_n hE.1 hE.2 dX1_resume_35 rfl (lv_at hl 1 rfl) ?_
        refine mc_call (rest := []) (As := []) hE hml hown hX hA hK hh (kM_hasOpen l dC dI q cA mt mq mw ms ml mf mx mo mi mg 0 mn mh ev cu fr oo ho0 ho1 hf1 hf2 hmi) (cwV 0 hX qM_hasOpen rfl rfl rfl (by decide +kernel) ⟨Nat.le_of_ble_eq_true rfl, Nat.le_of_ble_eq_true rfl⟩) rfl rfl hl.1 rfl (Nat.le_of_ble_eq_true rfl) dX1_resume_36 ⟨Nat.zero_le _, Nat.zero_le _⟩ rfl (fun z_19 u H locs hq_18 hh => ?_)
        obtain ⟨rfl, hq_18a, hq_18b⟩ := hq_18
        have hq_18z : zr_ z_19 := ⟨by omega, by omega⟩
        refine zv_if_ne (tgt := 51) hE dX1_resume_39 (by decide) ⟨by omega, by omega⟩ (fun hc_20 => ?_) (fun hc_20 => ?_)
        · refine zv_iconst hE dX1_resume_51 ?_
          refine mc_ret (u := (mt, mq, mw, ms, ml, mf, mx, mo, mi, mg, 0, mn, mh, ev, cu, fr, oo)) hE hr hlk hK hh dX1_resume_52 ?_
          first | exact Or.inl ⟨rfl, rfl, Or.inr (Or.inr (Or.inr (fun k a b => hj k a (by omega))))⟩ | exact Or.inl ⟨rfl, rfl, by omega⟩ | exact Or.inr ⟨by omega, by omega, by omega, pl, by omega, by omega, ⟨by omega, by omega⟩, hj, rfl, rfl⟩ | (exfalso; omega)
        · refine lv_aload_n hE.1 hE.2 dX1_resume_42 rfl (lv_at hl 1 rfl) ?_
          refine gM_frames hE hX hown hK hh dX1_resume_43 ?_
          refine zv_bipush hE dX1_resume_46 (by decide) ?_
          refine zv_icmp_ne (tgt := 53) hE dX1_resume_48 (by decide) ⟨by omega, by omega⟩ ⟨by omega, by omega⟩ (fun hc_21 => ?_) (fun hc_21 => ?_)
          · refine lv_aload_n hE.1 hE.2 dX1_resume_53 rfl (lv_at hl 1 rfl) ?_
            refine mc_call (rest := []) (As := []) hE hml hown hX hA hK hh (kM_limit l dC dI q cA mt mq mw ms ml mf mx mo mi mg 0 mn mh ev cu fr oo sa ea hw hf1 hf2 hm0 hm1) (cwV 0 hX qM_limit rfl rfl rfl (by decide +kernel) ⟨Nat.le_of_ble_eq_true rfl, Nat.le_of_ble_eq_true rfl⟩) rfl rfl hl.1 rfl (Nat.le_of_ble_eq_true rfl) dX1_resume_54 ⟨Nat.zero_le _, Nat.zero_le _⟩ rfl (fun z_23 u H locs hq_22 hh => ?_)
            obtain ⟨rfl, rfl⟩ := hq_22
            refine lv_istore_n (lv' := [(2, .int (zi_ (lm_ mf ea ev fr))), (1, .int (zi_ 0)), (0, .ref (q 0))]) hE.1 hE.2 dX1_resume_57 rfl hl (by decide) rfl (fun ls hl => ?_)
            refine lv_aload_n hE.1 hE.2 dX1_resume_58 rfl (lv_at hl 2 rfl) ?_
            refine gM_cursor hE hX hown hK hh dX1_resume_59 ?_
            refine lv_istore_n (lv' := [(3, .int (zi_ cu)), (2, .int (zi_ (lm_ mf ea ev fr))), (1, .int (zi_ 0)), (0, .ref (q 0))]) hE.1 hE.2 dX1_resume_62 rfl hl (by decide) rfl (fun ls hl => ?_)
            exact loop_63 1300 cu (by omega) (by omega) (by omega) (fun k a b => by omega) (by omega) _ _ hh ls (lv_sub hl [0, 1, 3] rfl)
          · refine zv_iconst hE dX1_resume_51 ?_
            refine mc_ret (u := (mt, mq, mw, ms, ml, mf, mx, mo, mi, mg, 0, mn, mh, ev, cu, fr, oo)) hE hr hlk hK hh dX1_resume_52 ?_
            first | exact Or.inl ⟨rfl, rfl, Or.inr (Or.inr (Or.inr (fun k a b => hj k a (by omega))))⟩ | exact Or.inl ⟨rfl, rfl, by omega⟩ | exact Or.inr ⟨by omega, by omega, by omega, pl, by omega, by omega, ⟨by omega, by omega⟩, hj, rfl, rfl⟩ | (exfalso; omega)
    · refine zv_iconst hE dX1_resume_25 ?_
      refine lv_goto (tgt := 30) hE.1 hE.2 dX1_resume_26 (by decide) ?_
      refine lv_istore_n (lv' := [(1, .int (zi_ 1)), (0, .ref (q 0))]) hE.1 hE.2 dX1_resume_30 rfl hl (by decide) rfl (fun ls hl => ?_)
      refine lv_iload_n hE.1 hE.2 dX1_resume_31 rfl (lv_at hl 0 rfl) ?_
      refine zv_if_ne (tgt := 51) hE dX1_resume_32 (by decide) ⟨by omega, by omega⟩ (fun hc_24 => ?_) (fun hc_24 => ?_)
      · refine zv_iconst hE dX1_resume_51 ?_
        refine mc_ret (u := (mt, mq, mw, ms, ml, mf, mx, mo, mi, mg, 0, mn, mh, ev, cu, fr, oo)) hE hr hlk hK hh dX1_resume_52 ?_
        first | exact Or.inl ⟨rfl, rfl, Or.inr (Or.inr (Or.inr (fun k a b => hj k a (by omega))))⟩ | exact Or.inl ⟨rfl, rfl, by omega⟩ | exact Or.inr ⟨by omega, by omega, by omega, pl, by omega, by omega, ⟨by omega, by omega⟩, hj, rfl, rfl⟩ | (exfalso; omega)
      · exact absurd hc_24 (by decide)
set_option maxHeartbeats 400000 in
set_option maxRecDepth 100000 in
theorem kM_take (l : Launch) (dC : Nat → ClassId) (dI : Nat → Nat → Nat) (q : Nat → Nat) (cA : Nat → ClassId) (mt mq mw ms ml mf mx mo mi mg : Int → Int) (th mn mh ev cu fr oo : Int) (key : Int) (sa ea : Int → Int) (hI : im_ sa ea mt mq mw ms ml mf mx mo mi mn mh ev cu fr oo) (hk9 : zr_ key) : mc_i l (dC, dI) vwCl (tM_ cA) (wM_ q cA) yX1_take wsX1_take ({ frames := 3, cells := 0, slots := 0, locals := 140 }) (mt, mq, mw, ms, ml, mf, mx, mo, mi, mg, th, mn, mh, ev, cu, fr, oo) [.ref (q 0), .int (zi_ key)] (fun (z : Int) (u : SM_) => (z = -1 ∧ u = (mt, mq, mw, ms, ml, mf, mx, mo, mi, mg, 0, mn, mh, ev, cu, fr, oo) ∧ (fr = 1 ∨ mx (fr - 1) = 1 ∨ fr = 64 ∨ ∀ k : Int, cu ≤ k → k < (lm_ mf ea ev fr) → ¬ (fun k => ml k % 2 = 0 ∧ mq (ml k / 2) = key ∧ ms (ml k / 2) = 0 ∧ ea (ml k / 2) ≠ -1 ∧ cu ≤ ea (ml k / 2) ∧ ea (ml k / 2) < (lm_ mf ea ev fr)) k)) ∨ (fr ≠ 1 ∧ mx (fr - 1) = 0 ∧ fr < 64 ∧ ∃ k : Int, cu ≤ k ∧ k < (lm_ mf ea ev fr) ∧ (fun k => ml k % 2 = 0 ∧ mq (ml k / 2) = key ∧ ms (ml k / 2) = 0 ∧ ea (ml k / 2) ≠ -1 ∧ cu ≤ ea (ml k / 2) ∧ ea (ml k / 2) < (lm_ mf ea ev fr)) k ∧ (∀ j : Int, cu ≤ j → j < k → ¬ (fun k => ml k % 2 = 0 ∧ mq (ml k / 2) = key ∧ ms (ml k / 2) = 0 ∧ ea (ml k / 2) ≠ -1 ∧ cu ≤ ea (ml k / 2) ∧ ea (ml k / 2) < (lm_ mf ea ev fr)) j) ∧ z = ml k / 2 ∧ ∃ (ml2 mg2 mt2 : Int → Int) (mn2 : Int), er_ sa ea ml ev cu k (es_ sa ml cu k) (ee_ ea ml cu k) ml2 ∧ mt_ mt2 (es_ sa ml cu k) ∧ mn2 = sg_ mt2 600 ∧ u = (mt2, mq, mw, ms, ml2, up_ mf fr (ml k / 2), up_ mx fr 1, mo, mi, mg2, 0, mn2, mh, rz_ (gp_ ml cu k) ev, es_ sa ml cu k (ml k / 2) + 1, fr + 1, oo))) := by
  refine mc_i_of (cc := cX1_take) (maxL := 5) (ret := (some .int)) (by decide) rfl (Nat.le_of_ble_eq_true rfl) ?_
  intro p e s m below meth c A ls hE hml hown hts hr hlk hA hK hh hl
  have hown : s.vm.findClass RX1 = some m.cls := hown
  have hX : ∀ w ∈ wsM_, w.before _ s = true := fun w h => hts w (List.mem_cons_of_mem _ h)
  have hl : lv_has ls 5 [(0, .ref (q 0)), (1, .int (zi_ key))] := hl
  obtain ⟨hm0, hm1, hc1, hc2, hmi, hmo1, hx1b, hT, hlm, hmr⟩ := im_f hI
  obtain ⟨hw, hmt, hmn, hmn2, ⟨j0, hj0, hj1, hj2⟩, ⟨hf1, hf2, hm9⟩, hmf, hmx, ⟨hc0, hc3, hev, ho0, ho2⟩, hmo, hms, hmq, hmw, hmh, hl9⟩ := hI
  have ho1 : oo ≤ 600 := by omega
  have loop_46 : ∀ (n : Nat) (pl : Int), (cu ≤ pl) → (pl ≤ (lm_ mf ea ev fr)) → ((lm_ mf ea ev fr) - pl < (n : Int)) → (∀ k : Int, cu ≤ k → k < pl → ¬ (fun k => ml k % 2 = 0 ∧ mq (ml k / 2) = key ∧ ms (ml k / 2) = 0 ∧ ea (ml k / 2) ≠ -1 ∧ cu ≤ ea (ml k / 2) ∧ ea (ml k / 2) < (lm_ mf ea ev fr)) k) → (fr ≠ 1 ∧ mx (fr - 1) = 0 ∧ fr < 64) → ∀ (H : Heap) (locs : List Loc), hp_ (dC, dI) vwCl A s.heap (wM_ q cA (mt, mq, mw, ms, ml, mf, mx, mo, mi, mg, 0, mn, mh, ev, cu, fr, oo)) H locs → ∀ (ls : Array Slot), lv_has ls 5 [(3, .int (zi_ pl)), (2, .int (zi_ (lm_ mf ea ev fr))), (1, .int (zi_ key)), (0, .ref (q 0))] → W p l e ({ frames := 3, cells := 0, slots := 0, locals := 140 }) s m ([.ref (q 0), .int (zi_ key)] : List Value).toArray below meth c H locs 0 0 (MQ below (mc_Qi (dC, dI) vwCl (tM_ cA) (wM_ q cA) (fun (z : Int) (u : SM_) => (z = -1 ∧ u = (mt, mq, mw, ms, ml, mf, mx, mo, mi, mg, 0, mn, mh, ev, cu, fr, oo) ∧ (fr = 1 ∨ mx (fr - 1) = 1 ∨ fr = 64 ∨ ∀ k : Int, cu ≤ k → k < (lm_ mf ea ev fr) → ¬ (fun k => ml k % 2 = 0 ∧ mq (ml k / 2) = key ∧ ms (ml k / 2) = 0 ∧ ea (ml k / 2) ≠ -1 ∧ cu ≤ ea (ml k / 2) ∧ ea (ml k / 2) < (lm_ mf ea ev fr)) k)) ∨ (fr ≠ 1 ∧ mx (fr - 1) = 0 ∧ fr < 64 ∧ ∃ k : Int, cu ≤ k ∧ k < (lm_ mf ea ev fr) ∧ (fun k => ml k % 2 = 0 ∧ mq (ml k / 2) = key ∧ ms (ml k / 2) = 0 ∧ ea (ml k / 2) ≠ -1 ∧ cu ≤ ea (ml k / 2) ∧ ea (ml k / 2) < (lm_ mf ea ev fr)) k ∧ (∀ j : Int, cu ≤ j → j < k → ¬ (fun k => ml k % 2 = 0 ∧ mq (ml k / 2) = key ∧ ms (ml k / 2) = 0 ∧ ea (ml k / 2) ≠ -1 ∧ cu ≤ ea (ml k / 2) ∧ ea (ml k / 2) < (lm_ mf ea ev fr)) j) ∧ z = ml k / 2 ∧ ∃ (ml2 mg2 mt2 : Int → Int) (mn2 : Int), er_ sa ea ml ev cu k (es_ sa ml cu k) (ee_ ea ml cu k) ml2 ∧ mt_ mt2 (es_ sa ml cu k) ∧ mn2 = sg_ mt2 600 ∧ u = (mt2, mq, mw, ms, ml2, up_ mf fr (ml k / 2), up_ mx fr 1, mo, mi, mg2, 0, mn2, mh, rz_ (gp_ ml cu k) ev, es_ sa ml cu k (ml k / 2) + 1, fr + 1, oo))) A) ([.ref (q 0), .int (zi_ key)] : List Value).toArray s 0 0 A) (F0 m 46 ls []) := by
    intro n
    induction n with
    | zero => intros; exfalso; omega
    | succ n ih =>
      intro pl g0 g1 hn hj hp1 H locs hh ls hl
      refine lv_iload_n hE.1 hE.2 dX1_take_46 rfl (lv_at hl 0 rfl) ?_
      refine lv_iload_n hE.1 hE.2 dX1_take_47 rfl (lv_at hl 1 rfl) ?_
      refine zv_icmp_ge (tgt := 144) hE dX1_take_48 (by decide) ⟨by omega, by omega⟩ ⟨by omega, by omega⟩ (fun hc_1 => ?_) (fun hc_1 => ?_)
      · refine zv_iconst hE dX1_take_144 ?_
        refine mc_ret (u := (mt, mq, mw, ms, ml, mf, mx, mo, mi, mg, 0, mn, mh, ev, cu, fr, oo)) hE hr hlk hK hh dX1_take_145 ?_
        first | exact Or.inl ⟨rfl, rfl, Or.inr (Or.inr (Or.inr (fun k a b => hj k a (by omega))))⟩ | exact Or.inl ⟨rfl, rfl, by omega⟩ | exact Or.inr ⟨by omega, by omega, by omega, pl, by omega, by omega, ⟨by omega, by omega, by omega, by omega, by omega, by omega⟩, hj, rfl, ml2, mg2, mt2, mn2, her, hmt2, hmn9, rfl⟩ | (exfalso; omega)
      · refine lv_aload_n hE.1 hE.2 dX1_take_51 rfl (lv_at hl 3 rfl) ?_
        refine gM_line hE hX hown hK hh dX1_take_52 ?_
        refine lv_iload_n hE.1 hE.2 dX1_take_55 rfl (lv_at hl 0 rfl) ?_
        have hx2 := hw.2.2.2 pl (by omega) (by omega)
        have hx4 := hms (ml pl / 2) (by omega) (by omega)
        have hx5 := hmq (ml pl / 2) (by omega) (by omega)
        refine rM_line hE hK hh ⟨by omega, by omega⟩ dX1_take_56 ?_
        refine zv_iconst hE dX1_take_57 ?_
        refine zv_half hE ⟨by omega, by omega⟩ dX1_take_58 ?_
        refine lv_istore (lv' := [(4, .int (zi_ ((ml pl) / 2))), (3, .int (zi_ pl)), (2, .int (zi_ (lm_ mf ea ev fr))), (1, .int (zi_ key)), (0, .ref (q 0))]) hE.1 hE.2 dX1_take_59 hl (by decide) rfl (fun ls hl => ?_)
        refine lv_aload_n hE.1 hE.2 dX1_take_61 rfl (lv_at hl 4 rfl) ?_
        refine gM_line hE hX hown hK hh dX1_take_62 ?_
        refine lv_iload_n hE.1 hE.2 dX1_take_65 rfl (lv_at hl 1 rfl) ?_
        refine rM_line hE hK hh ⟨by omega, by omega⟩ dX1_take_66 ?_
        refine zv_iconst hE dX1_take_67 ?_
        refine zv_rem2 hE ⟨by omega, by omega⟩ dX1_take_68 ?_
        refine zv_if_ne (tgt := 138) hE dX1_take_69 (by decide) ⟨by omega, by omega⟩ (fun hc_2 => ?_) (fun hc_2 => ?_)
        · refine zv_iinc (lv' := [(3, .int (zi_ (pl + 1))), (4, .int (zi_ ((ml pl) / 2))), (2, .int (zi_ (lm_ mf ea ev fr))), (1, .int (zi_ key)), (0, .ref (q 0))]) hE dX1_take_138 hl (k := 1) rfl (by decide) rfl (fun ls hl => ?_)
          refine lv_goto (tgt := 46) hE.1 hE.2 dX1_take_141 (by decide) ?_
          exact ih (pl + 1) (by omega) (by omega) (by omega) (fun k a b => if hq : k = pl then (by rw [hq]; intro hz; omega) else hj k a (by omega)) hp1 _ _ hh ls (lv_sub hl [0, 2, 3, 4] rfl)
        · refine lv_aload_n hE.1 hE.2 dX1_take_72 rfl (lv_at hl 4 rfl) ?_
          refine gM_keys hE hX hown hK hh dX1_take_73 ?_
          refine lv_iload hE.1 hE.2 dX1_take_76 (lv_at hl 0 rfl) ?_
          refine rM_keys hE hK hh ⟨by omega, by omega⟩ dX1_take_78 ?_
          refine lv_iload_n hE.1 hE.2 dX1_take_79 rfl (lv_at hl 3 rfl) ?_
          refine zv_icmp_ne (tgt := 138) hE dX1_take_80 (by decide) ⟨by omega, by omega⟩ ⟨by omega, by omega⟩ (fun hc_3 => ?_) (fun hc_3 => ?_)
          · refine zv_iinc (lv' := [(3, .int (zi_ (pl + 1))), (4, .int (zi_ ((ml pl) / 2))), (2, .int (zi_ (lm_ mf ea ev fr))), (1, .int (zi_ key)), (0, .ref (q 0))]) hE dX1_take_138 hl (k := 1) rfl (by decide) rfl (fun ls hl => ?_)
            refine lv_goto (tgt := 46) hE.1 hE.2 dX1_take_141 (by decide) ?_
            exact ih (pl + 1) (by omega) (by omega) (by omega) (fun k a b => if hq : k = pl then (by rw [hq]; intro hz; omega) else hj k a (by omega)) hp1 _ _ hh ls (lv_sub hl [0, 2, 3, 4] rfl)
          · refine lv_aload_n hE.1 hE.2 dX1_take_83 rfl (lv_at hl 4 rfl) ?_
            refine gM_isStale hE hX hown hK hh dX1_take_84 ?_
            refine lv_iload hE.1 hE.2 dX1_take_87 (lv_at hl 0 rfl) ?_
            refine rM_isStale hE hK hh ⟨by omega, by omega⟩ dX1_take_89 ?_
            refine zv_if_ne (tgt := 138) hE dX1_take_90 (by decide) ⟨by omega, by omega⟩ (fun hc_4 => ?_) (fun hc_4 => ?_)
            · refine zv_iinc (lv' := [(3, .int (zi_ (pl + 1))), (4, .int (zi_ ((ml pl) / 2))), (2, .int (zi_ (lm_ mf ea ev fr))), (1, .int (zi_ key)), (0, .ref (q 0))]) hE dX1_take_138 hl (k := 1) rfl (by decide) rfl (fun ls hl => ?_)
              refine lv_goto (tgt := 46) hE.1 hE.2 dX1_take_141 (by decide) ?_
              exact ih (pl + 1) (by omega) (by omega) (by omega) (fun k a b => if hq : k = pl then (by rw [hq]; intro hz; omega) else hj k a (by omega)) hp1 _ _ hh ls (lv_sub hl [0, 2, 3, 4] rfl)
            · refine lv_aload_n hE.1 hE.2 dX1_take_93 rfl (lv_at hl 4 rfl) ?_
              refine lv_iload hE.1 hE.2 dX1_take_94 (lv_at hl 0 rfl) ?_
              have hx6 : sa (ml pl / 2) ≠ -1 := by
                have t1 := hx2.2.2.1
                have t2 := hx2.2.2.2
                omega
              have hx7 := hw.2.2.1 (ml pl / 2) (by omega) (by omega) hx6
              have hx8 := hw.2.1 (ml pl / 2) (by omega) (by omega)
              refine mc_call (rest := []) (As := [.int (zi_ ((ml pl) / 2))]) hE hml hown hX hA hK hh (kM_isEnded l dC dI q cA mt mq mw ms ml mf mx mo mi mg 0 mn mh ev cu fr oo ((ml pl) / 2) sa ea hw (by omega) (by omega) (by first | assumption | omega)) (cwV 1 hX qM_isEnded rfl rfl rfl (by decide +kernel) ⟨Nat.le_of_ble_eq_true rfl, Nat.le_of_ble_eq_true rfl⟩) rfl rfl hl.1 rfl (Nat.le_of_ble_eq_true rfl) dX1_take_96 ⟨Nat.zero_le _, Nat.zero_le _⟩ rfl (fun z_6 u H locs hq_5 hh => ?_)
              obtain ⟨rfl, hq_5a, hq_5b⟩ := hq_5
              have hq_5z : zr_ z_6 := ⟨by omega, by omega⟩
              refine zv_if_eq (tgt := 138) hE dX1_take_99 (by decide) ⟨by omega, by omega⟩ (fun hc_7 => ?_) (fun hc_7 => ?_)
              · refine zv_iinc (lv' := [(3, .int (zi_ (pl + 1))), (4, .int (zi_ ((ml pl) / 2))), (2, .int (zi_ (lm_ mf ea ev fr))), (1, .int (zi_ key)), (0, .ref (q 0))]) hE dX1_take_138 hl (k := 1) rfl (by decide) rfl (fun ls hl => ?_)
                refine lv_goto (tgt := 46) hE.1 hE.2 dX1_take_141 (by decide) ?_
                exact ih (pl + 1) (by omega) (by omega) (by omega) (fun k a b => if hq : k = pl then (by rw [hq]; intro hz; omega) else hj k a (by omega)) hp1 _ _ hh ls (lv_sub hl [0, 2, 3, 4] rfl)
              · refine lv_aload_n hE.1 hE.2 dX1_take_102 rfl (lv_at hl 4 rfl) ?_
                refine lv_aload_n hE.1 hE.2 dX1_take_103 rfl (lv_at hl 4 rfl) ?_
                refine zv_iconst hE dX1_take_104 ?_
                refine lv_iload hE.1 hE.2 dX1_take_105 (lv_at hl 0 rfl) ?_
                refine zv_imul hE dX1_take_107 ?_
                refine zv_iconst hE dX1_take_108 ?_
                refine zv_iadd hE dX1_take_109 ?_
                refine mc_call (rest := [.ref (q 0)]) (As := [.int (zi_ ((2 * ((ml pl) / 2)) + 1))]) hE hml hown hX hA hK hh (kM_find l dC dI q cA mt mq mw ms ml mf mx mo mi mg 0 mn mh ev cu fr oo ((2 * ((ml pl) / 2)) + 1) (hw.1.1) (hw.1.2) (fun k x y => ⟨(hw.2.2.2 k x y).1, (hw.2.2.2 k x y).2.1⟩) (by exact ⟨by omega, by omega⟩)) (cwV 1 hX qM_find rfl rfl rfl (by decide +kernel) ⟨Nat.le_of_ble_eq_true rfl, Nat.le_of_ble_eq_true rfl⟩) rfl rfl hl.1 rfl (Nat.le_of_ble_eq_true rfl) dX1_take_110 ⟨Nat.zero_le _, Nat.zero_le _⟩ rfl (fun z_9 u H locs hq_8 hh => ?_)
                obtain ⟨rfl, hq_8⟩ := hq_8
                obtain rfl := fd_e hw (by omega) (by omega) (by first | assumption | omega) hq_8
                refine mc_call (rest := []) (As := [.int (zi_ (ea ((ml pl) / 2)))]) hE hml hown hX hA hK hh (kM_isAhead l dC dI q cA mt mq mw ms ml mf mx mo mi mg 0 mn mh ev cu fr oo (ea ((ml pl) / 2)) sa ea hw hf1 hf2 hm0 hm1 (by exact ⟨by omega, by omega⟩) (by exact ⟨by omega, by omega⟩) (by exact ⟨by omega, by omega⟩)) (cwV 1 hX qM_isAhead rfl rfl rfl (by decide +kernel) ⟨Nat.le_of_ble_eq_true rfl, Nat.le_of_ble_eq_true rfl⟩) rfl rfl hl.1 rfl (Nat.le_of_ble_eq_true rfl) dX1_take_113 ⟨Nat.zero_le _, Nat.zero_le _⟩ rfl (fun z_11 u H locs hq_10 hh => ?_)
                obtain ⟨rfl, hq_10a, hq_10b⟩ := hq_10
                have hq_10z : zr_ z_11 := ⟨by omega, by omega⟩
                refine zv_if_eq (tgt := 138) hE dX1_take_116 (by decide) ⟨by omega, by omega⟩ (fun hc_12 => ?_) (fun hc_12 => ?_)
                · refine zv_iinc (lv' := [(3, .int (zi_ (pl + 1))), (4, .int (zi_ ((ml pl) / 2))), (2, .int (zi_ (lm_ mf ea ev fr))), (1, .int (zi_ key)), (0, .ref (q 0))]) hE dX1_take_138 hl (k := 1) rfl (by decide) rfl (fun ls hl => ?_)
                  refine lv_goto (tgt := 46) hE.1 hE.2 dX1_take_141 (by decide) ?_
                  exact ih (pl + 1) (by omega) (by omega) (by omega) (fun k a b => if hq : k = pl then (by rw [hq]; intro hz; omega) else hj k a (by omega)) hp1 _ _ hh ls (lv_sub hl [0, 2, 3, 4] rfl)
                · refine lv_aload_n hE.1 hE.2 dX1_take_119 rfl (lv_at hl 4 rfl) ?_
                  refine lv_aload_n hE.1 hE.2 dX1_take_120 rfl (lv_at hl 4 rfl) ?_
                  refine gM_cursor hE hX hown hK hh dX1_take_121 ?_
                  refine lv_iload_n hE.1 hE.2 dX1_take_124 rfl (lv_at hl 1 rfl) ?_
                  refine mc_callv (rest := []) (As := [.int (zi_ cu), .int (zi_ pl)]) hE hml hown hX hA hK hh (kM_erase l dC dI q cA mt mq mw ms ml mf mx mo mi mg 0 mn mh ev cu fr oo cu pl sa ea hw hmt hmn (by omega) (by omega) (by omega) (by omega) (by omega)) (cwV 2 hX qM_erase rfl rfl rfl (by decide +kernel) ⟨Nat.le_of_ble_eq_true rfl, Nat.le_of_ble_eq_true rfl⟩) rfl rfl hl.1 rfl (Nat.le_of_ble_eq_true rfl) dX1_take_125 ⟨Nat.zero_le _, Nat.zero_le _⟩ rfl (fun u H locs hq_13 hh => ?_)
                  obtain ⟨ml2, mg2, mt2, mn2, her, hmt2, hmn9, rfl⟩ := hq_13
                  have hw2 := er_pw hw her
                  refine lv_aload_n hE.1 hE.2 dX1_take_128 rfl (lv_at hl 4 rfl) ?_
                  refine lv_iload hE.1 hE.2 dX1_take_129 (lv_at hl 0 rfl) ?_
                  refine zv_iconst hE dX1_take_131 ?_
                  refine mc_callv (rest := []) (As := [.int (zi_ ((ml pl) / 2)), .int (zi_ 1)]) hE hml hown hX hA hK hh (kM_frame l dC dI q cA mt2 mq mw ms ml2 mf mx mo mi mg2 0 mn2 mh (rz_ (gp_ ml cu pl) ev) (rz_ (gp_ ml cu pl) cu) fr oo ((ml pl) / 2) 1 (es_ sa ml cu pl) (ee_ ea ml cu pl) hw2 hf1 (by omega) (by omega) (by omega) (by first | exact Or.inl rfl | exact Or.inr rfl)) (cwV 2 hX qM_frame rfl rfl rfl (by decide +kernel) ⟨Nat.le_of_ble_eq_true rfl, Nat.le_of_ble_eq_true rfl⟩) rfl rfl hl.1 rfl (Nat.le_of_ble_eq_true rfl) dX1_take_132 ⟨Nat.zero_le _, Nat.zero_le _⟩ rfl (fun u H locs hq_15 hh => ?_)
                  subst hq_15
                  refine lv_iload hE.1 hE.2 dX1_take_135 (lv_at hl 0 rfl) ?_
                  refine mc_ret (u := (mt2, mq, mw, ms, ml2, up_ mf fr ((ml pl) / 2), up_ mx fr 1, mo, mi, mg2, 0, mn2, mh, rz_ (gp_ ml cu pl) ev, (es_ sa ml cu pl) ((ml pl) / 2) + 1, fr + 1, oo)) hE hr hlk hK hh dX1_take_137 ?_
                  first | exact Or.inl ⟨rfl, rfl, Or.inr (Or.inr (Or.inr (fun k a b => hj k a (by omega))))⟩ | exact Or.inl ⟨rfl, rfl, by omega⟩ | exact Or.inr ⟨by omega, by omega, by omega, pl, by omega, by omega, ⟨by omega, by omega, by omega, by omega, by omega, by omega⟩, hj, rfl, ml2, mg2, mt2, mn2, her, hmt2, hmn9, rfl⟩ | (exfalso; omega)
  refine lv_aload_n hE.1 hE.2 dX1_take_0 rfl (lv_at hl 0 rfl) ?_
  refine zv_iconst hE dX1_take_1 ?_
  refine pM_thrown hE hX hown hK hh dX1_take_2 (fun H locs hh => ?_)
  refine lv_aload_n hE.1 hE.2 dX1_take_5 rfl (lv_at hl 0 rfl) ?_
  refine gM_frames hE hX hown hK hh dX1_take_6 ?_
  refine zv_iconst hE dX1_take_9 ?_
  refine zv_icmp_eq (tgt := 34) hE dX1_take_10 (by decide) ⟨by omega, by omega⟩ ⟨by omega, by omega⟩ (fun hc_17 => ?_) (fun hc_17 => ?_)
  · refine zv_iconst hE dX1_take_34 ?_
    refine mc_ret (u := (mt, mq, mw, ms, ml, mf, mx, mo, mi, mg, 0, mn, mh, ev, cu, fr, oo)) hE hr hlk hK hh dX1_take_35 ?_
    first | exact Or.inl ⟨rfl, rfl, Or.inr (Or.inr (Or.inr (fun k a b => hj k a (by omega))))⟩ | exact Or.inl ⟨rfl, rfl, by omega⟩ | exact Or.inr ⟨by omega, by omega, by omega, pl, by omega, by omega, ⟨by omega, by omega, by omega, by omega, by omega, by omega⟩, hj, rfl, ml2, mg2, mt2, mn2, her, hmt2, hmn9, rfl⟩ | (exfalso; omega)
  · refine lv_aload_n hE.1 hE.2 dX1_take_13 rfl (lv_at hl 0 rfl) ?_
    refine gM_taken hE hX hown hK hh dX1_take_14 ?_
    refine lv_aload_n hE.1 hE.2 dX1_take_17 rfl (lv_at hl 0 rfl) ?_
    refine mc_call (rest := [.ref (q 7)]) (As := []) hE hml hown hX hA hK hh (kM_last l dC dI q cA mt mq mw ms ml mf mx mo mi mg 0 mn mh ev cu fr oo) (cwV 0 hX qM_last rfl rfl rfl (by decide +kernel) ⟨Nat.le_of_ble_eq_true rfl, Nat.le_of_ble_eq_true rfl⟩) rfl rfl hl.1 rfl (Nat.le_of_ble_eq_true rfl) dX1_take_18 ⟨Nat.zero_le _, Nat.zero_le _⟩ rfl (fun z_19 u H locs hq_18 hh => ?_)
    obtain ⟨rfl, rfl⟩ := hq_18
    refine rM_taken hE hK hh ⟨by omega, by omega⟩ dX1_take_21 ?_
    refine zv_if_ne (tgt := 34) hE dX1_take_22 (by decide) ⟨by omega, by omega⟩ (fun hc_20 => ?_) (fun hc_20 => ?_)
    · refine zv_iconst hE dX1_take_34 ?_
      refine mc_ret (u := (mt, mq, mw, ms, ml, mf, mx, mo, mi, mg, 0, mn, mh, ev, cu, fr, oo)) hE hr hlk hK hh dX1_take_35 ?_
      first | exact Or.inl ⟨rfl, rfl, Or.inr (Or.inr (Or.inr (fun k a b => hj k a (by omega))))⟩ | exact Or.inl ⟨rfl, rfl, by omega⟩ | exact Or.inr ⟨by omega, by omega, by omega, pl, by omega, by omega, ⟨by omega, by omega, by omega, by omega, by omega, by omega⟩, hj, rfl, ml2, mg2, mt2, mn2, her, hmt2, hmn9, rfl⟩ | (exfalso; omega)
    · refine lv_aload_n hE.1 hE.2 dX1_take_25 rfl (lv_at hl 0 rfl) ?_
      refine gM_frames hE hX hown hK hh dX1_take_26 ?_
      refine zv_bipush hE dX1_take_29 (by decide) ?_
      refine zv_icmp_ne (tgt := 36) hE dX1_take_31 (by decide) ⟨by omega, by omega⟩ ⟨by omega, by omega⟩ (fun hc_21 => ?_) (fun hc_21 => ?_)
      · refine lv_aload_n hE.1 hE.2 dX1_take_36 rfl (lv_at hl 0 rfl) ?_
        refine mc_call (rest := []) (As := []) hE hml hown hX hA hK hh (kM_limit l dC dI q cA mt mq mw ms ml mf mx mo mi mg 0 mn mh ev cu fr oo sa ea hw hf1 hf2 hm0 hm1) (cwV 0 hX qM_limit rfl rfl rfl (by decide +kernel) ⟨Nat.le_of_ble_eq_true rfl, Nat.le_of_ble_eq_true rfl⟩) rfl rfl hl.1 rfl (Nat.le_of_ble_eq_true rfl) dX1_take_37 ⟨Nat.zero_le _, Nat.zero_le _⟩ rfl (fun z_23 u H locs hq_22 hh => ?_)
        obtain ⟨rfl, rfl⟩ := hq_22
        refine lv_istore_n (lv' := [(2, .int (zi_ (lm_ mf ea ev fr))), (0, .ref (q 0)), (1, .int (zi_ key))]) hE.1 hE.2 dX1_take_40 rfl hl (by decide) rfl (fun ls hl => ?_)
        refine lv_aload_n hE.1 hE.2 dX1_take_41 rfl (lv_at hl 1 rfl) ?_
        refine gM_cursor hE hX hown hK hh dX1_take_42 ?_
        refine lv_istore_n (lv' := [(3, .int (zi_ cu)), (2, .int (zi_ (lm_ mf ea ev fr))), (0, .ref (q 0)), (1, .int (zi_ key))]) hE.1 hE.2 dX1_take_45 rfl hl (by decide) rfl (fun ls hl => ?_)
        exact loop_46 1300 cu (by omega) (by omega) (by omega) (fun k a b => by omega) (by omega) _ _ hh ls (lv_sub hl [0, 1, 3, 2] rfl)
      · refine zv_iconst hE dX1_take_34 ?_
        refine mc_ret (u := (mt, mq, mw, ms, ml, mf, mx, mo, mi, mg, 0, mn, mh, ev, cu, fr, oo)) hE hr hlk hK hh dX1_take_35 ?_
        first | exact Or.inl ⟨rfl, rfl, Or.inr (Or.inr (Or.inr (fun k a b => hj k a (by omega))))⟩ | exact Or.inl ⟨rfl, rfl, by omega⟩ | exact Or.inr ⟨by omega, by omega, by omega, pl, by omega, by omega, ⟨by omega, by omega, by omega, by omega, by omega, by omega⟩, hj, rfl, ml2, mg2, mt2, mn2, her, hmt2, hmn9, rfl⟩ | (exfalso; omega)
