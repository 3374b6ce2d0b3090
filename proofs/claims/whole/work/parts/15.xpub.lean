set_option maxHeartbeats 400000 in
set_option maxRecDepth 100000 in
theorem kX_begin (l : Launch) (dC : Nat → ClassId) (dI : Nat → Nat → Nat) (q : Nat → Nat) (cA : Nat → ClassId) (ky wt sa ea sm ln fi fk fo op : Int → Int) (ni ns ev cu wa fr oo : Int) (key : Int) (K : Int) (hI : ix_ ky wt sa ea sm ln fi fk fo op ni ns ev cu wa fr oo K) (hk9 : zr_ key) : mc_i l (dC, dI) vwCl (tX_ cA) (wX_ q cA) yX0_begin wsX0_begin ({ frames := 4, cells := 0, slots := 0, locals := 160 }) (ky, wt, sa, ea, sm, ln, fi, fk, fo, op, ni, ns, ev, cu, wa, fr, oo) [.ref (q 0), .int (zi_ key)] (fun (z : Int) (u : SX_) => (z = -1 ∧ u = (ky, wt, sa, ea, sm, ln, fi, fk, fo, op, ni, ns, ev, cu, wa, fr, oo) ∧ (fk (fr - 1) = 2 ∨ ∀ j : Int, 0 ≤ j → j < 600 → sa j ≠ -1)) ∨ (0 ≤ z ∧ z < 600 ∧ sa z = -1 ∧ (∀ j : Int, 0 ≤ j → j < z → sa j ≠ -1) ∧ fk (fr - 1) ≠ 2 ∧ ∃ sa1 ea1 ln1 : Int → Int, pu_ sa (up_ ea z (-1)) ln ev cu sa1 ea1 ln1 ∧ u = (up_ ky z key, up_ wt z 0, up_ sa1 (2 * z / 2) cu, ea1, up_ sm z 0, up_ ln1 cu (2 * z), fi, fk, fo, up_ op oo z, ni + 1, ns, ev + 1, cu + 1, wa, fr, oo + 1))) := by
  refine mc_i_of (cc := cX0_begin) (maxL := 3) (ret := (some .int)) (by decide) rfl (Nat.le_of_ble_eq_true rfl) ?_
  intro p e s m below meth c A ls hE hml hown hts hr hlk hA hK hh hl
  have hown : s.vm.findClass RX0 = some m.cls := hown
  have hX : ∀ w ∈ wsX_, w.before _ s = true := fun w h => hts w (List.mem_cons_of_mem _ h)
  have hl : lv_has ls 3 [(0, .ref (q 0)), (1, .int (zi_ key))] := hl
  obtain ⟨hf5, hf3, hf8, hc1, hc2, hfe, hkk, hk1, hf6, hwa0, hlst⟩ := ix_f hI
  obtain ⟨hw, hnv, hct, ⟨hf1, hf2, hi0, hk0, ho0⟩, hkd, hfo, hfm, ⟨hc0, hc3, hev, ho1, ho2⟩, hsm, hky, hwt, ⟨hK0, hwa⟩, hse⟩ := hI
  have hf4 : 0 ≤ oo ∧ oo ≤ 600 := ⟨ho1, by omega⟩
  refine lv_aload_n hE.1 hE.2 dX0_begin_0 rfl (lv_at hl 0 rfl) ?_
  refine mc_call (rest := []) (As := []) hE hml hown hX hA hK hh (kX_leastFreeNumber l dC dI q cA ky wt sa ea sm ln fi fk fo op ni ns ev cu wa fr oo (fun j a b => pw_zr hw a b)) (cwV 0 hX qX_leastFreeNumber rfl rfl rfl (by decide +kernel) ⟨Nat.le_of_ble_eq_true rfl, Nat.le_of_ble_eq_true rfl⟩) rfl rfl hl.1 rfl (Nat.le_of_ble_eq_true rfl) dX0_begin_1 ⟨Nat.zero_le _, Nat.zero_le _⟩ rfl (fun z_2 u H locs hq_1 hh => ?_)
  obtain ⟨rfl, hq_1⟩ := hq_1
  rcases hq_1 with ⟨rfl, hzn⟩ | ⟨hz0, hz1, hz2, hz3⟩
  · refine lv_istore_n (lv' := [(2, .int (zi_ (-1))), (0, .ref (q 0)), (1, .int (zi_ key))]) hE.1 hE.2 dX0_begin_4 rfl hl (by decide) rfl (fun ls hl => ?_)
    refine lv_iload_n hE.1 hE.2 dX0_begin_5 rfl (lv_at hl 0 rfl) ?_
    refine zv_iconst hE dX0_begin_6 ?_
    refine zv_icmp_eq (tgt := 28) hE dX0_begin_7 (by decide) ⟨by omega, by omega⟩ ⟨by omega, by omega⟩ (fun hc_3 => ?_) (fun hc_3 => ?_)
    · refine zv_iconst hE dX0_begin_28 ?_
      refine mc_ret (u := (ky, wt, sa, ea, sm, ln, fi, fk, fo, op, ni, ns, ev, cu, wa, fr, oo)) hE hr hlk hK hh dX0_begin_29 ?_
      first | exact Or.inl ⟨rfl, rfl, Or.inr hzn⟩ | exact Or.inl ⟨rfl, rfl, Or.inl (by assumption)⟩ | exact Or.inr ⟨hz0, hz1, hz2, hz3, by assumption, sa1, ea1, ln1, hpu, rfl⟩ | exact absurd hz0 (by omega)
    · exact absurd hc_3 (by decide)
  · refine lv_istore_n (lv' := [(2, .int (zi_ z_2)), (0, .ref (q 0)), (1, .int (zi_ key))]) hE.1 hE.2 dX0_begin_4 rfl hl (by decide) rfl (fun ls hl => ?_)
    refine lv_iload_n hE.1 hE.2 dX0_begin_5 rfl (lv_at hl 0 rfl) ?_
    refine zv_iconst hE dX0_begin_6 ?_
    refine zv_icmp_eq (tgt := 28) hE dX0_begin_7 (by decide) ⟨by omega, by omega⟩ ⟨by omega, by omega⟩ (fun hc_4 => ?_) (fun hc_4 => ?_)
    · refine zv_iconst hE dX0_begin_28 ?_
      refine mc_ret (u := (ky, wt, sa, ea, sm, ln, fi, fk, fo, op, ni, ns, ev, cu, wa, fr, oo)) hE hr hlk hK hh dX0_begin_29 ?_
      first | exact Or.inl ⟨rfl, rfl, Or.inr hzn⟩ | exact Or.inl ⟨rfl, rfl, Or.inl (by assumption)⟩ | exact Or.inr ⟨hz0, hz1, hz2, hz3, by assumption, sa1, ea1, ln1, hpu, rfl⟩ | exact absurd hz0 (by omega)
    · refine lv_aload_n hE.1 hE.2 dX0_begin_10 rfl (lv_at hl 1 rfl) ?_
      refine mc_call (rest := []) (As := []) hE hml hown hX hA hK hh (kX_lastKind l dC dI q cA ky wt sa ea sm ln fi fk fo op ni ns ev cu wa fr oo hf1 hf2) (cwV 0 hX qX_lastKind rfl rfl rfl (by decide +kernel) ⟨Nat.le_of_ble_eq_true rfl, Nat.le_of_ble_eq_true rfl⟩) rfl rfl hl.1 rfl (Nat.le_of_ble_eq_true rfl) dX0_begin_11 ⟨Nat.zero_le _, Nat.zero_le _⟩ rfl (fun z_6 u H locs hq_5 hh => ?_)
      obtain ⟨rfl, rfl⟩ := hq_5
      refine zv_iconst hE dX0_begin_14 ?_
      refine zv_icmp_eq (tgt := 28) hE dX0_begin_15 (by decide) ⟨by omega, by omega⟩ ⟨by omega, by omega⟩ (fun hc_7 => ?_) (fun hc_7 => ?_)
      · refine zv_iconst hE dX0_begin_28 ?_
        refine mc_ret (u := (ky, wt, sa, ea, sm, ln, fi, fk, fo, op, ni, ns, ev, cu, wa, fr, oo)) hE hr hlk hK hh dX0_begin_29 ?_
        first | exact Or.inl ⟨rfl, rfl, Or.inr hzn⟩ | exact Or.inl ⟨rfl, rfl, Or.inl (by assumption)⟩ | exact Or.inr ⟨hz0, hz1, hz2, hz3, by assumption, sa1, ea1, ln1, hpu, rfl⟩ | exact absurd hz0 (by omega)
      · refine lv_aload_n hE.1 hE.2 dX0_begin_18 rfl (lv_at hl 1 rfl) ?_
        refine gX_openOnes hE hX hown hK hh dX0_begin_19 ?_
        refine zv_sipush hE dX0_begin_22 (by decide) ?_
        refine zv_icmp_lt (tgt := 30) hE dX0_begin_25 (by decide) ⟨by omega, by omega⟩ ⟨by omega, by omega⟩ (fun hc_8 => ?_) (fun hc_8 => ?_)
        · refine lv_aload_n hE.1 hE.2 dX0_begin_30 rfl (lv_at hl 1 rfl) ?_
          refine gX_keys hE hX hown hK hh dX0_begin_31 ?_
          refine lv_iload_n hE.1 hE.2 dX0_begin_34 rfl (lv_at hl 0 rfl) ?_
          refine lv_iload_n hE.1 hE.2 dX0_begin_35 rfl (lv_at hl 2 rfl) ?_
          refine sX_keys hE hK hh ⟨by omega, by omega⟩ dX0_begin_36 (fun H locs hh => ?_)
          refine lv_aload_n hE.1 hE.2 dX0_begin_37 rfl (lv_at hl 1 rfl) ?_
          refine gX_weights hE hX hown hK hh dX0_begin_38 ?_
          refine lv_iload_n hE.1 hE.2 dX0_begin_41 rfl (lv_at hl 0 rfl) ?_
          refine zv_iconst hE dX0_begin_42 ?_
          refine sX_weights hE hK hh ⟨by omega, by omega⟩ dX0_begin_43 (fun H locs hh => ?_)
          refine lv_aload_n hE.1 hE.2 dX0_begin_44 rfl (lv_at hl 1 rfl) ?_
          refine gX_endAt hE hX hown hK hh dX0_begin_45 ?_
          refine lv_iload_n hE.1 hE.2 dX0_begin_48 rfl (lv_at hl 0 rfl) ?_
          refine zv_iconst hE dX0_begin_49 ?_
          refine sX_endAt hE hK hh ⟨by omega, by omega⟩ dX0_begin_50 (fun H locs hh => ?_)
          refine lv_aload_n hE.1 hE.2 dX0_begin_51 rfl (lv_at hl 1 rfl) ?_
          refine gX_staleMark hE hX hown hK hh dX0_begin_52 ?_
          refine lv_iload_n hE.1 hE.2 dX0_begin_55 rfl (lv_at hl 0 rfl) ?_
          refine zv_iconst hE dX0_begin_56 ?_
          refine sX_staleMark hE hK hh ⟨by omega, by omega⟩ (by first | exact Or.inl rfl | exact Or.inr rfl | assumption) dX0_begin_57 (fun H locs hh => ?_)
          refine lv_aload_n hE.1 hE.2 dX0_begin_58 rfl (lv_at hl 1 rfl) ?_
          refine lv_dup hE.1 hE.2 dX0_begin_59 rfl ?_
          refine gX_intervals hE hX hown hK hh dX0_begin_60 ?_
          refine zv_iconst hE dX0_begin_63 ?_
          refine zv_iadd hE dX0_begin_64 ?_
          refine pX_intervals hE hX hown hK hh dX0_begin_65 (fun H locs hh => ?_)
          refine lv_aload_n hE.1 hE.2 dX0_begin_68 rfl (lv_at hl 1 rfl) ?_
          refine zv_iconst hE dX0_begin_69 ?_
          refine lv_iload_n hE.1 hE.2 dX0_begin_70 rfl (lv_at hl 0 rfl) ?_
          refine zv_imul hE dX0_begin_71 ?_
          refine mc_callv (rest := []) (As := [.int (zi_ (2 * z_2))]) hE hml hown hX hA hK hh (kX_putAtCursor l dC dI q cA (up_ ky z_2 key) (up_ wt z_2 0) sa (up_ ea z_2 (-1)) (up_ sm z_2 0) ln fi fk fo op (ni + 1) ns ev cu wa fr oo (2 * z_2) (by omega) (by omega) (pw_ea hw hz2) (by omega) (by omega) (by omega)) (cwV 1 hX qX_putAtCursor rfl rfl rfl (by decide +kernel) ⟨Nat.le_of_ble_eq_true rfl, Nat.le_of_ble_eq_true rfl⟩) rfl rfl hl.1 rfl (Nat.le_of_ble_eq_true rfl) dX0_begin_72 ⟨Nat.zero_le _, Nat.zero_le _⟩ rfl (fun u H locs hq_9 hh => ?_)
          obtain ⟨sa1, ea1, ln1, hpu, hq_9⟩ := hq_9
          have hq_9 := hq_9.resolve_right (fun h => absurd h.1 (by omega))
          obtain ⟨-, rfl⟩ := hq_9
          refine lv_aload_n hE.1 hE.2 dX0_begin_75 rfl (lv_at hl 1 rfl) ?_
          refine gX_open hE hX hown hK hh dX0_begin_76 ?_
          refine lv_aload_n hE.1 hE.2 dX0_begin_79 rfl (lv_at hl 1 rfl) ?_
          refine gX_openOnes hE hX hown hK hh dX0_begin_80 ?_
          refine lv_iload_n hE.1 hE.2 dX0_begin_83 rfl (lv_at hl 0 rfl) ?_
          refine sX_open hE hK hh ⟨by omega, by omega⟩ dX0_begin_84 (fun H locs hh => ?_)
          refine lv_aload_n hE.1 hE.2 dX0_begin_85 rfl (lv_at hl 1 rfl) ?_
          refine lv_dup hE.1 hE.2 dX0_begin_86 rfl ?_
          refine gX_openOnes hE hX hown hK hh dX0_begin_87 ?_
          refine zv_iconst hE dX0_begin_90 ?_
          refine zv_iadd hE dX0_begin_91 ?_
          refine pX_openOnes hE hX hown hK hh dX0_begin_92 (fun H locs hh => ?_)
          refine lv_iload_n hE.1 hE.2 dX0_begin_95 rfl (lv_at hl 0 rfl) ?_
          refine mc_ret (u := (up_ ky z_2 key, up_ wt z_2 0, up_ sa1 ((2 * z_2) / 2) cu, ea1, up_ sm z_2 0, up_ ln1 cu (2 * z_2), fi, fk, fo, up_ op oo z_2, ni + 1, ns, ev + 1, cu + 1, wa, fr, oo + 1)) hE hr hlk hK hh dX0_begin_96 ?_
          first | exact Or.inl ⟨rfl, rfl, Or.inr hzn⟩ | exact Or.inl ⟨rfl, rfl, Or.inl (by assumption)⟩ | exact Or.inr ⟨hz0, hz1, hz2, hz3, by assumption, sa1, ea1, ln1, hpu, rfl⟩ | exact absurd hz0 (by omega)
        · refine zv_iconst hE dX0_begin_28 ?_
          refine mc_ret (u := (ky, wt, sa, ea, sm, ln, fi, fk, fo, op, ni, ns, ev, cu, wa, fr, oo)) hE hr hlk hK hh dX0_begin_29 ?_
          first | exact Or.inl ⟨rfl, rfl, Or.inr hzn⟩ | exact Or.inl ⟨rfl, rfl, Or.inl (by assumption)⟩ | exact Or.inr ⟨hz0, hz1, hz2, hz3, by assumption, sa1, ea1, ln1, hpu, rfl⟩ | exact absurd hz0 (by omega)
set_option maxHeartbeats 400000 in
set_option maxRecDepth 100000 in
theorem kX_end (l : Launch) (dC : Nat → ClassId) (dI : Nat → Nat → Nat) (q : Nat → Nat) (cA : Nat → ClassId) (ky wt sa ea sm ln fi fk fo op : Int → Int) (ni ns ev cu wa fr oo : Int) (K : Int) (hI : ix_ ky wt sa ea sm ln fi fk fo op ni ns ev cu wa fr oo K) : mc_i l (dC, dI) vwCl (tX_ cA) (wX_ q cA) yX0_end wsX0_end ({ frames := 4, cells := 0, slots := 0, locals := 160 }) (ky, wt, sa, ea, sm, ln, fi, fk, fo, op, ni, ns, ev, cu, wa, fr, oo) [.ref (q 0)] (fun (z : Int) (u : SX_) => (z = -1 ∧ u = (ky, wt, sa, ea, sm, ln, fi, fk, fo, op, ni, ns, ev, cu, wa, fr, oo) ∧ oo ≤ fo (fr - 1)) ∨ (fo (fr - 1) < oo ∧ z = op (oo - 1) ∧ ∃ sa1 ea1 ln1 : Int → Int, pu_ sa ea ln ev cu sa1 ea1 ln1 ∧ u = (ky, wt, sa1, up_ ea1 ((2 * z + 1) / 2) cu, sm, up_ ln1 cu (2 * z + 1), fi, fk, fo, op, ni, ns, ev + 1, cu + 1, wa, fr, oo - 1))) := by
  refine mc_i_of (cc := cX0_end) (maxL := 2) (ret := (some .int)) (by decide) rfl (Nat.le_of_ble_eq_true rfl) ?_
  intro p e s m below meth c A ls hE hml hown hts hr hlk hA hK hh hl
  have hown : s.vm.findClass RX0 = some m.cls := hown
  have hX : ∀ w ∈ wsX_, w.before _ s = true := fun w h => hts w (List.mem_cons_of_mem _ h)
  have hl : lv_has ls 2 [(0, .ref (q 0))] := hl
  obtain ⟨hf5, hf3, hf8, hc1, hc2, hfe, hkk, hk1, hf6, hwa0, hlst⟩ := ix_f hI
  obtain ⟨hw, hnv, hct, ⟨hf1, hf2, hi0, hk0, ho0⟩, hkd, hfo, hfm, ⟨hc0, hc3, hev, ho1, ho2⟩, hsm, hky, hwt, ⟨hK0, hwa⟩, hse⟩ := hI
  have hf4 : 0 ≤ oo ∧ oo ≤ 600 := ⟨ho1, by omega⟩
  refine lv_aload_n hE.1 hE.2 dX0_end_0 rfl (lv_at hl 0 rfl) ?_
  refine mc_call (rest := []) (As := []) hE hml hown hX hA hK hh (kX_lastOpen l dC dI q cA ky wt sa ea sm ln fi fk fo op ni ns ev cu wa fr oo hf1 hf2 hf3 hf4) (cwV 0 hX qX_lastOpen rfl rfl rfl (by decide +kernel) ⟨Nat.le_of_ble_eq_true rfl, Nat.le_of_ble_eq_true rfl⟩) rfl rfl hl.1 rfl (Nat.le_of_ble_eq_true rfl) dX0_end_1 ⟨Nat.zero_le _, Nat.zero_le _⟩ rfl (fun z_2 u H locs hq_1 hh => ?_)
  obtain ⟨rfl, hq_1a, hq_1b⟩ := hq_1
  refine lv_istore_n (lv' := [(1, .int (zi_ z_2)), (0, .ref (q 0))]) hE.1 hE.2 dX0_end_4 rfl hl (by decide) rfl (fun ls hl => ?_)
  refine lv_iload_n hE.1 hE.2 dX0_end_5 rfl (lv_at hl 0 rfl) ?_
  refine zv_iconst hE dX0_end_6 ?_
  refine zv_icmp_ne (tgt := 12) hE dX0_end_7 (by decide) ⟨by omega, by omega⟩ ⟨by omega, by omega⟩ (fun hc_3 => ?_) (fun hc_3 => ?_)
  · refine lv_aload_n hE.1 hE.2 dX0_end_12 rfl (lv_at hl 1 rfl) ?_
    refine zv_iconst hE dX0_end_13 ?_
    refine lv_iload_n hE.1 hE.2 dX0_end_14 rfl (lv_at hl 0 rfl) ?_
    refine zv_imul hE dX0_end_15 ?_
    refine zv_iconst hE dX0_end_16 ?_
    refine zv_iadd hE dX0_end_17 ?_
    refine mc_callv (rest := []) (As := [.int (zi_ ((2 * z_2) + 1))]) hE hml hown hX hA hK hh (kX_putAtCursor l dC dI q cA ky wt sa ea sm ln fi fk fo op ni ns ev cu wa fr oo ((2 * z_2) + 1) (by omega) (by omega) hw (by omega) (by omega) (by omega)) (cwV 1 hX qX_putAtCursor rfl rfl rfl (by decide +kernel) ⟨Nat.le_of_ble_eq_true rfl, Nat.le_of_ble_eq_true rfl⟩) rfl rfl hl.1 rfl (Nat.le_of_ble_eq_true rfl) dX0_end_18 ⟨Nat.zero_le _, Nat.zero_le _⟩ rfl (fun u H locs hq_4 hh => ?_)
    obtain ⟨sa1, ea1, ln1, hpu, hq_4⟩ := hq_4
    have hq_4 := hq_4.resolve_left (fun h => absurd h.1 (by omega))
    obtain ⟨-, rfl⟩ := hq_4
    refine lv_aload_n hE.1 hE.2 dX0_end_21 rfl (lv_at hl 1 rfl) ?_
    refine lv_dup hE.1 hE.2 dX0_end_22 rfl ?_
    refine gX_openOnes hE hX hown hK hh dX0_end_23 ?_
    refine zv_iconst hE dX0_end_26 ?_
    refine zv_isub hE dX0_end_27 ?_
    refine pX_openOnes hE hX hown hK hh dX0_end_28 (fun H locs hh => ?_)
    refine lv_iload_n hE.1 hE.2 dX0_end_31 rfl (lv_at hl 0 rfl) ?_
    refine mc_ret (u := (ky, wt, sa1, up_ ea1 (((2 * z_2) + 1) / 2) cu, sm, up_ ln1 cu ((2 * z_2) + 1), fi, fk, fo, op, ni, ns, ev + 1, cu + 1, wa, fr, oo - 1)) hE hr hlk hK hh dX0_end_32 ?_
    first | exact Or.inl ⟨rfl, rfl, by omega⟩ | exact Or.inr ⟨by omega, by omega, sa1, ea1, ln1, hpu, rfl⟩
  · refine zv_iconst hE dX0_end_10 ?_
    refine mc_ret (u := (ky, wt, sa, ea, sm, ln, fi, fk, fo, op, ni, ns, ev, cu, wa, fr, oo)) hE hr hlk hK hh dX0_end_11 ?_
    first | exact Or.inl ⟨rfl, rfl, by omega⟩ | exact Or.inr ⟨by omega, by omega, sa1, ea1, ln1, hpu, rfl⟩
set_option maxHeartbeats 400000 in
set_option maxRecDepth 100000 in
theorem kX_weigh (l : Launch) (dC : Nat → ClassId) (dI : Nat → Nat → Nat) (q : Nat → Nat) (cA : Nat → ClassId) (ky wt sa ea sm ln fi fk fo op : Int → Int) (ni ns ev cu wa fr oo : Int) (n1 : Int) (K : Int) (hI : ix_ ky wt sa ea sm ln fi fk fo op ni ns ev cu wa fr oo K) (hk9 : zr_ n1) : mc_i l (dC, dI) vwCl (tX_ cA) (wX_ q cA) yX0_weigh wsX0_weigh ({ frames := 4, cells := 0, slots := 0, locals := 160 }) (ky, wt, sa, ea, sm, ln, fi, fk, fo, op, ni, ns, ev, cu, wa, fr, oo) [.ref (q 0), .int (zi_ n1)] (fun (z : Int) (u : SX_) => (z = 0 ∧ u = (ky, wt, sa, ea, sm, ln, fi, fk, fo, op, ni, ns, ev, cu, wa, fr, oo) ∧ (n1 < 0 ∨ fk (fr - 1) = 2 ∨ 1000000000 < wa + n1)) ∨ (z = 1 ∧ 0 ≤ n1 ∧ fk (fr - 1) ≠ 2 ∧ wa + n1 ≤ 1000000000 ∧ ∃ i : Int, ((fo (fr - 1) < oo ∧ i = op (oo - 1)) ∨ (oo ≤ fo (fr - 1) ∧ i = fi (fr - 1))) ∧ ((i = -1 ∧ u = (ky, wt, sa, ea, sm, ln, fi, fk, fo, op, ni, ns, ev, cu, wa + n1, fr, oo)) ∨ (0 ≤ i ∧ i < 600 ∧ u = (ky, up_ wt i (wt i + n1), sa, ea, sm, ln, fi, fk, fo, op, ni, ns, ev, cu, wa + n1, fr, oo))))) := by
  refine mc_i_of (cc := cX0_weigh) (maxL := 3) (ret := (some .boolean)) (by decide) rfl (Nat.le_of_ble_eq_true rfl) ?_
  intro p e s m below meth c A ls hE hml hown hts hr hlk hA hK hh hl
  have hown : s.vm.findClass RX0 = some m.cls := hown
  have hX : ∀ w ∈ wsX_, w.before _ s = true := fun w h => hts w (List.mem_cons_of_mem _ h)
  have hl : lv_has ls 3 [(0, .ref (q 0)), (1, .int (zi_ n1))] := hl
  obtain ⟨hf5, hf3, hf8, hc1, hc2, hfe, hkk, hk1, hf6, hwa0, hlst⟩ := ix_f hI
  obtain ⟨hw, hnv, hct, ⟨hf1, hf2, hi0, hk0, ho0⟩, hkd, hfo, hfm, ⟨hc0, hc3, hev, ho1, ho2⟩, hsm, hky, hwt, ⟨hK0, hwa⟩, hse⟩ := hI
  have hf4 : 0 ≤ oo ∧ oo ≤ 600 := ⟨ho1, by omega⟩
  refine lv_iload_n hE.1 hE.2 dX0_weigh_0 rfl (lv_at hl 1 rfl) ?_
  refine zv_if_lt (tgt := 23) hE dX0_weigh_1 (by decide) ⟨by omega, by omega⟩ (fun hc_1 => ?_) (fun hc_1 => ?_)
  · refine zv_iconst hE dX0_weigh_23 ?_
    refine mc_retz (u := (ky, wt, sa, ea, sm, ln, fi, fk, fo, op, ni, ns, ev, cu, wa, fr, oo)) hE hr hlk hK hh dX0_weigh_24 (by first | exact Or.inl rfl | exact Or.inr rfl | assumption) ?_
    first | exact Or.inl ⟨rfl, rfl, by omega⟩ | exact Or.inr ⟨rfl, by omega, by omega, by omega, _, Or.inl ⟨by omega, by omega⟩, Or.inr ⟨by omega, by omega, rfl⟩⟩ | exact Or.inr ⟨rfl, by omega, by omega, by omega, fi (fr - 1), Or.inr ⟨by omega, rfl⟩, Or.inr ⟨by omega, by omega, rfl⟩⟩ | exact Or.inr ⟨rfl, by omega, by omega, by omega, fi (fr - 1), Or.inr ⟨by omega, rfl⟩, Or.inl ⟨by omega, rfl⟩⟩ | (exfalso; omega)
  · refine lv_aload_n hE.1 hE.2 dX0_weigh_4 rfl (lv_at hl 0 rfl) ?_
    refine mc_call (rest := []) (As := []) hE hml hown hX hA hK hh (kX_lastKind l dC dI q cA ky wt sa ea sm ln fi fk fo op ni ns ev cu wa fr oo hf1 hf2) (cwV 0 hX qX_lastKind rfl rfl rfl (by decide +kernel) ⟨Nat.le_of_ble_eq_true rfl, Nat.le_of_ble_eq_true rfl⟩) rfl rfl hl.1 rfl (Nat.le_of_ble_eq_true rfl) dX0_weigh_5 ⟨Nat.zero_le _, Nat.zero_le _⟩ rfl (fun z_3 u H locs hq_2 hh => ?_)
    obtain ⟨rfl, rfl⟩ := hq_2
    refine zv_iconst hE dX0_weigh_8 ?_
    refine zv_icmp_eq (tgt := 23) hE dX0_weigh_9 (by decide) ⟨by omega, by omega⟩ ⟨by omega, by omega⟩ (fun hc_4 => ?_) (fun hc_4 => ?_)
    · refine zv_iconst hE dX0_weigh_23 ?_
      refine mc_retz (u := (ky, wt, sa, ea, sm, ln, fi, fk, fo, op, ni, ns, ev, cu, wa, fr, oo)) hE hr hlk hK hh dX0_weigh_24 (by first | exact Or.inl rfl | exact Or.inr rfl | assumption) ?_
      first | exact Or.inl ⟨rfl, rfl, by omega⟩ | exact Or.inr ⟨rfl, by omega, by omega, by omega, _, Or.inl ⟨by omega, by omega⟩, Or.inr ⟨by omega, by omega, rfl⟩⟩ | exact Or.inr ⟨rfl, by omega, by omega, by omega, fi (fr - 1), Or.inr ⟨by omega, rfl⟩, Or.inr ⟨by omega, by omega, rfl⟩⟩ | exact Or.inr ⟨rfl, by omega, by omega, by omega, fi (fr - 1), Or.inr ⟨by omega, rfl⟩, Or.inl ⟨by omega, rfl⟩⟩ | (exfalso; omega)
    · refine lv_iload_n hE.1 hE.2 dX0_weigh_12 rfl (lv_at hl 1 rfl) ?_
      refine lv_ldc (v := zi_ 1000000000) hE.1 hE.2 hown (hX _ mX_cn_65) dX0_weigh_13 ?_
      refine lv_aload_n hE.1 hE.2 dX0_weigh_15 rfl (lv_at hl 0 rfl) ?_
      refine gX_weightInAll hE hX hown hK hh dX0_weigh_16 ?_
      refine zv_isub hE dX0_weigh_19 ?_
      refine zv_icmp_le (tgt := 25) hE dX0_weigh_20 (by decide) ⟨by omega, by omega⟩ ⟨by omega, by omega⟩ (fun hc_5 => ?_) (fun hc_5 => ?_)
      · refine lv_aload_n hE.1 hE.2 dX0_weigh_25 rfl (lv_at hl 0 rfl) ?_
        refine mc_call (rest := []) (As := []) hE hml hown hX hA hK hh (kX_lastOpen l dC dI q cA ky wt sa ea sm ln fi fk fo op ni ns ev cu wa fr oo hf1 hf2 hf3 hf4) (cwV 0 hX qX_lastOpen rfl rfl rfl (by decide +kernel) ⟨Nat.le_of_ble_eq_true rfl, Nat.le_of_ble_eq_true rfl⟩) rfl rfl hl.1 rfl (Nat.le_of_ble_eq_true rfl) dX0_weigh_26 ⟨Nat.zero_le _, Nat.zero_le _⟩ rfl (fun z_7 u H locs hq_6 hh => ?_)
        obtain ⟨rfl, hq_6a, hq_6b⟩ := hq_6
        refine lv_istore_n (lv' := [(2, .int (zi_ z_7)), (0, .ref (q 0)), (1, .int (zi_ n1))]) hE.1 hE.2 dX0_weigh_29 rfl hl (by decide) rfl (fun ls hl => ?_)
        refine lv_iload_n hE.1 hE.2 dX0_weigh_30 rfl (lv_at hl 0 rfl) ?_
        refine zv_iconst hE dX0_weigh_31 ?_
        refine zv_icmp_ne (tgt := 40) hE dX0_weigh_32 (by decide) ⟨by omega, by omega⟩ ⟨by omega, by omega⟩ (fun hc_8 => ?_) (fun hc_8 => ?_)
        · refine lv_iload_n hE.1 hE.2 dX0_weigh_40 rfl (lv_at hl 0 rfl) ?_
          refine zv_iconst hE dX0_weigh_41 ?_
          refine zv_icmp_eq (tgt := 55) hE dX0_weigh_42 (by decide) ⟨by omega, by omega⟩ ⟨by omega, by omega⟩ (fun hc_9 => ?_) (fun hc_9 => ?_)
          · refine lv_aload_n hE.1 hE.2 dX0_weigh_55 rfl (lv_at hl 1 rfl) ?_
            refine lv_dup hE.1 hE.2 dX0_weigh_56 rfl ?_
            refine gX_weightInAll hE hX hown hK hh dX0_weigh_57 ?_
            refine lv_iload_n hE.1 hE.2 dX0_weigh_60 rfl (lv_at hl 2 rfl) ?_
            refine zv_iadd hE dX0_weigh_61 ?_
            refine pX_weightInAll hE hX hown hK hh dX0_weigh_62 (fun H locs hh => ?_)
            refine zv_iconst hE dX0_weigh_65 ?_
            refine mc_retz (u := (ky, wt, sa, ea, sm, ln, fi, fk, fo, op, ni, ns, ev, cu, wa + n1, fr, oo)) hE hr hlk hK hh dX0_weigh_66 (by first | exact Or.inl rfl | exact Or.inr rfl | assumption) ?_
            first | exact Or.inl ⟨rfl, rfl, by omega⟩ | exact Or.inr ⟨rfl, by omega, by omega, by omega, _, Or.inl ⟨by omega, by omega⟩, Or.inr ⟨by omega, by omega, rfl⟩⟩ | exact Or.inr ⟨rfl, by omega, by omega, by omega, fi (fr - 1), Or.inr ⟨by omega, rfl⟩, Or.inr ⟨by omega, by omega, rfl⟩⟩ | exact Or.inr ⟨rfl, by omega, by omega, by omega, fi (fr - 1), Or.inr ⟨by omega, rfl⟩, Or.inl ⟨by omega, rfl⟩⟩ | (exfalso; omega)
          · refine lv_aload_n hE.1 hE.2 dX0_weigh_45 rfl (lv_at hl 1 rfl) ?_
            refine gX_weights hE hX hown hK hh dX0_weigh_46 ?_
            refine lv_iload_n hE.1 hE.2 dX0_weigh_49 rfl (lv_at hl 0 rfl) ?_
            refine lv_dup2_11 hE.1 hE.2 dX0_weigh_50 rfl rfl ?_
            refine rX_weights hE hK hh ⟨by omega, by omega⟩ dX0_weigh_51 ?_
            refine lv_iload_n hE.1 hE.2 dX0_weigh_52 rfl (lv_at hl 2 rfl) ?_
            refine zv_iadd hE dX0_weigh_53 ?_
            refine sX_weights hE hK hh ⟨by omega, by omega⟩ dX0_weigh_54 (fun H locs hh => ?_)
            refine lv_aload_n hE.1 hE.2 dX0_weigh_55 rfl (lv_at hl 1 rfl) ?_
            refine lv_dup hE.1 hE.2 dX0_weigh_56 rfl ?_
            refine gX_weightInAll hE hX hown hK hh dX0_weigh_57 ?_
            refine lv_iload_n hE.1 hE.2 dX0_weigh_60 rfl (lv_at hl 2 rfl) ?_
            refine zv_iadd hE dX0_weigh_61 ?_
            refine pX_weightInAll hE hX hown hK hh dX0_weigh_62 (fun H locs hh => ?_)
            refine zv_iconst hE dX0_weigh_65 ?_
            refine mc_retz (u := (ky, up_ wt z_7 ((wt z_7) + n1), sa, ea, sm, ln, fi, fk, fo, op, ni, ns, ev, cu, wa + n1, fr, oo)) hE hr hlk hK hh dX0_weigh_66 (by first | exact Or.inl rfl | exact Or.inr rfl | assumption) ?_
            first | exact Or.inl ⟨rfl, rfl, by omega⟩ | exact Or.inr ⟨rfl, by omega, by omega, by omega, _, Or.inl ⟨by omega, by omega⟩, Or.inr ⟨by omega, by omega, rfl⟩⟩ | exact Or.inr ⟨rfl, by omega, by omega, by omega, fi (fr - 1), Or.inr ⟨by omega, rfl⟩, Or.inr ⟨by omega, by omega, rfl⟩⟩ | exact Or.inr ⟨rfl, by omega, by omega, by omega, fi (fr - 1), Or.inr ⟨by omega, rfl⟩, Or.inl ⟨by omega, rfl⟩⟩ | (exfalso; omega)
        · refine lv_aload_n hE.1 hE.2 dX0_weigh_35 rfl (lv_at hl 1 rfl) ?_
          refine mc_call (rest := []) (As := []) hE hml hown hX hA hK hh (kX_lastInterval l dC dI q cA ky wt sa ea sm ln fi fk fo op ni ns ev cu wa fr oo hf1 hf2) (cwV 0 hX qX_lastInterval rfl rfl rfl (by decide +kernel) ⟨Nat.le_of_ble_eq_true rfl, Nat.le_of_ble_eq_true rfl⟩) rfl rfl hl.1 rfl (Nat.le_of_ble_eq_true rfl) dX0_weigh_36 ⟨Nat.zero_le _, Nat.zero_le _⟩ rfl (fun z_11 u H locs hq_10 hh => ?_)
          obtain ⟨rfl, rfl⟩ := hq_10
          refine lv_istore_n (lv' := [(2, .int (zi_ (fi (fr - 1)))), (0, .ref (q 0)), (1, .int (zi_ n1))]) hE.1 hE.2 dX0_weigh_39 rfl hl (by decide) rfl (fun ls hl => ?_)
          refine lv_iload_n hE.1 hE.2 dX0_weigh_40 rfl (lv_at hl 0 rfl) ?_
          refine zv_iconst hE dX0_weigh_41 ?_
          refine zv_icmp_eq (tgt := 55) hE dX0_weigh_42 (by decide) ⟨by omega, by omega⟩ ⟨by omega, by omega⟩ (fun hc_12 => ?_) (fun hc_12 => ?_)
          · refine lv_aload_n hE.1 hE.2 dX0_weigh_55 rfl (lv_at hl 1 rfl) ?_
            refine lv_dup hE.1 hE.2 dX0_weigh_56 rfl ?_
            refine gX_weightInAll hE hX hown hK hh dX0_weigh_57 ?_
            refine lv_iload_n hE.1 hE.2 dX0_weigh_60 rfl (lv_at hl 2 rfl) ?_
            refine zv_iadd hE dX0_weigh_61 ?_
            refine pX_weightInAll hE hX hown hK hh dX0_weigh_62 (fun H locs hh => ?_)
            refine zv_iconst hE dX0_weigh_65 ?_
            refine mc_retz (u := (ky, wt, sa, ea, sm, ln, fi, fk, fo, op, ni, ns, ev, cu, wa + n1, fr, oo)) hE hr hlk hK hh dX0_weigh_66 (by first | exact Or.inl rfl | exact Or.inr rfl | assumption) ?_
            first | exact Or.inl ⟨rfl, rfl, by omega⟩ | exact Or.inr ⟨rfl, by omega, by omega, by omega, _, Or.inl ⟨by omega, by omega⟩, Or.inr ⟨by omega, by omega, rfl⟩⟩ | exact Or.inr ⟨rfl, by omega, by omega, by omega, fi (fr - 1), Or.inr ⟨by omega, rfl⟩, Or.inr ⟨by omega, by omega, rfl⟩⟩ | exact Or.inr ⟨rfl, by omega, by omega, by omega, fi (fr - 1), Or.inr ⟨by omega, rfl⟩, Or.inl ⟨by omega, rfl⟩⟩ | (exfalso; omega)
          · refine lv_aload_n hE.1 hE.2 dX0_weigh_45 rfl (lv_at hl 1 rfl) ?_
            refine gX_weights hE hX hown hK hh dX0_weigh_46 ?_
            refine lv_iload_n hE.1 hE.2 dX0_weigh_49 rfl (lv_at hl 0 rfl) ?_
            refine lv_dup2_11 hE.1 hE.2 dX0_weigh_50 rfl rfl ?_
            refine rX_weights hE hK hh ⟨by omega, by omega⟩ dX0_weigh_51 ?_
            refine lv_iload_n hE.1 hE.2 dX0_weigh_52 rfl (lv_at hl 2 rfl) ?_
            refine zv_iadd hE dX0_weigh_53 ?_
            refine sX_weights hE hK hh ⟨by omega, by omega⟩ dX0_weigh_54 (fun H locs hh => ?_)
            refine lv_aload_n hE.1 hE.2 dX0_weigh_55 rfl (lv_at hl 1 rfl) ?_
            refine lv_dup hE.1 hE.2 dX0_weigh_56 rfl ?_
            refine gX_weightInAll hE hX hown hK hh dX0_weigh_57 ?_
            refine lv_iload_n hE.1 hE.2 dX0_weigh_60 rfl (lv_at hl 2 rfl) ?_
            refine zv_iadd hE dX0_weigh_61 ?_
            refine pX_weightInAll hE hX hown hK hh dX0_weigh_62 (fun H locs hh => ?_)
            refine zv_iconst hE dX0_weigh_65 ?_
            refine mc_retz (u := (ky, up_ wt (fi (fr - 1)) ((wt (fi (fr - 1))) + n1), sa, ea, sm, ln, fi, fk, fo, op, ni, ns, ev, cu, wa + n1, fr, oo)) hE hr hlk hK hh dX0_weigh_66 (by first | exact Or.inl rfl | exact Or.inr rfl | assumption) ?_
            first | exact Or.inl ⟨rfl, rfl, by omega⟩ | exact Or.inr ⟨rfl, by omega, by omega, by omega, _, Or.inl ⟨by omega, by omega⟩, Or.inr ⟨by omega, by omega, rfl⟩⟩ | exact Or.inr ⟨rfl, by omega, by omega, by omega, fi (fr - 1), Or.inr ⟨by omega, rfl⟩, Or.inr ⟨by omega, by omega, rfl⟩⟩ | exact Or.inr ⟨rfl, by omega, by omega, by omega, fi (fr - 1), Or.inr ⟨by omega, rfl⟩, Or.inl ⟨by omega, rfl⟩⟩ | (exfalso; omega)
      · refine zv_iconst hE dX0_weigh_23 ?_
        refine mc_retz (u := (ky, wt, sa, ea, sm, ln, fi, fk, fo, op, ni, ns, ev, cu, wa, fr, oo)) hE hr hlk hK hh dX0_weigh_24 (by first | exact Or.inl rfl | exact Or.inr rfl | assumption) ?_
        first | exact Or.inl ⟨rfl, rfl, by omega⟩ | exact Or.inr ⟨rfl, by omega, by omega, by omega, _, Or.inl ⟨by omega, by omega⟩, Or.inr ⟨by omega, by omega, rfl⟩⟩ | exact Or.inr ⟨rfl, by omega, by omega, by omega, fi (fr - 1), Or.inr ⟨by omega, rfl⟩, Or.inr ⟨by omega, by omega, rfl⟩⟩ | exact Or.inr ⟨rfl, by omega, by omega, by omega, fi (fr - 1), Or.inr ⟨by omega, rfl⟩, Or.inl ⟨by omega, rfl⟩⟩ | (exfalso; omega)
set_option maxHeartbeats 400000 in
set_option maxRecDepth 100000 in
theorem kX_stale (l : Launch) (dC : Nat → ClassId) (dI : Nat → Nat → Nat) (q : Nat → Nat) (cA : Nat → ClassId) (ky wt sa ea sm ln fi fk fo op : Int → Int) (ni ns ev cu wa fr oo : Int) (i : Int) (K : Int) (hI : ix_ ky wt sa ea sm ln fi fk fo op ni ns ev cu wa fr oo K) (hk9 : zr_ i) : mc_i l (dC, dI) vwCl (tX_ cA) (wX_ q cA) yX0_stale wsX0_stale ({ frames := 4, cells := 0, slots := 0, locals := 160 }) (ky, wt, sa, ea, sm, ln, fi, fk, fo, op, ni, ns, ev, cu, wa, fr, oo) [.ref (q 0), .int (zi_ i)] (fun (z : Int) (u : SX_) => (z = 0 ∧ u = (ky, wt, sa, ea, sm, ln, fi, fk, fo, op, ni, ns, ev, cu, wa, fr, oo) ∧ (i < 0 ∨ 600 ≤ i ∨ sa i = -1 ∨ ea i = -1 ∨ sm i = 1)) ∨ (z = 1 ∧ 0 ≤ i ∧ i < 600 ∧ sa i ≠ -1 ∧ ea i ≠ -1 ∧ sm i = 0 ∧ u = (ky, wt, sa, ea, up_ sm i 1, ln, fi, fk, fo, op, ni, ns + 1, ev, cu, wa, fr, oo))) := by
  refine mc_i_of (cc := cX0_stale) (maxL := 2) (ret := (some .boolean)) (by decide) rfl (Nat.le_of_ble_eq_true rfl) ?_
  intro p e s m below meth c A ls hE hml hown hts hr hlk hA hK hh hl
  have hown : s.vm.findClass RX0 = some m.cls := hown
  have hX : ∀ w ∈ wsX_, w.before _ s = true := fun w h => hts w (List.mem_cons_of_mem _ h)
  have hl : lv_has ls 2 [(0, .ref (q 0)), (1, .int (zi_ i))] := hl
  obtain ⟨hf5, hf3, hf8, hc1, hc2, hfe, hkk, hk1, hf6, hwa0, hlst⟩ := ix_f hI
  obtain ⟨hw, hnv, hct, ⟨hf1, hf2, hi0, hk0, ho0⟩, hkd, hfo, hfm, ⟨hc0, hc3, hev, ho1, ho2⟩, hsm, hky, hwt, ⟨hK0, hwa⟩, hse⟩ := hI
  have hf4 : 0 ≤ oo ∧ oo ≤ 600 := ⟨ho1, by omega⟩
  refine lv_aload_n hE.1 hE.2 dX0_stale_0 rfl (lv_at hl 0 rfl) ?_
  refine lv_iload_n hE.1 hE.2 dX0_stale_1 rfl (lv_at hl 1 rfl) ?_
  refine mc_call (rest := []) (As := [.int (zi_ i)]) hE hml hown hX hA hK hh (kX_isThere l dC dI q cA ky wt sa ea sm ln fi fk fo op ni ns ev cu wa fr oo i (by assumption) (fun a b => pw_zr hw a b)) (cwV 1 hX qX_isThere rfl rfl rfl (by decide +kernel) ⟨Nat.le_of_ble_eq_true rfl, Nat.le_of_ble_eq_true rfl⟩) rfl rfl hl.1 rfl (Nat.le_of_ble_eq_true rfl) dX0_stale_2 ⟨Nat.zero_le _, Nat.zero_le _⟩ rfl (fun z_2 u H locs hq_1 hh => ?_)
  obtain ⟨rfl, hq_1a, hq_1b⟩ := hq_1
  have hq_1z : zr_ z_2 := ⟨by omega, by omega⟩
  refine zv_if_eq (tgt := 25) hE dX0_stale_5 (by decide) ⟨by omega, by omega⟩ (fun hc_3 => ?_) (fun hc_3 => ?_)
  · refine zv_iconst hE dX0_stale_25 ?_
    refine mc_retz (u := (ky, wt, sa, ea, sm, ln, fi, fk, fo, op, ni, ns, ev, cu, wa, fr, oo)) hE hr hlk hK hh dX0_stale_26 (by first | exact Or.inl rfl | exact Or.inr rfl | assumption) ?_
    first | exact Or.inl ⟨rfl, rfl, by omega⟩ | exact Or.inr ⟨rfl, by omega, by omega, by omega, by omega, by omega, rfl⟩
  · refine lv_aload_n hE.1 hE.2 dX0_stale_8 rfl (lv_at hl 0 rfl) ?_
    refine lv_iload_n hE.1 hE.2 dX0_stale_9 rfl (lv_at hl 1 rfl) ?_
    have hx := hw.2.2.1 i (by omega) (by omega) (by omega)
    have hx8 := hw.2.1 i (by omega) (by omega)
    refine mc_call (rest := []) (As := [.int (zi_ i)]) hE hml hown hX hA hK hh (kX_isEnded l dC dI q cA ky wt sa ea sm ln fi fk fo op ni ns ev cu wa fr oo i (by omega) (by omega) (by first | assumption | exact ⟨by omega, by omega⟩)) (cwV 1 hX qX_isEnded rfl rfl rfl (by decide +kernel) ⟨Nat.le_of_ble_eq_true rfl, Nat.le_of_ble_eq_true rfl⟩) rfl rfl hl.1 rfl (Nat.le_of_ble_eq_true rfl) dX0_stale_10 ⟨Nat.zero_le _, Nat.zero_le _⟩ rfl (fun z_5 u H locs hq_4 hh => ?_)
    obtain ⟨rfl, hq_4⟩ := hq_4
    refine zv_if_eq (tgt := 25) hE dX0_stale_13 (by decide) ⟨by omega, by omega⟩ (fun hc_6 => ?_) (fun hc_6 => ?_)
    · refine zv_iconst hE dX0_stale_25 ?_
      refine mc_retz (u := (ky, wt, sa, ea, sm, ln, fi, fk, fo, op, ni, ns, ev, cu, wa, fr, oo)) hE hr hlk hK hh dX0_stale_26 (by first | exact Or.inl rfl | exact Or.inr rfl | assumption) ?_
      first | exact Or.inl ⟨rfl, rfl, by omega⟩ | exact Or.inr ⟨rfl, by omega, by omega, by omega, by omega, by omega, rfl⟩
    · refine lv_aload_n hE.1 hE.2 dX0_stale_16 rfl (lv_at hl 0 rfl) ?_
      refine gX_staleMark hE hX hown hK hh dX0_stale_17 ?_
      refine lv_iload_n hE.1 hE.2 dX0_stale_20 rfl (lv_at hl 1 rfl) ?_
      have hx4 := hsm i (by omega) (by omega)
      refine rX_staleMark hE hK hh ⟨by omega, by omega⟩ dX0_stale_21 ?_
      refine zv_if_eq (tgt := 27) hE dX0_stale_22 (by decide) ⟨by omega, by omega⟩ (fun hc_7 => ?_) (fun hc_7 => ?_)
      · refine lv_aload_n hE.1 hE.2 dX0_stale_27 rfl (lv_at hl 0 rfl) ?_
        refine gX_staleMark hE hX hown hK hh dX0_stale_28 ?_
        refine lv_iload_n hE.1 hE.2 dX0_stale_31 rfl (lv_at hl 1 rfl) ?_
        refine zv_iconst hE dX0_stale_32 ?_
        refine sX_staleMark hE hK hh ⟨by omega, by omega⟩ (by first | exact Or.inl rfl | exact Or.inr rfl | assumption) dX0_stale_33 (fun H locs hh => ?_)
        refine lv_aload_n hE.1 hE.2 dX0_stale_34 rfl (lv_at hl 0 rfl) ?_
        refine lv_dup hE.1 hE.2 dX0_stale_35 rfl ?_
        refine gX_staleOnes hE hX hown hK hh dX0_stale_36 ?_
        refine zv_iconst hE dX0_stale_39 ?_
        refine zv_iadd hE dX0_stale_40 ?_
        refine pX_staleOnes hE hX hown hK hh dX0_stale_41 (fun H locs hh => ?_)
        refine zv_iconst hE dX0_stale_44 ?_
        refine mc_retz (u := (ky, wt, sa, ea, up_ sm i 1, ln, fi, fk, fo, op, ni, ns + 1, ev, cu, wa, fr, oo)) hE hr hlk hK hh dX0_stale_45 (by first | exact Or.inl rfl | exact Or.inr rfl | assumption) ?_
        first | exact Or.inl ⟨rfl, rfl, by omega⟩ | exact Or.inr ⟨rfl, by omega, by omega, by omega, by omega, by omega, rfl⟩
      · refine zv_iconst hE dX0_stale_25 ?_
        refine mc_retz (u := (ky, wt, sa, ea, sm, ln, fi, fk, fo, op, ni, ns, ev, cu, wa, fr, oo)) hE hr hlk hK hh dX0_stale_26 (by first | exact Or.inl rfl | exact Or.inr rfl | assumption) ?_
        first | exact Or.inl ⟨rfl, rfl, by omega⟩ | exact Or.inr ⟨rfl, by omega, by omega, by omega, by omega, by omega, rfl⟩
set_option maxHeartbeats 400000 in
set_option maxRecDepth 100000 in
theorem kX_resume (l : Launch) (dC : Nat → ClassId) (dI : Nat → Nat → Nat) (q : Nat → Nat) (cA : Nat → ClassId) (ky wt sa ea sm ln fi fk fo op : Int → Int) (ni ns ev cu wa fr oo : Int) (K : Int) (hI : ix_ ky wt sa ea sm ln fi fk fo op ni ns ev cu wa fr oo K) : mc_i l (dC, dI) vwCl (tX_ cA) (wX_ q cA) yX0_resume wsX0_resume ({ frames := 4, cells := 0, slots := 0, locals := 160 }) (ky, wt, sa, ea, sm, ln, fi, fk, fo, op, ni, ns, ev, cu, wa, fr, oo) [.ref (q 0)] (fun (z : Int) (u : SX_) => (z = -1 ∧ u = (ky, wt, sa, ea, sm, ln, fi, fk, fo, op, ni, ns, ev, cu, wa, fr, oo) ∧ (fk (fr - 1) = 1 ∨ fo (fr - 1) < oo ∨ fr = 64 ∨ ∀ k : Int, cu ≤ k → k < (lm_ fi ea ev fr) → ¬ (fun k => ln k % 2 = 0 ∧ sm (ln k / 2) = 1) k)) ∨ (fk (fr - 1) ≠ 1 ∧ oo ≤ fo (fr - 1) ∧ fr < 64 ∧ ∃ k : Int, cu ≤ k ∧ k < (lm_ fi ea ev fr) ∧ (fun k => ln k % 2 = 0 ∧ sm (ln k / 2) = 1) k ∧ (∀ j : Int, cu ≤ j → j < k → ¬ (fun k => ln k % 2 = 0 ∧ sm (ln k / 2) = 1) j) ∧ z = ln k / 2 ∧ u = (ky, up_ wt (ln k / 2) 0, sa, ea, up_ sm (ln k / 2) 0, ln, up_ fi fr (ln k / 2), up_ fk fr 1, up_ fo fr oo, op, ni, ns - 1, ev, sa (ln k / 2) + 1, wa - wt (ln k / 2), fr + 1, oo))) := by
  refine mc_i_of (cc := cX0_resume) (maxL := 2) (ret := (some .int)) (by decide) rfl (Nat.le_of_ble_eq_true rfl) ?_
  intro p e s m below meth c A ls hE hml hown hts hr hlk hA hK hh hl
  have hown : s.vm.findClass RX0 = some m.cls := hown
  have hX : ∀ w ∈ wsX_, w.before _ s = true := fun w h => hts w (List.mem_cons_of_mem _ h)
  have hl : lv_has ls 2 [(0, .ref (q 0))] := hl
  obtain ⟨hf5, hf3, hf8, hc1, hc2, hfe, hkk, hk1, hf6, hwa0, hlst⟩ := ix_f hI
  obtain ⟨hw, hnv, hct, ⟨hf1, hf2, hi0, hk0, ho0⟩, hkd, hfo, hfm, ⟨hc0, hc3, hev, ho1, ho2⟩, hsm, hky, hwt, ⟨hK0, hwa⟩, hse⟩ := hI
  have hf4 : 0 ≤ oo ∧ oo ≤ 600 := ⟨ho1, by omega⟩
  refine lv_aload_n hE.1 hE.2 dX0_resume_0 rfl (lv_at hl 0 rfl) ?_
  refine mc_call (rest := []) (As := []) hE hml hown hX hA hK hh (kX_lastKind l dC dI q cA ky wt sa ea sm ln fi fk fo op ni ns ev cu wa fr oo hf1 hf2) (cwV 0 hX qX_lastKind rfl rfl rfl (by decide +kernel) ⟨Nat.le_of_ble_eq_true rfl, Nat.le_of_ble_eq_true rfl⟩) rfl rfl hl.1 rfl (Nat.le_of_ble_eq_true rfl) dX0_resume_1 ⟨Nat.zero_le _, Nat.zero_le _⟩ rfl (fun z_2 u H locs hq_1 hh => ?_)
  obtain ⟨rfl, rfl⟩ := hq_1
  refine zv_iconst hE dX0_resume_4 ?_
  refine zv_icmp_eq (tgt := 25) hE dX0_resume_5 (by decide) ⟨by omega, by omega⟩ ⟨by omega, by omega⟩ (fun hc_3 => ?_) (fun hc_3 => ?_)
  · refine zv_iconst hE dX0_resume_25 ?_
    refine mc_ret (u := (ky, wt, sa, ea, sm, ln, fi, fk, fo, op, ni, ns, ev, cu, wa, fr, oo)) hE hr hlk hK hh dX0_resume_26 ?_
    first | exact Or.inl ⟨rfl, rfl, Or.inr (Or.inr (Or.inr hzn))⟩ | exact Or.inl ⟨rfl, rfl, by omega⟩ | exact Or.inr ⟨by omega, by omega, by omega, k, hz0, hz1, hz2, hz3, rfl, rfl⟩ | (exfalso; omega)
  · refine lv_aload_n hE.1 hE.2 dX0_resume_8 rfl (lv_at hl 0 rfl) ?_
    refine mc_call (rest := []) (As := []) hE hml hown hX hA hK hh (kX_lastOpen l dC dI q cA ky wt sa ea sm ln fi fk fo op ni ns ev cu wa fr oo hf1 hf2 hf3 hf4) (cwV 0 hX qX_lastOpen rfl rfl rfl (by decide +kernel) ⟨Nat.le_of_ble_eq_true rfl, Nat.le_of_ble_eq_true rfl⟩) rfl rfl hl.1 rfl (Nat.le_of_ble_eq_true rfl) dX0_resume_9 ⟨Nat.zero_le _, Nat.zero_le _⟩ rfl (fun z_5 u H locs hq_4 hh => ?_)
    obtain ⟨rfl, hq_4a, hq_4b⟩ := hq_4
    refine zv_iconst hE dX0_resume_12 ?_
    refine zv_icmp_ne (tgt := 25) hE dX0_resume_13 (by decide) ⟨by omega, by omega⟩ ⟨by omega, by omega⟩ (fun hc_6 => ?_) (fun hc_6 => ?_)
    · refine zv_iconst hE dX0_resume_25 ?_
      refine mc_ret (u := (ky, wt, sa, ea, sm, ln, fi, fk, fo, op, ni, ns, ev, cu, wa, fr, oo)) hE hr hlk hK hh dX0_resume_26 ?_
      first | exact Or.inl ⟨rfl, rfl, Or.inr (Or.inr (Or.inr hzn))⟩ | exact Or.inl ⟨rfl, rfl, by omega⟩ | exact Or.inr ⟨by omega, by omega, by omega, k, hz0, hz1, hz2, hz3, rfl, rfl⟩ | (exfalso; omega)
    · refine lv_aload_n hE.1 hE.2 dX0_resume_16 rfl (lv_at hl 0 rfl) ?_
      refine gX_frames hE hX hown hK hh dX0_resume_17 ?_
      refine zv_bipush hE dX0_resume_20 (by decide) ?_
      refine zv_icmp_lt (tgt := 27) hE dX0_resume_22 (by decide) ⟨by omega, by omega⟩ ⟨by omega, by omega⟩ (fun hc_7 => ?_) (fun hc_7 => ?_)
      · refine lv_aload_n hE.1 hE.2 dX0_resume_27 rfl (lv_at hl 0 rfl) ?_
        refine mc_call (rest := []) (As := []) hE hml hown hX hA hK hh (kX_firstStaleAhead l dC dI q cA ky wt sa ea sm ln fi fk fo op ni ns ev cu wa fr oo hf1 hf2 hf5 hw hsm hc0 hc1 hc2) (cwV 0 hX qX_firstStaleAhead rfl rfl rfl (by decide +kernel) ⟨Nat.le_of_ble_eq_true rfl, Nat.le_of_ble_eq_true rfl⟩) rfl rfl hl.1 rfl (Nat.le_of_ble_eq_true rfl) dX0_resume_28 ⟨Nat.zero_le _, Nat.zero_le _⟩ rfl (fun z_9 u H locs hq_8 hh => ?_)
        obtain ⟨rfl, hq_8⟩ := hq_8
        rcases hq_8 with ⟨rfl, hzn⟩ | ⟨k, hz0, hz1, hz2, rfl, hz3⟩
        · refine lv_istore_n (lv' := [(1, .int (zi_ (-1))), (0, .ref (q 0))]) hE.1 hE.2 dX0_resume_31 rfl hl (by decide) rfl (fun ls hl => ?_)
          refine lv_iload_n hE.1 hE.2 dX0_resume_32 rfl (lv_at hl 0 rfl) ?_
          refine zv_iconst hE dX0_resume_33 ?_
          refine zv_icmp_ne (tgt := 39) hE dX0_resume_34 (by decide) ⟨by omega, by omega⟩ ⟨by omega, by omega⟩ (fun hc_10 => ?_) (fun hc_10 => ?_)
          · exact absurd hc_10 (by decide)
          · refine zv_iconst hE dX0_resume_37 ?_
            refine mc_ret (u := (ky, wt, sa, ea, sm, ln, fi, fk, fo, op, ni, ns, ev, cu, wa, fr, oo)) hE hr hlk hK hh dX0_resume_38 ?_
            first | exact Or.inl ⟨rfl, rfl, Or.inr (Or.inr (Or.inr hzn))⟩ | exact Or.inl ⟨rfl, rfl, by omega⟩ | exact Or.inr ⟨by omega, by omega, by omega, k, hz0, hz1, hz2, hz3, rfl, rfl⟩ | (exfalso; omega)
        · have hx2 := hw.2.2.2 k (by omega) (by omega)
          have hx3 := hx2.2.2.1 hz2.1
          have hd0 : 0 ≤ ln k / 2 := by omega
          have hd1 : ln k / 2 < 600 := by omega
          refine lv_istore_n (lv' := [(1, .int (zi_ (ln k / 2))), (0, .ref (q 0))]) hE.1 hE.2 dX0_resume_31 rfl hl (by decide) rfl (fun ls hl => ?_)
          refine lv_iload_n hE.1 hE.2 dX0_resume_32 rfl (lv_at hl 0 rfl) ?_
          refine zv_iconst hE dX0_resume_33 ?_
          refine zv_icmp_ne (tgt := 39) hE dX0_resume_34 (by decide) ⟨by omega, by omega⟩ ⟨by omega, by omega⟩ (fun hc_11 => ?_) (fun hc_11 => ?_)
          · refine lv_aload_n hE.1 hE.2 dX0_resume_39 rfl (lv_at hl 1 rfl) ?_
            refine gX_staleMark hE hX hown hK hh dX0_resume_40 ?_
            refine lv_iload_n hE.1 hE.2 dX0_resume_43 rfl (lv_at hl 0 rfl) ?_
            refine zv_iconst hE dX0_resume_44 ?_
            refine sX_staleMark hE hK hh ⟨by omega, by omega⟩ (by first | exact Or.inl rfl | exact Or.inr rfl | assumption) dX0_resume_45 (fun H locs hh => ?_)
            refine lv_aload_n hE.1 hE.2 dX0_resume_46 rfl (lv_at hl 1 rfl) ?_
            refine lv_dup hE.1 hE.2 dX0_resume_47 rfl ?_
            refine gX_staleOnes hE hX hown hK hh dX0_resume_48 ?_
            refine zv_iconst hE dX0_resume_51 ?_
            refine zv_isub hE dX0_resume_52 ?_
            refine pX_staleOnes hE hX hown hK hh dX0_resume_53 (fun H locs hh => ?_)
            refine lv_aload_n hE.1 hE.2 dX0_resume_56 rfl (lv_at hl 1 rfl) ?_
            refine lv_dup hE.1 hE.2 dX0_resume_57 rfl ?_
            refine gX_weightInAll hE hX hown hK hh dX0_resume_58 ?_
            refine lv_aload_n hE.1 hE.2 dX0_resume_61 rfl (lv_at hl 1 rfl) ?_
            refine gX_weights hE hX hown hK hh dX0_resume_62 ?_
            refine lv_iload_n hE.1 hE.2 dX0_resume_65 rfl (lv_at hl 0 rfl) ?_
            refine rX_weights hE hK hh ⟨by omega, by omega⟩ dX0_resume_66 ?_
            refine zv_isub hE dX0_resume_67 ?_
            refine pX_weightInAll hE hX hown hK hh dX0_resume_68 (fun H locs hh => ?_)
            refine lv_aload_n hE.1 hE.2 dX0_resume_71 rfl (lv_at hl 1 rfl) ?_
            refine gX_weights hE hX hown hK hh dX0_resume_72 ?_
            refine lv_iload_n hE.1 hE.2 dX0_resume_75 rfl (lv_at hl 0 rfl) ?_
            refine zv_iconst hE dX0_resume_76 ?_
            refine sX_weights hE hK hh ⟨by omega, by omega⟩ dX0_resume_77 (fun H locs hh => ?_)
            refine lv_aload_n hE.1 hE.2 dX0_resume_78 rfl (lv_at hl 1 rfl) ?_
            refine lv_iload_n hE.1 hE.2 dX0_resume_79 rfl (lv_at hl 0 rfl) ?_
            refine zv_iconst hE dX0_resume_80 ?_
            refine mc_callv (rest := []) (As := [.int (zi_ (ln k / 2)), .int (zi_ 1)]) hE hml hown hX hA hK hh (kX_putFrame l dC dI q cA ky (up_ wt (ln k / 2) 0) sa ea (up_ sm (ln k / 2) 0) ln fi fk fo op ni (ns - 1) ev cu (wa - (wt (ln k / 2))) fr oo (ln k / 2) 1 hf1 (by omega) (by omega) (by omega)) (cwV 2 hX qX_putFrame rfl rfl rfl (by decide +kernel) ⟨Nat.le_of_ble_eq_true rfl, Nat.le_of_ble_eq_true rfl⟩) rfl rfl hl.1 rfl (Nat.le_of_ble_eq_true rfl) dX0_resume_81 ⟨Nat.zero_le _, Nat.zero_le _⟩ rfl (fun u H locs hq_12 hh => ?_)
            subst hq_12
            refine lv_iload_n hE.1 hE.2 dX0_resume_84 rfl (lv_at hl 0 rfl) ?_
            refine mc_ret (u := (ky, up_ wt (ln k / 2) 0, sa, ea, up_ sm (ln k / 2) 0, ln, up_ fi fr (ln k / 2), up_ fk fr 1, up_ fo fr oo, op, ni, ns - 1, ev, sa (ln k / 2) + 1, wa - (wt (ln k / 2)), fr + 1, oo)) hE hr hlk hK hh dX0_resume_85 ?_
            first | exact Or.inl ⟨rfl, rfl, Or.inr (Or.inr (Or.inr hzn))⟩ | exact Or.inl ⟨rfl, rfl, by omega⟩ | exact Or.inr ⟨by omega, by omega, by omega, k, hz0, hz1, hz2, hz3, rfl, rfl⟩ | (exfalso; omega)
          · refine zv_iconst hE dX0_resume_37 ?_
            refine mc_ret (u := (ky, wt, sa, ea, sm, ln, fi, fk, fo, op, ni, ns, ev, cu, wa, fr, oo)) hE hr hlk hK hh dX0_resume_38 ?_
            first | exact Or.inl ⟨rfl, rfl, Or.inr (Or.inr (Or.inr hzn))⟩ | exact Or.inl ⟨rfl, rfl, by omega⟩ | exact Or.inr ⟨by omega, by omega, by omega, k, hz0, hz1, hz2, hz3, rfl, rfl⟩ | (exfalso; omega)
      · refine zv_iconst hE dX0_resume_25 ?_
        refine mc_ret (u := (ky, wt, sa, ea, sm, ln, fi, fk, fo, op, ni, ns, ev, cu, wa, fr, oo)) hE hr hlk hK hh dX0_resume_26 ?_
        first | exact Or.inl ⟨rfl, rfl, Or.inr (Or.inr (Or.inr hzn))⟩ | exact Or.inl ⟨rfl, rfl, by omega⟩ | exact Or.inr ⟨by omega, by omega, by omega, k, hz0, hz1, hz2, hz3, rfl, rfl⟩ | (exfalso; omega)
set_option maxHeartbeats 400000 in
set_option maxRecDepth 100000 in
theorem kX_take (l : Launch) (dC : Nat → ClassId) (dI : Nat → Nat → Nat) (q : Nat → Nat) (cA : Nat → ClassId) (ky wt sa ea sm ln fi fk fo op : Int → Int) (ni ns ev cu wa fr oo : Int) (key : Int) (K : Int) (hI : ix_ ky wt sa ea sm ln fi fk fo op ni ns ev cu wa fr oo K) (hk9 : zr_ key) : mc_i l (dC, dI) vwCl (tX_ cA) (wX_ q cA) yX0_take wsX0_take ({ frames := 4, cells := 0, slots := 0, locals := 160 }) (ky, wt, sa, ea, sm, ln, fi, fk, fo, op, ni, ns, ev, cu, wa, fr, oo) [.ref (q 0), .int (zi_ key)] (fun (z : Int) (u : SX_) => (z = -1 ∧ u = (ky, wt, sa, ea, sm, ln, fi, fk, fo, op, ni, ns, ev, cu, wa, fr, oo) ∧ (fk (fr - 1) ≠ 1 ∨ fr = 64 ∨ ∀ k : Int, cu ≤ k → k < (lm_ fi ea ev fr) → ¬ (fun k => ln k % 2 = 0 ∧ ky (ln k / 2) = key ∧ sm (ln k / 2) = 0 ∧ ea (ln k / 2) ≠ -1 ∧ ea (ln k / 2) < (lm_ fi ea ev fr)) k)) ∨ (fk (fr - 1) = 1 ∧ fr < 64 ∧ ∃ k : Int, cu ≤ k ∧ k < (lm_ fi ea ev fr) ∧ (fun k => ln k % 2 = 0 ∧ ky (ln k / 2) = key ∧ sm (ln k / 2) = 0 ∧ ea (ln k / 2) ≠ -1 ∧ ea (ln k / 2) < (lm_ fi ea ev fr)) k ∧ (∀ j : Int, cu ≤ j → j < k → ¬ (fun k => ln k % 2 = 0 ∧ ky (ln k / 2) = key ∧ sm (ln k / 2) = 0 ∧ ea (ln k / 2) ≠ -1 ∧ ea (ln k / 2) < (lm_ fi ea ev fr)) j) ∧ z = ln k / 2 ∧ ∃ (sa2 ea2 ln2 : Int → Int) (ni2 ns2 wa2 : Int), er_ sa ea ln ev cu (sa (ln k / 2)) sa2 ea2 ln2 ∧ ct_ sa2 sm wt ni2 ns2 wa2 K ∧ u = (ky, wt, sa2, ea2, sm, ln2, up_ fi fr (ln k / 2), up_ fk fr 2, up_ fo fr oo, op, ni2, ns2, rz_ (gp_ ln cu (sa (ln k / 2))) ev, sa2 (ln k / 2) + 1, wa2, fr + 1, oo))) := by
  refine mc_i_of (cc := cX0_take) (maxL := 3) (ret := (some .int)) (by decide) rfl (Nat.le_of_ble_eq_true rfl) ?_
  intro p e s m below meth c A ls hE hml hown hts hr hlk hA hK hh hl
  have hown : s.vm.findClass RX0 = some m.cls := hown
  have hX : ∀ w ∈ wsX_, w.before _ s = true := fun w h => hts w (List.mem_cons_of_mem _ h)
  have hl : lv_has ls 3 [(0, .ref (q 0)), (1, .int (zi_ key))] := hl
  obtain ⟨hf5, hf3, hf8, hc1, hc2, hfe, hkk, hk1, hf6, hwa0, hlst⟩ := ix_f hI
  obtain ⟨hw, hnv, hct, ⟨hf1, hf2, hi0, hk0, ho0⟩, hkd, hfo, hfm, ⟨hc0, hc3, hev, ho1, ho2⟩, hsm, hky, hwt, ⟨hK0, hwa⟩, hse⟩ := hI
  have hf4 : 0 ≤ oo ∧ oo ≤ 600 := ⟨ho1, by omega⟩
  refine lv_aload_n hE.1 hE.2 dX0_take_0 rfl (lv_at hl 0 rfl) ?_
  refine mc_call (rest := []) (As := []) hE hml hown hX hA hK hh (kX_lastKind l dC dI q cA ky wt sa ea sm ln fi fk fo op ni ns ev cu wa fr oo hf1 hf2) (cwV 0 hX qX_lastKind rfl rfl rfl (by decide +kernel) ⟨Nat.le_of_ble_eq_true rfl, Nat.le_of_ble_eq_true rfl⟩) rfl rfl hl.1 rfl (Nat.le_of_ble_eq_true rfl) dX0_take_1 ⟨Nat.zero_le _, Nat.zero_le _⟩ rfl (fun z_2 u H locs hq_1 hh => ?_)
  obtain ⟨rfl, rfl⟩ := hq_1
  refine zv_iconst hE dX0_take_4 ?_
  refine zv_icmp_ne (tgt := 17) hE dX0_take_5 (by decide) ⟨by omega, by omega⟩ ⟨by omega, by omega⟩ (fun hc_3 => ?_) (fun hc_3 => ?_)
  · refine zv_iconst hE dX0_take_17 ?_
    refine mc_ret (u := (ky, wt, sa, ea, sm, ln, fi, fk, fo, op, ni, ns, ev, cu, wa, fr, oo)) hE hr hlk hK hh dX0_take_18 ?_
    first | exact Or.inl ⟨rfl, rfl, Or.inr (Or.inr hzn)⟩ | exact Or.inl ⟨rfl, rfl, by omega⟩ | exact Or.inr ⟨by omega, by omega, k, hz0, hz1, hz2, hz3, rfl, sa2, ea2, ln2, ni2, ns2, wa2, her, hct2, rfl⟩ | (exfalso; omega)
  · refine lv_aload_n hE.1 hE.2 dX0_take_8 rfl (lv_at hl 0 rfl) ?_
    refine gX_frames hE hX hown hK hh dX0_take_9 ?_
    refine zv_bipush hE dX0_take_12 (by decide) ?_
    refine zv_icmp_lt (tgt := 19) hE dX0_take_14 (by decide) ⟨by omega, by omega⟩ ⟨by omega, by omega⟩ (fun hc_4 => ?_) (fun hc_4 => ?_)
    · refine lv_aload_n hE.1 hE.2 dX0_take_19 rfl (lv_at hl 0 rfl) ?_
      refine lv_iload_n hE.1 hE.2 dX0_take_20 rfl (lv_at hl 1 rfl) ?_
      refine mc_call (rest := []) (As := [.int (zi_ key)]) hE hml hown hX hA hK hh (kX_firstFreshAhead l dC dI q cA ky wt sa ea sm ln fi fk fo op ni ns ev cu wa fr oo key hf1 hf2 hf5 hw hsm hc0 hc1 hc2 hk9 hky) (cwV 1 hX qX_firstFreshAhead rfl rfl rfl (by decide +kernel) ⟨Nat.le_of_ble_eq_true rfl, Nat.le_of_ble_eq_true rfl⟩) rfl rfl hl.1 rfl (Nat.le_of_ble_eq_true rfl) dX0_take_21 ⟨Nat.zero_le _, Nat.zero_le _⟩ rfl (fun z_6 u H locs hq_5 hh => ?_)
      obtain ⟨rfl, hq_5⟩ := hq_5
      rcases hq_5 with ⟨rfl, hzn⟩ | ⟨k, hz0, hz1, hz2, rfl, hz3⟩
      · refine lv_istore_n (lv' := [(2, .int (zi_ (-1))), (0, .ref (q 0)), (1, .int (zi_ key))]) hE.1 hE.2 dX0_take_24 rfl hl (by decide) rfl (fun ls hl => ?_)
        refine lv_iload_n hE.1 hE.2 dX0_take_25 rfl (lv_at hl 0 rfl) ?_
        refine zv_iconst hE dX0_take_26 ?_
        refine zv_icmp_ne (tgt := 32) hE dX0_take_27 (by decide) ⟨by omega, by omega⟩ ⟨by omega, by omega⟩ (fun hc_7 => ?_) (fun hc_7 => ?_)
        · exact absurd hc_7 (by decide)
        · refine zv_iconst hE dX0_take_30 ?_
          refine mc_ret (u := (ky, wt, sa, ea, sm, ln, fi, fk, fo, op, ni, ns, ev, cu, wa, fr, oo)) hE hr hlk hK hh dX0_take_31 ?_
          first | exact Or.inl ⟨rfl, rfl, Or.inr (Or.inr hzn)⟩ | exact Or.inl ⟨rfl, rfl, by omega⟩ | exact Or.inr ⟨by omega, by omega, k, hz0, hz1, hz2, hz3, rfl, sa2, ea2, ln2, ni2, ns2, wa2, her, hct2, rfl⟩ | (exfalso; omega)
      · have hx2 := hw.2.2.2 k (by omega) (by omega)
        have hx3 := hx2.2.2.1 hz2.1
        have hd0 : 0 ≤ ln k / 2 := by omega
        have hd1 : ln k / 2 < 600 := by omega
        refine lv_istore_n (lv' := [(2, .int (zi_ (ln k / 2))), (0, .ref (q 0)), (1, .int (zi_ key))]) hE.1 hE.2 dX0_take_24 rfl hl (by decide) rfl (fun ls hl => ?_)
        refine lv_iload_n hE.1 hE.2 dX0_take_25 rfl (lv_at hl 0 rfl) ?_
        refine zv_iconst hE dX0_take_26 ?_
        refine zv_icmp_ne (tgt := 32) hE dX0_take_27 (by decide) ⟨by omega, by omega⟩ ⟨by omega, by omega⟩ (fun hc_8 => ?_) (fun hc_8 => ?_)
        · refine lv_aload_n hE.1 hE.2 dX0_take_32 rfl (lv_at hl 1 rfl) ?_
          refine lv_aload_n hE.1 hE.2 dX0_take_33 rfl (lv_at hl 1 rfl) ?_
          refine gX_cursor hE hX hown hK hh dX0_take_34 ?_
          refine lv_aload_n hE.1 hE.2 dX0_take_37 rfl (lv_at hl 1 rfl) ?_
          refine gX_startAt hE hX hown hK hh dX0_take_38 ?_
          refine lv_iload_n hE.1 hE.2 dX0_take_41 rfl (lv_at hl 0 rfl) ?_
          refine rX_startAt hE hK hh ⟨by omega, by omega⟩ dX0_take_42 ?_
          refine mc_callv (rest := []) (As := [.int (zi_ cu), .int (zi_ (sa (ln k / 2)))]) hE hml hown hX hA hK hh (kX_erase l dC dI q cA ky wt sa ea sm ln fi fk fo op ni ns ev cu wa fr oo cu (sa (ln k / 2)) K hw hct hsm (by omega) (by omega) (by omega)) (cwV 2 hX qX_erase rfl rfl rfl (by decide +kernel) ⟨Nat.le_of_ble_eq_true rfl, Nat.le_of_ble_eq_true rfl⟩) rfl rfl hl.1 rfl (Nat.le_of_ble_eq_true rfl) dX0_take_43 ⟨Nat.zero_le _, Nat.zero_le _⟩ rfl (fun u H locs hq_9 hh => ?_)
          obtain ⟨sa2, ea2, ln2, ni2, ns2, wa2, her, hct2, rfl⟩ := hq_9
          refine lv_aload_n hE.1 hE.2 dX0_take_46 rfl (lv_at hl 1 rfl) ?_
          refine lv_iload_n hE.1 hE.2 dX0_take_47 rfl (lv_at hl 0 rfl) ?_
          refine zv_iconst hE dX0_take_48 ?_
          refine mc_callv (rest := []) (As := [.int (zi_ (ln k / 2)), .int (zi_ 2)]) hE hml hown hX hA hK hh (kX_putFrame l dC dI q cA ky wt sa2 ea2 sm ln2 fi fk fo op ni2 ns2 (rz_ (gp_ ln cu (sa (ln k / 2))) ev) cu wa2 fr oo (ln k / 2) 2 hf1 (by omega) (by omega) (by omega)) (cwV 2 hX qX_putFrame rfl rfl rfl (by decide +kernel) ⟨Nat.le_of_ble_eq_true rfl, Nat.le_of_ble_eq_true rfl⟩) rfl rfl hl.1 rfl (Nat.le_of_ble_eq_true rfl) dX0_take_49 ⟨Nat.zero_le _, Nat.zero_le _⟩ rfl (fun u H locs hq_11 hh => ?_)
          subst hq_11
          refine lv_iload_n hE.1 hE.2 dX0_take_52 rfl (lv_at hl 0 rfl) ?_
          refine mc_ret (u := (ky, wt, sa2, ea2, sm, ln2, up_ fi fr (ln k / 2), up_ fk fr 2, up_ fo fr oo, op, ni2, ns2, rz_ (gp_ ln cu (sa (ln k / 2))) ev, sa2 (ln k / 2) + 1, wa2, fr + 1, oo)) hE hr hlk hK hh dX0_take_53 ?_
          first | exact Or.inl ⟨rfl, rfl, Or.inr (Or.inr hzn)⟩ | exact Or.inl ⟨rfl, rfl, by omega⟩ | exact Or.inr ⟨by omega, by omega, k, hz0, hz1, hz2, hz3, rfl, sa2, ea2, ln2, ni2, ns2, wa2, her, hct2, rfl⟩ | (exfalso; omega)
        · refine zv_iconst hE dX0_take_30 ?_
          refine mc_ret (u := (ky, wt, sa, ea, sm, ln, fi, fk, fo, op, ni, ns, ev, cu, wa, fr, oo)) hE hr hlk hK hh dX0_take_31 ?_
          first | exact Or.inl ⟨rfl, rfl, Or.inr (Or.inr hzn)⟩ | exact Or.inl ⟨rfl, rfl, by omega⟩ | exact Or.inr ⟨by omega, by omega, k, hz0, hz1, hz2, hz3, rfl, sa2, ea2, ln2, ni2, ns2, wa2, her, hct2, rfl⟩ | (exfalso; omega)
    · refine zv_iconst hE dX0_take_17 ?_
      refine mc_ret (u := (ky, wt, sa, ea, sm, ln, fi, fk, fo, op, ni, ns, ev, cu, wa, fr, oo)) hE hr hlk hK hh dX0_take_18 ?_
      first | exact Or.inl ⟨rfl, rfl, Or.inr (Or.inr hzn)⟩ | exact Or.inl ⟨rfl, rfl, by omega⟩ | exact Or.inr ⟨by omega, by omega, k, hz0, hz1, hz2, hz3, rfl, sa2, ea2, ln2, ni2, ns2, wa2, her, hct2, rfl⟩ | (exfalso; omega)
set_option maxHeartbeats 400000 in
set_option maxRecDepth 100000 in
theorem kX_done (l : Launch) (dC : Nat → ClassId) (dI : Nat → Nat → Nat) (q : Nat → Nat) (cA : Nat → ClassId) (ky wt sa ea sm ln fi fk fo op : Int → Int) (ni ns ev cu wa fr oo : Int) (K : Int) (hI : ix_ ky wt sa ea sm ln fi fk fo op ni ns ev cu wa fr oo K) : mc_i l (dC, dI) vwCl (tX_ cA) (wX_ q cA) yX0_done wsX0_done ({ frames := 4, cells := 0, slots := 0, locals := 160 }) (ky, wt, sa, ea, sm, ln, fi, fk, fo, op, ni, ns, ev, cu, wa, fr, oo) [.ref (q 0)] (fun (z : Int) (u : SX_) => (z = -1 ∧ u = (ky, wt, sa, ea, sm, ln, fi, fk, fo, op, ni, ns, ev, cu, wa, fr, oo) ∧ (fr = 1 ∨ fo (fr - 1) < oo)) ∨ (1 < fr ∧ oo ≤ fo (fr - 1) ∧ z = fi (fr - 1) ∧ ((fk (fr - 1) = 1 ∧ ∃ (sa2 ea2 ln2 : Int → Int) (ni2 ns2 wa2 : Int), er_ sa ea ln ev cu (ea (fi (fr - 1))) sa2 ea2 ln2 ∧ ct_ sa2 sm wt ni2 ns2 wa2 K ∧ u = (ky, wt, sa2, ea2, sm, ln2, fi, fk, fo, op, ni2, ns2, rz_ (gp_ ln cu (ea (fi (fr - 1)))) ev, ea2 (fi (fr - 1)) + 1, wa2, fr - 1, oo)) ∨ (fk (fr - 1) ≠ 1 ∧ u = (ky, wt, sa, ea, sm, ln, fi, fk, fo, op, ni, ns, ev, ea (fi (fr - 1)) + 1, wa, fr - 1, oo))))) := by
  refine mc_i_of (cc := cX0_done) (maxL := 2) (ret := (some .int)) (by decide) rfl (Nat.le_of_ble_eq_true rfl) ?_
  intro p e s m below meth c A ls hE hml hown hts hr hlk hA hK hh hl
  have hown : s.vm.findClass RX0 = some m.cls := hown
  have hX : ∀ w ∈ wsX_, w.before _ s = true := fun w h => hts w (List.mem_cons_of_mem _ h)
  have hl : lv_has ls 2 [(0, .ref (q 0))] := hl
  obtain ⟨hf5, hf3, hf8, hc1, hc2, hfe, hkk, hk1, hf6, hwa0, hlst⟩ := ix_f hI
  obtain ⟨hw, hnv, hct, ⟨hf1, hf2, hi0, hk0, ho0⟩, hkd, hfo, hfm, ⟨hc0, hc3, hev, ho1, ho2⟩, hsm, hky, hwt, ⟨hK0, hwa⟩, hse⟩ := hI
  have hf4 : 0 ≤ oo ∧ oo ≤ 600 := ⟨ho1, by omega⟩
  refine lv_aload_n hE.1 hE.2 dX0_done_0 rfl (lv_at hl 0 rfl) ?_
  refine mc_call (rest := []) (As := []) hE hml hown hX hA hK hh (kX_lastInterval l dC dI q cA ky wt sa ea sm ln fi fk fo op ni ns ev cu wa fr oo hf1 hf2) (cwV 0 hX qX_lastInterval rfl rfl rfl (by decide +kernel) ⟨Nat.le_of_ble_eq_true rfl, Nat.le_of_ble_eq_true rfl⟩) rfl rfl hl.1 rfl (Nat.le_of_ble_eq_true rfl) dX0_done_1 ⟨Nat.zero_le _, Nat.zero_le _⟩ rfl (fun z_2 u H locs hq_1 hh => ?_)
  obtain ⟨rfl, rfl⟩ := hq_1
  refine lv_istore_n (lv' := [(1, .int (zi_ (fi (fr - 1)))), (0, .ref (q 0))]) hE.1 hE.2 dX0_done_4 rfl hl (by decide) rfl (fun ls hl => ?_)
  refine lv_iload_n hE.1 hE.2 dX0_done_5 rfl (lv_at hl 0 rfl) ?_
  refine zv_iconst hE dX0_done_6 ?_
  refine zv_icmp_eq (tgt := 18) hE dX0_done_7 (by decide) ⟨by omega, by omega⟩ ⟨by omega, by omega⟩ (fun hc_3 => ?_) (fun hc_3 => ?_)
  · refine zv_iconst hE dX0_done_18 ?_
    refine mc_ret (u := (ky, wt, sa, ea, sm, ln, fi, fk, fo, op, ni, ns, ev, cu, wa, fr, oo)) hE hr hlk hK hh dX0_done_19 ?_
    first | exact Or.inl ⟨rfl, rfl, by omega⟩ | exact Or.inr ⟨by omega, by omega, rfl, Or.inl ⟨by omega, sa2, ea2, ln2, ni2, ns2, wa2, her, hct2, rfl⟩⟩ | exact Or.inr ⟨by omega, by omega, rfl, Or.inr ⟨by omega, rfl⟩⟩ | (exfalso; omega)
  · refine lv_aload_n hE.1 hE.2 dX0_done_10 rfl (lv_at hl 1 rfl) ?_
    refine mc_call (rest := []) (As := []) hE hml hown hX hA hK hh (kX_lastOpen l dC dI q cA ky wt sa ea sm ln fi fk fo op ni ns ev cu wa fr oo hf1 hf2 hf3 hf4) (cwV 0 hX qX_lastOpen rfl rfl rfl (by decide +kernel) ⟨Nat.le_of_ble_eq_true rfl, Nat.le_of_ble_eq_true rfl⟩) rfl rfl hl.1 rfl (Nat.le_of_ble_eq_true rfl) dX0_done_11 ⟨Nat.zero_le _, Nat.zero_le _⟩ rfl (fun z_5 u H locs hq_4 hh => ?_)
    obtain ⟨rfl, hq_4a, hq_4b⟩ := hq_4
    refine zv_iconst hE dX0_done_14 ?_
    refine zv_icmp_eq (tgt := 20) hE dX0_done_15 (by decide) ⟨by omega, by omega⟩ ⟨by omega, by omega⟩ (fun hc_6 => ?_) (fun hc_6 => ?_)
    · refine lv_aload_n hE.1 hE.2 dX0_done_20 rfl (lv_at hl 1 rfl) ?_
      refine mc_call (rest := []) (As := []) hE hml hown hX hA hK hh (kX_lastKind l dC dI q cA ky wt sa ea sm ln fi fk fo op ni ns ev cu wa fr oo hf1 hf2) (cwV 0 hX qX_lastKind rfl rfl rfl (by decide +kernel) ⟨Nat.le_of_ble_eq_true rfl, Nat.le_of_ble_eq_true rfl⟩) rfl rfl hl.1 rfl (Nat.le_of_ble_eq_true rfl) dX0_done_21 ⟨Nat.zero_le _, Nat.zero_le _⟩ rfl (fun z_8 u H locs hq_7 hh => ?_)
      obtain ⟨rfl, rfl⟩ := hq_7
      refine zv_iconst hE dX0_done_24 ?_
      refine zv_icmp_ne (tgt := 42) hE dX0_done_25 (by decide) ⟨by omega, by omega⟩ ⟨by omega, by omega⟩ (fun hc_9 => ?_) (fun hc_9 => ?_)
      · refine lv_aload_n hE.1 hE.2 dX0_done_42 rfl (lv_at hl 1 rfl) ?_
        refine lv_dup hE.1 hE.2 dX0_done_43 rfl ?_
        refine gX_frames hE hX hown hK hh dX0_done_44 ?_
        refine zv_iconst hE dX0_done_47 ?_
        refine zv_isub hE dX0_done_48 ?_
        refine pX_frames hE hX hown hK hh dX0_done_49 (fun H locs hh => ?_)
        refine lv_aload_n hE.1 hE.2 dX0_done_52 rfl (lv_at hl 1 rfl) ?_
        refine lv_aload_n hE.1 hE.2 dX0_done_53 rfl (lv_at hl 1 rfl) ?_
        refine gX_endAt hE hX hown hK hh dX0_done_54 ?_
        refine lv_iload_n hE.1 hE.2 dX0_done_57 rfl (lv_at hl 0 rfl) ?_
        refine rX_endAt hE hK hh ⟨by omega, by omega⟩ dX0_done_58 ?_
        refine zv_iconst hE dX0_done_59 ?_
        refine zv_iadd hE dX0_done_60 ?_
        refine pX_cursor hE hX hown hK hh dX0_done_61 (fun H locs hh => ?_)
        refine lv_iload_n hE.1 hE.2 dX0_done_64 rfl (lv_at hl 0 rfl) ?_
        refine mc_ret (u := (ky, wt, sa, ea, sm, ln, fi, fk, fo, op, ni, ns, ev, (ea (fi (fr - 1))) + 1, wa, fr - 1, oo)) hE hr hlk hK hh dX0_done_65 ?_
        first | exact Or.inl ⟨rfl, rfl, by omega⟩ | exact Or.inr ⟨by omega, by omega, rfl, Or.inl ⟨by omega, sa2, ea2, ln2, ni2, ns2, wa2, her, hct2, rfl⟩⟩ | exact Or.inr ⟨by omega, by omega, rfl, Or.inr ⟨by omega, rfl⟩⟩ | (exfalso; omega)
      · refine lv_aload_n hE.1 hE.2 dX0_done_28 rfl (lv_at hl 1 rfl) ?_
        refine lv_aload_n hE.1 hE.2 dX0_done_29 rfl (lv_at hl 1 rfl) ?_
        refine gX_cursor hE hX hown hK hh dX0_done_30 ?_
        refine lv_aload_n hE.1 hE.2 dX0_done_33 rfl (lv_at hl 1 rfl) ?_
        refine gX_endAt hE hX hown hK hh dX0_done_34 ?_
        refine lv_iload_n hE.1 hE.2 dX0_done_37 rfl (lv_at hl 0 rfl) ?_
        have hx := hlst (by omega)
        refine rX_endAt hE hK hh ⟨by omega, by omega⟩ dX0_done_38 ?_
        refine mc_callv (rest := []) (As := [.int (zi_ cu), .int (zi_ (ea (fi (fr - 1))))]) hE hml hown hX hA hK hh (kX_erase l dC dI q cA ky wt sa ea sm ln fi fk fo op ni ns ev cu wa fr oo cu (ea (fi (fr - 1))) K hw hct hsm (by omega) (by omega) (by omega)) (cwV 2 hX qX_erase rfl rfl rfl (by decide +kernel) ⟨Nat.le_of_ble_eq_true rfl, Nat.le_of_ble_eq_true rfl⟩) rfl rfl hl.1 rfl (Nat.le_of_ble_eq_true rfl) dX0_done_39 ⟨Nat.zero_le _, Nat.zero_le _⟩ rfl (fun u H locs hq_10 hh => ?_)
        obtain ⟨sa2, ea2, ln2, ni2, ns2, wa2, her, hct2, rfl⟩ := hq_10
        refine lv_aload_n hE.1 hE.2 dX0_done_42 rfl (lv_at hl 1 rfl) ?_
        refine lv_dup hE.1 hE.2 dX0_done_43 rfl ?_
        refine gX_frames hE hX hown hK hh dX0_done_44 ?_
        refine zv_iconst hE dX0_done_47 ?_
        refine zv_isub hE dX0_done_48 ?_
        refine pX_frames hE hX hown hK hh dX0_done_49 (fun H locs hh => ?_)
        refine lv_aload_n hE.1 hE.2 dX0_done_52 rfl (lv_at hl 1 rfl) ?_
        refine lv_aload_n hE.1 hE.2 dX0_done_53 rfl (lv_at hl 1 rfl) ?_
        refine gX_endAt hE hX hown hK hh dX0_done_54 ?_
        refine lv_iload_n hE.1 hE.2 dX0_done_57 rfl (lv_at hl 0 rfl) ?_
        refine rX_endAt hE hK hh ⟨by omega, by omega⟩ dX0_done_58 ?_
        refine zv_iconst hE dX0_done_59 ?_
        refine zv_iadd hE dX0_done_60 ?_
        refine pX_cursor hE hX hown hK hh dX0_done_61 (fun H locs hh => ?_)
        refine lv_iload_n hE.1 hE.2 dX0_done_64 rfl (lv_at hl 0 rfl) ?_
        refine mc_ret (u := (ky, wt, sa2, ea2, sm, ln2, fi, fk, fo, op, ni2, ns2, rz_ (gp_ ln cu (ea (fi (fr - 1)))) ev, (ea2 (fi (fr - 1))) + 1, wa2, fr - 1, oo)) hE hr hlk hK hh dX0_done_65 ?_
        first | exact Or.inl ⟨rfl, rfl, by omega⟩ | exact Or.inr ⟨by omega, by omega, rfl, Or.inl ⟨by omega, sa2, ea2, ln2, ni2, ns2, wa2, her, hct2, rfl⟩⟩ | exact Or.inr ⟨by omega, by omega, rfl, Or.inr ⟨by omega, rfl⟩⟩ | (exfalso; omega)
    · refine zv_iconst hE dX0_done_18 ?_
      refine mc_ret (u := (ky, wt, sa, ea, sm, ln, fi, fk, fo, op, ni, ns, ev, cu, wa, fr, oo)) hE hr hlk hK hh dX0_done_19 ?_
      first | exact Or.inl ⟨rfl, rfl, by omega⟩ | exact Or.inr ⟨by omega, by omega, rfl, Or.inl ⟨by omega, sa2, ea2, ln2, ni2, ns2, wa2, her, hct2, rfl⟩⟩ | exact Or.inr ⟨by omega, by omega, rfl, Or.inr ⟨by omega, rfl⟩⟩ | (exfalso; omega)
set_option maxHeartbeats 400000 in
set_option maxRecDepth 100000 in
theorem kX_toEnd (l : Launch) (dC : Nat → ClassId) (dI : Nat → Nat → Nat) (q : Nat → Nat) (cA : Nat → ClassId) (ky wt sa ea sm ln fi fk fo op : Int → Int) (ni ns ev cu wa fr oo : Int) (K : Int) (hI : ix_ ky wt sa ea sm ln fi fk fo op ni ns ev cu wa fr oo K) : mc_i l (dC, dI) vwCl (tX_ cA) (wX_ q cA) yX0_toEnd wsX0_toEnd ({ frames := 4, cells := 0, slots := 0, locals := 160 }) (ky, wt, sa, ea, sm, ln, fi, fk, fo, op, ni, ns, ev, cu, wa, fr, oo) [.ref (q 0)] (fun (z : Int) (u : SX_) => (z = 1 ∧ fr = 1 ∧ oo ≤ fo (fr - 1) ∧ u = (ky, wt, sa, ea, sm, ln, fi, fk, fo, op, ni, ns, ev, ev, wa, fr, oo)) ∨ (z = 0 ∧ (fr ≠ 1 ∨ fo (fr - 1) < oo) ∧ u = (ky, wt, sa, ea, sm, ln, fi, fk, fo, op, ni, ns, ev, cu, wa, fr, oo))) := by
  refine mc_i_of (cc := cX0_toEnd) (maxL := 1) (ret := (some .boolean)) (by decide) rfl (Nat.le_of_ble_eq_true rfl) ?_
  intro p e s m below meth c A ls hE hml hown hts hr hlk hA hK hh hl
  have hown : s.vm.findClass RX0 = some m.cls := hown
  have hX : ∀ w ∈ wsX_, w.before _ s = true := fun w h => hts w (List.mem_cons_of_mem _ h)
  have hl : lv_has ls 1 [(0, .ref (q 0))] := hl
  obtain ⟨hf5, hf3, hf8, hc1, hc2, hfe, hkk, hk1, hf6, hwa0, hlst⟩ := ix_f hI
  obtain ⟨hw, hnv, hct, ⟨hf1, hf2, hi0, hk0, ho0⟩, hkd, hfo, hfm, ⟨hc0, hc3, hev, ho1, ho2⟩, hsm, hky, hwt, ⟨hK0, hwa⟩, hse⟩ := hI
  have hf4 : 0 ≤ oo ∧ oo ≤ 600 := ⟨ho1, by omega⟩
  refine lv_aload_n hE.1 hE.2 dX0_toEnd_0 rfl (lv_at hl 0 rfl) ?_
  refine mc_call (rest := []) (As := []) hE hml hown hX hA hK hh (kX_mayMove l dC dI q cA ky wt sa ea sm ln fi fk fo op ni ns ev cu wa fr oo hf1 hf2 hf3 hf4 hf6) (cwV 0 hX qX_mayMove rfl rfl rfl (by decide +kernel) ⟨Nat.le_of_ble_eq_true rfl, Nat.le_of_ble_eq_true rfl⟩) rfl rfl hl.1 rfl (Nat.le_of_ble_eq_true rfl) dX0_toEnd_1 ⟨Nat.zero_le _, Nat.zero_le _⟩ rfl (fun z_2 u H locs hq_1 hh => ?_)
  obtain ⟨rfl, hq_1a, hq_1b⟩ := hq_1
  have hq_1z : zr_ z_2 := ⟨by omega, by omega⟩
  refine zv_if_ne (tgt := 9) hE dX0_toEnd_4 (by decide) ⟨by omega, by omega⟩ (fun hc_3 => ?_) (fun hc_3 => ?_)
  · refine lv_aload_n hE.1 hE.2 dX0_toEnd_9 rfl (lv_at hl 0 rfl) ?_
    refine lv_aload_n hE.1 hE.2 dX0_toEnd_10 rfl (lv_at hl 0 rfl) ?_
    refine gX_events hE hX hown hK hh dX0_toEnd_11 ?_
    refine pX_cursor hE hX hown hK hh dX0_toEnd_14 (fun H locs hh => ?_)
    refine zv_iconst hE dX0_toEnd_17 ?_
    refine mc_retz (u := (ky, wt, sa, ea, sm, ln, fi, fk, fo, op, ni, ns, ev, ev, wa, fr, oo)) hE hr hlk hK hh dX0_toEnd_18 (by first | exact Or.inl rfl | exact Or.inr rfl | assumption) ?_
    first | exact Or.inl ⟨rfl, by omega, by omega, rfl⟩ | exact Or.inr ⟨rfl, by omega, rfl⟩
  · refine zv_iconst hE dX0_toEnd_7 ?_
    refine mc_retz (u := (ky, wt, sa, ea, sm, ln, fi, fk, fo, op, ni, ns, ev, cu, wa, fr, oo)) hE hr hlk hK hh dX0_toEnd_8 (by first | exact Or.inl rfl | exact Or.inr rfl | assumption) ?_
    first | exact Or.inl ⟨rfl, by omega, by omega, rfl⟩ | exact Or.inr ⟨rfl, by omega, rfl⟩
set_option maxHeartbeats 400000 in
set_option maxRecDepth 100000 in
theorem kX_toBegin (l : Launch) (dC : Nat → ClassId) (dI : Nat → Nat → Nat) (q : Nat → Nat) (cA : Nat → ClassId) (ky wt sa ea sm ln fi fk fo op : Int → Int) (ni ns ev cu wa fr oo : Int) (K : Int) (hI : ix_ ky wt sa ea sm ln fi fk fo op ni ns ev cu wa fr oo K) : mc_i l (dC, dI) vwCl (tX_ cA) (wX_ q cA) yX0_toBegin wsX0_toBegin ({ frames := 4, cells := 0, slots := 0, locals := 160 }) (ky, wt, sa, ea, sm, ln, fi, fk, fo, op, ni, ns, ev, cu, wa, fr, oo) [.ref (q 0)] (fun (z : Int) (u : SX_) => (z = 1 ∧ fr = 1 ∧ oo ≤ fo (fr - 1) ∧ u = (ky, wt, sa, ea, sm, ln, fi, fk, fo, op, ni, ns, ev, 0, wa, fr, oo)) ∨ (z = 0 ∧ (fr ≠ 1 ∨ fo (fr - 1) < oo) ∧ u = (ky, wt, sa, ea, sm, ln, fi, fk, fo, op, ni, ns, ev, cu, wa, fr, oo))) := by
  refine mc_i_of (cc := cX0_toBegin) (maxL := 1) (ret := (some .boolean)) (by decide) rfl (Nat.le_of_ble_eq_true rfl) ?_
  intro p e s m below meth c A ls hE hml hown hts hr hlk hA hK hh hl
  have hown : s.vm.findClass RX0 = some m.cls := hown
  have hX : ∀ w ∈ wsX_, w.before _ s = true := fun w h => hts w (List.mem_cons_of_mem _ h)
  have hl : lv_has ls 1 [(0, .ref (q 0))] := hl
  obtain ⟨hf5, hf3, hf8, hc1, hc2, hfe, hkk, hk1, hf6, hwa0, hlst⟩ := ix_f hI
  obtain ⟨hw, hnv, hct, ⟨hf1, hf2, hi0, hk0, ho0⟩, hkd, hfo, hfm, ⟨hc0, hc3, hev, ho1, ho2⟩, hsm, hky, hwt, ⟨hK0, hwa⟩, hse⟩ := hI
  have hf4 : 0 ≤ oo ∧ oo ≤ 600 := ⟨ho1, by omega⟩
  refine lv_aload_n hE.1 hE.2 dX0_toBegin_0 rfl (lv_at hl 0 rfl) ?_
  refine mc_call (rest := []) (As := []) hE hml hown hX hA hK hh (kX_mayMove l dC dI q cA ky wt sa ea sm ln fi fk fo op ni ns ev cu wa fr oo hf1 hf2 hf3 hf4 hf6) (cwV 0 hX qX_mayMove rfl rfl rfl (by decide +kernel) ⟨Nat.le_of_ble_eq_true rfl, Nat.le_of_ble_eq_true rfl⟩) rfl rfl hl.1 rfl (Nat.le_of_ble_eq_true rfl) dX0_toBegin_1 ⟨Nat.zero_le _, Nat.zero_le _⟩ rfl (fun z_2 u H locs hq_1 hh => ?_)
  obtain ⟨rfl, hq_1a, hq_1b⟩ := hq_1
  have hq_1z : zr_ z_2 := ⟨by omega, by omega⟩
  refine zv_if_ne (tgt := 9) hE dX0_toBegin_4 (by decide) ⟨by omega, by omega⟩ (fun hc_3 => ?_) (fun hc_3 => ?_)
  · refine lv_aload_n hE.1 hE.2 dX0_toBegin_9 rfl (lv_at hl 0 rfl) ?_
    refine zv_iconst hE dX0_toBegin_10 ?_
    refine pX_cursor hE hX hown hK hh dX0_toBegin_11 (fun H locs hh => ?_)
    refine zv_iconst hE dX0_toBegin_14 ?_
    refine mc_retz (u := (ky, wt, sa, ea, sm, ln, fi, fk, fo, op, ni, ns, ev, 0, wa, fr, oo)) hE hr hlk hK hh dX0_toBegin_15 (by first | exact Or.inl rfl | exact Or.inr rfl | assumption) ?_
    first | exact Or.inl ⟨rfl, by omega, by omega, rfl⟩ | exact Or.inr ⟨rfl, by omega, rfl⟩
  · refine zv_iconst hE dX0_toBegin_7 ?_
    refine mc_retz (u := (ky, wt, sa, ea, sm, ln, fi, fk, fo, op, ni, ns, ev, cu, wa, fr, oo)) hE hr hlk hK hh dX0_toBegin_8 (by first | exact Or.inl rfl | exact Or.inr rfl | assumption) ?_
    first | exact Or.inl ⟨rfl, by omega, by omega, rfl⟩ | exact Or.inr ⟨rfl, by omega, rfl⟩
set_option maxHeartbeats 400000 in
set_option maxRecDepth 100000 in
theorem kX_wipe (l : Launch) (dC : Nat → ClassId) (dI : Nat → Nat → Nat) (q : Nat → Nat) (cA : Nat → ClassId) (ky wt sa ea sm ln fi fk fo op : Int → Int) (ni ns ev cu wa fr oo : Int)  : mc_v l (dC, dI) vwCl (tX_ cA) (wX_ q cA) yX0_wipe wsX0_wipe ({ frames := 1, cells := 0, slots := 0, locals := 40 }) (ky, wt, sa, ea, sm, ln, fi, fk, fo, op, ni, ns, ev, cu, wa, fr, oo) [.ref (q 0)] (fun (u : SX_) => ∃ sa1 : Int → Int, (∀ j : Int, 0 ≤ j → j < 600 → sa1 j = -1) ∧ u = (ky, wt, sa1, ea, sm, ln, up_ fi 0 (-1), up_ fk 0 0, up_ fo 0 0, op, 0, 0, 0, 0, 0, 1, 0)) := by
  refine mc_v_of (cc := cX0_wipe) (maxL := 1) (ret := none) (by decide) rfl (Nat.le_of_ble_eq_true rfl) ?_
  intro p e s m below meth c A ls hE hml hown hts hr hlk hA hK hh hl
  have hown : s.vm.findClass RX0 = some m.cls := hown
  have hX : ∀ w ∈ wsX_, w.before _ s = true := fun w h => hts w (List.mem_cons_of_mem _ h)
  have hl : lv_has ls 1 [(0, .ref (q 0))] := hl
  refine lv_aload_n hE.1 hE.2 dX0_wipe_0 rfl (lv_at hl 0 rfl) ?_
  refine mc_callv (rest := []) (As := []) hE hml hown hX hA hK hh (kX_makeEmpty l dC dI q cA ky wt sa ea sm ln fi fk fo op ni ns ev cu wa fr oo) (cwV 0 hX qX_makeEmpty rfl rfl rfl (by decide +kernel) ⟨Nat.le_of_ble_eq_true rfl, Nat.le_of_ble_eq_true rfl⟩) rfl rfl hl.1 rfl (Nat.le_of_ble_eq_true rfl) dX0_wipe_1 ⟨Nat.zero_le _, Nat.zero_le _⟩ rfl (fun u H locs hq_1 hh => ?_)
  obtain ⟨sa1, hsa1, rfl⟩ := hq_1
  refine mc_retv (u := (ky, wt, sa1, ea, sm, ln, up_ fi 0 (-1), up_ fk 0 0, up_ fo 0 0, op, 0, 0, 0, 0, 0, 1, 0)) hE hr hlk hK hh dX0_wipe_4 ?_
  exact ⟨sa1, hsa1, rfl⟩
set_option maxHeartbeats 400000 in
set_option maxRecDepth 100000 in
theorem kX_event (l : Launch) (dC : Nat → ClassId) (dI : Nat → Nat → Nat) (q : Nat → Nat) (cA : Nat → ClassId) (ky wt sa ea sm ln fi fk fo op : Int → Int) (ni ns ev cu wa fr oo : Int) (k : Int) (K : Int) (hI : ix_ ky wt sa ea sm ln fi fk fo op ni ns ev cu wa fr oo K) (hk9 : zr_ k) : mc_i l (dC, dI) vwCl (tX_ cA) (wX_ q cA) yX0_event wsX0_event ({ frames := 4, cells := 0, slots := 0, locals := 160 }) (ky, wt, sa, ea, sm, ln, fi, fk, fo, op, ni, ns, ev, cu, wa, fr, oo) [.ref (q 0), .int (zi_ k)] (fun (z : Int) (u : SX_) => u = (ky, wt, sa, ea, sm, ln, fi, fk, fo, op, ni, ns, ev, cu, wa, fr, oo) ∧ ((0 ≤ k ∧ k < ev ∧ z = ln k) ∨ ((k < 0 ∨ ev ≤ k) ∧ z = -1))) := by
  refine mc_i_of (cc := cX0_event) (maxL := 2) (ret := (some .int)) (by decide) rfl (Nat.le_of_ble_eq_true rfl) ?_
  intro p e s m below meth c A ls hE hml hown hts hr hlk hA hK hh hl
  have hown : s.vm.findClass RX0 = some m.cls := hown
  have hX : ∀ w ∈ wsX_, w.before _ s = true := fun w h => hts w (List.mem_cons_of_mem _ h)
  have hl : lv_has ls 2 [(0, .ref (q 0)), (1, .int (zi_ k))] := hl
  obtain ⟨hf5, hf3, hf8, hc1, hc2, hfe, hkk, hk1, hf6, hwa0, hlst⟩ := ix_f hI
  obtain ⟨hw, hnv, hct, ⟨hf1, hf2, hi0, hk0, ho0⟩, hkd, hfo, hfm, ⟨hc0, hc3, hev, ho1, ho2⟩, hsm, hky, hwt, ⟨hK0, hwa⟩, hse⟩ := hI
  have hf4 : 0 ≤ oo ∧ oo ≤ 600 := ⟨ho1, by omega⟩
  refine lv_iload_n hE.1 hE.2 dX0_event_0 rfl (lv_at hl 1 rfl) ?_
  refine zv_if_lt (tgt := 21) hE dX0_event_1 (by decide) ⟨by omega, by omega⟩ (fun hc_1 => ?_) (fun hc_1 => ?_)
  · refine zv_iconst hE dX0_event_21 ?_
    refine mc_ret (u := (ky, wt, sa, ea, sm, ln, fi, fk, fo, op, ni, ns, ev, cu, wa, fr, oo)) hE hr hlk hK hh dX0_event_22 ?_
    exact ⟨rfl, by omega⟩
  · refine lv_iload_n hE.1 hE.2 dX0_event_4 rfl (lv_at hl 1 rfl) ?_
    refine lv_aload_n hE.1 hE.2 dX0_event_5 rfl (lv_at hl 0 rfl) ?_
    refine gX_events hE hX hown hK hh dX0_event_6 ?_
    refine zv_icmp_ge (tgt := 21) hE dX0_event_9 (by decide) ⟨by omega, by omega⟩ ⟨by omega, by omega⟩ (fun hc_2 => ?_) (fun hc_2 => ?_)
    · refine zv_iconst hE dX0_event_21 ?_
      refine mc_ret (u := (ky, wt, sa, ea, sm, ln, fi, fk, fo, op, ni, ns, ev, cu, wa, fr, oo)) hE hr hlk hK hh dX0_event_22 ?_
      exact ⟨rfl, by omega⟩
    · refine lv_aload_n hE.1 hE.2 dX0_event_12 rfl (lv_at hl 0 rfl) ?_
      refine gX_line hE hX hown hK hh dX0_event_13 ?_
      refine lv_iload_n hE.1 hE.2 dX0_event_16 rfl (lv_at hl 1 rfl) ?_
      refine rX_line hE hK hh ⟨by omega, by omega⟩ dX0_event_17 ?_
      refine lv_goto (tgt := 22) hE.1 hE.2 dX0_event_18 (by decide) ?_
      refine mc_ret (u := (ky, wt, sa, ea, sm, ln, fi, fk, fo, op, ni, ns, ev, cu, wa, fr, oo)) hE hr hlk hK hh dX0_event_22 ?_
      exact ⟨rfl, by omega⟩
set_option maxHeartbeats 400000 in
set_option maxRecDepth 100000 in
theorem kX_look (l : Launch) (dC : Nat → ClassId) (dI : Nat → Nat → Nat) (q : Nat → Nat) (cA : Nat → ClassId) (ky wt sa ea sm ln fi fk fo op : Int → Int) (ni ns ev cu wa fr oo : Int) (wh : Int) (K : Int) (hI : ix_ ky wt sa ea sm ln fi fk fo op ni ns ev cu wa fr oo K) (hk9 : zr_ wh) : mc_i l (dC, dI) vwCl (tX_ cA) (wX_ q cA) yX0_look wsX0_look ({ frames := 4, cells := 0, slots := 0, locals := 160 }) (ky, wt, sa, ea, sm, ln, fi, fk, fo, op, ni, ns, ev, cu, wa, fr, oo) [.ref (q 0), .int (zi_ wh)] (fun (z : Int) (u : SX_) => u = (ky, wt, sa, ea, sm, ln, fi, fk, fo, op, ni, ns, ev, cu, wa, fr, oo) ∧ (wh = 0 → z = ni) ∧ (wh = 1 → z = ev) ∧ (wh = 2 → z = cu) ∧ (wh = 3 → z = fr) ∧ (wh = 4 → z = wa) ∧ (wh = 5 → z = ns) ∧ (wh = 6 → z = fi (fr - 1)) ∧ (wh = 7 → (fo (fr - 1) < oo → z = op (oo - 1)) ∧ (oo ≤ fo (fr - 1) → z = -1)) ∧ (wh = 8 → z = fk (fr - 1)) ∧ (wh = 9 → z = lm_ fi ea ev fr - cu) ∧ (wh < 0 ∨ 9 < wh → z = -1)) := by
  refine mc_i_of (cc := cX0_look) (maxL := 2) (ret := (some .int)) (by decide) rfl (Nat.le_of_ble_eq_true rfl) ?_
  intro p e s m below meth c A ls hE hml hown hts hr hlk hA hK hh hl
  have hown : s.vm.findClass RX0 = some m.cls := hown
  have hX : ∀ w ∈ wsX_, w.before _ s = true := fun w h => hts w (List.mem_cons_of_mem _ h)
  have hl : lv_has ls 2 [(0, .ref (q 0)), (1, .int (zi_ wh))] := hl
  obtain ⟨hf5, hf3, hf8, hc1, hc2, hfe, hkk, hk1, hf6, hwa0, hlst⟩ := ix_f hI
  obtain ⟨hw, hnv, hct, ⟨hf1, hf2, hi0, hk0, ho0⟩, hkd, hfo, hfm, ⟨hc0, hc3, hev, ho1, ho2⟩, hsm, hky, hwt, ⟨hK0, hwa⟩, hse⟩ := hI
  have hf4 : 0 ≤ oo ∧ oo ≤ 600 := ⟨ho1, by omega⟩
  refine lv_iload_n hE.1 hE.2 dX0_look_0 rfl (lv_at hl 1 rfl) ?_
  rcases (show wh = 0 ∨ wh = 1 ∨ wh = 2 ∨ wh = 3 ∨ wh = 4 ∨ wh = 5 ∨ wh = 6 ∨ wh = 7 ∨ wh = 8 ∨ wh = 9 ∨ (wh < 0 ∨ 9 < wh) by omega) with hsw | hsw | hsw | hsw | hsw | hsw | hsw | hsw | hsw | hsw | hsw
  · subst hsw
    refine zv_tblIn (tgt := 56) hE dX0_look_1 ⟨by decide, by decide⟩ (by decide) (by decide) rfl (by decide) ?_
    refine lv_aload_n hE.1 hE.2 dX0_look_56 rfl (lv_at hl 0 rfl) ?_
    refine gX_intervals hE hX hown hK hh dX0_look_57 ?_
    refine mc_ret (u := (ky, wt, sa, ea, sm, ln, fi, fk, fo, op, ni, ns, ev, cu, wa, fr, oo)) hE hr hlk hK hh dX0_look_60 ?_
    exact ⟨rfl, by omega, by omega, by omega, by omega, by omega, by omega, by omega, by omega, by omega, by omega, by omega⟩
  · subst hsw
    refine zv_tblIn (tgt := 61) hE dX0_look_1 ⟨by decide, by decide⟩ (by decide) (by decide) rfl (by decide) ?_
    refine lv_aload_n hE.1 hE.2 dX0_look_61 rfl (lv_at hl 0 rfl) ?_
    refine gX_events hE hX hown hK hh dX0_look_62 ?_
    refine mc_ret (u := (ky, wt, sa, ea, sm, ln, fi, fk, fo, op, ni, ns, ev, cu, wa, fr, oo)) hE hr hlk hK hh dX0_look_65 ?_
    exact ⟨rfl, by omega, by omega, by omega, by omega, by omega, by omega, by omega, by omega, by omega, by omega, by omega⟩
  · subst hsw
    refine zv_tblIn (tgt := 66) hE dX0_look_1 ⟨by decide, by decide⟩ (by decide) (by decide) rfl (by decide) ?_
    refine lv_aload_n hE.1 hE.2 dX0_look_66 rfl (lv_at hl 0 rfl) ?_
    refine gX_cursor hE hX hown hK hh dX0_look_67 ?_
    refine mc_ret (u := (ky, wt, sa, ea, sm, ln, fi, fk, fo, op, ni, ns, ev, cu, wa, fr, oo)) hE hr hlk hK hh dX0_look_70 ?_
    exact ⟨rfl, by omega, by omega, by omega, by omega, by omega, by omega, by omega, by omega, by omega, by omega, by omega⟩
  · subst hsw
    refine zv_tblIn (tgt := 71) hE dX0_look_1 ⟨by decide, by decide⟩ (by decide) (by decide) rfl (by decide) ?_
    refine lv_aload_n hE.1 hE.2 dX0_look_71 rfl (lv_at hl 0 rfl) ?_
    refine gX_frames hE hX hown hK hh dX0_look_72 ?_
    refine mc_ret (u := (ky, wt, sa, ea, sm, ln, fi, fk, fo, op, ni, ns, ev, cu, wa, fr, oo)) hE hr hlk hK hh dX0_look_75 ?_
    exact ⟨rfl, by omega, by omega, by omega, by omega, by omega, by omega, by omega, by omega, by omega, by omega, by omega⟩
  · subst hsw
    refine zv_tblIn (tgt := 76) hE dX0_look_1 ⟨by decide, by decide⟩ (by decide) (by decide) rfl (by decide) ?_
    refine lv_aload_n hE.1 hE.2 dX0_look_76 rfl (lv_at hl 0 rfl) ?_
    refine gX_weightInAll hE hX hown hK hh dX0_look_77 ?_
    refine mc_ret (u := (ky, wt, sa, ea, sm, ln, fi, fk, fo, op, ni, ns, ev, cu, wa, fr, oo)) hE hr hlk hK hh dX0_look_80 ?_
    exact ⟨rfl, by omega, by omega, by omega, by omega, by omega, by omega, by omega, by omega, by omega, by omega, by omega⟩
  · subst hsw
    refine zv_tblIn (tgt := 81) hE dX0_look_1 ⟨by decide, by decide⟩ (by decide) (by decide) rfl (by decide) ?_
    refine lv_aload_n hE.1 hE.2 dX0_look_81 rfl (lv_at hl 0 rfl) ?_
    refine gX_staleOnes hE hX hown hK hh dX0_look_82 ?_
    refine mc_ret (u := (ky, wt, sa, ea, sm, ln, fi, fk, fo, op, ni, ns, ev, cu, wa, fr, oo)) hE hr hlk hK hh dX0_look_85 ?_
    exact ⟨rfl, by omega, by omega, by omega, by omega, by omega, by omega, by omega, by omega, by omega, by omega, by omega⟩
  · subst hsw
    refine zv_tblIn (tgt := 86) hE dX0_look_1 ⟨by decide, by decide⟩ (by decide) (by decide) rfl (by decide) ?_
    refine lv_aload_n hE.1 hE.2 dX0_look_86 rfl (lv_at hl 0 rfl) ?_
    refine mc_call (rest := []) (As := []) hE hml hown hX hA hK hh (kX_lastInterval l dC dI q cA ky wt sa ea sm ln fi fk fo op ni ns ev cu wa fr oo hf1 hf2) (cwV 0 hX qX_lastInterval rfl rfl rfl (by decide +kernel) ⟨Nat.le_of_ble_eq_true rfl, Nat.le_of_ble_eq_true rfl⟩) rfl rfl hl.1 rfl (Nat.le_of_ble_eq_true rfl) dX0_look_87 ⟨Nat.zero_le _, Nat.zero_le _⟩ rfl (fun z_2 u H locs hq_1 hh => ?_)
    obtain ⟨rfl, rfl⟩ := hq_1
    refine mc_ret (u := (ky, wt, sa, ea, sm, ln, fi, fk, fo, op, ni, ns, ev, cu, wa, fr, oo)) hE hr hlk hK hh dX0_look_90 ?_
    exact ⟨rfl, by omega, by omega, by omega, by omega, by omega, by omega, by omega, by omega, by omega, by omega, by omega⟩
  · subst hsw
    refine zv_tblIn (tgt := 91) hE dX0_look_1 ⟨by decide, by decide⟩ (by decide) (by decide) rfl (by decide) ?_
    refine lv_aload_n hE.1 hE.2 dX0_look_91 rfl (lv_at hl 0 rfl) ?_
    refine mc_call (rest := []) (As := []) hE hml hown hX hA hK hh (kX_lastOpen l dC dI q cA ky wt sa ea sm ln fi fk fo op ni ns ev cu wa fr oo hf1 hf2 hf3 hf4) (cwV 0 hX qX_lastOpen rfl rfl rfl (by decide +kernel) ⟨Nat.le_of_ble_eq_true rfl, Nat.le_of_ble_eq_true rfl⟩) rfl rfl hl.1 rfl (Nat.le_of_ble_eq_true rfl) dX0_look_92 ⟨Nat.zero_le _, Nat.zero_le _⟩ rfl (fun z_4 u H locs hq_3 hh => ?_)
    obtain ⟨rfl, hq_3a, hq_3b⟩ := hq_3
    refine mc_ret (u := (ky, wt, sa, ea, sm, ln, fi, fk, fo, op, ni, ns, ev, cu, wa, fr, oo)) hE hr hlk hK hh dX0_look_95 ?_
    exact ⟨rfl, by omega, by omega, by omega, by omega, by omega, by omega, by omega, by omega, by omega, by omega, by omega⟩
  · subst hsw
    refine zv_tblIn (tgt := 96) hE dX0_look_1 ⟨by decide, by decide⟩ (by decide) (by decide) rfl (by decide) ?_
    refine lv_aload_n hE.1 hE.2 dX0_look_96 rfl (lv_at hl 0 rfl) ?_
    refine mc_call (rest := []) (As := []) hE hml hown hX hA hK hh (kX_lastKind l dC dI q cA ky wt sa ea sm ln fi fk fo op ni ns ev cu wa fr oo hf1 hf2) (cwV 0 hX qX_lastKind rfl rfl rfl (by decide +kernel) ⟨Nat.le_of_ble_eq_true rfl, Nat.le_of_ble_eq_true rfl⟩) rfl rfl hl.1 rfl (Nat.le_of_ble_eq_true rfl) dX0_look_97 ⟨Nat.zero_le _, Nat.zero_le _⟩ rfl (fun z_6 u H locs hq_5 hh => ?_)
    obtain ⟨rfl, rfl⟩ := hq_5
    refine mc_ret (u := (ky, wt, sa, ea, sm, ln, fi, fk, fo, op, ni, ns, ev, cu, wa, fr, oo)) hE hr hlk hK hh dX0_look_100 ?_
    exact ⟨rfl, by omega, by omega, by omega, by omega, by omega, by omega, by omega, by omega, by omega, by omega, by omega⟩
  · subst hsw
    refine zv_tblIn (tgt := 101) hE dX0_look_1 ⟨by decide, by decide⟩ (by decide) (by decide) rfl (by decide) ?_
    refine lv_aload_n hE.1 hE.2 dX0_look_101 rfl (lv_at hl 0 rfl) ?_
    refine mc_call (rest := []) (As := []) hE hml hown hX hA hK hh (kX_aheadUpTo l dC dI q cA ky wt sa ea sm ln fi fk fo op ni ns ev cu wa fr oo hf1 hf2 hf5) (cwV 0 hX qX_aheadUpTo rfl rfl rfl (by decide +kernel) ⟨Nat.le_of_ble_eq_true rfl, Nat.le_of_ble_eq_true rfl⟩) rfl rfl hl.1 rfl (Nat.le_of_ble_eq_true rfl) dX0_look_102 ⟨Nat.zero_le _, Nat.zero_le _⟩ rfl (fun z_8 u H locs hq_7 hh => ?_)
    obtain ⟨rfl, rfl⟩ := hq_7
    refine lv_aload_n hE.1 hE.2 dX0_look_105 rfl (lv_at hl 0 rfl) ?_
    refine gX_cursor hE hX hown hK hh dX0_look_106 ?_
    refine zv_isub hE dX0_look_109 ?_
    refine mc_ret (u := (ky, wt, sa, ea, sm, ln, fi, fk, fo, op, ni, ns, ev, cu, wa, fr, oo)) hE hr hlk hK hh dX0_look_110 ?_
    exact ⟨rfl, by omega, by omega, by omega, by omega, by omega, by omega, by omega, by omega, by omega, by omega, by omega⟩
  · refine zv_tblOut (tgt := 111) hE dX0_look_1 ⟨by omega, by omega⟩ hsw (by decide) ?_
    refine zv_iconst hE dX0_look_111 ?_
    refine mc_ret (u := (ky, wt, sa, ea, sm, ln, fi, fk, fo, op, ni, ns, ev, cu, wa, fr, oo)) hE hr hlk hK hh dX0_look_112 ?_
    exact ⟨rfl, by omega, by omega, by omega, by omega, by omega, by omega, by omega, by omega, by omega, by omega, by omega⟩
