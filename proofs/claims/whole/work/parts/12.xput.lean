set_option maxHeartbeats 400000 in
set_option maxRecDepth 100000 in
theorem kX_putAtCursor (l : Launch) (dC : Nat → ClassId) (dI : Nat → Nat → Nat) (q : Nat → Nat) (cA : Nat → ClassId) (ky wt sa ea sm ln fi fk fo op : Int → Int) (ni ns ev cu wa fr oo : Int) (e1 : Int) (h0 : 0 ≤ e1) (h1 : e1 < 1200) (hw : pw_ sa ea ln ev) (h2 : ev < 1200) (h3 : 0 ≤ cu) (h4 : cu ≤ ev) : mc_v l (dC, dI) vwCl (tX_ cA) (wX_ q cA) yX0_putAtCursor wsX0_putAtCursor ({ frames := 2, cells := 0, slots := 0, locals := 80 }) (ky, wt, sa, ea, sm, ln, fi, fk, fo, op, ni, ns, ev, cu, wa, fr, oo) [.ref (q 0), .int (zi_ e1)] (fun (u : SX_) => ∃ sa1 ea1 ln1 : Int → Int, pu_ sa ea ln ev cu sa1 ea1 ln1 ∧ ((e1 % 2 = 0 ∧ u = (ky, wt, up_ sa1 (e1 / 2) cu, ea1, sm, up_ ln1 cu e1, fi, fk, fo, op, ni, ns, ev + 1, cu + 1, wa, fr, oo)) ∨ (e1 % 2 = 1 ∧ u = (ky, wt, sa1, up_ ea1 (e1 / 2) cu, sm, up_ ln1 cu e1, fi, fk, fo, op, ni, ns, ev + 1, cu + 1, wa, fr, oo)))) := by
  refine mc_v_of (cc := cX0_putAtCursor) (maxL := 3) (ret := none) (by decide) rfl (Nat.le_of_ble_eq_true rfl) ?_
  intro p e s m below meth c A ls hE hml hown hts hr hlk hA hK hh hl
  have hown : s.vm.findClass RX0 = some m.cls := hown
  have hX : ∀ w ∈ wsX_, w.before _ s = true := fun w h => hts w (List.mem_cons_of_mem _ h)
  have hl : lv_has ls 3 [(0, .ref (q 0)), (1, .int (zi_ e1))] := hl
  have loop_16 : ∀ (n : Nat) (pl : Int) (sa1 ea1 ln1 : Int → Int), (cu ≤ pl) → (pl ≤ ev) → (pl - cu < (n : Int)) → (pu_ sa ea ln ev pl sa1 ea1 ln1) → ∀ (H : Heap) (locs : List Loc), hp_ (dC, dI) vwCl A s.heap (wX_ q cA (ky, wt, sa1, ea1, sm, ln1, fi, fk, fo, op, ni, ns, ev, cu, wa, fr, oo)) H locs → ∀ (ls : Array Slot), lv_has ls 3 [(2, .int (zi_ pl)), (1, .int (zi_ e1)), (0, .ref (q 0))] → W p l e ({ frames := 2, cells := 0, slots := 0, locals := 80 }) s m ([.ref (q 0), .int (zi_ e1)] : List Value).toArray below meth c H locs 0 0 (MQ below (mc_Qv (dC, dI) vwCl (tX_ cA) (wX_ q cA) (fun (u : SX_) => ∃ sa1 ea1 ln1 : Int → Int, pu_ sa ea ln ev cu sa1 ea1 ln1 ∧ ((e1 % 2 = 0 ∧ u = (ky, wt, up_ sa1 (e1 / 2) cu, ea1, sm, up_ ln1 cu e1, fi, fk, fo, op, ni, ns, ev + 1, cu + 1, wa, fr, oo)) ∨ (e1 % 2 = 1 ∧ u = (ky, wt, sa1, up_ ea1 (e1 / 2) cu, sm, up_ ln1 cu e1, fi, fk, fo, op, ni, ns, ev + 1, cu + 1, wa, fr, oo)))) A) ([.ref (q 0), .int (zi_ e1)] : List Value).toArray s 0 0 A) (F0 m 16 ls []) := by
    intro n
    induction n with
    | zero => intros; exfalso; omega
    | succ n ih =>
      intro pl sa1 ea1 ln1 g0 g1 hn hpu H locs hh ls hl
      have hpu9 : pl = cu → pu_ sa ea ln ev cu sa1 ea1 ln1 := fun z => z ▸ hpu
      refine lv_iload_n hE.1 hE.2 dX0_putAtCursor_16 rfl (lv_at hl 0 rfl) ?_
      refine lv_aload_n hE.1 hE.2 dX0_putAtCursor_17 rfl (lv_at hl 2 rfl) ?_
      refine gX_cursor hE hX hown hK hh dX0_putAtCursor_18 ?_
      refine zv_icmp_le (tgt := 43) hE dX0_putAtCursor_21 (by decide) ⟨by omega, by omega⟩ ⟨by omega, by omega⟩ (fun hc_1 => ?_) (fun hc_1 => ?_)
      · refine lv_aload_n hE.1 hE.2 dX0_putAtCursor_43 rfl (lv_at hl 2 rfl) ?_
        refine lv_iload_n hE.1 hE.2 dX0_putAtCursor_44 rfl (lv_at hl 1 rfl) ?_
        refine lv_aload_n hE.1 hE.2 dX0_putAtCursor_45 rfl (lv_at hl 2 rfl) ?_
        refine gX_cursor hE hX hown hK hh dX0_putAtCursor_46 ?_
        refine mc_callv (rest := []) (As := [.int (zi_ e1), .int (zi_ cu)]) hE hml hown hX hA hK hh (kX_setPlace l dC dI q cA ky wt sa1 ea1 sm ln1 fi fk fo op ni ns ev cu wa fr oo e1 cu (by omega) (by omega) (by omega) (by omega)) (cwV 2 hX qX_setPlace rfl rfl rfl (by decide +kernel) ⟨Nat.le_of_ble_eq_true rfl, Nat.le_of_ble_eq_true rfl⟩) rfl rfl hl.1 rfl (Nat.le_of_ble_eq_true rfl) dX0_putAtCursor_49 ⟨Nat.zero_le _, Nat.zero_le _⟩ rfl (fun u H locs hq_2 hh => ?_)
        rcases hq_2 with ⟨hq_2e, rfl⟩ | ⟨hq_2e, rfl⟩
        · refine lv_aload_n hE.1 hE.2 dX0_putAtCursor_52 rfl (lv_at hl 2 rfl) ?_
          refine lv_dup hE.1 hE.2 dX0_putAtCursor_53 rfl ?_
          refine gX_events hE hX hown hK hh dX0_putAtCursor_54 ?_
          refine zv_iconst hE dX0_putAtCursor_57 ?_
          refine zv_iadd hE dX0_putAtCursor_58 ?_
          refine pX_events hE hX hown hK hh dX0_putAtCursor_59 (fun H locs hh => ?_)
          refine lv_aload_n hE.1 hE.2 dX0_putAtCursor_62 rfl (lv_at hl 2 rfl) ?_
          refine lv_dup hE.1 hE.2 dX0_putAtCursor_63 rfl ?_
          refine gX_cursor hE hX hown hK hh dX0_putAtCursor_64 ?_
          refine zv_iconst hE dX0_putAtCursor_67 ?_
          refine zv_iadd hE dX0_putAtCursor_68 ?_
          refine pX_cursor hE hX hown hK hh dX0_putAtCursor_69 (fun H locs hh => ?_)
          refine mc_retv (u := (ky, wt, up_ sa1 (e1 / 2) cu, ea1, sm, up_ ln1 cu e1, fi, fk, fo, op, ni, ns, ev + 1, cu + 1, wa, fr, oo)) hE hr hlk hK hh dX0_putAtCursor_72 ?_
          first | exact absurd h2 (by omega) | exact ⟨sa1, ea1, ln1, hpu9 (by omega), Or.inl ⟨by omega, rfl⟩⟩ | exact ⟨sa1, ea1, ln1, hpu9 (by omega), Or.inr ⟨by omega, rfl⟩⟩
        · refine lv_aload_n hE.1 hE.2 dX0_putAtCursor_52 rfl (lv_at hl 2 rfl) ?_
          refine lv_dup hE.1 hE.2 dX0_putAtCursor_53 rfl ?_
          refine gX_events hE hX hown hK hh dX0_putAtCursor_54 ?_
          refine zv_iconst hE dX0_putAtCursor_57 ?_
          refine zv_iadd hE dX0_putAtCursor_58 ?_
          refine pX_events hE hX hown hK hh dX0_putAtCursor_59 (fun H locs hh => ?_)
          refine lv_aload_n hE.1 hE.2 dX0_putAtCursor_62 rfl (lv_at hl 2 rfl) ?_
          refine lv_dup hE.1 hE.2 dX0_putAtCursor_63 rfl ?_
          refine gX_cursor hE hX hown hK hh dX0_putAtCursor_64 ?_
          refine zv_iconst hE dX0_putAtCursor_67 ?_
          refine zv_iadd hE dX0_putAtCursor_68 ?_
          refine pX_cursor hE hX hown hK hh dX0_putAtCursor_69 (fun H locs hh => ?_)
          refine mc_retv (u := (ky, wt, sa1, up_ ea1 (e1 / 2) cu, sm, up_ ln1 cu e1, fi, fk, fo, op, ni, ns, ev + 1, cu + 1, wa, fr, oo)) hE hr hlk hK hh dX0_putAtCursor_72 ?_
          first | exact absurd h2 (by omega) | exact ⟨sa1, ea1, ln1, hpu9 (by omega), Or.inl ⟨by omega, rfl⟩⟩ | exact ⟨sa1, ea1, ln1, hpu9 (by omega), Or.inr ⟨by omega, rfl⟩⟩
      · refine lv_aload_n hE.1 hE.2 dX0_putAtCursor_24 rfl (lv_at hl 2 rfl) ?_
        refine lv_aload_n hE.1 hE.2 dX0_putAtCursor_25 rfl (lv_at hl 2 rfl) ?_
        refine gX_line hE hX hown hK hh dX0_putAtCursor_26 ?_
        refine lv_iload_n hE.1 hE.2 dX0_putAtCursor_29 rfl (lv_at hl 0 rfl) ?_
        refine zv_iconst hE dX0_putAtCursor_30 ?_
        refine zv_isub hE dX0_putAtCursor_31 ?_
        have hx1 := hpu.2.1 (pl - 1) (by omega)
        have hx2 := hw.2.2.2 (pl - 1) (by omega) (by omega)
        refine rX_line hE hK hh ⟨by omega, by omega⟩ dX0_putAtCursor_32 ?_
        refine lv_iload_n hE.1 hE.2 dX0_putAtCursor_33 rfl (lv_at hl 0 rfl) ?_
        refine mc_callv (rest := []) (As := [.int (zi_ (ln1 (pl - 1))), .int (zi_ pl)]) hE hml hown hX hA hK hh (kX_setPlace l dC dI q cA ky wt sa1 ea1 sm ln1 fi fk fo op ni ns ev cu wa fr oo (ln1 (pl - 1)) pl (by omega) (by omega) (by omega) (by omega)) (cwV 2 hX qX_setPlace rfl rfl rfl (by decide +kernel) ⟨Nat.le_of_ble_eq_true rfl, Nat.le_of_ble_eq_true rfl⟩) rfl rfl hl.1 rfl (Nat.le_of_ble_eq_true rfl) dX0_putAtCursor_34 ⟨Nat.zero_le _, Nat.zero_le _⟩ rfl (fun u H locs hq_4 hh => ?_)
        rcases hq_4 with ⟨hq_4e, rfl⟩ | ⟨hq_4e, rfl⟩
        · refine zv_iinc (lv' := [(2, .int (zi_ (pl + (-1)))), (1, .int (zi_ e1)), (0, .ref (q 0))]) hE dX0_putAtCursor_37 hl (k := 0) rfl (by decide) rfl (fun ls hl => ?_)
          refine lv_goto (tgt := 16) hE.1 hE.2 dX0_putAtCursor_40 (by decide) ?_
          exact ih (pl - 1) (up_ sa1 ((ln1 (pl - 1)) / 2) pl) ea1 (up_ ln1 pl (ln1 (pl - 1))) (by omega) (by omega) (by omega) (by first | exact pu_even hw hpu (by omega) (by omega) (by assumption) | exact pu_odd hw hpu (by omega) (by omega) (by assumption)) _ _ hh ls (lv_sub hl [0, 1, 2] rfl)
        · refine zv_iinc (lv' := [(2, .int (zi_ (pl + (-1)))), (1, .int (zi_ e1)), (0, .ref (q 0))]) hE dX0_putAtCursor_37 hl (k := 0) rfl (by decide) rfl (fun ls hl => ?_)
          refine lv_goto (tgt := 16) hE.1 hE.2 dX0_putAtCursor_40 (by decide) ?_
          exact ih (pl - 1) sa1 (up_ ea1 ((ln1 (pl - 1)) / 2) pl) (up_ ln1 pl (ln1 (pl - 1))) (by omega) (by omega) (by omega) (by first | exact pu_even hw hpu (by omega) (by omega) (by assumption) | exact pu_odd hw hpu (by omega) (by omega) (by assumption)) _ _ hh ls (lv_sub hl [0, 1, 2] rfl)
  refine lv_aload_n hE.1 hE.2 dX0_putAtCursor_0 rfl (lv_at hl 0 rfl) ?_
  refine gX_events hE hX hown hK hh dX0_putAtCursor_1 ?_
  refine zv_sipush hE dX0_putAtCursor_4 (by decide) ?_
  refine zv_icmp_lt (tgt := 11) hE dX0_putAtCursor_7 (by decide) ⟨by omega, by omega⟩ ⟨by omega, by omega⟩ (fun hc_6 => ?_) (fun hc_6 => ?_)
  · refine lv_aload_n hE.1 hE.2 dX0_putAtCursor_11 rfl (lv_at hl 0 rfl) ?_
    refine gX_events hE hX hown hK hh dX0_putAtCursor_12 ?_
    refine lv_istore_n (lv' := [(2, .int (zi_ ev)), (0, .ref (q 0)), (1, .int (zi_ e1))]) hE.1 hE.2 dX0_putAtCursor_15 rfl hl (by decide) rfl (fun ls hl => ?_)
    exact loop_16 1300 ev sa ea ln (by omega) (by omega) (by omega) (pu_0 hw) _ _ hh ls (lv_sub hl [0, 2, 1] rfl)
  · refine mc_retv (u := (ky, wt, sa, ea, sm, ln, fi, fk, fo, op, ni, ns, ev, cu, wa, fr, oo)) hE hr hlk hK hh dX0_putAtCursor_10 ?_
    first | exact absurd h2 (by omega) | exact ⟨sa1, ea1, ln1, hpu9 (by omega), Or.inl ⟨by omega, rfl⟩⟩ | exact ⟨sa1, ea1, ln1, hpu9 (by omega), Or.inr ⟨by omega, rfl⟩⟩
set_option maxHeartbeats 400000 in
set_option maxRecDepth 100000 in
theorem kX_erase (l : Launch) (dC : Nat → ClassId) (dI : Nat → Nat → Nat) (q : Nat → Nat) (cA : Nat → ClassId) (ky wt sa ea sm ln fi fk fo op : Int → Int) (ni ns ev cu wa fr oo : Int) (a1 b1 : Int) (K : Int) (hw : pw_ sa ea ln ev) (hct : ct_ sa sm wt ni ns wa K) (hsm : ∀ j : Int, 0 ≤ j → j < 600 → sm j = 0 ∨ sm j = 1) (h0 : 0 ≤ a1) (h1 : a1 ≤ b1) (h2 : b1 ≤ ev) : mc_v l (dC, dI) vwCl (tX_ cA) (wX_ q cA) yX0_erase wsX0_erase ({ frames := 3, cells := 0, slots := 0, locals := 120 }) (ky, wt, sa, ea, sm, ln, fi, fk, fo, op, ni, ns, ev, cu, wa, fr, oo) [.ref (q 0), .int (zi_ a1), .int (zi_ b1)] (fun (u : SX_) => ∃ (sa2 ea2 ln2 : Int → Int) (ni2 ns2 wa2 : Int), er_ sa ea ln ev a1 b1 sa2 ea2 ln2 ∧ ct_ sa2 sm wt ni2 ns2 wa2 K ∧ u = (ky, wt, sa2, ea2, sm, ln2, fi, fk, fo, op, ni2, ns2, rz_ (gp_ ln a1 b1) ev, cu, wa2, fr, oo)) := by
  refine mc_v_of (cc := cX0_erase) (maxL := 5) (ret := none) (by decide) rfl (Nat.le_of_ble_eq_true rfl) ?_
  intro p e s m below meth c A ls hE hml hown hts hr hlk hA hK hh hl
  have hown : s.vm.findClass RX0 = some m.cls := hown
  have hX : ∀ w ∈ wsX_, w.before _ s = true := fun w h => hts w (List.mem_cons_of_mem _ h)
  have hl : lv_has ls 5 [(0, .ref (q 0)), (1, .int (zi_ a1)), (2, .int (zi_ b1))] := hl
  have w1 := hw.1
  have loop_30 : ∀ (n : Nat) (pl kp : Int) (sa1 sa2 ea2 ln2 : Int → Int) (ni1 ns1 wa1 : Int), (0 ≤ pl) → (pl ≤ ev) → (ev - pl < (n : Int)) → (e1_ sa ln a1 b1 sa1) → (ct_ sa1 sm wt ni1 ns1 wa1 K) → (e2_ sa ea ln ev a1 b1 pl sa2 ea2 ln2) → (kp = rz_ (gp_ ln a1 b1) pl) → ∀ (H : Heap) (locs : List Loc), hp_ (dC, dI) vwCl A s.heap (wX_ q cA (ky, wt, sa2, ea2, sm, ln2, fi, fk, fo, op, ni1, ns1, ev, cu, wa1, fr, oo)) H locs → ∀ (ls : Array Slot), lv_has ls 5 [(4, .int (zi_ pl)), (3, .int (zi_ kp)), (0, .ref (q 0))] → W p l e ({ frames := 3, cells := 0, slots := 0, locals := 120 }) s m ([.ref (q 0), .int (zi_ a1), .int (zi_ b1)] : List Value).toArray below meth c H locs 0 0 (MQ below (mc_Qv (dC, dI) vwCl (tX_ cA) (wX_ q cA) (fun (u : SX_) => ∃ (sa2 ea2 ln2 : Int → Int) (ni2 ns2 wa2 : Int), er_ sa ea ln ev a1 b1 sa2 ea2 ln2 ∧ ct_ sa2 sm wt ni2 ns2 wa2 K ∧ u = (ky, wt, sa2, ea2, sm, ln2, fi, fk, fo, op, ni2, ns2, rz_ (gp_ ln a1 b1) ev, cu, wa2, fr, oo)) A) ([.ref (q 0), .int (zi_ a1), .int (zi_ b1)] : List Value).toArray s 0 0 A) (F0 m 30 ls []) := by
    intro n
    induction n with
    | zero => intros; exfalso; omega
    | succ n ih =>
      intro pl kp sa1 sa2 ea2 ln2 ni1 ns1 wa1 g0 g1 hn he1 hct1 he2 hk H locs hh ls hl
      refine lv_iload hE.1 hE.2 dX0_erase_30 (lv_at hl 0 rfl) ?_
      refine lv_aload_n hE.1 hE.2 dX0_erase_32 rfl (lv_at hl 2 rfl) ?_
      refine gX_events hE hX hown hK hh dX0_erase_33 ?_
      refine zv_icmp_ge (tgt := 76) hE dX0_erase_36 (by decide) ⟨by omega, by omega⟩ ⟨by omega, by omega⟩ (fun hc_1 => ?_) (fun hc_1 => ?_)
      · refine lv_aload_n hE.1 hE.2 dX0_erase_76 rfl (lv_at hl 2 rfl) ?_
        refine lv_iload_n hE.1 hE.2 dX0_erase_77 rfl (lv_at hl 1 rfl) ?_
        refine pX_events hE hX hown hK hh dX0_erase_78 (fun H locs hh => ?_)
        refine mc_retv (u := (ky, wt, sa2, ea2, sm, ln2, fi, fk, fo, op, ni1, ns1, kp, cu, wa1, fr, oo)) hE hr hlk hK hh dX0_erase_81 ?_
        have hpl : pl = ev := by omega
        rw [hpl] at he2 hk
        exact ⟨sa2, ea2, ln2, ni1, ns1, wa1, er_of hw he2, er_ct hw he1 hct1 (er_of hw he2), by rw [hk]⟩
      · refine lv_aload_n hE.1 hE.2 dX0_erase_39 rfl (lv_at hl 2 rfl) ?_
        refine lv_aload_n hE.1 hE.2 dX0_erase_40 rfl (lv_at hl 2 rfl) ?_
        refine gX_line hE hX hown hK hh dX0_erase_41 ?_
        refine lv_iload hE.1 hE.2 dX0_erase_44 (lv_at hl 0 rfl) ?_
        have hx1 := he2.1 pl (by omega) (by omega)
        have hx2 := hw.2.2.2 pl (by omega) (by omega)
        have hx3 := e2_zr hw he2 (j := ln2 pl / 2) (by omega) (by omega)
        have hx4 := e2_there hw he2 g0 (by omega)
        have hr0 := rz_nn (gp_ ln a1 b1) g0
        refine rX_line hE hK hh ⟨by omega, by omega⟩ dX0_erase_46 ?_
        refine zv_iconst hE dX0_erase_47 ?_
        refine zv_half hE ⟨by omega, by omega⟩ dX0_erase_48 ?_
        refine mc_call (rest := []) (As := [.int (zi_ ((ln2 pl) / 2))]) hE hml hown hX hA hK hh (kX_isThere l dC dI q cA ky wt sa2 ea2 sm ln2 fi fk fo op ni1 ns1 ev cu wa1 fr oo ((ln2 pl) / 2) (by exact ⟨by omega, by omega⟩) (fun _ _ => hx3)) (cwV 1 hX qX_isThere rfl rfl rfl (by decide +kernel) ⟨Nat.le_of_ble_eq_true rfl, Nat.le_of_ble_eq_true rfl⟩) rfl rfl hl.1 rfl (Nat.le_of_ble_eq_true rfl) dX0_erase_49 ⟨Nat.zero_le _, Nat.zero_le _⟩ rfl (fun z_3 u H locs hq_2 hh => ?_)
        obtain ⟨rfl, hq_2a, hq_2b⟩ := hq_2
        have hq_2z : zr_ z_3 := ⟨by omega, by omega⟩
        rw [hx1] at hq_2a hq_2b
        have hgo : z_3 = 0 → gp_ ln a1 b1 pl := fun h => Classical.byContradiction (fun hn => by have := hq_2a ⟨by omega, by omega, hx4.mpr hn⟩; omega)
        have hst : z_3 ≠ 0 → ¬ gp_ ln a1 b1 pl := fun h hn => by
          have h1 : sa2 (ln pl / 2) = -1 := Decidable.byContradiction (fun h2 => hx4.mp h2 hn)
          have := hq_2b (Or.inr (Or.inr h1))
          omega
        refine zv_if_eq (tgt := 70) hE dX0_erase_52 (by decide) ⟨by omega, by omega⟩ (fun hc_4 => ?_) (fun hc_4 => ?_)
        · refine zv_iinc (lv' := [(4, .int (zi_ (pl + 1))), (3, .int (zi_ kp)), (0, .ref (q 0))]) hE dX0_erase_70 hl (k := 0) rfl (by decide) rfl (fun ls hl => ?_)
          refine lv_goto (tgt := 30) hE.1 hE.2 dX0_erase_73 (by decide) ?_
          exact ih (pl + 1) kp sa1 sa2 ea2 ln2 ni1 ns1 wa1 (by omega) (by omega) (by omega) he1 hct1 (by first | exact (e2_skip hw he2 g0 (by omega) (hgo (by omega))).1 | (rw [hk, hx1]; exact (e2_keep hw he2 g0 (by omega) (hst (by omega))).1 (by omega)) | (rw [hk, hx1]; exact (e2_keep hw he2 g0 (by omega) (hst (by omega))).2.1 (by omega))) (by first | (have := (e2_skip hw he2 g0 (by omega) (hgo (by omega))).2; omega) | (have := (e2_keep hw he2 g0 (by omega) (hst (by omega))).2.2; omega)) _ _ hh ls (lv_sub hl [0, 1, 2] rfl)
        · refine lv_aload_n hE.1 hE.2 dX0_erase_55 rfl (lv_at hl 2 rfl) ?_
          refine lv_aload_n hE.1 hE.2 dX0_erase_56 rfl (lv_at hl 2 rfl) ?_
          refine gX_line hE hX hown hK hh dX0_erase_57 ?_
          refine lv_iload hE.1 hE.2 dX0_erase_60 (lv_at hl 0 rfl) ?_
          refine rX_line hE hK hh ⟨by omega, by omega⟩ dX0_erase_62 ?_
          refine lv_iload_n hE.1 hE.2 dX0_erase_63 rfl (lv_at hl 1 rfl) ?_
          refine mc_callv (rest := []) (As := [.int (zi_ (ln2 pl)), .int (zi_ kp)]) hE hml hown hX hA hK hh (kX_setPlace l dC dI q cA ky wt sa2 ea2 sm ln2 fi fk fo op ni1 ns1 ev cu wa1 fr oo (ln2 pl) kp (by omega) (by omega) (by omega) (by omega)) (cwV 2 hX qX_setPlace rfl rfl rfl (by decide +kernel) ⟨Nat.le_of_ble_eq_true rfl, Nat.le_of_ble_eq_true rfl⟩) rfl rfl hl.1 rfl (Nat.le_of_ble_eq_true rfl) dX0_erase_64 ⟨Nat.zero_le _, Nat.zero_le _⟩ rfl (fun u H locs hq_5 hh => ?_)
          rcases hq_5 with ⟨hq_5e, rfl⟩ | ⟨hq_5e, rfl⟩
          · refine zv_iinc (lv' := [(3, .int (zi_ (kp + 1))), (4, .int (zi_ pl)), (0, .ref (q 0))]) hE dX0_erase_67 hl (k := 1) rfl (by decide) rfl (fun ls hl => ?_)
            refine zv_iinc (lv' := [(4, .int (zi_ (pl + 1))), (3, .int (zi_ (kp + 1))), (0, .ref (q 0))]) hE dX0_erase_70 hl (k := 1) rfl (by decide) rfl (fun ls hl => ?_)
            refine lv_goto (tgt := 30) hE.1 hE.2 dX0_erase_73 (by decide) ?_
            exact ih (pl + 1) (kp + 1) sa1 (up_ sa2 ((ln2 pl) / 2) kp) ea2 (up_ ln2 kp (ln2 pl)) ni1 ns1 wa1 (by omega) (by omega) (by omega) he1 hct1 (by first | exact (e2_skip hw he2 g0 (by omega) (hgo (by omega))).1 | (rw [hk, hx1]; exact (e2_keep hw he2 g0 (by omega) (hst (by omega))).1 (by omega)) | (rw [hk, hx1]; exact (e2_keep hw he2 g0 (by omega) (hst (by omega))).2.1 (by omega))) (by first | (have := (e2_skip hw he2 g0 (by omega) (hgo (by omega))).2; omega) | (have := (e2_keep hw he2 g0 (by omega) (hst (by omega))).2.2; omega)) _ _ hh ls (lv_sub hl [0, 1, 2] rfl)
          · refine zv_iinc (lv' := [(3, .int (zi_ (kp + 1))), (4, .int (zi_ pl)), (0, .ref (q 0))]) hE dX0_erase_67 hl (k := 1) rfl (by decide) rfl (fun ls hl => ?_)
            refine zv_iinc (lv' := [(4, .int (zi_ (pl + 1))), (3, .int (zi_ (kp + 1))), (0, .ref (q 0))]) hE dX0_erase_70 hl (k := 1) rfl (by decide) rfl (fun ls hl => ?_)
            refine lv_goto (tgt := 30) hE.1 hE.2 dX0_erase_73 (by decide) ?_
            exact ih (pl + 1) (kp + 1) sa1 sa2 (up_ ea2 ((ln2 pl) / 2) kp) (up_ ln2 kp (ln2 pl)) ni1 ns1 wa1 (by omega) (by omega) (by omega) he1 hct1 (by first | exact (e2_skip hw he2 g0 (by omega) (hgo (by omega))).1 | (rw [hk, hx1]; exact (e2_keep hw he2 g0 (by omega) (hst (by omega))).1 (by omega)) | (rw [hk, hx1]; exact (e2_keep hw he2 g0 (by omega) (hst (by omega))).2.1 (by omega))) (by first | (have := (e2_skip hw he2 g0 (by omega) (hgo (by omega))).2; omega) | (have := (e2_keep hw he2 g0 (by omega) (hst (by omega))).2.2; omega)) _ _ hh ls (lv_sub hl [0, 1, 2] rfl)
  have loop_2 : ∀ (n : Nat) (pl : Int) (sa1 : Int → Int) (ni1 ns1 wa1 : Int), (a1 ≤ pl) → (pl ≤ b1) → (b1 - pl < (n : Int)) → (e1_ sa ln a1 pl sa1) → (ct_ sa1 sm wt ni1 ns1 wa1 K) → ∀ (H : Heap) (locs : List Loc), hp_ (dC, dI) vwCl A s.heap (wX_ q cA (ky, wt, sa1, ea, sm, ln, fi, fk, fo, op, ni1, ns1, ev, cu, wa1, fr, oo)) H locs → ∀ (ls : Array Slot), lv_has ls 5 [(3, .int (zi_ pl)), (1, .int (zi_ a1)), (2, .int (zi_ b1)), (0, .ref (q 0))] → W p l e ({ frames := 3, cells := 0, slots := 0, locals := 120 }) s m ([.ref (q 0), .int (zi_ a1), .int (zi_ b1)] : List Value).toArray below meth c H locs 0 0 (MQ below (mc_Qv (dC, dI) vwCl (tX_ cA) (wX_ q cA) (fun (u : SX_) => ∃ (sa2 ea2 ln2 : Int → Int) (ni2 ns2 wa2 : Int), er_ sa ea ln ev a1 b1 sa2 ea2 ln2 ∧ ct_ sa2 sm wt ni2 ns2 wa2 K ∧ u = (ky, wt, sa2, ea2, sm, ln2, fi, fk, fo, op, ni2, ns2, rz_ (gp_ ln a1 b1) ev, cu, wa2, fr, oo)) A) ([.ref (q 0), .int (zi_ a1), .int (zi_ b1)] : List Value).toArray s 0 0 A) (F0 m 2 ls []) := by
    intro n
    induction n with
    | zero => intros; exfalso; omega
    | succ n ih =>
      intro pl sa1 ni1 ns1 wa1 g0 g1 hn he1 hct1 H locs hh ls hl
      refine lv_iload_n hE.1 hE.2 dX0_erase_2 rfl (lv_at hl 0 rfl) ?_
      refine lv_iload_n hE.1 hE.2 dX0_erase_3 rfl (lv_at hl 2 rfl) ?_
      refine zv_icmp_ge (tgt := 25) hE dX0_erase_4 (by decide) ⟨by omega, by omega⟩ ⟨by omega, by omega⟩ (fun hc_7 => ?_) (fun hc_7 => ?_)
      · refine zv_iconst hE dX0_erase_25 ?_
        refine lv_istore_n (lv' := [(3, .int (zi_ 0)), (1, .int (zi_ a1)), (2, .int (zi_ b1)), (0, .ref (q 0))]) hE.1 hE.2 dX0_erase_26 rfl hl (by decide) rfl (fun ls hl => ?_)
        refine zv_iconst hE dX0_erase_27 ?_
        refine lv_istore (lv' := [(4, .int (zi_ 0)), (3, .int (zi_ 0)), (1, .int (zi_ a1)), (2, .int (zi_ b1)), (0, .ref (q 0))]) hE.1 hE.2 dX0_erase_28 hl (by decide) rfl (fun ls hl => ?_)
        exact loop_30 1300 0 0 sa1 sa1 ea ln ni1 ns1 wa1 (by omega) (by omega) (by omega) ((show pl = b1 by omega) ▸ he1) hct1 (e2_0 hw ((show pl = b1 by omega) ▸ he1)) (rz_0 _).symm _ _ hh ls (lv_sub hl [0, 1, 4] rfl)
      · refine lv_aload_n hE.1 hE.2 dX0_erase_7 rfl (lv_at hl 3 rfl) ?_
        refine lv_aload_n hE.1 hE.2 dX0_erase_8 rfl (lv_at hl 3 rfl) ?_
        refine gX_line hE hX hown hK hh dX0_erase_9 ?_
        refine lv_iload_n hE.1 hE.2 dX0_erase_12 rfl (lv_at hl 0 rfl) ?_
        have hx2 := hw.2.2.2 pl (by omega) (by omega)
        have hx3 := e1_zr hw he1 (j := ln pl / 2) (by omega) (by omega)
        have hx4 := hsm (ln pl / 2) (by omega) (by omega)
        refine rX_line hE hK hh ⟨by omega, by omega⟩ dX0_erase_13 ?_
        refine zv_iconst hE dX0_erase_14 ?_
        refine zv_half hE ⟨by omega, by omega⟩ dX0_erase_15 ?_
        refine mc_callv (rest := []) (As := [.int (zi_ ((ln pl) / 2))]) hE hml hown hX hA hK hh (kX_forget l dC dI q cA ky wt sa1 ea sm ln fi fk fo op ni1 ns1 ev cu wa1 fr oo ((ln pl) / 2) (by omega) (by omega) (by first | assumption | exact ⟨by omega, by omega⟩) (by first | assumption | omega)) (cwV 1 hX qX_forget rfl rfl rfl (by decide +kernel) ⟨Nat.le_of_ble_eq_true rfl, Nat.le_of_ble_eq_true rfl⟩) rfl rfl hl.1 rfl (Nat.le_of_ble_eq_true rfl) dX0_erase_16 ⟨Nat.zero_le _, Nat.zero_le _⟩ rfl (fun u H locs hq_8 hh => ?_)
        rcases hq_8 with ⟨hq_8e, rfl⟩ | ⟨hq_8e, rfl⟩
        · refine zv_iinc (lv' := [(3, .int (zi_ (pl + 1))), (1, .int (zi_ a1)), (2, .int (zi_ b1)), (0, .ref (q 0))]) hE dX0_erase_19 hl (k := 0) rfl (by decide) rfl (fun ls hl => ?_)
          refine lv_goto (tgt := 2) hE.1 hE.2 dX0_erase_22 (by decide) ?_
          exact ih (pl + 1) sa1 ni1 ns1 wa1 (by omega) (by omega) (by omega) (by first | exact e1_same he1 g0 (by assumption) | exact e1_put he1 g0) (by first | exact hct1 | exact ct_forget hct1 (by omega) (by omega) (by assumption)) _ _ hh ls (lv_sub hl [0, 1, 2, 3] rfl)
        · refine zv_iinc (lv' := [(3, .int (zi_ (pl + 1))), (1, .int (zi_ a1)), (2, .int (zi_ b1)), (0, .ref (q 0))]) hE dX0_erase_19 hl (k := 0) rfl (by decide) rfl (fun ls hl => ?_)
          refine lv_goto (tgt := 2) hE.1 hE.2 dX0_erase_22 (by decide) ?_
          exact ih (pl + 1) (up_ sa1 ((ln pl) / 2) (-1)) (ni1 - 1) (ns1 - sm ((ln pl) / 2)) (wa1 - wt ((ln pl) / 2)) (by omega) (by omega) (by omega) (by first | exact e1_same he1 g0 (by assumption) | exact e1_put he1 g0) (by first | exact hct1 | exact ct_forget hct1 (by omega) (by omega) (by assumption)) _ _ hh ls (lv_sub hl [0, 1, 2, 3] rfl)
  refine lv_iload_n hE.1 hE.2 dX0_erase_0 rfl (lv_at hl 1 rfl) ?_
  refine lv_istore_n (lv' := [(3, .int (zi_ a1)), (0, .ref (q 0)), (1, .int (zi_ a1)), (2, .int (zi_ b1))]) hE.1 hE.2 dX0_erase_1 rfl hl (by decide) rfl (fun ls hl => ?_)
  exact loop_2 1300 a1 sa ni ns wa (by omega) (by omega) (by omega) e1_0 hct _ _ hh ls (lv_sub hl [0, 2, 3, 1] rfl)
