set_option maxHeartbeats 400000 in
set_option maxRecDepth 100000 in
theorem kX_firstStaleAhead (l : Launch) (dC : Nat → ClassId) (dI : Nat → Nat → Nat) (q : Nat → Nat) (cA : Nat → ClassId) (ky wt sa ea sm ln fi fk fo op : Int → Int) (ni ns ev cu wa fr oo : Int) (hf1 : 1 ≤ fr) (hf2 : fr ≤ 64) (hf5 : -1 ≤ fi (fr - 1) ∧ fi (fr - 1) < 600) (hw : pw_ sa ea ln ev) (hsm : ∀ j : Int, 0 ≤ j → j < 600 → sm j = 0 ∨ sm j = 1) (hc0 : 0 ≤ cu) (hc1 : cu ≤ (lm_ fi ea ev fr)) (hc2 : (lm_ fi ea ev fr) ≤ ev) : mc_i l (dC, dI) vwCl (tX_ cA) (wX_ q cA) yX0_firstStaleAhead wsX0_firstStaleAhead ({ frames := 2, cells := 0, slots := 0, locals := 80 }) (ky, wt, sa, ea, sm, ln, fi, fk, fo, op, ni, ns, ev, cu, wa, fr, oo) [.ref (q 0)] (fun (z : Int) (u : SX_) => u = (ky, wt, sa, ea, sm, ln, fi, fk, fo, op, ni, ns, ev, cu, wa, fr, oo) ∧ fs_ (fun k => ln k % 2 = 0 ∧ sm (ln k / 2) = 1) (fun k => ln k / 2) cu (lm_ fi ea ev fr) z) := by
  refine mc_i_of (cc := cX0_firstStaleAhead) (maxL := 3) (ret := (some .int)) (by decide) rfl (Nat.le_of_ble_eq_true rfl) ?_
  intro p e s m below meth c A ls hE hml hown hts hr hlk hA hK hh hl
  have hown : s.vm.findClass RX0 = some m.cls := hown
  have hX : ∀ w ∈ wsX_, w.before _ s = true := fun w h => hts w (List.mem_cons_of_mem _ h)
  have hl : lv_has ls 3 [(0, .ref (q 0))] := hl
  have w1 := hw.1
  have loop_10 : ∀ (n : Nat) (pl : Int), (cu ≤ pl) → (pl ≤ (lm_ fi ea ev fr)) → ((lm_ fi ea ev fr) - pl < (n : Int)) → (∀ k : Int, cu ≤ k → k < pl → ¬ (fun k => ln k % 2 = 0 ∧ sm (ln k / 2) = 1) k) → ∀ (H : Heap) (locs : List Loc), hp_ (dC, dI) vwCl A s.heap (wX_ q cA (ky, wt, sa, ea, sm, ln, fi, fk, fo, op, ni, ns, ev, cu, wa, fr, oo)) H locs → ∀ (ls : Array Slot), lv_has ls 3 [(2, .int (zi_ pl)), (1, .int (zi_ (lm_ fi ea ev fr))), (0, .ref (q 0))] → W p l e ({ frames := 2, cells := 0, slots := 0, locals := 80 }) s m ([.ref (q 0)] : List Value).toArray below meth c H locs 0 0 (MQ below (mc_Qi (dC, dI) vwCl (tX_ cA) (wX_ q cA) (fun (z : Int) (u : SX_) => u = (ky, wt, sa, ea, sm, ln, fi, fk, fo, op, ni, ns, ev, cu, wa, fr, oo) ∧ fs_ (fun k => ln k % 2 = 0 ∧ sm (ln k / 2) = 1) (fun k => ln k / 2) cu (lm_ fi ea ev fr) z) A) ([.ref (q 0)] : List Value).toArray s 0 0 A) (F0 m 10 ls []) := by
    intro n
    induction n with
    | zero => intros; exfalso; omega
    | succ n ih =>
      intro pl g0 g1 hn hj H locs hh ls hl
      refine lv_iload_n hE.1 hE.2 dX0_firstStaleAhead_10 rfl (lv_at hl 0 rfl) ?_
      refine lv_iload_n hE.1 hE.2 dX0_firstStaleAhead_11 rfl (lv_at hl 1 rfl) ?_
      refine zv_icmp_ge (tgt := 58) hE dX0_firstStaleAhead_12 (by decide) ⟨by omega, by omega⟩ ⟨by omega, by omega⟩ (fun hc_1 => ?_) (fun hc_1 => ?_)
      · refine zv_iconst hE dX0_firstStaleAhead_58 ?_
        refine mc_ret (u := (ky, wt, sa, ea, sm, ln, fi, fk, fo, op, ni, ns, ev, cu, wa, fr, oo)) hE hr hlk hK hh dX0_firstStaleAhead_59 ?_
        refine ⟨rfl, ?_⟩
        first | exact Or.inr ⟨pl, by omega, by omega, ⟨by omega, by omega⟩, rfl, hj⟩ | exact Or.inl ⟨rfl, fun k a b => hj k a (by omega)⟩
      · refine lv_aload_n hE.1 hE.2 dX0_firstStaleAhead_15 rfl (lv_at hl 2 rfl) ?_
        refine gX_line hE hX hown hK hh dX0_firstStaleAhead_16 ?_
        refine lv_iload_n hE.1 hE.2 dX0_firstStaleAhead_19 rfl (lv_at hl 0 rfl) ?_
        have hx2 := hw.2.2.2 pl (by omega) (by omega)
        have hx4 := hsm (ln pl / 2) (by omega) (by omega)
        refine rX_line hE hK hh ⟨by omega, by omega⟩ dX0_firstStaleAhead_20 ?_
        refine mc_calls (rest := []) (As := [.int (zi_ (ln pl))]) hE hml hown hX hA hh (kX_isStart l (ln pl) (by omega) (by omega)) (cwS 1 hX qX_isStart rfl rfl rfl (by decide +kernel) ⟨Nat.le_of_ble_eq_true rfl, Nat.le_of_ble_eq_true rfl⟩) hl.1 rfl (Nat.le_of_ble_eq_true rfl) dX0_firstStaleAhead_21 ⟨Nat.zero_le _, Nat.zero_le _⟩ rfl (fun z_3 H locs hq_2 hh => ?_)
        have hq_2z : zr_ z_3 := ⟨by omega, by omega⟩
        refine zv_if_eq (tgt := 52) hE dX0_firstStaleAhead_24 (by decide) ⟨by omega, by omega⟩ (fun hc_4 => ?_) (fun hc_4 => ?_)
        · refine zv_iinc (lv' := [(2, .int (zi_ (pl + 1))), (1, .int (zi_ (lm_ fi ea ev fr))), (0, .ref (q 0))]) hE dX0_firstStaleAhead_52 hl (k := 0) rfl (by decide) rfl (fun ls hl => ?_)
          refine lv_goto (tgt := 10) hE.1 hE.2 dX0_firstStaleAhead_55 (by decide) ?_
          exact ih (pl + 1) (by omega) (by omega) (by omega) (fun k a b => if hq : k = pl then (by rw [hq]; intro hz; omega) else hj k a (by omega)) _ _ hh ls (lv_sub hl [0, 1, 2] rfl)
        · refine lv_aload_n hE.1 hE.2 dX0_firstStaleAhead_27 rfl (lv_at hl 2 rfl) ?_
          refine gX_staleMark hE hX hown hK hh dX0_firstStaleAhead_28 ?_
          refine lv_aload_n hE.1 hE.2 dX0_firstStaleAhead_31 rfl (lv_at hl 2 rfl) ?_
          refine gX_line hE hX hown hK hh dX0_firstStaleAhead_32 ?_
          refine lv_iload_n hE.1 hE.2 dX0_firstStaleAhead_35 rfl (lv_at hl 0 rfl) ?_
          refine rX_line hE hK hh ⟨by omega, by omega⟩ dX0_firstStaleAhead_36 ?_
          refine zv_iconst hE dX0_firstStaleAhead_37 ?_
          refine zv_half hE ⟨by omega, by omega⟩ dX0_firstStaleAhead_38 ?_
          refine rX_staleMark hE hK hh ⟨by omega, by omega⟩ dX0_firstStaleAhead_39 ?_
          refine zv_if_eq (tgt := 52) hE dX0_firstStaleAhead_40 (by decide) ⟨by omega, by omega⟩ (fun hc_5 => ?_) (fun hc_5 => ?_)
          · refine zv_iinc (lv' := [(2, .int (zi_ (pl + 1))), (1, .int (zi_ (lm_ fi ea ev fr))), (0, .ref (q 0))]) hE dX0_firstStaleAhead_52 hl (k := 0) rfl (by decide) rfl (fun ls hl => ?_)
            refine lv_goto (tgt := 10) hE.1 hE.2 dX0_firstStaleAhead_55 (by decide) ?_
            exact ih (pl + 1) (by omega) (by omega) (by omega) (fun k a b => if hq : k = pl then (by rw [hq]; intro hz; omega) else hj k a (by omega)) _ _ hh ls (lv_sub hl [0, 1, 2] rfl)
          · refine lv_aload_n hE.1 hE.2 dX0_firstStaleAhead_43 rfl (lv_at hl 2 rfl) ?_
            refine gX_line hE hX hown hK hh dX0_firstStaleAhead_44 ?_
            refine lv_iload_n hE.1 hE.2 dX0_firstStaleAhead_47 rfl (lv_at hl 0 rfl) ?_
            refine rX_line hE hK hh ⟨by omega, by omega⟩ dX0_firstStaleAhead_48 ?_
            refine zv_iconst hE dX0_firstStaleAhead_49 ?_
            refine zv_half hE ⟨by omega, by omega⟩ dX0_firstStaleAhead_50 ?_
            refine mc_ret (u := (ky, wt, sa, ea, sm, ln, fi, fk, fo, op, ni, ns, ev, cu, wa, fr, oo)) hE hr hlk hK hh dX0_firstStaleAhead_51 ?_
            refine ⟨rfl, ?_⟩
            first | exact Or.inr ⟨pl, by omega, by omega, ⟨by omega, by omega⟩, rfl, hj⟩ | exact Or.inl ⟨rfl, fun k a b => hj k a (by omega)⟩
  refine lv_aload_n hE.1 hE.2 dX0_firstStaleAhead_0 rfl (lv_at hl 0 rfl) ?_
  refine mc_call (rest := []) (As := []) hE hml hown hX hA hK hh (kX_aheadUpTo l dC dI q cA ky wt sa ea sm ln fi fk fo op ni ns ev cu wa fr oo hf1 hf2 hf5) (cwV 0 hX qX_aheadUpTo rfl rfl rfl (by decide +kernel) ⟨Nat.le_of_ble_eq_true rfl, Nat.le_of_ble_eq_true rfl⟩) rfl rfl hl.1 rfl (Nat.le_of_ble_eq_true rfl) dX0_firstStaleAhead_1 ⟨Nat.zero_le _, Nat.zero_le _⟩ rfl (fun z_7 u H locs hq_6 hh => ?_)
  obtain ⟨rfl, rfl⟩ := hq_6
  refine lv_istore_n (lv' := [(1, .int (zi_ (lm_ fi ea ev fr))), (0, .ref (q 0))]) hE.1 hE.2 dX0_firstStaleAhead_4 rfl hl (by decide) rfl (fun ls hl => ?_)
  refine lv_aload_n hE.1 hE.2 dX0_firstStaleAhead_5 rfl (lv_at hl 1 rfl) ?_
  refine gX_cursor hE hX hown hK hh dX0_firstStaleAhead_6 ?_
  refine lv_istore_n (lv' := [(2, .int (zi_ cu)), (1, .int (zi_ (lm_ fi ea ev fr))), (0, .ref (q 0))]) hE.1 hE.2 dX0_firstStaleAhead_9 rfl hl (by decide) rfl (fun ls hl => ?_)
  exact loop_10 1300 cu (by omega) (by omega) (by omega) (fun k a b => by omega) _ _ hh ls (lv_sub hl [0, 1, 2] rfl)
set_option maxHeartbeats 400000 in
set_option maxRecDepth 100000 in
theorem kX_firstFreshAhead (l : Launch) (dC : Nat → ClassId) (dI : Nat → Nat → Nat) (q : Nat → Nat) (cA : Nat → ClassId) (ky wt sa ea sm ln fi fk fo op : Int → Int) (ni ns ev cu wa fr oo : Int) (key : Int) (hf1 : 1 ≤ fr) (hf2 : fr ≤ 64) (hf5 : -1 ≤ fi (fr - 1) ∧ fi (fr - 1) < 600) (hw : pw_ sa ea ln ev) (hsm : ∀ j : Int, 0 ≤ j → j < 600 → sm j = 0 ∨ sm j = 1) (hc0 : 0 ≤ cu) (hc1 : cu ≤ (lm_ fi ea ev fr)) (hc2 : (lm_ fi ea ev fr) ≤ ev) (hk0 : zr_ key) (hky : ∀ j : Int, 0 ≤ j → j < 600 → zr_ (ky j)) : mc_i l (dC, dI) vwCl (tX_ cA) (wX_ q cA) yX0_firstFreshAhead wsX0_firstFreshAhead ({ frames := 2, cells := 0, slots := 0, locals := 80 }) (ky, wt, sa, ea, sm, ln, fi, fk, fo, op, ni, ns, ev, cu, wa, fr, oo) [.ref (q 0), .int (zi_ key)] (fun (z : Int) (u : SX_) => u = (ky, wt, sa, ea, sm, ln, fi, fk, fo, op, ni, ns, ev, cu, wa, fr, oo) ∧ fs_ (fun k => ln k % 2 = 0 ∧ ky (ln k / 2) = key ∧ sm (ln k / 2) = 0 ∧ ea (ln k / 2) ≠ -1 ∧ ea (ln k / 2) < (lm_ fi ea ev fr)) (fun k => ln k / 2) cu (lm_ fi ea ev fr) z) := by
  refine mc_i_of (cc := cX0_firstFreshAhead) (maxL := 6) (ret := (some .int)) (by decide) rfl (Nat.le_of_ble_eq_true rfl) ?_
  intro p e s m below meth c A ls hE hml hown hts hr hlk hA hK hh hl
  have hown : s.vm.findClass RX0 = some m.cls := hown
  have hX : ∀ w ∈ wsX_, w.before _ s = true := fun w h => hts w (List.mem_cons_of_mem _ h)
  have hl : lv_has ls 6 [(0, .ref (q 0)), (1, .int (zi_ key))] := hl
  have w1 := hw.1
  have loop_10 : ∀ (n : Nat) (pl : Int), (cu ≤ pl) → (pl ≤ (lm_ fi ea ev fr)) → ((lm_ fi ea ev fr) - pl < (n : Int)) → (∀ k : Int, cu ≤ k → k < pl → ¬ (fun k => ln k % 2 = 0 ∧ ky (ln k / 2) = key ∧ sm (ln k / 2) = 0 ∧ ea (ln k / 2) ≠ -1 ∧ ea (ln k / 2) < (lm_ fi ea ev fr)) k) → ∀ (H : Heap) (locs : List Loc), hp_ (dC, dI) vwCl A s.heap (wX_ q cA (ky, wt, sa, ea, sm, ln, fi, fk, fo, op, ni, ns, ev, cu, wa, fr, oo)) H locs → ∀ (ls : Array Slot), lv_has ls 6 [(3, .int (zi_ pl)), (2, .int (zi_ (lm_ fi ea ev fr))), (1, .int (zi_ key)), (0, .ref (q 0))] → W p l e ({ frames := 2, cells := 0, slots := 0, locals := 80 }) s m ([.ref (q 0), .int (zi_ key)] : List Value).toArray below meth c H locs 0 0 (MQ below (mc_Qi (dC, dI) vwCl (tX_ cA) (wX_ q cA) (fun (z : Int) (u : SX_) => u = (ky, wt, sa, ea, sm, ln, fi, fk, fo, op, ni, ns, ev, cu, wa, fr, oo) ∧ fs_ (fun k => ln k % 2 = 0 ∧ ky (ln k / 2) = key ∧ sm (ln k / 2) = 0 ∧ ea (ln k / 2) ≠ -1 ∧ ea (ln k / 2) < (lm_ fi ea ev fr)) (fun k => ln k / 2) cu (lm_ fi ea ev fr) z) A) ([.ref (q 0), .int (zi_ key)] : List Value).toArray s 0 0 A) (F0 m 10 ls []) := by
    intro n
    induction n with
    | zero => intros; exfalso; omega
    | succ n ih =>
      intro pl g0 g1 hn hj H locs hh ls hl
      refine lv_iload_n hE.1 hE.2 dX0_firstFreshAhead_10 rfl (lv_at hl 0 rfl) ?_
      refine lv_iload_n hE.1 hE.2 dX0_firstFreshAhead_11 rfl (lv_at hl 1 rfl) ?_
      refine zv_icmp_ge (tgt := 99) hE dX0_firstFreshAhead_12 (by decide) ⟨by omega, by omega⟩ ⟨by omega, by omega⟩ (fun hc_1 => ?_) (fun hc_1 => ?_)
      · refine zv_iconst hE dX0_firstFreshAhead_99 ?_
        refine mc_ret (u := (ky, wt, sa, ea, sm, ln, fi, fk, fo, op, ni, ns, ev, cu, wa, fr, oo)) hE hr hlk hK hh dX0_firstFreshAhead_100 ?_
        refine ⟨rfl, ?_⟩
        first | exact Or.inr ⟨pl, by omega, by omega, ⟨by omega, by omega, by omega, by omega, by omega⟩, rfl, hj⟩ | exact Or.inl ⟨rfl, fun k a b => hj k a (by omega)⟩
      · refine lv_aload_n hE.1 hE.2 dX0_firstFreshAhead_15 rfl (lv_at hl 3 rfl) ?_
        refine gX_line hE hX hown hK hh dX0_firstFreshAhead_16 ?_
        refine lv_iload_n hE.1 hE.2 dX0_firstFreshAhead_19 rfl (lv_at hl 0 rfl) ?_
        have hx2 := hw.2.2.2 pl (by omega) (by omega)
        have hx4 := hsm (ln pl / 2) (by omega) (by omega)
        have hx5 := hky (ln pl / 2) (by omega) (by omega)
        refine rX_line hE hK hh ⟨by omega, by omega⟩ dX0_firstFreshAhead_20 ?_
        refine zv_iconst hE dX0_firstFreshAhead_21 ?_
        refine zv_half hE ⟨by omega, by omega⟩ dX0_firstFreshAhead_22 ?_
        refine lv_istore (lv' := [(4, .int (zi_ ((ln pl) / 2))), (3, .int (zi_ pl)), (2, .int (zi_ (lm_ fi ea ev fr))), (1, .int (zi_ key)), (0, .ref (q 0))]) hE.1 hE.2 dX0_firstFreshAhead_23 hl (by decide) rfl (fun ls hl => ?_)
        refine lv_aload_n hE.1 hE.2 dX0_firstFreshAhead_25 rfl (lv_at hl 4 rfl) ?_
        refine gX_line hE hX hown hK hh dX0_firstFreshAhead_26 ?_
        refine lv_iload_n hE.1 hE.2 dX0_firstFreshAhead_29 rfl (lv_at hl 1 rfl) ?_
        refine rX_line hE hK hh ⟨by omega, by omega⟩ dX0_firstFreshAhead_30 ?_
        refine mc_calls (rest := []) (As := [.int (zi_ (ln pl))]) hE hml hown hX hA hh (kX_isStart l (ln pl) (by omega) (by omega)) (cwS 1 hX qX_isStart rfl rfl rfl (by decide +kernel) ⟨Nat.le_of_ble_eq_true rfl, Nat.le_of_ble_eq_true rfl⟩) hl.1 rfl (Nat.le_of_ble_eq_true rfl) dX0_firstFreshAhead_31 ⟨Nat.zero_le _, Nat.zero_le _⟩ rfl (fun z_3 H locs hq_2 hh => ?_)
        have hq_2z : zr_ z_3 := ⟨by omega, by omega⟩
        refine zv_if_eq (tgt := 62) hE dX0_firstFreshAhead_34 (by decide) ⟨by omega, by omega⟩ (fun hc_4 => ?_) (fun hc_4 => ?_)
        · refine zv_iconst hE dX0_firstFreshAhead_62 ?_
          refine lv_istore (lv' := [(5, .int (zi_ 0)), (4, .int (zi_ ((ln pl) / 2))), (3, .int (zi_ pl)), (2, .int (zi_ (lm_ fi ea ev fr))), (1, .int (zi_ key)), (0, .ref (q 0))]) hE.1 hE.2 dX0_firstFreshAhead_63 hl (by decide) rfl (fun ls hl => ?_)
          refine lv_iload hE.1 hE.2 dX0_firstFreshAhead_65 (lv_at hl 0 rfl) ?_
          refine zv_if_eq (tgt := 93) hE dX0_firstFreshAhead_67 (by decide) ⟨by omega, by omega⟩ (fun hc_5 => ?_) (fun hc_5 => ?_)
          · refine zv_iinc (lv' := [(3, .int (zi_ (pl + 1))), (5, .int (zi_ 0)), (4, .int (zi_ ((ln pl) / 2))), (2, .int (zi_ (lm_ fi ea ev fr))), (1, .int (zi_ key)), (0, .ref (q 0))]) hE dX0_firstFreshAhead_93 hl (k := 2) rfl (by decide) rfl (fun ls hl => ?_)
            refine lv_goto (tgt := 10) hE.1 hE.2 dX0_firstFreshAhead_96 (by decide) ?_
            exact ih (pl + 1) (by omega) (by omega) (by omega) (fun k a b => if hq : k = pl then (by rw [hq]; intro hz; omega) else hj k a (by omega)) _ _ hh ls (lv_sub hl [0, 3, 4, 5] rfl)
          · exact absurd hc_5 (by decide)
        · refine lv_aload_n hE.1 hE.2 dX0_firstFreshAhead_37 rfl (lv_at hl 4 rfl) ?_
          refine gX_keys hE hX hown hK hh dX0_firstFreshAhead_38 ?_
          refine lv_iload hE.1 hE.2 dX0_firstFreshAhead_41 (lv_at hl 0 rfl) ?_
          refine rX_keys hE hK hh ⟨by omega, by omega⟩ dX0_firstFreshAhead_43 ?_
          refine lv_iload_n hE.1 hE.2 dX0_firstFreshAhead_44 rfl (lv_at hl 3 rfl) ?_
          refine zv_icmp_ne (tgt := 62) hE dX0_firstFreshAhead_45 (by decide) ⟨by omega, by omega⟩ ⟨by omega, by omega⟩ (fun hc_6 => ?_) (fun hc_6 => ?_)
          · refine zv_iconst hE dX0_firstFreshAhead_62 ?_
            refine lv_istore (lv' := [(5, .int (zi_ 0)), (4, .int (zi_ ((ln pl) / 2))), (3, .int (zi_ pl)), (2, .int (zi_ (lm_ fi ea ev fr))), (1, .int (zi_ key)), (0, .ref (q 0))]) hE.1 hE.2 dX0_firstFreshAhead_63 hl (by decide) rfl (fun ls hl => ?_)
            refine lv_iload hE.1 hE.2 dX0_firstFreshAhead_65 (lv_at hl 0 rfl) ?_
            refine zv_if_eq (tgt := 93) hE dX0_firstFreshAhead_67 (by decide) ⟨by omega, by omega⟩ (fun hc_7 => ?_) (fun hc_7 => ?_)
            · refine zv_iinc (lv' := [(3, .int (zi_ (pl + 1))), (5, .int (zi_ 0)), (4, .int (zi_ ((ln pl) / 2))), (2, .int (zi_ (lm_ fi ea ev fr))), (1, .int (zi_ key)), (0, .ref (q 0))]) hE dX0_firstFreshAhead_93 hl (k := 2) rfl (by decide) rfl (fun ls hl => ?_)
              refine lv_goto (tgt := 10) hE.1 hE.2 dX0_firstFreshAhead_96 (by decide) ?_
              exact ih (pl + 1) (by omega) (by omega) (by omega) (fun k a b => if hq : k = pl then (by rw [hq]; intro hz; omega) else hj k a (by omega)) _ _ hh ls (lv_sub hl [0, 3, 4, 5] rfl)
            · exact absurd hc_7 (by decide)
          · refine lv_aload_n hE.1 hE.2 dX0_firstFreshAhead_48 rfl (lv_at hl 4 rfl) ?_
            refine gX_staleMark hE hX hown hK hh dX0_firstFreshAhead_49 ?_
            refine lv_iload hE.1 hE.2 dX0_firstFreshAhead_52 (lv_at hl 0 rfl) ?_
            refine rX_staleMark hE hK hh ⟨by omega, by omega⟩ dX0_firstFreshAhead_54 ?_
            refine zv_if_ne (tgt := 62) hE dX0_firstFreshAhead_55 (by decide) ⟨by omega, by omega⟩ (fun hc_8 => ?_) (fun hc_8 => ?_)
            · refine zv_iconst hE dX0_firstFreshAhead_62 ?_
              refine lv_istore (lv' := [(5, .int (zi_ 0)), (4, .int (zi_ ((ln pl) / 2))), (3, .int (zi_ pl)), (2, .int (zi_ (lm_ fi ea ev fr))), (1, .int (zi_ key)), (0, .ref (q 0))]) hE.1 hE.2 dX0_firstFreshAhead_63 hl (by decide) rfl (fun ls hl => ?_)
              refine lv_iload hE.1 hE.2 dX0_firstFreshAhead_65 (lv_at hl 0 rfl) ?_
              refine zv_if_eq (tgt := 93) hE dX0_firstFreshAhead_67 (by decide) ⟨by omega, by omega⟩ (fun hc_9 => ?_) (fun hc_9 => ?_)
              · refine zv_iinc (lv' := [(3, .int (zi_ (pl + 1))), (5, .int (zi_ 0)), (4, .int (zi_ ((ln pl) / 2))), (2, .int (zi_ (lm_ fi ea ev fr))), (1, .int (zi_ key)), (0, .ref (q 0))]) hE dX0_firstFreshAhead_93 hl (k := 2) rfl (by decide) rfl (fun ls hl => ?_)
                refine lv_goto (tgt := 10) hE.1 hE.2 dX0_firstFreshAhead_96 (by decide) ?_
                exact ih (pl + 1) (by omega) (by omega) (by omega) (fun k a b => if hq : k = pl then (by rw [hq]; intro hz; omega) else hj k a (by omega)) _ _ hh ls (lv_sub hl [0, 3, 4, 5] rfl)
              · exact absurd hc_9 (by decide)
            · refine zv_iconst hE dX0_firstFreshAhead_58 ?_
              refine lv_goto (tgt := 63) hE.1 hE.2 dX0_firstFreshAhead_59 (by decide) ?_
              refine lv_istore (lv' := [(5, .int (zi_ 1)), (4, .int (zi_ ((ln pl) / 2))), (3, .int (zi_ pl)), (2, .int (zi_ (lm_ fi ea ev fr))), (1, .int (zi_ key)), (0, .ref (q 0))]) hE.1 hE.2 dX0_firstFreshAhead_63 hl (by decide) rfl (fun ls hl => ?_)
              refine lv_iload hE.1 hE.2 dX0_firstFreshAhead_65 (lv_at hl 0 rfl) ?_
              refine zv_if_eq (tgt := 93) hE dX0_firstFreshAhead_67 (by decide) ⟨by omega, by omega⟩ (fun hc_10 => ?_) (fun hc_10 => ?_)
              · exact absurd hc_10 (by decide)
              · refine lv_aload_n hE.1 hE.2 dX0_firstFreshAhead_70 rfl (lv_at hl 5 rfl) ?_
                refine lv_iload hE.1 hE.2 dX0_firstFreshAhead_71 (lv_at hl 1 rfl) ?_
                have hx6 : sa (ln pl / 2) ≠ -1 := by
                  have t1 := hx2.2.2.1
                  have t2 := hx2.2.2.2
                  omega
                have hx7 := hw.2.2.1 (ln pl / 2) (by omega) (by omega) hx6
                refine mc_call (rest := []) (As := [.int (zi_ ((ln pl) / 2))]) hE hml hown hX hA hK hh (kX_isEnded l dC dI q cA ky wt sa ea sm ln fi fk fo op ni ns ev cu wa fr oo ((ln pl) / 2) (by omega) (by omega) (by first | assumption | exact ⟨by omega, by omega⟩)) (cwV 1 hX qX_isEnded rfl rfl rfl (by decide +kernel) ⟨Nat.le_of_ble_eq_true rfl, Nat.le_of_ble_eq_true rfl⟩) rfl rfl hl.1 rfl (Nat.le_of_ble_eq_true rfl) dX0_firstFreshAhead_73 ⟨Nat.zero_le _, Nat.zero_le _⟩ rfl (fun z_12 u H locs hq_11 hh => ?_)
                obtain ⟨rfl, hq_11⟩ := hq_11
                refine zv_if_eq (tgt := 93) hE dX0_firstFreshAhead_76 (by decide) ⟨by omega, by omega⟩ (fun hc_13 => ?_) (fun hc_13 => ?_)
                · refine zv_iinc (lv' := [(3, .int (zi_ (pl + 1))), (5, .int (zi_ 1)), (4, .int (zi_ ((ln pl) / 2))), (2, .int (zi_ (lm_ fi ea ev fr))), (1, .int (zi_ key)), (0, .ref (q 0))]) hE dX0_firstFreshAhead_93 hl (k := 2) rfl (by decide) rfl (fun ls hl => ?_)
                  refine lv_goto (tgt := 10) hE.1 hE.2 dX0_firstFreshAhead_96 (by decide) ?_
                  exact ih (pl + 1) (by omega) (by omega) (by omega) (fun k a b => if hq : k = pl then (by rw [hq]; intro hz; omega) else hj k a (by omega)) _ _ hh ls (lv_sub hl [0, 3, 4, 5] rfl)
                · refine lv_aload_n hE.1 hE.2 dX0_firstFreshAhead_79 rfl (lv_at hl 5 rfl) ?_
                  refine gX_endAt hE hX hown hK hh dX0_firstFreshAhead_80 ?_
                  refine lv_iload hE.1 hE.2 dX0_firstFreshAhead_83 (lv_at hl 1 rfl) ?_
                  refine rX_endAt hE hK hh ⟨by omega, by omega⟩ dX0_firstFreshAhead_85 ?_
                  refine lv_iload_n hE.1 hE.2 dX0_firstFreshAhead_86 rfl (lv_at hl 3 rfl) ?_
                  refine zv_icmp_ge (tgt := 93) hE dX0_firstFreshAhead_87 (by decide) ⟨by omega, by omega⟩ ⟨by omega, by omega⟩ (fun hc_14 => ?_) (fun hc_14 => ?_)
                  · refine zv_iinc (lv' := [(3, .int (zi_ (pl + 1))), (5, .int (zi_ 1)), (4, .int (zi_ ((ln pl) / 2))), (2, .int (zi_ (lm_ fi ea ev fr))), (1, .int (zi_ key)), (0, .ref (q 0))]) hE dX0_firstFreshAhead_93 hl (k := 2) rfl (by decide) rfl (fun ls hl => ?_)
                    refine lv_goto (tgt := 10) hE.1 hE.2 dX0_firstFreshAhead_96 (by decide) ?_
                    exact ih (pl + 1) (by omega) (by omega) (by omega) (fun k a b => if hq : k = pl then (by rw [hq]; intro hz; omega) else hj k a (by omega)) _ _ hh ls (lv_sub hl [0, 3, 4, 5] rfl)
                  · refine lv_iload hE.1 hE.2 dX0_firstFreshAhead_90 (lv_at hl 1 rfl) ?_
                    refine mc_ret (u := (ky, wt, sa, ea, sm, ln, fi, fk, fo, op, ni, ns, ev, cu, wa, fr, oo)) hE hr hlk hK hh dX0_firstFreshAhead_92 ?_
                    refine ⟨rfl, ?_⟩
                    first | exact Or.inr ⟨pl, by omega, by omega, ⟨by omega, by omega, by omega, by omega, by omega⟩, rfl, hj⟩ | exact Or.inl ⟨rfl, fun k a b => hj k a (by omega)⟩
  refine lv_aload_n hE.1 hE.2 dX0_firstFreshAhead_0 rfl (lv_at hl 0 rfl) ?_
  refine mc_call (rest := []) (As := []) hE hml hown hX hA hK hh (kX_aheadUpTo l dC dI q cA ky wt sa ea sm ln fi fk fo op ni ns ev cu wa fr oo hf1 hf2 hf5) (cwV 0 hX qX_aheadUpTo rfl rfl rfl (by decide +kernel) ⟨Nat.le_of_ble_eq_true rfl, Nat.le_of_ble_eq_true rfl⟩) rfl rfl hl.1 rfl (Nat.le_of_ble_eq_true rfl) dX0_firstFreshAhead_1 ⟨Nat.zero_le _, Nat.zero_le _⟩ rfl (fun z_16 u H locs hq_15 hh => ?_)
  obtain ⟨rfl, rfl⟩ := hq_15
  refine lv_istore_n (lv' := [(2, .int (zi_ (lm_ fi ea ev fr))), (0, .ref (q 0)), (1, .int (zi_ key))]) hE.1 hE.2 dX0_firstFreshAhead_4 rfl hl (by decide) rfl (fun ls hl => ?_)
  refine lv_aload_n hE.1 hE.2 dX0_firstFreshAhead_5 rfl (lv_at hl 1 rfl) ?_
  refine gX_cursor hE hX hown hK hh dX0_firstFreshAhead_6 ?_
  refine lv_istore_n (lv' := [(3, .int (zi_ cu)), (2, .int (zi_ (lm_ fi ea ev fr))), (0, .ref (q 0)), (1, .int (zi_ key))]) hE.1 hE.2 dX0_firstFreshAhead_9 rfl hl (by decide) rfl (fun ls hl => ?_)
  exact loop_10 1300 cu (by omega) (by omega) (by omega) (fun k a b => by omega) _ _ hh ls (lv_sub hl [0, 1, 3, 2] rfl)
set_option maxHeartbeats 400000 in
set_option maxRecDepth 100000 in
theorem kX_putFrame (l : Launch) (dC : Nat → ClassId) (dI : Nat → Nat → Nat) (q : Nat → Nat) (cA : Nat → ClassId) (ky wt sa ea sm ln fi fk fo op : Int → Int) (ni ns ev cu wa fr oo : Int) (i kd : Int) (hf1 : 1 ≤ fr) (hf2 : fr < 64) (h0 : 0 ≤ i) (h1 : i < 600) : mc_v l (dC, dI) vwCl (tX_ cA) (wX_ q cA) yX0_putFrame wsX0_putFrame ({ frames := 0, cells := 0, slots := 0, locals := 0 }) (ky, wt, sa, ea, sm, ln, fi, fk, fo, op, ni, ns, ev, cu, wa, fr, oo) [.ref (q 0), .int (zi_ i), .int (zi_ kd)] (fun (u : SX_) => u = (ky, wt, sa, ea, sm, ln, up_ fi fr i, up_ fk fr kd, up_ fo fr oo, op, ni, ns, ev, sa i + 1, wa, fr + 1, oo)) := by
  refine mc_v_of (cc := cX0_putFrame) (maxL := 3) (ret := none) (by decide) rfl (Nat.le_of_ble_eq_true rfl) ?_
  intro p e s m below meth c A ls hE hml hown hts hr hlk hA hK hh hl
  have hown : s.vm.findClass RX0 = some m.cls := hown
  have hX : ∀ w ∈ wsX_, w.before _ s = true := fun w h => hts w (List.mem_cons_of_mem _ h)
  have hl : lv_has ls 3 [(0, .ref (q 0)), (1, .int (zi_ i)), (2, .int (zi_ kd))] := hl
  refine lv_aload_n hE.1 hE.2 dX0_putFrame_0 rfl (lv_at hl 0 rfl) ?_
  refine gX_frames hE hX hown hK hh dX0_putFrame_1 ?_
  refine zv_bipush hE dX0_putFrame_4 (by decide) ?_
  refine zv_icmp_lt (tgt := 10) hE dX0_putFrame_6 (by decide) ⟨by omega, by omega⟩ ⟨by omega, by omega⟩ (fun hc_1 => ?_) (fun hc_1 => ?_)
  · refine lv_aload_n hE.1 hE.2 dX0_putFrame_10 rfl (lv_at hl 0 rfl) ?_
    refine gX_frameInterval hE hX hown hK hh dX0_putFrame_11 ?_
    refine lv_aload_n hE.1 hE.2 dX0_putFrame_14 rfl (lv_at hl 0 rfl) ?_
    refine gX_frames hE hX hown hK hh dX0_putFrame_15 ?_
    refine lv_iload_n hE.1 hE.2 dX0_putFrame_18 rfl (lv_at hl 1 rfl) ?_
    refine sX_frameInterval hE hK hh ⟨by omega, by omega⟩ dX0_putFrame_19 (fun H locs hh => ?_)
    refine lv_aload_n hE.1 hE.2 dX0_putFrame_20 rfl (lv_at hl 0 rfl) ?_
    refine gX_frameKind hE hX hown hK hh dX0_putFrame_21 ?_
    refine lv_aload_n hE.1 hE.2 dX0_putFrame_24 rfl (lv_at hl 0 rfl) ?_
    refine gX_frames hE hX hown hK hh dX0_putFrame_25 ?_
    refine lv_iload_n hE.1 hE.2 dX0_putFrame_28 rfl (lv_at hl 2 rfl) ?_
    refine sX_frameKind hE hK hh ⟨by omega, by omega⟩ dX0_putFrame_29 (fun H locs hh => ?_)
    refine lv_aload_n hE.1 hE.2 dX0_putFrame_30 rfl (lv_at hl 0 rfl) ?_
    refine gX_frameOpenBelow hE hX hown hK hh dX0_putFrame_31 ?_
    refine lv_aload_n hE.1 hE.2 dX0_putFrame_34 rfl (lv_at hl 0 rfl) ?_
    refine gX_frames hE hX hown hK hh dX0_putFrame_35 ?_
    refine lv_aload_n hE.1 hE.2 dX0_putFrame_38 rfl (lv_at hl 0 rfl) ?_
    refine gX_openOnes hE hX hown hK hh dX0_putFrame_39 ?_
    refine sX_frameOpenBelow hE hK hh ⟨by omega, by omega⟩ dX0_putFrame_42 (fun H locs hh => ?_)
    refine lv_aload_n hE.1 hE.2 dX0_putFrame_43 rfl (lv_at hl 0 rfl) ?_
    refine lv_dup hE.1 hE.2 dX0_putFrame_44 rfl ?_
    refine gX_frames hE hX hown hK hh dX0_putFrame_45 ?_
    refine zv_iconst hE dX0_putFrame_48 ?_
    refine zv_iadd hE dX0_putFrame_49 ?_
    refine pX_frames hE hX hown hK hh dX0_putFrame_50 (fun H locs hh => ?_)
    refine lv_aload_n hE.1 hE.2 dX0_putFrame_53 rfl (lv_at hl 0 rfl) ?_
    refine lv_aload_n hE.1 hE.2 dX0_putFrame_54 rfl (lv_at hl 0 rfl) ?_
    refine gX_startAt hE hX hown hK hh dX0_putFrame_55 ?_
    refine lv_iload_n hE.1 hE.2 dX0_putFrame_58 rfl (lv_at hl 1 rfl) ?_
    refine rX_startAt hE hK hh ⟨by omega, by omega⟩ dX0_putFrame_59 ?_
    refine zv_iconst hE dX0_putFrame_60 ?_
    refine zv_iadd hE dX0_putFrame_61 ?_
    refine pX_cursor hE hX hown hK hh dX0_putFrame_62 (fun H locs hh => ?_)
    refine mc_retv (u := (ky, wt, sa, ea, sm, ln, up_ fi fr i, up_ fk fr kd, up_ fo fr oo, op, ni, ns, ev, (sa i) + 1, wa, fr + 1, oo)) hE hr hlk hK hh dX0_putFrame_65 ?_
    first | rfl | exact absurd hf2 (by omega)
  · refine mc_retv (u := (ky, wt, sa, ea, sm, ln, fi, fk, fo, op, ni, ns, ev, cu, wa, fr, oo)) hE hr hlk hK hh dX0_putFrame_9 ?_
    first | rfl | exact absurd hf2 (by omega)
set_option maxHeartbeats 400000 in
set_option maxRecDepth 100000 in
theorem kX_makeEmpty (l : Launch) (dC : Nat → ClassId) (dI : Nat → Nat → Nat) (q : Nat → Nat) (cA : Nat → ClassId) (ky wt sa ea sm ln fi fk fo op : Int → Int) (ni ns ev cu wa fr oo : Int)  : mc_v l (dC, dI) vwCl (tX_ cA) (wX_ q cA) yX0_makeEmpty wsX0_makeEmpty ({ frames := 0, cells := 0, slots := 0, locals := 0 }) (ky, wt, sa, ea, sm, ln, fi, fk, fo, op, ni, ns, ev, cu, wa, fr, oo) [.ref (q 0)] (fun (u : SX_) => ∃ sa1 : Int → Int, (∀ j : Int, 0 ≤ j → j < 600 → sa1 j = -1) ∧ u = (ky, wt, sa1, ea, sm, ln, up_ fi 0 (-1), up_ fk 0 0, up_ fo 0 0, op, 0, 0, 0, 0, 0, 1, 0)) := by
  refine mc_v_of (cc := cX0_makeEmpty) (maxL := 2) (ret := none) (by decide) rfl (Nat.le_of_ble_eq_true rfl) ?_
  intro p e s m below meth c A ls hE hml hown hts hr hlk hA hK hh hl
  have hown : s.vm.findClass RX0 = some m.cls := hown
  have hX : ∀ w ∈ wsX_, w.before _ s = true := fun w h => hts w (List.mem_cons_of_mem _ h)
  have hl : lv_has ls 2 [(0, .ref (q 0))] := hl
  have loop_2 : ∀ (n : Nat) (i : Int) (sa1 : Int → Int), (0 ≤ i) → (i ≤ 600) → (600 - i < (n : Int)) → (∀ j : Int, 0 ≤ j → j < i → sa1 j = -1) → ∀ (H : Heap) (locs : List Loc), hp_ (dC, dI) vwCl A s.heap (wX_ q cA (ky, wt, sa1, ea, sm, ln, fi, fk, fo, op, ni, ns, ev, cu, wa, fr, oo)) H locs → ∀ (ls : Array Slot), lv_has ls 2 [(1, .int (zi_ i)), (0, .ref (q 0))] → W p l e ({ frames := 0, cells := 0, slots := 0, locals := 0 }) s m ([.ref (q 0)] : List Value).toArray below meth c H locs 0 0 (MQ below (mc_Qv (dC, dI) vwCl (tX_ cA) (wX_ q cA) (fun (u : SX_) => ∃ sa1 : Int → Int, (∀ j : Int, 0 ≤ j → j < 600 → sa1 j = -1) ∧ u = (ky, wt, sa1, ea, sm, ln, up_ fi 0 (-1), up_ fk 0 0, up_ fo 0 0, op, 0, 0, 0, 0, 0, 1, 0)) A) ([.ref (q 0)] : List Value).toArray s 0 0 A) (F0 m 2 ls []) := by
    intro n
    induction n with
    | zero => intros; exfalso; omega
    | succ n ih =>
      intro i sa1 h0 h1 hn hj H locs hh ls hl
      refine lv_iload_n hE.1 hE.2 dX0_makeEmpty_2 rfl (lv_at hl 0 rfl) ?_
      refine zv_sipush hE dX0_makeEmpty_3 (by decide) ?_
      refine zv_icmp_ge (tgt := 22) hE dX0_makeEmpty_6 (by decide) ⟨by omega, by omega⟩ ⟨by omega, by omega⟩ (fun hc_1 => ?_) (fun hc_1 => ?_)
      · refine lv_aload_n hE.1 hE.2 dX0_makeEmpty_22 rfl (lv_at hl 1 rfl) ?_
        refine zv_iconst hE dX0_makeEmpty_23 ?_
        refine pX_intervals hE hX hown hK hh dX0_makeEmpty_24 (fun H locs hh => ?_)
        refine lv_aload_n hE.1 hE.2 dX0_makeEmpty_27 rfl (lv_at hl 1 rfl) ?_
        refine zv_iconst hE dX0_makeEmpty_28 ?_
        refine pX_staleOnes hE hX hown hK hh dX0_makeEmpty_29 (fun H locs hh => ?_)
        refine lv_aload_n hE.1 hE.2 dX0_makeEmpty_32 rfl (lv_at hl 1 rfl) ?_
        refine zv_iconst hE dX0_makeEmpty_33 ?_
        refine pX_events hE hX hown hK hh dX0_makeEmpty_34 (fun H locs hh => ?_)
        refine lv_aload_n hE.1 hE.2 dX0_makeEmpty_37 rfl (lv_at hl 1 rfl) ?_
        refine zv_iconst hE dX0_makeEmpty_38 ?_
        refine pX_cursor hE hX hown hK hh dX0_makeEmpty_39 (fun H locs hh => ?_)
        refine lv_aload_n hE.1 hE.2 dX0_makeEmpty_42 rfl (lv_at hl 1 rfl) ?_
        refine zv_iconst hE dX0_makeEmpty_43 ?_
        refine pX_weightInAll hE hX hown hK hh dX0_makeEmpty_44 (fun H locs hh => ?_)
        refine lv_aload_n hE.1 hE.2 dX0_makeEmpty_47 rfl (lv_at hl 1 rfl) ?_
        refine gX_frameInterval hE hX hown hK hh dX0_makeEmpty_48 ?_
        refine zv_iconst hE dX0_makeEmpty_51 ?_
        refine zv_iconst hE dX0_makeEmpty_52 ?_
        refine sX_frameInterval hE hK hh ⟨by omega, by omega⟩ dX0_makeEmpty_53 (fun H locs hh => ?_)
        refine lv_aload_n hE.1 hE.2 dX0_makeEmpty_54 rfl (lv_at hl 1 rfl) ?_
        refine gX_frameKind hE hX hown hK hh dX0_makeEmpty_55 ?_
        refine zv_iconst hE dX0_makeEmpty_58 ?_
        refine zv_iconst hE dX0_makeEmpty_59 ?_
        refine sX_frameKind hE hK hh ⟨by omega, by omega⟩ dX0_makeEmpty_60 (fun H locs hh => ?_)
        refine lv_aload_n hE.1 hE.2 dX0_makeEmpty_61 rfl (lv_at hl 1 rfl) ?_
        refine gX_frameOpenBelow hE hX hown hK hh dX0_makeEmpty_62 ?_
        refine zv_iconst hE dX0_makeEmpty_65 ?_
        refine zv_iconst hE dX0_makeEmpty_66 ?_
        refine sX_frameOpenBelow hE hK hh ⟨by omega, by omega⟩ dX0_makeEmpty_67 (fun H locs hh => ?_)
        refine lv_aload_n hE.1 hE.2 dX0_makeEmpty_68 rfl (lv_at hl 1 rfl) ?_
        refine zv_iconst hE dX0_makeEmpty_69 ?_
        refine pX_frames hE hX hown hK hh dX0_makeEmpty_70 (fun H locs hh => ?_)
        refine lv_aload_n hE.1 hE.2 dX0_makeEmpty_73 rfl (lv_at hl 1 rfl) ?_
        refine zv_iconst hE dX0_makeEmpty_74 ?_
        refine pX_openOnes hE hX hown hK hh dX0_makeEmpty_75 (fun H locs hh => ?_)
        refine mc_retv (u := (ky, wt, sa1, ea, sm, ln, up_ fi 0 (-1), up_ fk 0 0, up_ fo 0 0, op, 0, 0, 0, 0, 0, 1, 0)) hE hr hlk hK hh dX0_makeEmpty_78 ?_
        exact ⟨sa1, fun j a b => hj j a (by omega), rfl⟩
      · refine lv_aload_n hE.1 hE.2 dX0_makeEmpty_9 rfl (lv_at hl 1 rfl) ?_
        refine gX_startAt hE hX hown hK hh dX0_makeEmpty_10 ?_
        refine lv_iload_n hE.1 hE.2 dX0_makeEmpty_13 rfl (lv_at hl 0 rfl) ?_
        refine zv_iconst hE dX0_makeEmpty_14 ?_
        refine sX_startAt hE hK hh ⟨by omega, by omega⟩ dX0_makeEmpty_15 (fun H locs hh => ?_)
        refine zv_iinc (lv' := [(1, .int (zi_ (i + 1))), (0, .ref (q 0))]) hE dX0_makeEmpty_16 hl (k := 0) rfl (by decide) rfl (fun ls hl => ?_)
        refine lv_goto (tgt := 2) hE.1 hE.2 dX0_makeEmpty_19 (by decide) ?_
        exact ih (i + 1) (up_ sa1 i (-1)) (by omega) (by omega) (by omega) (fun j x y => if hq : j = i then (by rw [hq]; exact up_s _ _ _) else (by rw [up_n hq]; exact hj j x (by omega))) _ _ hh ls (lv_sub hl [0, 1] rfl)
  refine zv_iconst hE dX0_makeEmpty_0 ?_
  refine lv_istore_n (lv' := [(1, .int (zi_ 0)), (0, .ref (q 0))]) hE.1 hE.2 dX0_makeEmpty_1 rfl hl (by decide) rfl (fun ls hl => ?_)
  exact loop_2 601 0 sa (by omega) (by omega) (by omega) (fun j x y => by omega) _ _ hh ls (lv_sub hl [0, 1] rfl)
set_option maxHeartbeats 400000 in
set_option maxRecDepth 100000 in
theorem kX_innermostAround (l : Launch) (dC : Nat → ClassId) (dI : Nat → Nat → Nat) (q : Nat → Nat) (cA : Nat → ClassId) (ky wt sa ea sm ln fi fk fo op : Int → Int) (ni ns ev cu wa fr oo : Int) (i : Int) (hw : pw_ sa ea ln ev) (h0 : 0 ≤ i) (h1 : i < 600) (hs : sa i ≠ -1) : mc_i l (dC, dI) vwCl (tX_ cA) (wX_ q cA) yX0_innermostAround wsX0_innermostAround ({ frames := 2, cells := 0, slots := 0, locals := 80 }) (ky, wt, sa, ea, sm, ln, fi, fk, fo, op, ni, ns, ev, cu, wa, fr, oo) [.ref (q 0), .int (zi_ i)] (fun (z : Int) (u : SX_) => u = (ky, wt, sa, ea, sm, ln, fi, fk, fo, op, ni, ns, ev, cu, wa, fr, oo) ∧ fl_ (fun k => ln k % 2 = 0 ∧ (ea (ln k / 2) = -1 ∨ sa i < ea (ln k / 2))) (fun k => ln k / 2) 0 (sa i) z) := by
  refine mc_i_of (cc := cX0_innermostAround) (maxL := 4) (ret := (some .int)) (by decide) rfl (Nat.le_of_ble_eq_true rfl) ?_
  intro p e s m below meth c A ls hE hml hown hts hr hlk hA hK hh hl
  have hown : s.vm.findClass RX0 = some m.cls := hown
  have hX : ∀ w ∈ wsX_, w.before _ s = true := fun w h => hts w (List.mem_cons_of_mem _ h)
  have hl : lv_has ls 4 [(0, .ref (q 0)), (1, .int (zi_ i))] := hl
  have w1 := hw.1
  have w2 := hw.2.1 i h0 h1
  have loop_9 : ∀ (n : Nat) (pl : Int), (-1 ≤ pl) → (pl < sa i) → (pl + 1 < (n : Int)) → (∀ k : Int, pl < k → k < sa i → ¬ (fun k => ln k % 2 = 0 ∧ (ea (ln k / 2) = -1 ∨ sa i < ea (ln k / 2))) k) → ∀ (H : Heap) (locs : List Loc), hp_ (dC, dI) vwCl A s.heap (wX_ q cA (ky, wt, sa, ea, sm, ln, fi, fk, fo, op, ni, ns, ev, cu, wa, fr, oo)) H locs → ∀ (ls : Array Slot), lv_has ls 4 [(2, .int (zi_ pl)), (1, .int (zi_ i)), (0, .ref (q 0))] → W p l e ({ frames := 2, cells := 0, slots := 0, locals := 80 }) s m ([.ref (q 0), .int (zi_ i)] : List Value).toArray below meth c H locs 0 0 (MQ below (mc_Qi (dC, dI) vwCl (tX_ cA) (wX_ q cA) (fun (z : Int) (u : SX_) => u = (ky, wt, sa, ea, sm, ln, fi, fk, fo, op, ni, ns, ev, cu, wa, fr, oo) ∧ fl_ (fun k => ln k % 2 = 0 ∧ (ea (ln k / 2) = -1 ∨ sa i < ea (ln k / 2))) (fun k => ln k / 2) 0 (sa i) z) A) ([.ref (q 0), .int (zi_ i)] : List Value).toArray s 0 0 A) (F0 m 9 ls []) := by
    intro n
    induction n with
    | zero => intros; exfalso; omega
    | succ n ih =>
      intro pl g0 g1 hn hj H locs hh ls hl
      refine lv_iload_n hE.1 hE.2 dX0_innermostAround_9 rfl (lv_at hl 0 rfl) ?_
      refine zv_if_lt (tgt := 65) hE dX0_innermostAround_10 (by decide) ⟨by omega, by omega⟩ (fun hc_1 => ?_) (fun hc_1 => ?_)
      · refine zv_iconst hE dX0_innermostAround_65 ?_
        refine mc_ret (u := (ky, wt, sa, ea, sm, ln, fi, fk, fo, op, ni, ns, ev, cu, wa, fr, oo)) hE hr hlk hK hh dX0_innermostAround_66 ?_
        refine ⟨rfl, ?_⟩
        first | exact Or.inr ⟨pl, by omega, by omega, ⟨by omega, by omega⟩, rfl, hj⟩ | exact Or.inl ⟨rfl, fun k a b => hj k (by omega) b⟩
      · refine lv_aload_n hE.1 hE.2 dX0_innermostAround_13 rfl (lv_at hl 2 rfl) ?_
        refine gX_line hE hX hown hK hh dX0_innermostAround_14 ?_
        refine lv_iload_n hE.1 hE.2 dX0_innermostAround_17 rfl (lv_at hl 0 rfl) ?_
        have hx2 := hw.2.2.2 pl (by omega) (by omega)
        refine rX_line hE hK hh ⟨by omega, by omega⟩ dX0_innermostAround_18 ?_
        refine zv_iconst hE dX0_innermostAround_19 ?_
        refine zv_half hE ⟨by omega, by omega⟩ dX0_innermostAround_20 ?_
        refine lv_istore_n (lv' := [(3, .int (zi_ ((ln pl) / 2))), (2, .int (zi_ pl)), (1, .int (zi_ i)), (0, .ref (q 0))]) hE.1 hE.2 dX0_innermostAround_21 rfl hl (by decide) rfl (fun ls hl => ?_)
        refine lv_aload_n hE.1 hE.2 dX0_innermostAround_22 rfl (lv_at hl 3 rfl) ?_
        refine gX_line hE hX hown hK hh dX0_innermostAround_23 ?_
        refine lv_iload_n hE.1 hE.2 dX0_innermostAround_26 rfl (lv_at hl 1 rfl) ?_
        refine rX_line hE hK hh ⟨by omega, by omega⟩ dX0_innermostAround_27 ?_
        refine mc_calls (rest := []) (As := [.int (zi_ (ln pl))]) hE hml hown hX hA hh (kX_isStart l (ln pl) (by omega) (by omega)) (cwS 1 hX qX_isStart rfl rfl rfl (by decide +kernel) ⟨Nat.le_of_ble_eq_true rfl, Nat.le_of_ble_eq_true rfl⟩) hl.1 rfl (Nat.le_of_ble_eq_true rfl) dX0_innermostAround_28 ⟨Nat.zero_le _, Nat.zero_le _⟩ rfl (fun z_3 H locs hq_2 hh => ?_)
        have hq_2z : zr_ z_3 := ⟨by omega, by omega⟩
        refine zv_if_eq (tgt := 59) hE dX0_innermostAround_31 (by decide) ⟨by omega, by omega⟩ (fun hc_4 => ?_) (fun hc_4 => ?_)
        · refine zv_iinc (lv' := [(2, .int (zi_ (pl + (-1)))), (3, .int (zi_ ((ln pl) / 2))), (1, .int (zi_ i)), (0, .ref (q 0))]) hE dX0_innermostAround_59 hl (k := 1) rfl (by decide) rfl (fun ls hl => ?_)
          refine lv_goto (tgt := 9) hE.1 hE.2 dX0_innermostAround_62 (by decide) ?_
          exact ih (pl + (-1)) (by omega) (by omega) (by omega) (fun k a b => if hq : k = pl then (by rw [hq]; intro hz; omega) else hj k (by omega) b) _ _ hh ls (lv_sub hl [0, 2, 3] rfl)
        · refine lv_aload_n hE.1 hE.2 dX0_innermostAround_34 rfl (lv_at hl 3 rfl) ?_
          refine lv_iload_n hE.1 hE.2 dX0_innermostAround_35 rfl (lv_at hl 0 rfl) ?_
          have hx6 : sa (ln pl / 2) ≠ -1 := by
            have t1 := hx2.2.2.1
            have t2 := hx2.2.2.2
            omega
          have hx7 := hw.2.2.1 (ln pl / 2) (by omega) (by omega) hx6
          refine mc_call (rest := []) (As := [.int (zi_ ((ln pl) / 2))]) hE hml hown hX hA hK hh (kX_isEnded l dC dI q cA ky wt sa ea sm ln fi fk fo op ni ns ev cu wa fr oo ((ln pl) / 2) (by omega) (by omega) (by first | assumption | exact ⟨by omega, by omega⟩)) (cwV 1 hX qX_isEnded rfl rfl rfl (by decide +kernel) ⟨Nat.le_of_ble_eq_true rfl, Nat.le_of_ble_eq_true rfl⟩) rfl rfl hl.1 rfl (Nat.le_of_ble_eq_true rfl) dX0_innermostAround_36 ⟨Nat.zero_le _, Nat.zero_le _⟩ rfl (fun z_6 u H locs hq_5 hh => ?_)
          obtain ⟨rfl, hq_5⟩ := hq_5
          refine zv_if_eq (tgt := 57) hE dX0_innermostAround_39 (by decide) ⟨by omega, by omega⟩ (fun hc_7 => ?_) (fun hc_7 => ?_)
          · refine lv_iload_n hE.1 hE.2 dX0_innermostAround_57 rfl (lv_at hl 0 rfl) ?_
            refine mc_ret (u := (ky, wt, sa, ea, sm, ln, fi, fk, fo, op, ni, ns, ev, cu, wa, fr, oo)) hE hr hlk hK hh dX0_innermostAround_58 ?_
            refine ⟨rfl, ?_⟩
            first | exact Or.inr ⟨pl, by omega, by omega, ⟨by omega, by omega⟩, rfl, hj⟩ | exact Or.inl ⟨rfl, fun k a b => hj k (by omega) b⟩
          · refine lv_aload_n hE.1 hE.2 dX0_innermostAround_42 rfl (lv_at hl 3 rfl) ?_
            refine gX_endAt hE hX hown hK hh dX0_innermostAround_43 ?_
            refine lv_iload_n hE.1 hE.2 dX0_innermostAround_46 rfl (lv_at hl 0 rfl) ?_
            refine rX_endAt hE hK hh ⟨by omega, by omega⟩ dX0_innermostAround_47 ?_
            refine lv_aload_n hE.1 hE.2 dX0_innermostAround_48 rfl (lv_at hl 3 rfl) ?_
            refine gX_startAt hE hX hown hK hh dX0_innermostAround_49 ?_
            refine lv_iload_n hE.1 hE.2 dX0_innermostAround_52 rfl (lv_at hl 2 rfl) ?_
            refine rX_startAt hE hK hh ⟨by omega, by omega⟩ dX0_innermostAround_53 ?_
            refine zv_icmp_le (tgt := 59) hE dX0_innermostAround_54 (by decide) ⟨by omega, by omega⟩ ⟨by omega, by omega⟩ (fun hc_8 => ?_) (fun hc_8 => ?_)
            · refine zv_iinc (lv' := [(2, .int (zi_ (pl + (-1)))), (3, .int (zi_ ((ln pl) / 2))), (1, .int (zi_ i)), (0, .ref (q 0))]) hE dX0_innermostAround_59 hl (k := 1) rfl (by decide) rfl (fun ls hl => ?_)
              refine lv_goto (tgt := 9) hE.1 hE.2 dX0_innermostAround_62 (by decide) ?_
              exact ih (pl + (-1)) (by omega) (by omega) (by omega) (fun k a b => if hq : k = pl then (by rw [hq]; intro hz; omega) else hj k (by omega) b) _ _ hh ls (lv_sub hl [0, 2, 3] rfl)
            · refine lv_iload_n hE.1 hE.2 dX0_innermostAround_57 rfl (lv_at hl 0 rfl) ?_
              refine mc_ret (u := (ky, wt, sa, ea, sm, ln, fi, fk, fo, op, ni, ns, ev, cu, wa, fr, oo)) hE hr hlk hK hh dX0_innermostAround_58 ?_
              refine ⟨rfl, ?_⟩
              first | exact Or.inr ⟨pl, by omega, by omega, ⟨by omega, by omega⟩, rfl, hj⟩ | exact Or.inl ⟨rfl, fun k a b => hj k (by omega) b⟩
  refine lv_aload_n hE.1 hE.2 dX0_innermostAround_0 rfl (lv_at hl 0 rfl) ?_
  refine gX_startAt hE hX hown hK hh dX0_innermostAround_1 ?_
  refine lv_iload_n hE.1 hE.2 dX0_innermostAround_4 rfl (lv_at hl 1 rfl) ?_
  refine rX_startAt hE hK hh ⟨by omega, by omega⟩ dX0_innermostAround_5 ?_
  refine zv_iconst hE dX0_innermostAround_6 ?_
  refine zv_isub hE dX0_innermostAround_7 ?_
  refine lv_istore_n (lv' := [(2, .int (zi_ ((sa i) - 1))), (0, .ref (q 0)), (1, .int (zi_ i))]) hE.1 hE.2 dX0_innermostAround_8 rfl hl (by decide) rfl (fun ls hl => ?_)
  exact loop_9 1300 (sa i - 1) (by omega) (by omega) (by omega) (fun k a b => by omega) _ _ hh ls (lv_sub hl [0, 2, 1] rfl)
set_option maxHeartbeats 400000 in
set_option maxRecDepth 100000 in
theorem kX_weightWithin (l : Launch) (dC : Nat → ClassId) (dI : Nat → Nat → Nat) (q : Nat → Nat) (cA : Nat → ClassId) (ky wt sa ea sm ln fi fk fo op : Int → Int) (ni ns ev cu wa fr oo : Int) (i : Int) (hw : pw_ sa ea ln ev) (h0 : 0 ≤ i) (h1 : i < 600) (hs : sa i ≠ -1) : mc_i l (dC, dI) vwCl (tX_ cA) (wX_ q cA) yX0_weightWithin wsX0_weightWithin ({ frames := 2, cells := 0, slots := 0, locals := 80 }) (ky, wt, sa, ea, sm, ln, fi, fk, fo, op, ni, ns, ev, cu, wa, fr, oo) [.ref (q 0), .int (zi_ i)] (fun (z : Int) (u : SX_) => u = (ky, wt, sa, ea, sm, ln, fi, fk, fo, op, ni, ns, ev, cu, wa, fr, oo) ∧ z = st_ (we_ ln wt) (sa i) (ut_ ea ev i - sa i).toNat) := by
  refine mc_i_of (cc := cX0_weightWithin) (maxL := 5) (ret := (some .int)) (by decide) rfl (Nat.le_of_ble_eq_true rfl) ?_
  intro p e s m below meth c A ls hE hml hown hts hr hlk hA hK hh hl
  have hown : s.vm.findClass RX0 = some m.cls := hown
  have hX : ∀ w ∈ wsX_, w.before _ s = true := fun w h => hts w (List.mem_cons_of_mem _ h)
  have hl : lv_has ls 5 [(0, .ref (q 0)), (1, .int (zi_ i))] := hl
  have w1 := hw.1
  have w2 := hw.2.1 i h0 h1
  have w3 := hw.2.2.1 i h0 h1 hs
  have loop_32 : ∀ (n : Nat) (pl sm1 ut : Int), (sa i ≤ pl) → (pl ≤ ut) → (ut - pl < (n : Int)) → (ut = ut_ ea ev i) → (ut ≤ ev) → (sm1 = st_ (we_ ln wt) (sa i) (pl - sa i).toNat) → ∀ (H : Heap) (locs : List Loc), hp_ (dC, dI) vwCl A s.heap (wX_ q cA (ky, wt, sa, ea, sm, ln, fi, fk, fo, op, ni, ns, ev, cu, wa, fr, oo)) H locs → ∀ (ls : Array Slot), lv_has ls 5 [(4, .int (zi_ pl)), (3, .int (zi_ sm1)), (2, .int (zi_ ut)), (1, .int (zi_ i)), (0, .ref (q 0))] → W p l e ({ frames := 2, cells := 0, slots := 0, locals := 80 }) s m ([.ref (q 0), .int (zi_ i)] : List Value).toArray below meth c H locs 0 0 (MQ below (mc_Qi (dC, dI) vwCl (tX_ cA) (wX_ q cA) (fun (z : Int) (u : SX_) => u = (ky, wt, sa, ea, sm, ln, fi, fk, fo, op, ni, ns, ev, cu, wa, fr, oo) ∧ z = st_ (we_ ln wt) (sa i) (ut_ ea ev i - sa i).toNat) A) ([.ref (q 0), .int (zi_ i)] : List Value).toArray s 0 0 A) (F0 m 32 ls []) := by
    intro n
    induction n with
    | zero => intros; exfalso; omega
    | succ n ih =>
      intro pl sm1 ut g0 g1 hn hut hu2 hsum H locs hh ls hl
      refine lv_iload hE.1 hE.2 dX0_weightWithin_32 (lv_at hl 0 rfl) ?_
      refine lv_iload_n hE.1 hE.2 dX0_weightWithin_34 rfl (lv_at hl 2 rfl) ?_
      refine zv_icmp_ge (tgt := 74) hE dX0_weightWithin_35 (by decide) ⟨by omega, by omega⟩ ⟨by omega, by omega⟩ (fun hc_1 => ?_) (fun hc_1 => ?_)
      · refine lv_iload_n hE.1 hE.2 dX0_weightWithin_74 rfl (lv_at hl 1 rfl) ?_
        refine mc_ret (u := (ky, wt, sa, ea, sm, ln, fi, fk, fo, op, ni, ns, ev, cu, wa, fr, oo)) hE hr hlk hK hh dX0_weightWithin_75 ?_
        exact ⟨rfl, by rw [hsum, ← hut, show pl = ut by omega]⟩
      · refine lv_aload_n hE.1 hE.2 dX0_weightWithin_38 rfl (lv_at hl 4 rfl) ?_
        refine gX_line hE hX hown hK hh dX0_weightWithin_39 ?_
        refine lv_iload hE.1 hE.2 dX0_weightWithin_42 (lv_at hl 0 rfl) ?_
        have hx2 := hw.2.2.2 pl (by omega) (by omega)
        refine rX_line hE hK hh ⟨by omega, by omega⟩ dX0_weightWithin_44 ?_
        refine mc_calls (rest := []) (As := [.int (zi_ (ln pl))]) hE hml hown hX hA hh (kX_isStart l (ln pl) (by omega) (by omega)) (cwS 1 hX qX_isStart rfl rfl rfl (by decide +kernel) ⟨Nat.le_of_ble_eq_true rfl, Nat.le_of_ble_eq_true rfl⟩) hl.1 rfl (Nat.le_of_ble_eq_true rfl) dX0_weightWithin_45 ⟨Nat.zero_le _, Nat.zero_le _⟩ rfl (fun z_3 H locs hq_2 hh => ?_)
        have hq_2z : zr_ z_3 := ⟨by omega, by omega⟩
        refine zv_if_eq (tgt := 68) hE dX0_weightWithin_48 (by decide) ⟨by omega, by omega⟩ (fun hc_4 => ?_) (fun hc_4 => ?_)
        · refine zv_iinc (lv' := [(4, .int (zi_ (pl + 1))), (3, .int (zi_ sm1)), (2, .int (zi_ ut)), (1, .int (zi_ i)), (0, .ref (q 0))]) hE dX0_weightWithin_68 hl (k := 0) rfl (by decide) rfl (fun ls hl => ?_)
          refine lv_goto (tgt := 32) hE.1 hE.2 dX0_weightWithin_71 (by decide) ?_
          exact ih (pl + 1) sm1 ut (by omega) (by omega) (by omega) hut hu2 (by rw [st_go g0, ← hsum]; unfold we_; first | rw [if_pos (by omega)] | (rw [if_neg (by omega)]; omega)) _ _ hh ls (lv_sub hl [0, 1, 2, 3, 4] rfl)
        · refine lv_iload_n hE.1 hE.2 dX0_weightWithin_51 rfl (lv_at hl 1 rfl) ?_
          refine lv_aload_n hE.1 hE.2 dX0_weightWithin_52 rfl (lv_at hl 4 rfl) ?_
          refine gX_weights hE hX hown hK hh dX0_weightWithin_53 ?_
          refine lv_aload_n hE.1 hE.2 dX0_weightWithin_56 rfl (lv_at hl 4 rfl) ?_
          refine gX_line hE hX hown hK hh dX0_weightWithin_57 ?_
          refine lv_iload hE.1 hE.2 dX0_weightWithin_60 (lv_at hl 0 rfl) ?_
          refine rX_line hE hK hh ⟨by omega, by omega⟩ dX0_weightWithin_62 ?_
          refine zv_iconst hE dX0_weightWithin_63 ?_
          refine zv_half hE ⟨by omega, by omega⟩ dX0_weightWithin_64 ?_
          refine rX_weights hE hK hh ⟨by omega, by omega⟩ dX0_weightWithin_65 ?_
          refine zv_iadd hE dX0_weightWithin_66 ?_
          refine lv_istore_n (lv' := [(3, .int (zi_ (sm1 + (wt ((ln pl) / 2))))), (4, .int (zi_ pl)), (2, .int (zi_ ut)), (1, .int (zi_ i)), (0, .ref (q 0))]) hE.1 hE.2 dX0_weightWithin_67 rfl hl (by decide) rfl (fun ls hl => ?_)
          refine zv_iinc (lv' := [(4, .int (zi_ (pl + 1))), (3, .int (zi_ (sm1 + (wt ((ln pl) / 2))))), (2, .int (zi_ ut)), (1, .int (zi_ i)), (0, .ref (q 0))]) hE dX0_weightWithin_68 hl (k := 1) rfl (by decide) rfl (fun ls hl => ?_)
          refine lv_goto (tgt := 32) hE.1 hE.2 dX0_weightWithin_71 (by decide) ?_
          exact ih (pl + 1) (sm1 + (wt ((ln pl) / 2))) ut (by omega) (by omega) (by omega) hut hu2 (by rw [st_go g0, ← hsum]; unfold we_; first | rw [if_pos (by omega)] | (rw [if_neg (by omega)]; omega)) _ _ hh ls (lv_sub hl [0, 1, 2, 3, 4] rfl)
  refine lv_aload_n hE.1 hE.2 dX0_weightWithin_0 rfl (lv_at hl 0 rfl) ?_
  refine lv_iload_n hE.1 hE.2 dX0_weightWithin_1 rfl (lv_at hl 1 rfl) ?_
  refine mc_call (rest := []) (As := [.int (zi_ i)]) hE hml hown hX hA hK hh (kX_isEnded l dC dI q cA ky wt sa ea sm ln fi fk fo op ni ns ev cu wa fr oo i (by omega) (by omega) (by first | assumption | exact ⟨by omega, by omega⟩)) (cwV 1 hX qX_isEnded rfl rfl rfl (by decide +kernel) ⟨Nat.le_of_ble_eq_true rfl, Nat.le_of_ble_eq_true rfl⟩) rfl rfl hl.1 rfl (Nat.le_of_ble_eq_true rfl) dX0_weightWithin_2 ⟨Nat.zero_le _, Nat.zero_le _⟩ rfl (fun z_6 u H locs hq_5 hh => ?_)
  obtain ⟨rfl, hq_5⟩ := hq_5
  refine zv_if_eq (tgt := 17) hE dX0_weightWithin_5 (by decide) ⟨by omega, by omega⟩ (fun hc_7 => ?_) (fun hc_7 => ?_)
  · refine lv_aload_n hE.1 hE.2 dX0_weightWithin_17 rfl (lv_at hl 0 rfl) ?_
    refine gX_events hE hX hown hK hh dX0_weightWithin_18 ?_
    refine lv_istore_n (lv' := [(2, .int (zi_ ev)), (0, .ref (q 0)), (1, .int (zi_ i))]) hE.1 hE.2 dX0_weightWithin_21 rfl hl (by decide) rfl (fun ls hl => ?_)
    refine zv_iconst hE dX0_weightWithin_22 ?_
    refine lv_istore_n (lv' := [(3, .int (zi_ 0)), (2, .int (zi_ ev)), (0, .ref (q 0)), (1, .int (zi_ i))]) hE.1 hE.2 dX0_weightWithin_23 rfl hl (by decide) rfl (fun ls hl => ?_)
    refine lv_aload_n hE.1 hE.2 dX0_weightWithin_24 rfl (lv_at hl 2 rfl) ?_
    refine gX_startAt hE hX hown hK hh dX0_weightWithin_25 ?_
    refine lv_iload_n hE.1 hE.2 dX0_weightWithin_28 rfl (lv_at hl 3 rfl) ?_
    refine rX_startAt hE hK hh ⟨by omega, by omega⟩ dX0_weightWithin_29 ?_
    refine lv_istore (lv' := [(4, .int (zi_ (sa i))), (3, .int (zi_ 0)), (2, .int (zi_ ev)), (0, .ref (q 0)), (1, .int (zi_ i))]) hE.1 hE.2 dX0_weightWithin_30 hl (by decide) rfl (fun ls hl => ?_)
    exact loop_32 1300 (sa i) 0 ev (by omega) (by omega) (by omega) (by unfold ut_; first | rw [if_pos (by omega)] | rw [if_neg (by omega)]) (by omega) (by rw [show (sa i - sa i).toNat = 0 by omega]; rfl) _ _ hh ls (lv_sub hl [0, 1, 2, 4, 3] rfl)
  · refine lv_aload_n hE.1 hE.2 dX0_weightWithin_8 rfl (lv_at hl 0 rfl) ?_
    refine gX_endAt hE hX hown hK hh dX0_weightWithin_9 ?_
    refine lv_iload_n hE.1 hE.2 dX0_weightWithin_12 rfl (lv_at hl 1 rfl) ?_
    refine rX_endAt hE hK hh ⟨by omega, by omega⟩ dX0_weightWithin_13 ?_
    refine lv_goto (tgt := 21) hE.1 hE.2 dX0_weightWithin_14 (by decide) ?_
    refine lv_istore_n (lv' := [(2, .int (zi_ (ea i))), (0, .ref (q 0)), (1, .int (zi_ i))]) hE.1 hE.2 dX0_weightWithin_21 rfl hl (by decide) rfl (fun ls hl => ?_)
    refine zv_iconst hE dX0_weightWithin_22 ?_
    refine lv_istore_n (lv' := [(3, .int (zi_ 0)), (2, .int (zi_ (ea i))), (0, .ref (q 0)), (1, .int (zi_ i))]) hE.1 hE.2 dX0_weightWithin_23 rfl hl (by decide) rfl (fun ls hl => ?_)
    refine lv_aload_n hE.1 hE.2 dX0_weightWithin_24 rfl (lv_at hl 2 rfl) ?_
    refine gX_startAt hE hX hown hK hh dX0_weightWithin_25 ?_
    refine lv_iload_n hE.1 hE.2 dX0_weightWithin_28 rfl (lv_at hl 3 rfl) ?_
    refine rX_startAt hE hK hh ⟨by omega, by omega⟩ dX0_weightWithin_29 ?_
    refine lv_istore (lv' := [(4, .int (zi_ (sa i))), (3, .int (zi_ 0)), (2, .int (zi_ (ea i))), (0, .ref (q 0)), (1, .int (zi_ i))]) hE.1 hE.2 dX0_weightWithin_30 hl (by decide) rfl (fun ls hl => ?_)
    exact loop_32 1300 (sa i) 0 (ea i) (by omega) (by omega) (by omega) (by unfold ut_; first | rw [if_pos (by omega)] | rw [if_neg (by omega)]) (by omega) (by rw [show (sa i - sa i).toNat = 0 by omega]; rfl) _ _ hh ls (lv_sub hl [0, 1, 2, 4, 3] rfl)
