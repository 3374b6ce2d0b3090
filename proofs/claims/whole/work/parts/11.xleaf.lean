set_option maxHeartbeats 400000 in
set_option maxRecDepth 100000 in
theorem kX_isStart (l : Launch) (e1 : Int) (h0 : 0 ≤ e1) (h1 : e1 ≤ 2147483647) : mc_s l yX0_isStart wsX0_isStart ({ frames := 0, cells := 0, slots := 0, locals := 0 }) [.int (zi_ e1)] (fun z => (e1 % 2 = 0 → z = 1) ∧ (e1 % 2 = 1 → z = 0)) := by
  refine mc_s_of (cc := cX0_isStart) (maxL := 1) (ret := (some .boolean)) (by decide) rfl (Nat.le_of_ble_eq_true rfl) ?_
  intro p e s m below meth c ls hE hml hown hts hr hlk hl
  have hl : lv_has ls 1 [(0, .int (zi_ e1))] := hl
  refine lv_iload_n hE.1 hE.2 dX0_isStart_0 rfl (lv_at hl 0 rfl) ?_
  refine zv_iconst hE dX0_isStart_1 ?_
  refine zv_rem2 hE ⟨by omega, by omega⟩ dX0_isStart_2 ?_
  refine zv_if_ne (tgt := 10) hE dX0_isStart_3 (by decide) ⟨by omega, by omega⟩ (fun hc_1 => ?_) (fun hc_1 => ?_)
  · refine zv_iconst hE dX0_isStart_10 ?_
    exact mc_rets hE hr hlk dX0_isStart_11 (by first | exact Or.inl rfl | exact Or.inr rfl | assumption) (by omega)
  · refine zv_iconst hE dX0_isStart_6 ?_
    refine lv_goto (tgt := 11) hE.1 hE.2 dX0_isStart_7 (by decide) ?_
    exact mc_rets hE hr hlk dX0_isStart_11 (by first | exact Or.inl rfl | exact Or.inr rfl | assumption) (by omega)
set_option maxHeartbeats 400000 in
set_option maxRecDepth 100000 in
theorem kX_lastInterval (l : Launch) (dC : Nat → ClassId) (dI : Nat → Nat → Nat) (q : Nat → Nat) (cA : Nat → ClassId) (ky wt sa ea sm ln fi fk fo op : Int → Int) (ni ns ev cu wa fr oo : Int) (hf1 : 1 ≤ fr) (hf2 : fr ≤ 64) : mc_i l (dC, dI) vwCl (tX_ cA) (wX_ q cA) yX0_lastInterval wsX0_lastInterval ({ frames := 0, cells := 0, slots := 0, locals := 0 }) (ky, wt, sa, ea, sm, ln, fi, fk, fo, op, ni, ns, ev, cu, wa, fr, oo) [.ref (q 0)] (fun (z : Int) (u : SX_) => u = (ky, wt, sa, ea, sm, ln, fi, fk, fo, op, ni, ns, ev, cu, wa, fr, oo) ∧ z = fi (fr - 1)) := by
  refine mc_i_of (cc := cX0_lastInterval) (maxL := 1) (ret := (some .int)) (by decide) rfl (Nat.le_of_ble_eq_true rfl) ?_
  intro p e s m below meth c A ls hE hml hown hts hr hlk hA hK hh hl
  have hown : s.vm.findClass RX0 = some m.cls := hown
  have hX : ∀ w ∈ wsX_, w.before _ s = true := fun w h => hts w (List.mem_cons_of_mem _ h)
  have hl : lv_has ls 1 [(0, .ref (q 0))] := hl
  refine lv_aload_n hE.1 hE.2 dX0_lastInterval_0 rfl (lv_at hl 0 rfl) ?_
  refine gX_frameInterval hE hX hown hK hh dX0_lastInterval_1 ?_
  refine lv_aload_n hE.1 hE.2 dX0_lastInterval_4 rfl (lv_at hl 0 rfl) ?_
  refine gX_frames hE hX hown hK hh dX0_lastInterval_5 ?_
  refine zv_iconst hE dX0_lastInterval_8 ?_
  refine zv_isub hE dX0_lastInterval_9 ?_
  refine rX_frameInterval hE hK hh ⟨by omega, by omega⟩ dX0_lastInterval_10 ?_
  refine mc_ret (u := (ky, wt, sa, ea, sm, ln, fi, fk, fo, op, ni, ns, ev, cu, wa, fr, oo)) hE hr hlk hK hh dX0_lastInterval_11 ?_
  exact ⟨rfl, rfl⟩
set_option maxHeartbeats 400000 in
set_option maxRecDepth 100000 in
theorem kX_lastKind (l : Launch) (dC : Nat → ClassId) (dI : Nat → Nat → Nat) (q : Nat → Nat) (cA : Nat → ClassId) (ky wt sa ea sm ln fi fk fo op : Int → Int) (ni ns ev cu wa fr oo : Int) (hf1 : 1 ≤ fr) (hf2 : fr ≤ 64) : mc_i l (dC, dI) vwCl (tX_ cA) (wX_ q cA) yX0_lastKind wsX0_lastKind ({ frames := 0, cells := 0, slots := 0, locals := 0 }) (ky, wt, sa, ea, sm, ln, fi, fk, fo, op, ni, ns, ev, cu, wa, fr, oo) [.ref (q 0)] (fun (z : Int) (u : SX_) => u = (ky, wt, sa, ea, sm, ln, fi, fk, fo, op, ni, ns, ev, cu, wa, fr, oo) ∧ z = fk (fr - 1)) := by
  refine mc_i_of (cc := cX0_lastKind) (maxL := 1) (ret := (some .int)) (by decide) rfl (Nat.le_of_ble_eq_true rfl) ?_
  intro p e s m below meth c A ls hE hml hown hts hr hlk hA hK hh hl
  have hown : s.vm.findClass RX0 = some m.cls := hown
  have hX : ∀ w ∈ wsX_, w.before _ s = true := fun w h => hts w (List.mem_cons_of_mem _ h)
  have hl : lv_has ls 1 [(0, .ref (q 0))] := hl
  refine lv_aload_n hE.1 hE.2 dX0_lastKind_0 rfl (lv_at hl 0 rfl) ?_
  refine gX_frameKind hE hX hown hK hh dX0_lastKind_1 ?_
  refine lv_aload_n hE.1 hE.2 dX0_lastKind_4 rfl (lv_at hl 0 rfl) ?_
  refine gX_frames hE hX hown hK hh dX0_lastKind_5 ?_
  refine zv_iconst hE dX0_lastKind_8 ?_
  refine zv_isub hE dX0_lastKind_9 ?_
  refine rX_frameKind hE hK hh ⟨by omega, by omega⟩ dX0_lastKind_10 ?_
  refine mc_ret (u := (ky, wt, sa, ea, sm, ln, fi, fk, fo, op, ni, ns, ev, cu, wa, fr, oo)) hE hr hlk hK hh dX0_lastKind_11 ?_
  exact ⟨rfl, rfl⟩
set_option maxHeartbeats 400000 in
set_option maxRecDepth 100000 in
theorem kX_lastOpen (l : Launch) (dC : Nat → ClassId) (dI : Nat → Nat → Nat) (q : Nat → Nat) (cA : Nat → ClassId) (ky wt sa ea sm ln fi fk fo op : Int → Int) (ni ns ev cu wa fr oo : Int) (hf1 : 1 ≤ fr) (hf2 : fr ≤ 64) (hf3 : 0 ≤ fo (fr - 1) ∧ fo (fr - 1) ≤ 600) (hf4 : 0 ≤ oo ∧ oo ≤ 600) : mc_i l (dC, dI) vwCl (tX_ cA) (wX_ q cA) yX0_lastOpen wsX0_lastOpen ({ frames := 0, cells := 0, slots := 0, locals := 0 }) (ky, wt, sa, ea, sm, ln, fi, fk, fo, op, ni, ns, ev, cu, wa, fr, oo) [.ref (q 0)] (fun (z : Int) (u : SX_) => u = (ky, wt, sa, ea, sm, ln, fi, fk, fo, op, ni, ns, ev, cu, wa, fr, oo) ∧ (fo (fr - 1) < oo → z = op (oo - 1)) ∧ (oo ≤ fo (fr - 1) → z = -1)) := by
  refine mc_i_of (cc := cX0_lastOpen) (maxL := 1) (ret := (some .int)) (by decide) rfl (Nat.le_of_ble_eq_true rfl) ?_
  intro p e s m below meth c A ls hE hml hown hts hr hlk hA hK hh hl
  have hown : s.vm.findClass RX0 = some m.cls := hown
  have hX : ∀ w ∈ wsX_, w.before _ s = true := fun w h => hts w (List.mem_cons_of_mem _ h)
  have hl : lv_has ls 1 [(0, .ref (q 0))] := hl
  refine lv_aload_n hE.1 hE.2 dX0_lastOpen_0 rfl (lv_at hl 0 rfl) ?_
  refine gX_openOnes hE hX hown hK hh dX0_lastOpen_1 ?_
  refine lv_aload_n hE.1 hE.2 dX0_lastOpen_4 rfl (lv_at hl 0 rfl) ?_
  refine gX_frameOpenBelow hE hX hown hK hh dX0_lastOpen_5 ?_
  refine lv_aload_n hE.1 hE.2 dX0_lastOpen_8 rfl (lv_at hl 0 rfl) ?_
  refine gX_frames hE hX hown hK hh dX0_lastOpen_9 ?_
  refine zv_iconst hE dX0_lastOpen_12 ?_
  refine zv_isub hE dX0_lastOpen_13 ?_
  refine rX_frameOpenBelow hE hK hh ⟨by omega, by omega⟩ dX0_lastOpen_14 ?_
  refine zv_icmp_le (tgt := 32) hE dX0_lastOpen_15 (by decide) ⟨by omega, by omega⟩ ⟨by omega, by omega⟩ (fun hc_1 => ?_) (fun hc_1 => ?_)
  · refine zv_iconst hE dX0_lastOpen_32 ?_
    refine mc_ret (u := (ky, wt, sa, ea, sm, ln, fi, fk, fo, op, ni, ns, ev, cu, wa, fr, oo)) hE hr hlk hK hh dX0_lastOpen_33 ?_
    exact ⟨rfl, by omega, by omega⟩
  · refine lv_aload_n hE.1 hE.2 dX0_lastOpen_18 rfl (lv_at hl 0 rfl) ?_
    refine gX_open hE hX hown hK hh dX0_lastOpen_19 ?_
    refine lv_aload_n hE.1 hE.2 dX0_lastOpen_22 rfl (lv_at hl 0 rfl) ?_
    refine gX_openOnes hE hX hown hK hh dX0_lastOpen_23 ?_
    refine zv_iconst hE dX0_lastOpen_26 ?_
    refine zv_isub hE dX0_lastOpen_27 ?_
    refine rX_open hE hK hh ⟨by omega, by omega⟩ dX0_lastOpen_28 ?_
    refine lv_goto (tgt := 33) hE.1 hE.2 dX0_lastOpen_29 (by decide) ?_
    refine mc_ret (u := (ky, wt, sa, ea, sm, ln, fi, fk, fo, op, ni, ns, ev, cu, wa, fr, oo)) hE hr hlk hK hh dX0_lastOpen_33 ?_
    exact ⟨rfl, by omega, by omega⟩
set_option maxHeartbeats 400000 in
set_option maxRecDepth 100000 in
theorem kX_isThere (l : Launch) (dC : Nat → ClassId) (dI : Nat → Nat → Nat) (q : Nat → Nat) (cA : Nat → ClassId) (ky wt sa ea sm ln fi fk fo op : Int → Int) (ni ns ev cu wa fr oo : Int) (i : Int) (hi : zr_ i) (hs : 0 ≤ i → i < 600 → zr_ (sa i)) : mc_i l (dC, dI) vwCl (tX_ cA) (wX_ q cA) yX0_isThere wsX0_isThere ({ frames := 0, cells := 0, slots := 0, locals := 0 }) (ky, wt, sa, ea, sm, ln, fi, fk, fo, op, ni, ns, ev, cu, wa, fr, oo) [.ref (q 0), .int (zi_ i)] (fun (z : Int) (u : SX_) => u = (ky, wt, sa, ea, sm, ln, fi, fk, fo, op, ni, ns, ev, cu, wa, fr, oo) ∧ (0 ≤ i ∧ i < 600 ∧ sa i ≠ -1 → z = 1) ∧ (i < 0 ∨ 600 ≤ i ∨ sa i = -1 → z = 0)) := by
  refine mc_i_of (cc := cX0_isThere) (maxL := 2) (ret := (some .boolean)) (by decide) rfl (Nat.le_of_ble_eq_true rfl) ?_
  intro p e s m below meth c A ls hE hml hown hts hr hlk hA hK hh hl
  have hown : s.vm.findClass RX0 = some m.cls := hown
  have hX : ∀ w ∈ wsX_, w.before _ s = true := fun w h => hts w (List.mem_cons_of_mem _ h)
  have hl : lv_has ls 2 [(0, .ref (q 0)), (1, .int (zi_ i))] := hl
  refine lv_iload_n hE.1 hE.2 dX0_isThere_0 rfl (lv_at hl 1 rfl) ?_
  refine zv_if_lt (tgt := 25) hE dX0_isThere_1 (by decide) ⟨by omega, by omega⟩ (fun hc_1 => ?_) (fun hc_1 => ?_)
  · refine zv_iconst hE dX0_isThere_25 ?_
    refine mc_retz (u := (ky, wt, sa, ea, sm, ln, fi, fk, fo, op, ni, ns, ev, cu, wa, fr, oo)) hE hr hlk hK hh dX0_isThere_26 (by first | exact Or.inl rfl | exact Or.inr rfl | assumption) ?_
    exact ⟨rfl, by omega, by omega⟩
  · refine lv_iload_n hE.1 hE.2 dX0_isThere_4 rfl (lv_at hl 1 rfl) ?_
    refine zv_sipush hE dX0_isThere_5 (by decide) ?_
    refine zv_icmp_ge (tgt := 25) hE dX0_isThere_8 (by decide) ⟨by omega, by omega⟩ ⟨by omega, by omega⟩ (fun hc_2 => ?_) (fun hc_2 => ?_)
    · refine zv_iconst hE dX0_isThere_25 ?_
      refine mc_retz (u := (ky, wt, sa, ea, sm, ln, fi, fk, fo, op, ni, ns, ev, cu, wa, fr, oo)) hE hr hlk hK hh dX0_isThere_26 (by first | exact Or.inl rfl | exact Or.inr rfl | assumption) ?_
      exact ⟨rfl, by omega, by omega⟩
    · refine lv_aload_n hE.1 hE.2 dX0_isThere_11 rfl (lv_at hl 0 rfl) ?_
      refine gX_startAt hE hX hown hK hh dX0_isThere_12 ?_
      refine lv_iload_n hE.1 hE.2 dX0_isThere_15 rfl (lv_at hl 1 rfl) ?_
      refine rX_startAt hE hK hh ⟨by omega, by omega⟩ dX0_isThere_16 ?_
      refine zv_iconst hE dX0_isThere_17 ?_
      refine zv_icmp_eq (tgt := 25) hE dX0_isThere_18 (by decide) ⟨by omega, by omega⟩ ⟨by omega, by omega⟩ (fun hc_3 => ?_) (fun hc_3 => ?_)
      · refine zv_iconst hE dX0_isThere_25 ?_
        refine mc_retz (u := (ky, wt, sa, ea, sm, ln, fi, fk, fo, op, ni, ns, ev, cu, wa, fr, oo)) hE hr hlk hK hh dX0_isThere_26 (by first | exact Or.inl rfl | exact Or.inr rfl | assumption) ?_
        exact ⟨rfl, by omega, by omega⟩
      · refine zv_iconst hE dX0_isThere_21 ?_
        refine lv_goto (tgt := 26) hE.1 hE.2 dX0_isThere_22 (by decide) ?_
        refine mc_retz (u := (ky, wt, sa, ea, sm, ln, fi, fk, fo, op, ni, ns, ev, cu, wa, fr, oo)) hE hr hlk hK hh dX0_isThere_26 (by first | exact Or.inl rfl | exact Or.inr rfl | assumption) ?_
        exact ⟨rfl, by omega, by omega⟩
set_option maxHeartbeats 400000 in
set_option maxRecDepth 100000 in
theorem kX_isEnded (l : Launch) (dC : Nat → ClassId) (dI : Nat → Nat → Nat) (q : Nat → Nat) (cA : Nat → ClassId) (ky wt sa ea sm ln fi fk fo op : Int → Int) (ni ns ev cu wa fr oo : Int) (i : Int) (h0 : 0 ≤ i) (h1 : i < 600) (hs : zr_ (ea i)) : mc_i l (dC, dI) vwCl (tX_ cA) (wX_ q cA) yX0_isEnded wsX0_isEnded ({ frames := 0, cells := 0, slots := 0, locals := 0 }) (ky, wt, sa, ea, sm, ln, fi, fk, fo, op, ni, ns, ev, cu, wa, fr, oo) [.ref (q 0), .int (zi_ i)] (fun (z : Int) (u : SX_) => u = (ky, wt, sa, ea, sm, ln, fi, fk, fo, op, ni, ns, ev, cu, wa, fr, oo) ∧ (ea i ≠ -1 → z = 1) ∧ (ea i = -1 → z = 0)) := by
  refine mc_i_of (cc := cX0_isEnded) (maxL := 2) (ret := (some .boolean)) (by decide) rfl (Nat.le_of_ble_eq_true rfl) ?_
  intro p e s m below meth c A ls hE hml hown hts hr hlk hA hK hh hl
  have hown : s.vm.findClass RX0 = some m.cls := hown
  have hX : ∀ w ∈ wsX_, w.before _ s = true := fun w h => hts w (List.mem_cons_of_mem _ h)
  have hl : lv_has ls 2 [(0, .ref (q 0)), (1, .int (zi_ i))] := hl
  refine lv_aload_n hE.1 hE.2 dX0_isEnded_0 rfl (lv_at hl 0 rfl) ?_
  refine gX_endAt hE hX hown hK hh dX0_isEnded_1 ?_
  refine lv_iload_n hE.1 hE.2 dX0_isEnded_4 rfl (lv_at hl 1 rfl) ?_
  refine rX_endAt hE hK hh ⟨by omega, by omega⟩ dX0_isEnded_5 ?_
  refine zv_iconst hE dX0_isEnded_6 ?_
  refine zv_icmp_eq (tgt := 14) hE dX0_isEnded_7 (by decide) ⟨by omega, by omega⟩ ⟨by omega, by omega⟩ (fun hc_1 => ?_) (fun hc_1 => ?_)
  · refine zv_iconst hE dX0_isEnded_14 ?_
    refine mc_retz (u := (ky, wt, sa, ea, sm, ln, fi, fk, fo, op, ni, ns, ev, cu, wa, fr, oo)) hE hr hlk hK hh dX0_isEnded_15 (by first | exact Or.inl rfl | exact Or.inr rfl | assumption) ?_
    exact ⟨rfl, by omega, by omega⟩
  · refine zv_iconst hE dX0_isEnded_10 ?_
    refine lv_goto (tgt := 15) hE.1 hE.2 dX0_isEnded_11 (by decide) ?_
    refine mc_retz (u := (ky, wt, sa, ea, sm, ln, fi, fk, fo, op, ni, ns, ev, cu, wa, fr, oo)) hE hr hlk hK hh dX0_isEnded_15 (by first | exact Or.inl rfl | exact Or.inr rfl | assumption) ?_
    exact ⟨rfl, by omega, by omega⟩
set_option maxHeartbeats 400000 in
set_option maxRecDepth 100000 in
theorem kX_aheadUpTo (l : Launch) (dC : Nat → ClassId) (dI : Nat → Nat → Nat) (q : Nat → Nat) (cA : Nat → ClassId) (ky wt sa ea sm ln fi fk fo op : Int → Int) (ni ns ev cu wa fr oo : Int) (hf1 : 1 ≤ fr) (hf2 : fr ≤ 64) (hf5 : -1 ≤ fi (fr - 1) ∧ fi (fr - 1) < 600) : mc_i l (dC, dI) vwCl (tX_ cA) (wX_ q cA) yX0_aheadUpTo wsX0_aheadUpTo ({ frames := 1, cells := 0, slots := 0, locals := 40 }) (ky, wt, sa, ea, sm, ln, fi, fk, fo, op, ni, ns, ev, cu, wa, fr, oo) [.ref (q 0)] (fun (z : Int) (u : SX_) => u = (ky, wt, sa, ea, sm, ln, fi, fk, fo, op, ni, ns, ev, cu, wa, fr, oo) ∧ z = lm_ fi ea ev fr) := by
  refine mc_i_of (cc := cX0_aheadUpTo) (maxL := 2) (ret := (some .int)) (by decide) rfl (Nat.le_of_ble_eq_true rfl) ?_
  intro p e s m below meth c A ls hE hml hown hts hr hlk hA hK hh hl
  have hown : s.vm.findClass RX0 = some m.cls := hown
  have hX : ∀ w ∈ wsX_, w.before _ s = true := fun w h => hts w (List.mem_cons_of_mem _ h)
  have hl : lv_has ls 2 [(0, .ref (q 0))] := hl
  refine lv_aload_n hE.1 hE.2 dX0_aheadUpTo_0 rfl (lv_at hl 0 rfl) ?_
  refine mc_call (rest := []) (As := []) hE hml hown hX hA hK hh (kX_lastInterval l dC dI q cA ky wt sa ea sm ln fi fk fo op ni ns ev cu wa fr oo hf1 hf2) (cwV 0 hX qX_lastInterval rfl rfl rfl (by decide +kernel) ⟨Nat.le_of_ble_eq_true rfl, Nat.le_of_ble_eq_true rfl⟩) rfl rfl hl.1 rfl (Nat.le_of_ble_eq_true rfl) dX0_aheadUpTo_1 ⟨Nat.zero_le _, Nat.zero_le _⟩ rfl (fun z_2 u H locs hq_1 hh => ?_)
  obtain ⟨rfl, rfl⟩ := hq_1
  refine lv_istore_n (lv' := [(1, .int (zi_ (fi (fr - 1)))), (0, .ref (q 0))]) hE.1 hE.2 dX0_aheadUpTo_4 rfl hl (by decide) rfl (fun ls hl => ?_)
  refine lv_iload_n hE.1 hE.2 dX0_aheadUpTo_5 rfl (lv_at hl 0 rfl) ?_
  refine zv_iconst hE dX0_aheadUpTo_6 ?_
  refine zv_icmp_ne (tgt := 17) hE dX0_aheadUpTo_7 (by decide) ⟨by omega, by omega⟩ ⟨by omega, by omega⟩ (fun hc_3 => ?_) (fun hc_3 => ?_)
  · refine lv_aload_n hE.1 hE.2 dX0_aheadUpTo_17 rfl (lv_at hl 1 rfl) ?_
    refine gX_endAt hE hX hown hK hh dX0_aheadUpTo_18 ?_
    refine lv_iload_n hE.1 hE.2 dX0_aheadUpTo_21 rfl (lv_at hl 0 rfl) ?_
    refine rX_endAt hE hK hh ⟨by omega, by omega⟩ dX0_aheadUpTo_22 ?_
    refine mc_ret (u := (ky, wt, sa, ea, sm, ln, fi, fk, fo, op, ni, ns, ev, cu, wa, fr, oo)) hE hr hlk hK hh dX0_aheadUpTo_23 ?_
    exact ⟨rfl, by unfold lm_; first | rw [if_pos (by omega)] | rw [if_neg (by omega)]⟩
  · refine lv_aload_n hE.1 hE.2 dX0_aheadUpTo_10 rfl (lv_at hl 1 rfl) ?_
    refine gX_events hE hX hown hK hh dX0_aheadUpTo_11 ?_
    refine lv_goto (tgt := 23) hE.1 hE.2 dX0_aheadUpTo_14 (by decide) ?_
    refine mc_ret (u := (ky, wt, sa, ea, sm, ln, fi, fk, fo, op, ni, ns, ev, cu, wa, fr, oo)) hE hr hlk hK hh dX0_aheadUpTo_23 ?_
    exact ⟨rfl, by unfold lm_; first | rw [if_pos (by omega)] | rw [if_neg (by omega)]⟩
set_option maxHeartbeats 400000 in
set_option maxRecDepth 100000 in
theorem kX_mayMove (l : Launch) (dC : Nat → ClassId) (dI : Nat → Nat → Nat) (q : Nat → Nat) (cA : Nat → ClassId) (ky wt sa ea sm ln fi fk fo op : Int → Int) (ni ns ev cu wa fr oo : Int) (hf1 : 1 ≤ fr) (hf2 : fr ≤ 64) (hf3 : 0 ≤ fo (fr - 1) ∧ fo (fr - 1) ≤ 600) (hf4 : 0 ≤ oo ∧ oo ≤ 600) (hf6 : fo (fr - 1) < oo → 0 ≤ op (oo - 1) ∧ op (oo - 1) < 600) : mc_i l (dC, dI) vwCl (tX_ cA) (wX_ q cA) yX0_mayMove wsX0_mayMove ({ frames := 1, cells := 0, slots := 0, locals := 40 }) (ky, wt, sa, ea, sm, ln, fi, fk, fo, op, ni, ns, ev, cu, wa, fr, oo) [.ref (q 0)] (fun (z : Int) (u : SX_) => u = (ky, wt, sa, ea, sm, ln, fi, fk, fo, op, ni, ns, ev, cu, wa, fr, oo) ∧ (fr = 1 ∧ oo ≤ fo (fr - 1) → z = 1) ∧ (fr ≠ 1 ∨ fo (fr - 1) < oo → z = 0)) := by
  refine mc_i_of (cc := cX0_mayMove) (maxL := 1) (ret := (some .boolean)) (by decide) rfl (Nat.le_of_ble_eq_true rfl) ?_
  intro p e s m below meth c A ls hE hml hown hts hr hlk hA hK hh hl
  have hown : s.vm.findClass RX0 = some m.cls := hown
  have hX : ∀ w ∈ wsX_, w.before _ s = true := fun w h => hts w (List.mem_cons_of_mem _ h)
  have hl : lv_has ls 1 [(0, .ref (q 0))] := hl
  refine lv_aload_n hE.1 hE.2 dX0_mayMove_0 rfl (lv_at hl 0 rfl) ?_
  refine gX_frames hE hX hown hK hh dX0_mayMove_1 ?_
  refine zv_iconst hE dX0_mayMove_4 ?_
  refine zv_icmp_ne (tgt := 20) hE dX0_mayMove_5 (by decide) ⟨by omega, by omega⟩ ⟨by omega, by omega⟩ (fun hc_1 => ?_) (fun hc_1 => ?_)
  · refine zv_iconst hE dX0_mayMove_20 ?_
    refine mc_retz (u := (ky, wt, sa, ea, sm, ln, fi, fk, fo, op, ni, ns, ev, cu, wa, fr, oo)) hE hr hlk hK hh dX0_mayMove_21 (by first | exact Or.inl rfl | exact Or.inr rfl | assumption) ?_
    exact ⟨rfl, by omega, by omega⟩
  · refine lv_aload_n hE.1 hE.2 dX0_mayMove_8 rfl (lv_at hl 0 rfl) ?_
    refine mc_call (rest := []) (As := []) hE hml hown hX hA hK hh (kX_lastOpen l dC dI q cA ky wt sa ea sm ln fi fk fo op ni ns ev cu wa fr oo hf1 hf2 hf3 hf4) (cwV 0 hX qX_lastOpen rfl rfl rfl (by decide +kernel) ⟨Nat.le_of_ble_eq_true rfl, Nat.le_of_ble_eq_true rfl⟩) rfl rfl hl.1 rfl (Nat.le_of_ble_eq_true rfl) dX0_mayMove_9 ⟨Nat.zero_le _, Nat.zero_le _⟩ rfl (fun z_3 u H locs hq_2 hh => ?_)
    obtain ⟨rfl, hq_2⟩ := hq_2
    refine zv_iconst hE dX0_mayMove_12 ?_
    refine zv_icmp_ne (tgt := 20) hE dX0_mayMove_13 (by decide) ⟨by omega, by omega⟩ ⟨by omega, by omega⟩ (fun hc_4 => ?_) (fun hc_4 => ?_)
    · refine zv_iconst hE dX0_mayMove_20 ?_
      refine mc_retz (u := (ky, wt, sa, ea, sm, ln, fi, fk, fo, op, ni, ns, ev, cu, wa, fr, oo)) hE hr hlk hK hh dX0_mayMove_21 (by first | exact Or.inl rfl | exact Or.inr rfl | assumption) ?_
      exact ⟨rfl, by omega, by omega⟩
    · refine zv_iconst hE dX0_mayMove_16 ?_
      refine lv_goto (tgt := 21) hE.1 hE.2 dX0_mayMove_17 (by decide) ?_
      refine mc_retz (u := (ky, wt, sa, ea, sm, ln, fi, fk, fo, op, ni, ns, ev, cu, wa, fr, oo)) hE hr hlk hK hh dX0_mayMove_21 (by first | exact Or.inl rfl | exact Or.inr rfl | assumption) ?_
      exact ⟨rfl, by omega, by omega⟩
set_option maxHeartbeats 400000 in
set_option maxRecDepth 100000 in
theorem kX_stateOf (l : Launch) (dC : Nat → ClassId) (dI : Nat → Nat → Nat) (q : Nat → Nat) (cA : Nat → ClassId) (ky wt sa ea sm ln fi fk fo op : Int → Int) (ni ns ev cu wa fr oo : Int) (i : Int) (h0 : 0 ≤ i) (h1 : i < 600) (hs : zr_ (ea i)) (hm : sm i = 0 ∨ sm i = 1) : mc_i l (dC, dI) vwCl (tX_ cA) (wX_ q cA) yX0_stateOf wsX0_stateOf ({ frames := 1, cells := 0, slots := 0, locals := 40 }) (ky, wt, sa, ea, sm, ln, fi, fk, fo, op, ni, ns, ev, cu, wa, fr, oo) [.ref (q 0), .int (zi_ i)] (fun (z : Int) (u : SX_) => u = (ky, wt, sa, ea, sm, ln, fi, fk, fo, op, ni, ns, ev, cu, wa, fr, oo) ∧ (ea i = -1 → z = 0) ∧ (ea i ≠ -1 → z = 1 + sm i)) := by
  refine mc_i_of (cc := cX0_stateOf) (maxL := 2) (ret := (some .int)) (by decide) rfl (Nat.le_of_ble_eq_true rfl) ?_
  intro p e s m below meth c A ls hE hml hown hts hr hlk hA hK hh hl
  have hown : s.vm.findClass RX0 = some m.cls := hown
  have hX : ∀ w ∈ wsX_, w.before _ s = true := fun w h => hts w (List.mem_cons_of_mem _ h)
  have hl : lv_has ls 2 [(0, .ref (q 0)), (1, .int (zi_ i))] := hl
  refine lv_aload_n hE.1 hE.2 dX0_stateOf_0 rfl (lv_at hl 0 rfl) ?_
  refine lv_iload_n hE.1 hE.2 dX0_stateOf_1 rfl (lv_at hl 1 rfl) ?_
  refine mc_call (rest := []) (As := [.int (zi_ i)]) hE hml hown hX hA hK hh (kX_isEnded l dC dI q cA ky wt sa ea sm ln fi fk fo op ni ns ev cu wa fr oo i (by omega) (by omega) (by first | assumption | exact ⟨by omega, by omega⟩)) (cwV 1 hX qX_isEnded rfl rfl rfl (by decide +kernel) ⟨Nat.le_of_ble_eq_true rfl, Nat.le_of_ble_eq_true rfl⟩) rfl rfl hl.1 rfl (Nat.le_of_ble_eq_true rfl) dX0_stateOf_2 ⟨Nat.zero_le _, Nat.zero_le _⟩ rfl (fun z_2 u H locs hq_1 hh => ?_)
  obtain ⟨rfl, hq_1⟩ := hq_1
  refine zv_if_ne (tgt := 10) hE dX0_stateOf_5 (by decide) ⟨by omega, by omega⟩ (fun hc_3 => ?_) (fun hc_3 => ?_)
  · refine lv_aload_n hE.1 hE.2 dX0_stateOf_10 rfl (lv_at hl 0 rfl) ?_
    refine gX_staleMark hE hX hown hK hh dX0_stateOf_11 ?_
    refine lv_iload_n hE.1 hE.2 dX0_stateOf_14 rfl (lv_at hl 1 rfl) ?_
    refine rX_staleMark hE hK hh ⟨by omega, by omega⟩ dX0_stateOf_15 ?_
    refine zv_if_eq (tgt := 23) hE dX0_stateOf_16 (by decide) ⟨by omega, by omega⟩ (fun hc_4 => ?_) (fun hc_4 => ?_)
    · refine zv_iconst hE dX0_stateOf_23 ?_
      refine mc_ret (u := (ky, wt, sa, ea, sm, ln, fi, fk, fo, op, ni, ns, ev, cu, wa, fr, oo)) hE hr hlk hK hh dX0_stateOf_24 ?_
      exact ⟨rfl, by omega, by omega⟩
    · refine zv_iconst hE dX0_stateOf_19 ?_
      refine lv_goto (tgt := 24) hE.1 hE.2 dX0_stateOf_20 (by decide) ?_
      refine mc_ret (u := (ky, wt, sa, ea, sm, ln, fi, fk, fo, op, ni, ns, ev, cu, wa, fr, oo)) hE hr hlk hK hh dX0_stateOf_24 ?_
      exact ⟨rfl, by omega, by omega⟩
  · refine zv_iconst hE dX0_stateOf_8 ?_
    refine mc_ret (u := (ky, wt, sa, ea, sm, ln, fi, fk, fo, op, ni, ns, ev, cu, wa, fr, oo)) hE hr hlk hK hh dX0_stateOf_9 ?_
    exact ⟨rfl, by omega, by omega⟩
set_option maxHeartbeats 400000 in
set_option maxRecDepth 100000 in
theorem kX_leastFreeNumber (l : Launch) (dC : Nat → ClassId) (dI : Nat → Nat → Nat) (q : Nat → Nat) (cA : Nat → ClassId) (ky wt sa ea sm ln fi fk fo op : Int → Int) (ni ns ev cu wa fr oo : Int) (hs : ∀ j : Int, 0 ≤ j → j < 600 → zr_ (sa j)) : mc_i l (dC, dI) vwCl (tX_ cA) (wX_ q cA) yX0_leastFreeNumber wsX0_leastFreeNumber ({ frames := 0, cells := 0, slots := 0, locals := 0 }) (ky, wt, sa, ea, sm, ln, fi, fk, fo, op, ni, ns, ev, cu, wa, fr, oo) [.ref (q 0)] (fun (z : Int) (u : SX_) => u = (ky, wt, sa, ea, sm, ln, fi, fk, fo, op, ni, ns, ev, cu, wa, fr, oo) ∧ ((z = -1 ∧ ∀ j : Int, 0 ≤ j → j < 600 → sa j ≠ -1) ∨ (0 ≤ z ∧ z < 600 ∧ sa z = -1 ∧ ∀ j : Int, 0 ≤ j → j < z → sa j ≠ -1))) := by
  refine mc_i_of (cc := cX0_leastFreeNumber) (maxL := 2) (ret := (some .int)) (by decide) rfl (Nat.le_of_ble_eq_true rfl) ?_
  intro p e s m below meth c A ls hE hml hown hts hr hlk hA hK hh hl
  have hown : s.vm.findClass RX0 = some m.cls := hown
  have hX : ∀ w ∈ wsX_, w.before _ s = true := fun w h => hts w (List.mem_cons_of_mem _ h)
  have hl : lv_has ls 2 [(0, .ref (q 0))] := hl
  have loop_2 : ∀ (n : Nat) (i : Int), (0 ≤ i) → (i ≤ 600) → (600 - i < (n : Int)) → (∀ j : Int, 0 ≤ j → j < i → sa j ≠ -1) → ∀ (H : Heap) (locs : List Loc), hp_ (dC, dI) vwCl A s.heap (wX_ q cA (ky, wt, sa, ea, sm, ln, fi, fk, fo, op, ni, ns, ev, cu, wa, fr, oo)) H locs → ∀ (ls : Array Slot), lv_has ls 2 [(1, .int (zi_ i)), (0, .ref (q 0))] → W p l e ({ frames := 0, cells := 0, slots := 0, locals := 0 }) s m ([.ref (q 0)] : List Value).toArray below meth c H locs 0 0 (MQ below (mc_Qi (dC, dI) vwCl (tX_ cA) (wX_ q cA) (fun (z : Int) (u : SX_) => u = (ky, wt, sa, ea, sm, ln, fi, fk, fo, op, ni, ns, ev, cu, wa, fr, oo) ∧ ((z = -1 ∧ ∀ j : Int, 0 ≤ j → j < 600 → sa j ≠ -1) ∨ (0 ≤ z ∧ z < 600 ∧ sa z = -1 ∧ ∀ j : Int, 0 ≤ j → j < z → sa j ≠ -1))) A) ([.ref (q 0)] : List Value).toArray s 0 0 A) (F0 m 2 ls []) := by
    intro n
    induction n with
    | zero => intros; exfalso; omega
    | succ n ih =>
      intro i h0 h1 hn hj H locs hh ls hl
      have hsi : i < 600 → zr_ (sa i) := fun z => hs i h0 z
      refine lv_iload_n hE.1 hE.2 dX0_leastFreeNumber_2 rfl (lv_at hl 0 rfl) ?_
      refine zv_sipush hE dX0_leastFreeNumber_3 (by decide) ?_
      refine zv_icmp_ge (tgt := 27) hE dX0_leastFreeNumber_6 (by decide) ⟨by omega, by omega⟩ ⟨by omega, by omega⟩ (fun hc_1 => ?_) (fun hc_1 => ?_)
      · refine zv_iconst hE dX0_leastFreeNumber_27 ?_
        refine mc_ret (u := (ky, wt, sa, ea, sm, ln, fi, fk, fo, op, ni, ns, ev, cu, wa, fr, oo)) hE hr hlk hK hh dX0_leastFreeNumber_28 ?_
        refine ⟨rfl, ?_⟩
        first | exact Or.inr ⟨by omega, by omega, by omega, hj⟩ | exact Or.inl ⟨by omega, fun j x y => hj j x (by omega)⟩
      · refine lv_aload_n hE.1 hE.2 dX0_leastFreeNumber_9 rfl (lv_at hl 1 rfl) ?_
        refine gX_startAt hE hX hown hK hh dX0_leastFreeNumber_10 ?_
        refine lv_iload_n hE.1 hE.2 dX0_leastFreeNumber_13 rfl (lv_at hl 0 rfl) ?_
        refine rX_startAt hE hK hh ⟨by omega, by omega⟩ dX0_leastFreeNumber_14 ?_
        refine zv_iconst hE dX0_leastFreeNumber_15 ?_
        refine zv_icmp_ne (tgt := 21) hE dX0_leastFreeNumber_16 (by decide) ⟨by omega, by omega⟩ ⟨by omega, by omega⟩ (fun hc_2 => ?_) (fun hc_2 => ?_)
        · refine zv_iinc (lv' := [(1, .int (zi_ (i + 1))), (0, .ref (q 0))]) hE dX0_leastFreeNumber_21 hl (k := 0) rfl (by decide) rfl (fun ls hl => ?_)
          refine lv_goto (tgt := 2) hE.1 hE.2 dX0_leastFreeNumber_24 (by decide) ?_
          exact ih (i + 1) (by omega) (by omega) (by omega) (fun j x y => if hq : j = i then (by rw [hq]; assumption) else hj j x (by omega)) _ _ hh ls (lv_sub hl [0, 1] rfl)
        · refine lv_iload_n hE.1 hE.2 dX0_leastFreeNumber_19 rfl (lv_at hl 0 rfl) ?_
          refine mc_ret (u := (ky, wt, sa, ea, sm, ln, fi, fk, fo, op, ni, ns, ev, cu, wa, fr, oo)) hE hr hlk hK hh dX0_leastFreeNumber_20 ?_
          refine ⟨rfl, ?_⟩
          first | exact Or.inr ⟨by omega, by omega, by omega, hj⟩ | exact Or.inl ⟨by omega, fun j x y => hj j x (by omega)⟩
  refine zv_iconst hE dX0_leastFreeNumber_0 ?_
  refine lv_istore_n (lv' := [(1, .int (zi_ 0)), (0, .ref (q 0))]) hE.1 hE.2 dX0_leastFreeNumber_1 rfl hl (by decide) rfl (fun ls hl => ?_)
  exact loop_2 601 0 (by omega) (by omega) (by omega) (fun j x y => by omega) _ _ hh ls (lv_sub hl [0, 1] rfl)
set_option maxHeartbeats 400000 in
set_option maxRecDepth 100000 in
theorem kX_setPlace (l : Launch) (dC : Nat → ClassId) (dI : Nat → Nat → Nat) (q : Nat → Nat) (cA : Nat → ClassId) (ky wt sa ea sm ln fi fk fo op : Int → Int) (ni ns ev cu wa fr oo : Int) (e1 pl : Int) (h0 : 0 ≤ e1) (h1 : e1 < 1200) (h2 : 0 ≤ pl) (h3 : pl < 1200) : mc_v l (dC, dI) vwCl (tX_ cA) (wX_ q cA) yX0_setPlace wsX0_setPlace ({ frames := 1, cells := 0, slots := 0, locals := 40 }) (ky, wt, sa, ea, sm, ln, fi, fk, fo, op, ni, ns, ev, cu, wa, fr, oo) [.ref (q 0), .int (zi_ e1), .int (zi_ pl)] (fun (u : SX_) => (e1 % 2 = 0 ∧ u = (ky, wt, up_ sa (e1 / 2) pl, ea, sm, up_ ln pl e1, fi, fk, fo, op, ni, ns, ev, cu, wa, fr, oo)) ∨ (e1 % 2 = 1 ∧ u = (ky, wt, sa, up_ ea (e1 / 2) pl, sm, up_ ln pl e1, fi, fk, fo, op, ni, ns, ev, cu, wa, fr, oo))) := by
  refine mc_v_of (cc := cX0_setPlace) (maxL := 3) (ret := none) (by decide) rfl (Nat.le_of_ble_eq_true rfl) ?_
  intro p e s m below meth c A ls hE hml hown hts hr hlk hA hK hh hl
  have hown : s.vm.findClass RX0 = some m.cls := hown
  have hX : ∀ w ∈ wsX_, w.before _ s = true := fun w h => hts w (List.mem_cons_of_mem _ h)
  have hl : lv_has ls 3 [(0, .ref (q 0)), (1, .int (zi_ e1)), (2, .int (zi_ pl))] := hl
  refine lv_aload_n hE.1 hE.2 dX0_setPlace_0 rfl (lv_at hl 0 rfl) ?_
  refine gX_line hE hX hown hK hh dX0_setPlace_1 ?_
  refine lv_iload_n hE.1 hE.2 dX0_setPlace_4 rfl (lv_at hl 2 rfl) ?_
  refine lv_iload_n hE.1 hE.2 dX0_setPlace_5 rfl (lv_at hl 1 rfl) ?_
  refine sX_line hE hK hh ⟨by omega, by omega⟩ dX0_setPlace_6 (fun H locs hh => ?_)
  refine lv_iload_n hE.1 hE.2 dX0_setPlace_7 rfl (lv_at hl 1 rfl) ?_
  refine mc_calls (rest := []) (As := [.int (zi_ e1)]) hE hml hown hX hA hh (kX_isStart l e1 (by omega) (by omega)) (cwS 1 hX qX_isStart rfl rfl rfl (by decide +kernel) ⟨Nat.le_of_ble_eq_true rfl, Nat.le_of_ble_eq_true rfl⟩) hl.1 rfl (Nat.le_of_ble_eq_true rfl) dX0_setPlace_8 ⟨Nat.zero_le _, Nat.zero_le _⟩ rfl (fun z_2 H locs hq_1 hh => ?_)
  have hq_1z : zr_ z_2 := ⟨by omega, by omega⟩
  refine zv_if_eq (tgt := 26) hE dX0_setPlace_11 (by decide) ⟨by omega, by omega⟩ (fun hc_3 => ?_) (fun hc_3 => ?_)
  · refine lv_aload_n hE.1 hE.2 dX0_setPlace_26 rfl (lv_at hl 0 rfl) ?_
    refine gX_endAt hE hX hown hK hh dX0_setPlace_27 ?_
    refine lv_iload_n hE.1 hE.2 dX0_setPlace_30 rfl (lv_at hl 1 rfl) ?_
    refine zv_iconst hE dX0_setPlace_31 ?_
    refine zv_half hE ⟨by omega, by omega⟩ dX0_setPlace_32 ?_
    refine lv_iload_n hE.1 hE.2 dX0_setPlace_33 rfl (lv_at hl 2 rfl) ?_
    refine sX_endAt hE hK hh ⟨by omega, by omega⟩ dX0_setPlace_34 (fun H locs hh => ?_)
    refine mc_retv (u := (ky, wt, sa, up_ ea (e1 / 2) pl, sm, up_ ln pl e1, fi, fk, fo, op, ni, ns, ev, cu, wa, fr, oo)) hE hr hlk hK hh dX0_setPlace_35 ?_
    first | exact Or.inl ⟨by omega, rfl⟩ | exact Or.inr ⟨by omega, rfl⟩
  · refine lv_aload_n hE.1 hE.2 dX0_setPlace_14 rfl (lv_at hl 0 rfl) ?_
    refine gX_startAt hE hX hown hK hh dX0_setPlace_15 ?_
    refine lv_iload_n hE.1 hE.2 dX0_setPlace_18 rfl (lv_at hl 1 rfl) ?_
    refine zv_iconst hE dX0_setPlace_19 ?_
    refine zv_half hE ⟨by omega, by omega⟩ dX0_setPlace_20 ?_
    refine lv_iload_n hE.1 hE.2 dX0_setPlace_21 rfl (lv_at hl 2 rfl) ?_
    refine sX_startAt hE hK hh ⟨by omega, by omega⟩ dX0_setPlace_22 (fun H locs hh => ?_)
    refine lv_goto (tgt := 35) hE.1 hE.2 dX0_setPlace_23 (by decide) ?_
    refine mc_retv (u := (ky, wt, up_ sa (e1 / 2) pl, ea, sm, up_ ln pl e1, fi, fk, fo, op, ni, ns, ev, cu, wa, fr, oo)) hE hr hlk hK hh dX0_setPlace_35 ?_
    first | exact Or.inl ⟨by omega, rfl⟩ | exact Or.inr ⟨by omega, rfl⟩
set_option maxHeartbeats 400000 in
set_option maxRecDepth 100000 in
theorem kX_forget (l : Launch) (dC : Nat → ClassId) (dI : Nat → Nat → Nat) (q : Nat → Nat) (cA : Nat → ClassId) (ky wt sa ea sm ln fi fk fo op : Int → Int) (ni ns ev cu wa fr oo : Int) (i : Int) (h0 : 0 ≤ i) (h1 : i < 600) (hs : zr_ (sa i)) (hm : sm i = 0 ∨ sm i = 1) : mc_v l (dC, dI) vwCl (tX_ cA) (wX_ q cA) yX0_forget wsX0_forget ({ frames := 1, cells := 0, slots := 0, locals := 40 }) (ky, wt, sa, ea, sm, ln, fi, fk, fo, op, ni, ns, ev, cu, wa, fr, oo) [.ref (q 0), .int (zi_ i)] (fun (u : SX_) => (sa i = -1 ∧ u = (ky, wt, sa, ea, sm, ln, fi, fk, fo, op, ni, ns, ev, cu, wa, fr, oo)) ∨ (sa i ≠ -1 ∧ u = (ky, wt, up_ sa i (-1), ea, sm, ln, fi, fk, fo, op, ni - 1, ns - sm i, ev, cu, wa - wt i, fr, oo))) := by
  refine mc_v_of (cc := cX0_forget) (maxL := 2) (ret := none) (by decide) rfl (Nat.le_of_ble_eq_true rfl) ?_
  intro p e s m below meth c A ls hE hml hown hts hr hlk hA hK hh hl
  have hown : s.vm.findClass RX0 = some m.cls := hown
  have hX : ∀ w ∈ wsX_, w.before _ s = true := fun w h => hts w (List.mem_cons_of_mem _ h)
  have hl : lv_has ls 2 [(0, .ref (q 0)), (1, .int (zi_ i))] := hl
  refine lv_aload_n hE.1 hE.2 dX0_forget_0 rfl (lv_at hl 0 rfl) ?_
  refine lv_iload_n hE.1 hE.2 dX0_forget_1 rfl (lv_at hl 1 rfl) ?_
  refine mc_call (rest := []) (As := [.int (zi_ i)]) hE hml hown hX hA hK hh (kX_isThere l dC dI q cA ky wt sa ea sm ln fi fk fo op ni ns ev cu wa fr oo i (by first | assumption | exact ⟨by omega, by omega⟩) (by first | assumption | (intros; exact ⟨by omega, by omega⟩))) (cwV 1 hX qX_isThere rfl rfl rfl (by decide +kernel) ⟨Nat.le_of_ble_eq_true rfl, Nat.le_of_ble_eq_true rfl⟩) rfl rfl hl.1 rfl (Nat.le_of_ble_eq_true rfl) dX0_forget_2 ⟨Nat.zero_le _, Nat.zero_le _⟩ rfl (fun z_2 u H locs hq_1 hh => ?_)
  obtain ⟨rfl, hq_1⟩ := hq_1
  refine zv_if_ne (tgt := 9) hE dX0_forget_5 (by decide) ⟨by omega, by omega⟩ (fun hc_3 => ?_) (fun hc_3 => ?_)
  · refine lv_aload_n hE.1 hE.2 dX0_forget_9 rfl (lv_at hl 0 rfl) ?_
    refine gX_staleMark hE hX hown hK hh dX0_forget_10 ?_
    refine lv_iload_n hE.1 hE.2 dX0_forget_13 rfl (lv_at hl 1 rfl) ?_
    refine rX_staleMark hE hK hh ⟨by omega, by omega⟩ dX0_forget_14 ?_
    refine zv_if_eq (tgt := 28) hE dX0_forget_15 (by decide) ⟨by omega, by omega⟩ (fun hc_4 => ?_) (fun hc_4 => ?_)
    · refine lv_aload_n hE.1 hE.2 dX0_forget_28 rfl (lv_at hl 0 rfl) ?_
      refine lv_dup hE.1 hE.2 dX0_forget_29 rfl ?_
      refine gX_weightInAll hE hX hown hK hh dX0_forget_30 ?_
      refine lv_aload_n hE.1 hE.2 dX0_forget_33 rfl (lv_at hl 0 rfl) ?_
      refine gX_weights hE hX hown hK hh dX0_forget_34 ?_
      refine lv_iload_n hE.1 hE.2 dX0_forget_37 rfl (lv_at hl 1 rfl) ?_
      refine rX_weights hE hK hh ⟨by omega, by omega⟩ dX0_forget_38 ?_
      refine zv_isub hE dX0_forget_39 ?_
      refine pX_weightInAll hE hX hown hK hh dX0_forget_40 (fun H locs hh => ?_)
      refine lv_aload_n hE.1 hE.2 dX0_forget_43 rfl (lv_at hl 0 rfl) ?_
      refine gX_startAt hE hX hown hK hh dX0_forget_44 ?_
      refine lv_iload_n hE.1 hE.2 dX0_forget_47 rfl (lv_at hl 1 rfl) ?_
      refine zv_iconst hE dX0_forget_48 ?_
      refine sX_startAt hE hK hh ⟨by omega, by omega⟩ dX0_forget_49 (fun H locs hh => ?_)
      refine lv_aload_n hE.1 hE.2 dX0_forget_50 rfl (lv_at hl 0 rfl) ?_
      refine lv_dup hE.1 hE.2 dX0_forget_51 rfl ?_
      refine gX_intervals hE hX hown hK hh dX0_forget_52 ?_
      refine zv_iconst hE dX0_forget_55 ?_
      refine zv_isub hE dX0_forget_56 ?_
      refine pX_intervals hE hX hown hK hh dX0_forget_57 (fun H locs hh => ?_)
      refine mc_retv (u := (ky, wt, up_ sa i (-1), ea, sm, ln, fi, fk, fo, op, ni - 1, ns, ev, cu, wa - (wt i), fr, oo)) hE hr hlk hK hh dX0_forget_60 ?_
      first | exact Or.inl ⟨by omega, rfl⟩ | exact Or.inr ⟨by omega, by rw [show sm i = 1 by omega]⟩ | exact Or.inr ⟨by omega, by rw [show sm i = 0 by omega, Int.sub_zero]⟩
    · refine lv_aload_n hE.1 hE.2 dX0_forget_18 rfl (lv_at hl 0 rfl) ?_
      refine lv_dup hE.1 hE.2 dX0_forget_19 rfl ?_
      refine gX_staleOnes hE hX hown hK hh dX0_forget_20 ?_
      refine zv_iconst hE dX0_forget_23 ?_
      refine zv_isub hE dX0_forget_24 ?_
      refine pX_staleOnes hE hX hown hK hh dX0_forget_25 (fun H locs hh => ?_)
      refine lv_aload_n hE.1 hE.2 dX0_forget_28 rfl (lv_at hl 0 rfl) ?_
      refine lv_dup hE.1 hE.2 dX0_forget_29 rfl ?_
      refine gX_weightInAll hE hX hown hK hh dX0_forget_30 ?_
      refine lv_aload_n hE.1 hE.2 dX0_forget_33 rfl (lv_at hl 0 rfl) ?_
      refine gX_weights hE hX hown hK hh dX0_forget_34 ?_
      refine lv_iload_n hE.1 hE.2 dX0_forget_37 rfl (lv_at hl 1 rfl) ?_
      refine rX_weights hE hK hh ⟨by omega, by omega⟩ dX0_forget_38 ?_
      refine zv_isub hE dX0_forget_39 ?_
      refine pX_weightInAll hE hX hown hK hh dX0_forget_40 (fun H locs hh => ?_)
      refine lv_aload_n hE.1 hE.2 dX0_forget_43 rfl (lv_at hl 0 rfl) ?_
      refine gX_startAt hE hX hown hK hh dX0_forget_44 ?_
      refine lv_iload_n hE.1 hE.2 dX0_forget_47 rfl (lv_at hl 1 rfl) ?_
      refine zv_iconst hE dX0_forget_48 ?_
      refine sX_startAt hE hK hh ⟨by omega, by omega⟩ dX0_forget_49 (fun H locs hh => ?_)
      refine lv_aload_n hE.1 hE.2 dX0_forget_50 rfl (lv_at hl 0 rfl) ?_
      refine lv_dup hE.1 hE.2 dX0_forget_51 rfl ?_
      refine gX_intervals hE hX hown hK hh dX0_forget_52 ?_
      refine zv_iconst hE dX0_forget_55 ?_
      refine zv_isub hE dX0_forget_56 ?_
      refine pX_intervals hE hX hown hK hh dX0_forget_57 (fun H locs hh => ?_)
      refine mc_retv (u := (ky, wt, up_ sa i (-1), ea, sm, ln, fi, fk, fo, op, ni - 1, ns - 1, ev, cu, wa - (wt i), fr, oo)) hE hr hlk hK hh dX0_forget_60 ?_
      first | exact Or.inl ⟨by omega, rfl⟩ | exact Or.inr ⟨by omega, by rw [show sm i = 1 by omega]⟩ | exact Or.inr ⟨by omega, by rw [show sm i = 0 by omega, Int.sub_zero]⟩
  · refine mc_retv (u := (ky, wt, sa, ea, sm, ln, fi, fk, fo, op, ni, ns, ev, cu, wa, fr, oo)) hE hr hlk hK hh dX0_forget_8 ?_
    first | exact Or.inl ⟨by omega, rfl⟩ | exact Or.inr ⟨by omega, by rw [show sm i = 1 by omega]⟩ | exact Or.inr ⟨by omega, by rw [show sm i = 0 by omega, Int.sub_zero]⟩
