set_option maxHeartbeats 400000 in
set_option maxRecDepth 100000 in
theorem kM_find (l : Launch) (dC : Nat → ClassId) (dI : Nat → Nat → Nat) (q : Nat → Nat) (cA : Nat → ClassId) (mt mq mw ms ml mf mx mo mi mg : Int → Int) (th mn mh ev cu fr oo : Int) (e1 : Int) (he0 : 0 ≤ ev) (he1 : ev ≤ 1200) (hme : ∀ k : Int, 0 ≤ k → k < ev → 0 ≤ ml k ∧ ml k < 1200) (hz : zr_ e1) : mc_i l (dC, dI) vwCl (tM_ cA) (wM_ q cA) yX1_find wsX1_find ({ frames := 0, cells := 0, slots := 0, locals := 0 }) (mt, mq, mw, ms, ml, mf, mx, mo, mi, mg, th, mn, mh, ev, cu, fr, oo) [.ref (q 0), .int (zi_ e1)] (fun (z : Int) (u : SM_) => u = (mt, mq, mw, ms, ml, mf, mx, mo, mi, mg, th, mn, mh, ev, cu, fr, oo) ∧ ((z = -1 ∧ ∀ k : Int, 0 ≤ k → k < ev → ml k ≠ e1) ∨ (0 ≤ z ∧ z < ev ∧ ml z = e1 ∧ ∀ k : Int, 0 ≤ k → k < z → ml k ≠ e1))) := by
  refine mc_i_of (cc := cX1_find) (maxL := 3) (ret := (some .int)) (by decide) rfl (Nat.le_of_ble_eq_true rfl) ?_
  intro p e s m below meth c A ls hE hml hown hts hr hlk hA hK hh hl
  have hown : s.vm.findClass RX1 = some m.cls := hown
  have hX : ∀ w ∈ wsM_, w.before _ s = true := fun w h => hts w (List.mem_cons_of_mem _ h)
  have hl : lv_has ls 3 [(0, .ref (q 0)), (1, .int (zi_ e1))] := hl
  have loop_2 : ∀ (n : Nat) (i : Int), (0 ≤ i) → (i ≤ ev) → (ev - i < (n : Int)) → (∀ k : Int, 0 ≤ k → k < i → ml k ≠ e1) → ∀ (H : Heap) (locs : List Loc), hp_ (dC, dI) vwCl A s.heap (wM_ q cA (mt, mq, mw, ms, ml, mf, mx, mo, mi, mg, th, mn, mh, ev, cu, fr, oo)) H locs → ∀ (ls : Array Slot), lv_has ls 3 [(2, .int (zi_ i)), (1, .int (zi_ e1)), (0, .ref (q 0))] → W p l e ({ frames := 0, cells := 0, slots := 0, locals := 0 }) s m ([.ref (q 0), .int (zi_ e1)] : List Value).toArray below meth c H locs 0 0 (MQ below (mc_Qi (dC, dI) vwCl (tM_ cA) (wM_ q cA) (fun (z : Int) (u : SM_) => u = (mt, mq, mw, ms, ml, mf, mx, mo, mi, mg, th, mn, mh, ev, cu, fr, oo) ∧ ((z = -1 ∧ ∀ k : Int, 0 ≤ k → k < ev → ml k ≠ e1) ∨ (0 ≤ z ∧ z < ev ∧ ml z = e1 ∧ ∀ k : Int, 0 ≤ k → k < z → ml k ≠ e1))) A) ([.ref (q 0), .int (zi_ e1)] : List Value).toArray s 0 0 A) (F0 m 2 ls []) := by
    intro n
    induction n with
    | zero => intros; exfalso; omega
    | succ n ih =>
      intro i h0 h1 hn hj H locs hh ls hl
      have hx : i < ev → 0 ≤ ml i ∧ ml i < 1200 := fun z => hme i h0 z
      refine lv_iload_n hE.1 hE.2 dX1_find_2 rfl (lv_at hl 0 rfl) ?_
      refine lv_aload_n hE.1 hE.2 dX1_find_3 rfl (lv_at hl 2 rfl) ?_
      refine gM_events hE hX hown hK hh dX1_find_4 ?_
      refine zv_icmp_ge (tgt := 28) hE dX1_find_7 (by decide) ⟨by omega, by omega⟩ ⟨by omega, by omega⟩ (fun hc_1 => ?_) (fun hc_1 => ?_)
      · refine zv_iconst hE dX1_find_28 ?_
        refine mc_ret (u := (mt, mq, mw, ms, ml, mf, mx, mo, mi, mg, th, mn, mh, ev, cu, fr, oo)) hE hr hlk hK hh dX1_find_29 ?_
        refine ⟨rfl, ?_⟩
        first | exact Or.inr ⟨by omega, by omega, by omega, hj⟩ | exact Or.inl ⟨by omega, fun k x y => hj k x (by omega)⟩
      · refine lv_aload_n hE.1 hE.2 dX1_find_10 rfl (lv_at hl 2 rfl) ?_
        refine gM_line hE hX hown hK hh dX1_find_11 ?_
        refine lv_iload_n hE.1 hE.2 dX1_find_14 rfl (lv_at hl 0 rfl) ?_
        refine rM_line hE hK hh ⟨by omega, by omega⟩ dX1_find_15 ?_
        refine lv_iload_n hE.1 hE.2 dX1_find_16 rfl (lv_at hl 1 rfl) ?_
        refine zv_icmp_ne (tgt := 22) hE dX1_find_17 (by decide) ⟨by omega, by omega⟩ ⟨by omega, by omega⟩ (fun hc_2 => ?_) (fun hc_2 => ?_)
        · refine zv_iinc (lv' := [(2, .int (zi_ (i + 1))), (1, .int (zi_ e1)), (0, .ref (q 0))]) hE dX1_find_22 hl (k := 0) rfl (by decide) rfl (fun ls hl => ?_)
          refine lv_goto (tgt := 2) hE.1 hE.2 dX1_find_25 (by decide) ?_
          exact ih (i + 1) (by omega) (by omega) (by omega) (fun k x y => if hq : k = i then (by rw [hq]; assumption) else hj k x (by omega)) _ _ hh ls (lv_sub hl [0, 1, 2] rfl)
        · refine lv_iload_n hE.1 hE.2 dX1_find_20 rfl (lv_at hl 0 rfl) ?_
          refine mc_ret (u := (mt, mq, mw, ms, ml, mf, mx, mo, mi, mg, th, mn, mh, ev, cu, fr, oo)) hE hr hlk hK hh dX1_find_21 ?_
          refine ⟨rfl, ?_⟩
          first | exact Or.inr ⟨by omega, by omega, by omega, hj⟩ | exact Or.inl ⟨by omega, fun k x y => hj k x (by omega)⟩
  refine zv_iconst hE dX1_find_0 ?_
  refine lv_istore_n (lv' := [(2, .int (zi_ 0)), (0, .ref (q 0)), (1, .int (zi_ e1))]) hE.1 hE.2 dX1_find_1 rfl hl (by decide) rfl (fun ls hl => ?_)
  exact loop_2 1300 0 (by omega) (by omega) (by omega) (fun k x y => by omega) _ _ hh ls (lv_sub hl [0, 2, 1] rfl)
set_option maxHeartbeats 400000 in
set_option maxRecDepth 100000 in
theorem kM_last (l : Launch) (dC : Nat → ClassId) (dI : Nat → Nat → Nat) (q : Nat → Nat) (cA : Nat → ClassId) (mt mq mw ms ml mf mx mo mi mg : Int → Int) (th mn mh ev cu fr oo : Int)  : mc_i l (dC, dI) vwCl (tM_ cA) (wM_ q cA) yX1_last wsX1_last ({ frames := 0, cells := 0, slots := 0, locals := 0 }) (mt, mq, mw, ms, ml, mf, mx, mo, mi, mg, th, mn, mh, ev, cu, fr, oo) [.ref (q 0)] (fun (z : Int) (u : SM_) => u = (mt, mq, mw, ms, ml, mf, mx, mo, mi, mg, th, mn, mh, ev, cu, fr, oo) ∧ z = fr - 1) := by
  refine mc_i_of (cc := cX1_last) (maxL := 1) (ret := (some .int)) (by decide) rfl (Nat.le_of_ble_eq_true rfl) ?_
  intro p e s m below meth c A ls hE hml hown hts hr hlk hA hK hh hl
  have hown : s.vm.findClass RX1 = some m.cls := hown
  have hX : ∀ w ∈ wsM_, w.before _ s = true := fun w h => hts w (List.mem_cons_of_mem _ h)
  have hl : lv_has ls 1 [(0, .ref (q 0))] := hl
  refine lv_aload_n hE.1 hE.2 dX1_last_0 rfl (lv_at hl 0 rfl) ?_
  refine gM_frames hE hX hown hK hh dX1_last_1 ?_
  refine zv_iconst hE dX1_last_4 ?_
  refine zv_isub hE dX1_last_5 ?_
  refine mc_ret (u := (mt, mq, mw, ms, ml, mf, mx, mo, mi, mg, th, mn, mh, ev, cu, fr, oo)) hE hr hlk hK hh dX1_last_6 ?_
  exact ⟨rfl, rfl⟩
set_option maxHeartbeats 400000 in
set_option maxRecDepth 100000 in
theorem kM_thrown (l : Launch) (dC : Nat → ClassId) (dI : Nat → Nat → Nat) (q : Nat → Nat) (cA : Nat → ClassId) (mt mq mw ms ml mf mx mo mi mg : Int → Int) (th mn mh ev cu fr oo : Int)  : mc_i l (dC, dI) vwCl (tM_ cA) (wM_ q cA) yX1_thrown wsX1_thrown ({ frames := 0, cells := 0, slots := 0, locals := 0 }) (mt, mq, mw, ms, ml, mf, mx, mo, mi, mg, th, mn, mh, ev, cu, fr, oo) [.ref (q 0)] (fun (z : Int) (u : SM_) => u = (mt, mq, mw, ms, ml, mf, mx, mo, mi, mg, th, mn, mh, ev, cu, fr, oo) ∧ z = th) := by
  refine mc_i_of (cc := cX1_thrown) (maxL := 1) (ret := (some .int)) (by decide) rfl (Nat.le_of_ble_eq_true rfl) ?_
  intro p e s m below meth c A ls hE hml hown hts hr hlk hA hK hh hl
  have hown : s.vm.findClass RX1 = some m.cls := hown
  have hX : ∀ w ∈ wsM_, w.before _ s = true := fun w h => hts w (List.mem_cons_of_mem _ h)
  have hl : lv_has ls 1 [(0, .ref (q 0))] := hl
  refine lv_aload_n hE.1 hE.2 dX1_thrown_0 rfl (lv_at hl 0 rfl) ?_
  refine gM_thrown hE hX hown hK hh dX1_thrown_1 ?_
  refine mc_ret (u := (mt, mq, mw, ms, ml, mf, mx, mo, mi, mg, th, mn, mh, ev, cu, fr, oo)) hE hr hlk hK hh dX1_thrown_4 ?_
  exact ⟨rfl, rfl⟩
set_option maxHeartbeats 400000 in
set_option maxRecDepth 100000 in
theorem kM_put (l : Launch) (dC : Nat → ClassId) (dI : Nat → Nat → Nat) (q : Nat → Nat) (cA : Nat → ClassId) (mt mq mw ms ml mf mx mo mi mg : Int → Int) (th mn mh ev cu fr oo : Int) (e1 : Int) (h0 : 0 ≤ cu) (h1 : cu ≤ ev) (h2 : ev < 1200) : mc_v l (dC, dI) vwCl (tM_ cA) (wM_ q cA) yX1_put wsX1_put ({ frames := 0, cells := 0, slots := 0, locals := 0 }) (mt, mq, mw, ms, ml, mf, mx, mo, mi, mg, th, mn, mh, ev, cu, fr, oo) [.ref (q 0), .int (zi_ e1)] (fun (u : SM_) => ∃ ml1 : Int → Int, mp_ ml ev cu ml1 ∧ u = (mt, mq, mw, ms, up_ ml1 cu e1, mf, mx, mo, mi, mg, th, mn, mh, ev + 1, cu + 1, fr, oo)) := by
  refine mc_v_of (cc := cX1_put) (maxL := 3) (ret := none) (by decide) rfl (Nat.le_of_ble_eq_true rfl) ?_
  intro p e s m below meth c A ls hE hml hown hts hr hlk hA hK hh hl
  have hown : s.vm.findClass RX1 = some m.cls := hown
  have hX : ∀ w ∈ wsM_, w.before _ s = true := fun w h => hts w (List.mem_cons_of_mem _ h)
  have hl : lv_has ls 3 [(0, .ref (q 0)), (1, .int (zi_ e1))] := hl
  have loop_5 : ∀ (n : Nat) (pl : Int) (ml1 : Int → Int), (cu ≤ pl) → (pl ≤ ev) → (pl - cu < (n : Int)) → (mp_ ml ev pl ml1) → ∀ (H : Heap) (locs : List Loc), hp_ (dC, dI) vwCl A s.heap (wM_ q cA (mt, mq, mw, ms, ml1, mf, mx, mo, mi, mg, th, mn, mh, ev, cu, fr, oo)) H locs → ∀ (ls : Array Slot), lv_has ls 3 [(2, .int (zi_ pl)), (1, .int (zi_ e1)), (0, .ref (q 0))] → W p l e ({ frames := 0, cells := 0, slots := 0, locals := 0 }) s m ([.ref (q 0), .int (zi_ e1)] : List Value).toArray below meth c H locs 0 0 (MQ below (mc_Qv (dC, dI) vwCl (tM_ cA) (wM_ q cA) (fun (u : SM_) => ∃ ml1 : Int → Int, mp_ ml ev cu ml1 ∧ u = (mt, mq, mw, ms, up_ ml1 cu e1, mf, mx, mo, mi, mg, th, mn, mh, ev + 1, cu + 1, fr, oo)) A) ([.ref (q 0), .int (zi_ e1)] : List Value).toArray s 0 0 A) (F0 m 5 ls []) := by
    intro n
    induction n with
    | zero => intros; exfalso; omega
    | succ n ih =>
      intro pl ml1 g0 g1 hn hmp H locs hh ls hl
      refine lv_iload_n hE.1 hE.2 dX1_put_5 rfl (lv_at hl 0 rfl) ?_
      refine lv_aload_n hE.1 hE.2 dX1_put_6 rfl (lv_at hl 2 rfl) ?_
      refine gM_cursor hE hX hown hK hh dX1_put_7 ?_
      refine zv_icmp_le (tgt := 33) hE dX1_put_10 (by decide) ⟨by omega, by omega⟩ ⟨by omega, by omega⟩ (fun hc_1 => ?_) (fun hc_1 => ?_)
      · refine lv_aload_n hE.1 hE.2 dX1_put_33 rfl (lv_at hl 2 rfl) ?_
        refine gM_line hE hX hown hK hh dX1_put_34 ?_
        refine lv_aload_n hE.1 hE.2 dX1_put_37 rfl (lv_at hl 2 rfl) ?_
        refine gM_cursor hE hX hown hK hh dX1_put_38 ?_
        refine lv_iload_n hE.1 hE.2 dX1_put_41 rfl (lv_at hl 1 rfl) ?_
        refine sM_line hE hK hh ⟨by omega, by omega⟩ dX1_put_42 (fun H locs hh => ?_)
        refine lv_aload_n hE.1 hE.2 dX1_put_43 rfl (lv_at hl 2 rfl) ?_
        refine lv_dup hE.1 hE.2 dX1_put_44 rfl ?_
        refine gM_events hE hX hown hK hh dX1_put_45 ?_
        refine zv_iconst hE dX1_put_48 ?_
        refine zv_iadd hE dX1_put_49 ?_
        refine pM_events hE hX hown hK hh dX1_put_50 (fun H locs hh => ?_)
        refine lv_aload_n hE.1 hE.2 dX1_put_53 rfl (lv_at hl 2 rfl) ?_
        refine lv_dup hE.1 hE.2 dX1_put_54 rfl ?_
        refine gM_cursor hE hX hown hK hh dX1_put_55 ?_
        refine zv_iconst hE dX1_put_58 ?_
        refine zv_iadd hE dX1_put_59 ?_
        refine pM_cursor hE hX hown hK hh dX1_put_60 (fun H locs hh => ?_)
        refine mc_retv (u := (mt, mq, mw, ms, up_ ml1 cu e1, mf, mx, mo, mi, mg, th, mn, mh, ev + 1, cu + 1, fr, oo)) hE hr hlk hK hh dX1_put_63 ?_
        exact ⟨ml1, (show pl = cu by omega) ▸ hmp, rfl⟩
      · refine lv_aload_n hE.1 hE.2 dX1_put_13 rfl (lv_at hl 2 rfl) ?_
        refine gM_line hE hX hown hK hh dX1_put_14 ?_
        refine lv_iload_n hE.1 hE.2 dX1_put_17 rfl (lv_at hl 0 rfl) ?_
        refine lv_aload_n hE.1 hE.2 dX1_put_18 rfl (lv_at hl 2 rfl) ?_
        refine gM_line hE hX hown hK hh dX1_put_19 ?_
        refine lv_iload_n hE.1 hE.2 dX1_put_22 rfl (lv_at hl 0 rfl) ?_
        refine zv_iconst hE dX1_put_23 ?_
        refine zv_isub hE dX1_put_24 ?_
        refine rM_line hE hK hh ⟨by omega, by omega⟩ dX1_put_25 ?_
        refine sM_line hE hK hh ⟨by omega, by omega⟩ dX1_put_26 (fun H locs hh => ?_)
        refine zv_iinc (lv' := [(2, .int (zi_ (pl + (-1)))), (1, .int (zi_ e1)), (0, .ref (q 0))]) hE dX1_put_27 hl (k := 0) rfl (by decide) rfl (fun ls hl => ?_)
        refine lv_goto (tgt := 5) hE.1 hE.2 dX1_put_30 (by decide) ?_
        exact ih (pl - 1) (up_ ml1 pl (ml1 (pl - 1))) (by omega) (by omega) (by omega) (mp_s hmp (by omega)) _ _ hh ls (lv_sub hl [0, 1, 2] rfl)
  refine lv_aload_n hE.1 hE.2 dX1_put_0 rfl (lv_at hl 0 rfl) ?_
  refine gM_events hE hX hown hK hh dX1_put_1 ?_
  refine lv_istore_n (lv' := [(2, .int (zi_ ev)), (0, .ref (q 0)), (1, .int (zi_ e1))]) hE.1 hE.2 dX1_put_4 rfl hl (by decide) rfl (fun ls hl => ?_)
  exact loop_5 1300 ev ml (by omega) (by omega) (by omega) mp_0 _ _ hh ls (lv_sub hl [0, 2, 1] rfl)
set_option maxHeartbeats 400000 in
set_option maxRecDepth 100000 in
theorem kM_isThere (l : Launch) (dC : Nat → ClassId) (dI : Nat → Nat → Nat) (q : Nat → Nat) (cA : Nat → ClassId) (mt mq mw ms ml mf mx mo mi mg : Int → Int) (th mn mh ev cu fr oo : Int) (i : Int) (sa : Int → Int) (hz : zr_ i) (hb : mt_ mt sa) : mc_i l (dC, dI) vwCl (tM_ cA) (wM_ q cA) yX1_isThere wsX1_isThere ({ frames := 0, cells := 0, slots := 0, locals := 0 }) (mt, mq, mw, ms, ml, mf, mx, mo, mi, mg, th, mn, mh, ev, cu, fr, oo) [.ref (q 0), .int (zi_ i)] (fun (z : Int) (u : SM_) => u = (mt, mq, mw, ms, ml, mf, mx, mo, mi, mg, th, mn, mh, ev, cu, fr, oo) ∧ (0 ≤ i ∧ i < 600 ∧ sa i ≠ -1 → z = 1) ∧ (i < 0 ∨ 600 ≤ i ∨ sa i = -1 → z = 0)) := by
  refine mc_i_of (cc := cX1_isThere) (maxL := 2) (ret := (some .boolean)) (by decide) rfl (Nat.le_of_ble_eq_true rfl) ?_
  intro p e s m below meth c A ls hE hml hown hts hr hlk hA hK hh hl
  have hown : s.vm.findClass RX1 = some m.cls := hown
  have hX : ∀ w ∈ wsM_, w.before _ s = true := fun w h => hts w (List.mem_cons_of_mem _ h)
  have hl : lv_has ls 2 [(0, .ref (q 0)), (1, .int (zi_ i))] := hl
  refine lv_iload_n hE.1 hE.2 dX1_isThere_0 rfl (lv_at hl 1 rfl) ?_
  refine zv_if_lt (tgt := 24) hE dX1_isThere_1 (by decide) ⟨by omega, by omega⟩ (fun hc_1 => ?_) (fun hc_1 => ?_)
  · refine zv_iconst hE dX1_isThere_24 ?_
    refine mc_retz (u := (mt, mq, mw, ms, ml, mf, mx, mo, mi, mg, th, mn, mh, ev, cu, fr, oo)) hE hr hlk hK hh dX1_isThere_25 (by first | exact Or.inl rfl | exact Or.inr rfl | assumption) ?_
    exact ⟨rfl, by omega, by omega⟩
  · refine lv_iload_n hE.1 hE.2 dX1_isThere_4 rfl (lv_at hl 1 rfl) ?_
    refine zv_sipush hE dX1_isThere_5 (by decide) ?_
    refine zv_icmp_ge (tgt := 24) hE dX1_isThere_8 (by decide) ⟨by omega, by omega⟩ ⟨by omega, by omega⟩ (fun hc_2 => ?_) (fun hc_2 => ?_)
    · refine zv_iconst hE dX1_isThere_24 ?_
      refine mc_retz (u := (mt, mq, mw, ms, ml, mf, mx, mo, mi, mg, th, mn, mh, ev, cu, fr, oo)) hE hr hlk hK hh dX1_isThere_25 (by first | exact Or.inl rfl | exact Or.inr rfl | assumption) ?_
      exact ⟨rfl, by omega, by omega⟩
    · refine lv_aload_n hE.1 hE.2 dX1_isThere_11 rfl (lv_at hl 0 rfl) ?_
      refine gM_there hE hX hown hK hh dX1_isThere_12 ?_
      refine lv_iload_n hE.1 hE.2 dX1_isThere_15 rfl (lv_at hl 1 rfl) ?_
      have hb1 := hb i (by omega) (by omega)
      refine rM_there hE hK hh ⟨by omega, by omega⟩ dX1_isThere_16 ?_
      refine zv_if_eq (tgt := 24) hE dX1_isThere_17 (by decide) ⟨by omega, by omega⟩ (fun hc_3 => ?_) (fun hc_3 => ?_)
      · refine zv_iconst hE dX1_isThere_24 ?_
        refine mc_retz (u := (mt, mq, mw, ms, ml, mf, mx, mo, mi, mg, th, mn, mh, ev, cu, fr, oo)) hE hr hlk hK hh dX1_isThere_25 (by first | exact Or.inl rfl | exact Or.inr rfl | assumption) ?_
        exact ⟨rfl, by omega, by omega⟩
      · refine zv_iconst hE dX1_isThere_20 ?_
        refine lv_goto (tgt := 25) hE.1 hE.2 dX1_isThere_21 (by decide) ?_
        refine mc_retz (u := (mt, mq, mw, ms, ml, mf, mx, mo, mi, mg, th, mn, mh, ev, cu, fr, oo)) hE hr hlk hK hh dX1_isThere_25 (by first | exact Or.inl rfl | exact Or.inr rfl | assumption) ?_
        exact ⟨rfl, by omega, by omega⟩
set_option maxHeartbeats 400000 in
set_option maxRecDepth 100000 in
theorem kM_isEnded (l : Launch) (dC : Nat → ClassId) (dI : Nat → Nat → Nat) (q : Nat → Nat) (cA : Nat → ClassId) (mt mq mw ms ml mf mx mo mi mg : Int → Int) (th mn mh ev cu fr oo : Int) (i : Int) (sa ea : Int → Int) (hw : pw_ sa ea ml ev) (h0 : 0 ≤ i) (h1 : i < 600) (hs : sa i ≠ -1) : mc_i l (dC, dI) vwCl (tM_ cA) (wM_ q cA) yX1_isEnded wsX1_isEnded ({ frames := 1, cells := 0, slots := 0, locals := 40 }) (mt, mq, mw, ms, ml, mf, mx, mo, mi, mg, th, mn, mh, ev, cu, fr, oo) [.ref (q 0), .int (zi_ i)] (fun (z : Int) (u : SM_) => u = (mt, mq, mw, ms, ml, mf, mx, mo, mi, mg, th, mn, mh, ev, cu, fr, oo) ∧ (ea i ≠ -1 → z = 1) ∧ (ea i = -1 → z = 0)) := by
  refine mc_i_of (cc := cX1_isEnded) (maxL := 2) (ret := (some .boolean)) (by decide) rfl (Nat.le_of_ble_eq_true rfl) ?_
  intro p e s m below meth c A ls hE hml hown hts hr hlk hA hK hh hl
  have hown : s.vm.findClass RX1 = some m.cls := hown
  have hX : ∀ w ∈ wsM_, w.before _ s = true := fun w h => hts w (List.mem_cons_of_mem _ h)
  have hl : lv_has ls 2 [(0, .ref (q 0)), (1, .int (zi_ i))] := hl
  have w1 := hw.1
  have w2 := hw.2.1 i h0 h1
  have w3 := hw.2.2.1 i h0 h1 hs
  refine lv_aload_n hE.1 hE.2 dX1_isEnded_0 rfl (lv_at hl 0 rfl) ?_
  refine zv_iconst hE dX1_isEnded_1 ?_
  refine lv_iload_n hE.1 hE.2 dX1_isEnded_2 rfl (lv_at hl 1 rfl) ?_
  refine zv_imul hE dX1_isEnded_3 ?_
  refine zv_iconst hE dX1_isEnded_4 ?_
  refine zv_iadd hE dX1_isEnded_5 ?_
  refine mc_call (rest := []) (As := [.int (zi_ ((2 * i) + 1))]) hE hml hown hX hA hK hh (kM_find l dC dI q cA mt mq mw ms ml mf mx mo mi mg th mn mh ev cu fr oo ((2 * i) + 1) (hw.1.1) (hw.1.2) (fun k x y => ⟨(hw.2.2.2 k x y).1, (hw.2.2.2 k x y).2.1⟩) (by exact ⟨by omega, by omega⟩)) (cwV 1 hX qM_find rfl rfl rfl (by decide +kernel) ⟨Nat.le_of_ble_eq_true rfl, Nat.le_of_ble_eq_true rfl⟩) rfl rfl hl.1 rfl (Nat.le_of_ble_eq_true rfl) dX1_isEnded_6 ⟨Nat.zero_le _, Nat.zero_le _⟩ rfl (fun z_2 u H locs hq_1 hh => ?_)
  obtain ⟨rfl, hq_1⟩ := hq_1
  obtain rfl := fd_e hw (by omega) (by omega) (by first | assumption | omega) hq_1
  refine zv_if_lt (tgt := 16) hE dX1_isEnded_9 (by decide) ⟨by omega, by omega⟩ (fun hc_3 => ?_) (fun hc_3 => ?_)
  · refine zv_iconst hE dX1_isEnded_16 ?_
    refine mc_retz (u := (mt, mq, mw, ms, ml, mf, mx, mo, mi, mg, th, mn, mh, ev, cu, fr, oo)) hE hr hlk hK hh dX1_isEnded_17 (by first | exact Or.inl rfl | exact Or.inr rfl | assumption) ?_
    exact ⟨rfl, by omega, by omega⟩
  · refine zv_iconst hE dX1_isEnded_12 ?_
    refine lv_goto (tgt := 17) hE.1 hE.2 dX1_isEnded_13 (by decide) ?_
    refine mc_retz (u := (mt, mq, mw, ms, ml, mf, mx, mo, mi, mg, th, mn, mh, ev, cu, fr, oo)) hE hr hlk hK hh dX1_isEnded_17 (by first | exact Or.inl rfl | exact Or.inr rfl | assumption) ?_
    exact ⟨rfl, by omega, by omega⟩
set_option maxHeartbeats 400000 in
set_option maxRecDepth 100000 in
theorem kM_endOf (l : Launch) (dC : Nat → ClassId) (dI : Nat → Nat → Nat) (q : Nat → Nat) (cA : Nat → ClassId) (mt mq mw ms ml mf mx mo mi mg : Int → Int) (th mn mh ev cu fr oo : Int) (i : Int) (sa ea : Int → Int) (hw : pw_ sa ea ml ev) (h0 : 0 ≤ i) (h1 : i < 600) (hs : sa i ≠ -1) : mc_i l (dC, dI) vwCl (tM_ cA) (wM_ q cA) yX1_endOf wsX1_endOf ({ frames := 1, cells := 0, slots := 0, locals := 40 }) (mt, mq, mw, ms, ml, mf, mx, mo, mi, mg, th, mn, mh, ev, cu, fr, oo) [.ref (q 0), .int (zi_ i)] (fun (z : Int) (u : SM_) => u = (mt, mq, mw, ms, ml, mf, mx, mo, mi, mg, th, mn, mh, ev, cu, fr, oo) ∧ z = ut_ ea ev i) := by
  refine mc_i_of (cc := cX1_endOf) (maxL := 3) (ret := (some .int)) (by decide) rfl (Nat.le_of_ble_eq_true rfl) ?_
  intro p e s m below meth c A ls hE hml hown hts hr hlk hA hK hh hl
  have hown : s.vm.findClass RX1 = some m.cls := hown
  have hX : ∀ w ∈ wsM_, w.before _ s = true := fun w h => hts w (List.mem_cons_of_mem _ h)
  have hl : lv_has ls 3 [(0, .ref (q 0)), (1, .int (zi_ i))] := hl
  have w1 := hw.1
  have w2 := hw.2.1 i h0 h1
  have w3 := hw.2.2.1 i h0 h1 hs
  refine lv_aload_n hE.1 hE.2 dX1_endOf_0 rfl (lv_at hl 0 rfl) ?_
  refine zv_iconst hE dX1_endOf_1 ?_
  refine lv_iload_n hE.1 hE.2 dX1_endOf_2 rfl (lv_at hl 1 rfl) ?_
  refine zv_imul hE dX1_endOf_3 ?_
  refine zv_iconst hE dX1_endOf_4 ?_
  refine zv_iadd hE dX1_endOf_5 ?_
  refine mc_call (rest := []) (As := [.int (zi_ ((2 * i) + 1))]) hE hml hown hX hA hK hh (kM_find l dC dI q cA mt mq mw ms ml mf mx mo mi mg th mn mh ev cu fr oo ((2 * i) + 1) (hw.1.1) (hw.1.2) (fun k x y => ⟨(hw.2.2.2 k x y).1, (hw.2.2.2 k x y).2.1⟩) (by exact ⟨by omega, by omega⟩)) (cwV 1 hX qM_find rfl rfl rfl (by decide +kernel) ⟨Nat.le_of_ble_eq_true rfl, Nat.le_of_ble_eq_true rfl⟩) rfl rfl hl.1 rfl (Nat.le_of_ble_eq_true rfl) dX1_endOf_6 ⟨Nat.zero_le _, Nat.zero_le _⟩ rfl (fun z_2 u H locs hq_1 hh => ?_)
  obtain ⟨rfl, hq_1⟩ := hq_1
  obtain rfl := fd_e hw (by omega) (by omega) (by first | assumption | omega) hq_1
  refine lv_istore_n (lv' := [(2, .int (zi_ (ea i))), (0, .ref (q 0)), (1, .int (zi_ i))]) hE.1 hE.2 dX1_endOf_9 rfl hl (by decide) rfl (fun ls hl => ?_)
  refine lv_iload_n hE.1 hE.2 dX1_endOf_10 rfl (lv_at hl 0 rfl) ?_
  refine zv_if_ge (tgt := 21) hE dX1_endOf_11 (by decide) ⟨by omega, by omega⟩ (fun hc_3 => ?_) (fun hc_3 => ?_)
  · refine lv_iload_n hE.1 hE.2 dX1_endOf_21 rfl (lv_at hl 0 rfl) ?_
    refine mc_ret (u := (mt, mq, mw, ms, ml, mf, mx, mo, mi, mg, th, mn, mh, ev, cu, fr, oo)) hE hr hlk hK hh dX1_endOf_22 ?_
    exact ⟨rfl, by unfold ut_; first | rw [if_pos (by omega)] | rw [if_neg (by omega)]⟩
  · refine lv_aload_n hE.1 hE.2 dX1_endOf_14 rfl (lv_at hl 1 rfl) ?_
    refine gM_events hE hX hown hK hh dX1_endOf_15 ?_
    refine lv_goto (tgt := 22) hE.1 hE.2 dX1_endOf_18 (by decide) ?_
    refine mc_ret (u := (mt, mq, mw, ms, ml, mf, mx, mo, mi, mg, th, mn, mh, ev, cu, fr, oo)) hE hr hlk hK hh dX1_endOf_22 ?_
    exact ⟨rfl, by unfold ut_; first | rw [if_pos (by omega)] | rw [if_neg (by omega)]⟩
set_option maxHeartbeats 400000 in
set_option maxRecDepth 100000 in
theorem kM_limit (l : Launch) (dC : Nat → ClassId) (dI : Nat → Nat → Nat) (q : Nat → Nat) (cA : Nat → ClassId) (mt mq mw ms ml mf mx mo mi mg : Int → Int) (th mn mh ev cu fr oo : Int) (sa ea : Int → Int) (hw : pw_ sa ea ml ev) (hf1 : 1 ≤ fr) (hf2 : fr ≤ 64) (hm0 : fr = 1 → mf (fr - 1) = -1) (hm1 : 1 < fr → 0 ≤ mf (fr - 1) ∧ mf (fr - 1) < 600 ∧ sa (mf (fr - 1)) ≠ -1) : mc_i l (dC, dI) vwCl (tM_ cA) (wM_ q cA) yX1_limit wsX1_limit ({ frames := 1, cells := 0, slots := 0, locals := 40 }) (mt, mq, mw, ms, ml, mf, mx, mo, mi, mg, th, mn, mh, ev, cu, fr, oo) [.ref (q 0)] (fun (z : Int) (u : SM_) => u = (mt, mq, mw, ms, ml, mf, mx, mo, mi, mg, th, mn, mh, ev, cu, fr, oo) ∧ z = lm_ mf ea ev fr) := by
  refine mc_i_of (cc := cX1_limit) (maxL := 1) (ret := (some .int)) (by decide) rfl (Nat.le_of_ble_eq_true rfl) ?_
  intro p e s m below meth c A ls hE hml hown hts hr hlk hA hK hh hl
  have hown : s.vm.findClass RX1 = some m.cls := hown
  have hX : ∀ w ∈ wsM_, w.before _ s = true := fun w h => hts w (List.mem_cons_of_mem _ h)
  have hl : lv_has ls 1 [(0, .ref (q 0))] := hl
  refine lv_aload_n hE.1 hE.2 dX1_limit_0 rfl (lv_at hl 0 rfl) ?_
  refine gM_frames hE hX hown hK hh dX1_limit_1 ?_
  refine zv_iconst hE dX1_limit_4 ?_
  refine zv_icmp_ne (tgt := 15) hE dX1_limit_5 (by decide) ⟨by omega, by omega⟩ ⟨by omega, by omega⟩ (fun hc_1 => ?_) (fun hc_1 => ?_)
  · refine lv_aload_n hE.1 hE.2 dX1_limit_15 rfl (lv_at hl 0 rfl) ?_
    refine zv_iconst hE dX1_limit_16 ?_
    refine lv_aload_n hE.1 hE.2 dX1_limit_17 rfl (lv_at hl 0 rfl) ?_
    refine gM_frameOf hE hX hown hK hh dX1_limit_18 ?_
    refine lv_aload_n hE.1 hE.2 dX1_limit_21 rfl (lv_at hl 0 rfl) ?_
    refine mc_call (rest := [.ref (q 6), .int (zi_ 2), .ref (q 0)]) (As := []) hE hml hown hX hA hK hh (kM_last l dC dI q cA mt mq mw ms ml mf mx mo mi mg th mn mh ev cu fr oo) (cwV 0 hX qM_last rfl rfl rfl (by decide +kernel) ⟨Nat.le_of_ble_eq_true rfl, Nat.le_of_ble_eq_true rfl⟩) rfl rfl hl.1 rfl (Nat.le_of_ble_eq_true rfl) dX1_limit_22 ⟨Nat.zero_le _, Nat.zero_le _⟩ rfl (fun z_3 u H locs hq_2 hh => ?_)
    obtain ⟨rfl, rfl⟩ := hq_2
    have hm2 := hm1 (by omega)
    have hm3 := hm2.2.2
    refine rM_frameOf hE hK hh ⟨by omega, by omega⟩ dX1_limit_25 ?_
    refine zv_imul hE dX1_limit_26 ?_
    refine zv_iconst hE dX1_limit_27 ?_
    refine zv_iadd hE dX1_limit_28 ?_
    refine mc_call (rest := []) (As := [.int (zi_ ((2 * (mf (fr - 1))) + 1))]) hE hml hown hX hA hK hh (kM_find l dC dI q cA mt mq mw ms ml mf mx mo mi mg th mn mh ev cu fr oo ((2 * (mf (fr - 1))) + 1) (hw.1.1) (hw.1.2) (fun k x y => ⟨(hw.2.2.2 k x y).1, (hw.2.2.2 k x y).2.1⟩) (by exact ⟨by omega, by omega⟩)) (cwV 1 hX qM_find rfl rfl rfl (by decide +kernel) ⟨Nat.le_of_ble_eq_true rfl, Nat.le_of_ble_eq_true rfl⟩) rfl rfl hl.1 rfl (Nat.le_of_ble_eq_true rfl) dX1_limit_29 ⟨Nat.zero_le _, Nat.zero_le _⟩ rfl (fun z_5 u H locs hq_4 hh => ?_)
    obtain ⟨rfl, hq_4⟩ := hq_4
    obtain rfl := fd_e hw (by omega) (by omega) (by first | assumption | omega) hq_4
    refine mc_ret (u := (mt, mq, mw, ms, ml, mf, mx, mo, mi, mg, th, mn, mh, ev, cu, fr, oo)) hE hr hlk hK hh dX1_limit_32 ?_
    exact ⟨rfl, by unfold lm_; first | rw [if_pos (by omega)] | rw [if_neg (by omega)]⟩
  · refine lv_aload_n hE.1 hE.2 dX1_limit_8 rfl (lv_at hl 0 rfl) ?_
    refine gM_events hE hX hown hK hh dX1_limit_9 ?_
    refine lv_goto (tgt := 32) hE.1 hE.2 dX1_limit_12 (by decide) ?_
    refine mc_ret (u := (mt, mq, mw, ms, ml, mf, mx, mo, mi, mg, th, mn, mh, ev, cu, fr, oo)) hE hr hlk hK hh dX1_limit_32 ?_
    exact ⟨rfl, by unfold lm_; first | rw [if_pos (by omega)] | rw [if_neg (by omega)]⟩
set_option maxHeartbeats 400000 in
set_option maxRecDepth 100000 in
theorem kM_isAhead (l : Launch) (dC : Nat → ClassId) (dI : Nat → Nat → Nat) (q : Nat → Nat) (cA : Nat → ClassId) (mt mq mw ms ml mf mx mo mi mg : Int → Int) (th mn mh ev cu fr oo : Int) (pl : Int) (sa ea : Int → Int) (hw : pw_ sa ea ml ev) (hf1 : 1 ≤ fr) (hf2 : fr ≤ 64) (hm0 : fr = 1 → mf (fr - 1) = -1) (hm1 : 1 < fr → 0 ≤ mf (fr - 1) ∧ mf (fr - 1) < 600 ∧ sa (mf (fr - 1)) ≠ -1) (hz : zr_ pl) (hc : zr_ cu) (hlz : zr_ (lm_ mf ea ev fr)) : mc_i l (dC, dI) vwCl (tM_ cA) (wM_ q cA) yX1_isAhead wsX1_isAhead ({ frames := 2, cells := 0, slots := 0, locals := 80 }) (mt, mq, mw, ms, ml, mf, mx, mo, mi, mg, th, mn, mh, ev, cu, fr, oo) [.ref (q 0), .int (zi_ pl)] (fun (z : Int) (u : SM_) => u = (mt, mq, mw, ms, ml, mf, mx, mo, mi, mg, th, mn, mh, ev, cu, fr, oo) ∧ (cu ≤ pl ∧ pl < (lm_ mf ea ev fr) → z = 1) ∧ (pl < cu ∨ (lm_ mf ea ev fr) ≤ pl → z = 0)) := by
  refine mc_i_of (cc := cX1_isAhead) (maxL := 2) (ret := (some .boolean)) (by decide) rfl (Nat.le_of_ble_eq_true rfl) ?_
  intro p e s m below meth c A ls hE hml hown hts hr hlk hA hK hh hl
  have hown : s.vm.findClass RX1 = some m.cls := hown
  have hX : ∀ w ∈ wsM_, w.before _ s = true := fun w h => hts w (List.mem_cons_of_mem _ h)
  have hl : lv_has ls 2 [(0, .ref (q 0)), (1, .int (zi_ pl))] := hl
  refine lv_iload_n hE.1 hE.2 dX1_isAhead_0 rfl (lv_at hl 1 rfl) ?_
  refine lv_aload_n hE.1 hE.2 dX1_isAhead_1 rfl (lv_at hl 0 rfl) ?_
  refine gM_cursor hE hX hown hK hh dX1_isAhead_2 ?_
  refine zv_icmp_lt (tgt := 20) hE dX1_isAhead_5 (by decide) ⟨by omega, by omega⟩ ⟨by omega, by omega⟩ (fun hc_1 => ?_) (fun hc_1 => ?_)
  · refine zv_iconst hE dX1_isAhead_20 ?_
    refine mc_retz (u := (mt, mq, mw, ms, ml, mf, mx, mo, mi, mg, th, mn, mh, ev, cu, fr, oo)) hE hr hlk hK hh dX1_isAhead_21 (by first | exact Or.inl rfl | exact Or.inr rfl | assumption) ?_
    exact ⟨rfl, by omega, by omega⟩
  · refine lv_iload_n hE.1 hE.2 dX1_isAhead_8 rfl (lv_at hl 1 rfl) ?_
    refine lv_aload_n hE.1 hE.2 dX1_isAhead_9 rfl (lv_at hl 0 rfl) ?_
    refine mc_call (rest := [.int (zi_ pl)]) (As := []) hE hml hown hX hA hK hh (kM_limit l dC dI q cA mt mq mw ms ml mf mx mo mi mg th mn mh ev cu fr oo sa ea hw hf1 hf2 hm0 hm1) (cwV 0 hX qM_limit rfl rfl rfl (by decide +kernel) ⟨Nat.le_of_ble_eq_true rfl, Nat.le_of_ble_eq_true rfl⟩) rfl rfl hl.1 rfl (Nat.le_of_ble_eq_true rfl) dX1_isAhead_10 ⟨Nat.zero_le _, Nat.zero_le _⟩ rfl (fun z_3 u H locs hq_2 hh => ?_)
    obtain ⟨rfl, rfl⟩ := hq_2
    refine zv_icmp_ge (tgt := 20) hE dX1_isAhead_13 (by decide) ⟨by omega, by omega⟩ ⟨by omega, by omega⟩ (fun hc_4 => ?_) (fun hc_4 => ?_)
    · refine zv_iconst hE dX1_isAhead_20 ?_
      refine mc_retz (u := (mt, mq, mw, ms, ml, mf, mx, mo, mi, mg, th, mn, mh, ev, cu, fr, oo)) hE hr hlk hK hh dX1_isAhead_21 (by first | exact Or.inl rfl | exact Or.inr rfl | assumption) ?_
      exact ⟨rfl, by omega, by omega⟩
    · refine zv_iconst hE dX1_isAhead_16 ?_
      refine lv_goto (tgt := 21) hE.1 hE.2 dX1_isAhead_17 (by decide) ?_
      refine mc_retz (u := (mt, mq, mw, ms, ml, mf, mx, mo, mi, mg, th, mn, mh, ev, cu, fr, oo)) hE hr hlk hK hh dX1_isAhead_21 (by first | exact Or.inl rfl | exact Or.inr rfl | assumption) ?_
      exact ⟨rfl, by omega, by omega⟩
set_option maxHeartbeats 400000 in
set_option maxRecDepth 100000 in
theorem kM_hasOpen (l : Launch) (dC : Nat → ClassId) (dI : Nat → Nat → Nat) (q : Nat → Nat) (cA : Nat → ClassId) (mt mq mw ms ml mf mx mo mi mg : Int → Int) (th mn mh ev cu fr oo : Int) (ho0 : 0 ≤ oo) (ho1 : oo ≤ 600) (hf1 : 1 ≤ fr) (hf2 : fr ≤ 64) (hmi : 0 < oo → 0 ≤ mi (oo - 1) ∧ mi (oo - 1) < 64) : mc_i l (dC, dI) vwCl (tM_ cA) (wM_ q cA) yX1_hasOpen wsX1_hasOpen ({ frames := 1, cells := 0, slots := 0, locals := 40 }) (mt, mq, mw, ms, ml, mf, mx, mo, mi, mg, th, mn, mh, ev, cu, fr, oo) [.ref (q 0)] (fun (z : Int) (u : SM_) => u = (mt, mq, mw, ms, ml, mf, mx, mo, mi, mg, th, mn, mh, ev, cu, fr, oo) ∧ (0 < oo ∧ mi (oo - 1) = fr - 1 → z = 1) ∧ (oo ≤ 0 ∨ mi (oo - 1) ≠ fr - 1 → z = 0)) := by
  refine mc_i_of (cc := cX1_hasOpen) (maxL := 1) (ret := (some .boolean)) (by decide) rfl (Nat.le_of_ble_eq_true rfl) ?_
  intro p e s m below meth c A ls hE hml hown hts hr hlk hA hK hh hl
  have hown : s.vm.findClass RX1 = some m.cls := hown
  have hX : ∀ w ∈ wsM_, w.before _ s = true := fun w h => hts w (List.mem_cons_of_mem _ h)
  have hl : lv_has ls 1 [(0, .ref (q 0))] := hl
  refine lv_aload_n hE.1 hE.2 dX1_hasOpen_0 rfl (lv_at hl 0 rfl) ?_
  refine gM_opens hE hX hown hK hh dX1_hasOpen_1 ?_
  refine zv_if_le (tgt := 29) hE dX1_hasOpen_4 (by decide) ⟨by omega, by omega⟩ (fun hc_1 => ?_) (fun hc_1 => ?_)
  · refine zv_iconst hE dX1_hasOpen_29 ?_
    refine mc_retz (u := (mt, mq, mw, ms, ml, mf, mx, mo, mi, mg, th, mn, mh, ev, cu, fr, oo)) hE hr hlk hK hh dX1_hasOpen_30 (by first | exact Or.inl rfl | exact Or.inr rfl | assumption) ?_
    exact ⟨rfl, by omega, by omega⟩
  · refine lv_aload_n hE.1 hE.2 dX1_hasOpen_7 rfl (lv_at hl 0 rfl) ?_
    refine gM_openIn hE hX hown hK hh dX1_hasOpen_8 ?_
    refine lv_aload_n hE.1 hE.2 dX1_hasOpen_11 rfl (lv_at hl 0 rfl) ?_
    refine gM_opens hE hX hown hK hh dX1_hasOpen_12 ?_
    refine zv_iconst hE dX1_hasOpen_15 ?_
    refine zv_isub hE dX1_hasOpen_16 ?_
    refine rM_openIn hE hK hh ⟨by omega, by omega⟩ dX1_hasOpen_17 ?_
    refine lv_aload_n hE.1 hE.2 dX1_hasOpen_18 rfl (lv_at hl 0 rfl) ?_
    refine mc_call (rest := [.int (zi_ (mi (oo - 1)))]) (As := []) hE hml hown hX hA hK hh (kM_last l dC dI q cA mt mq mw ms ml mf mx mo mi mg th mn mh ev cu fr oo) (cwV 0 hX qM_last rfl rfl rfl (by decide +kernel) ⟨Nat.le_of_ble_eq_true rfl, Nat.le_of_ble_eq_true rfl⟩) rfl rfl hl.1 rfl (Nat.le_of_ble_eq_true rfl) dX1_hasOpen_19 ⟨Nat.zero_le _, Nat.zero_le _⟩ rfl (fun z_3 u H locs hq_2 hh => ?_)
    obtain ⟨rfl, rfl⟩ := hq_2
    refine zv_icmp_ne (tgt := 29) hE dX1_hasOpen_22 (by decide) ⟨by omega, by omega⟩ ⟨by omega, by omega⟩ (fun hc_4 => ?_) (fun hc_4 => ?_)
    · refine zv_iconst hE dX1_hasOpen_29 ?_
      refine mc_retz (u := (mt, mq, mw, ms, ml, mf, mx, mo, mi, mg, th, mn, mh, ev, cu, fr, oo)) hE hr hlk hK hh dX1_hasOpen_30 (by first | exact Or.inl rfl | exact Or.inr rfl | assumption) ?_
      exact ⟨rfl, by omega, by omega⟩
    · refine zv_iconst hE dX1_hasOpen_25 ?_
      refine lv_goto (tgt := 30) hE.1 hE.2 dX1_hasOpen_26 (by decide) ?_
      refine mc_retz (u := (mt, mq, mw, ms, ml, mf, mx, mo, mi, mg, th, mn, mh, ev, cu, fr, oo)) hE hr hlk hK hh dX1_hasOpen_30 (by first | exact Or.inl rfl | exact Or.inr rfl | assumption) ?_
      exact ⟨rfl, by omega, by omega⟩
set_option maxHeartbeats 400000 in
set_option maxRecDepth 100000 in
theorem kM_isFree (l : Launch) (dC : Nat → ClassId) (dI : Nat → Nat → Nat) (q : Nat → Nat) (cA : Nat → ClassId) (mt mq mw ms ml mf mx mo mi mg : Int → Int) (th mn mh ev cu fr oo : Int) (ho0 : 0 ≤ oo) (ho1 : oo ≤ 600) (hf1 : 1 ≤ fr) (hf2 : fr ≤ 64) : mc_i l (dC, dI) vwCl (tM_ cA) (wM_ q cA) yX1_isFree wsX1_isFree ({ frames := 0, cells := 0, slots := 0, locals := 0 }) (mt, mq, mw, ms, ml, mf, mx, mo, mi, mg, th, mn, mh, ev, cu, fr, oo) [.ref (q 0)] (fun (z : Int) (u : SM_) => u = (mt, mq, mw, ms, ml, mf, mx, mo, mi, mg, th, mn, mh, ev, cu, fr, oo) ∧ (fr = 1 ∧ oo = 0 → z = 1) ∧ (fr ≠ 1 ∨ oo ≠ 0 → z = 0)) := by
  refine mc_i_of (cc := cX1_isFree) (maxL := 1) (ret := (some .boolean)) (by decide) rfl (Nat.le_of_ble_eq_true rfl) ?_
  intro p e s m below meth c A ls hE hml hown hts hr hlk hA hK hh hl
  have hown : s.vm.findClass RX1 = some m.cls := hown
  have hX : ∀ w ∈ wsM_, w.before _ s = true := fun w h => hts w (List.mem_cons_of_mem _ h)
  have hl : lv_has ls 1 [(0, .ref (q 0))] := hl
  refine lv_aload_n hE.1 hE.2 dX1_isFree_0 rfl (lv_at hl 0 rfl) ?_
  refine gM_frames hE hX hown hK hh dX1_isFree_1 ?_
  refine zv_iconst hE dX1_isFree_4 ?_
  refine zv_icmp_ne (tgt := 19) hE dX1_isFree_5 (by decide) ⟨by omega, by omega⟩ ⟨by omega, by omega⟩ (fun hc_1 => ?_) (fun hc_1 => ?_)
  · refine zv_iconst hE dX1_isFree_19 ?_
    refine mc_retz (u := (mt, mq, mw, ms, ml, mf, mx, mo, mi, mg, th, mn, mh, ev, cu, fr, oo)) hE hr hlk hK hh dX1_isFree_20 (by first | exact Or.inl rfl | exact Or.inr rfl | assumption) ?_
    exact ⟨rfl, by omega, by omega⟩
  · refine lv_aload_n hE.1 hE.2 dX1_isFree_8 rfl (lv_at hl 0 rfl) ?_
    refine gM_opens hE hX hown hK hh dX1_isFree_9 ?_
    refine zv_if_ne (tgt := 19) hE dX1_isFree_12 (by decide) ⟨by omega, by omega⟩ (fun hc_2 => ?_) (fun hc_2 => ?_)
    · refine zv_iconst hE dX1_isFree_19 ?_
      refine mc_retz (u := (mt, mq, mw, ms, ml, mf, mx, mo, mi, mg, th, mn, mh, ev, cu, fr, oo)) hE hr hlk hK hh dX1_isFree_20 (by first | exact Or.inl rfl | exact Or.inr rfl | assumption) ?_
      exact ⟨rfl, by omega, by omega⟩
    · refine zv_iconst hE dX1_isFree_15 ?_
      refine lv_goto (tgt := 20) hE.1 hE.2 dX1_isFree_16 (by decide) ?_
      refine mc_retz (u := (mt, mq, mw, ms, ml, mf, mx, mo, mi, mg, th, mn, mh, ev, cu, fr, oo)) hE hr hlk hK hh dX1_isFree_20 (by first | exact Or.inl rfl | exact Or.inr rfl | assumption) ?_
      exact ⟨rfl, by omega, by omega⟩
set_option maxHeartbeats 400000 in
set_option maxRecDepth 100000 in
theorem kM_frame (l : Launch) (dC : Nat → ClassId) (dI : Nat → Nat → Nat) (q : Nat → Nat) (cA : Nat → ClassId) (mt mq mw ms ml mf mx mo mi mg : Int → Int) (th mn mh ev cu fr oo : Int) (i t1 : Int) (sa ea : Int → Int) (hw : pw_ sa ea ml ev) (hf1 : 1 ≤ fr) (hf2 : fr < 64) (h0 : 0 ≤ i) (h1 : i < 600) (ht : zb_ t1) : mc_v l (dC, dI) vwCl (tM_ cA) (wM_ q cA) yX1_frame wsX1_frame ({ frames := 1, cells := 0, slots := 0, locals := 40 }) (mt, mq, mw, ms, ml, mf, mx, mo, mi, mg, th, mn, mh, ev, cu, fr, oo) [.ref (q 0), .int (zi_ i), .int (zi_ t1)] (fun (u : SM_) => u = (mt, mq, mw, ms, ml, up_ mf fr i, up_ mx fr t1, mo, mi, mg, th, mn, mh, ev, sa i + 1, fr + 1, oo)) := by
  refine mc_v_of (cc := cX1_frame) (maxL := 3) (ret := none) (by decide) rfl (Nat.le_of_ble_eq_true rfl) ?_
  intro p e s m below meth c A ls hE hml hown hts hr hlk hA hK hh hl
  have hown : s.vm.findClass RX1 = some m.cls := hown
  have hX : ∀ w ∈ wsM_, w.before _ s = true := fun w h => hts w (List.mem_cons_of_mem _ h)
  have hl : lv_has ls 3 [(0, .ref (q 0)), (1, .int (zi_ i)), (2, .int (zi_ t1))] := hl
  refine lv_aload_n hE.1 hE.2 dX1_frame_0 rfl (lv_at hl 0 rfl) ?_
  refine gM_frameOf hE hX hown hK hh dX1_frame_1 ?_
  refine lv_aload_n hE.1 hE.2 dX1_frame_4 rfl (lv_at hl 0 rfl) ?_
  refine gM_frames hE hX hown hK hh dX1_frame_5 ?_
  refine lv_iload_n hE.1 hE.2 dX1_frame_8 rfl (lv_at hl 1 rfl) ?_
  refine sM_frameOf hE hK hh ⟨by omega, by omega⟩ dX1_frame_9 (fun H locs hh => ?_)
  refine lv_aload_n hE.1 hE.2 dX1_frame_10 rfl (lv_at hl 0 rfl) ?_
  refine gM_taken hE hX hown hK hh dX1_frame_11 ?_
  refine lv_aload_n hE.1 hE.2 dX1_frame_14 rfl (lv_at hl 0 rfl) ?_
  refine gM_frames hE hX hown hK hh dX1_frame_15 ?_
  refine lv_iload_n hE.1 hE.2 dX1_frame_18 rfl (lv_at hl 2 rfl) ?_
  refine sM_taken hE hK hh ⟨by omega, by omega⟩ (by first | exact Or.inl rfl | exact Or.inr rfl | assumption) dX1_frame_19 (fun H locs hh => ?_)
  refine lv_aload_n hE.1 hE.2 dX1_frame_20 rfl (lv_at hl 0 rfl) ?_
  refine lv_dup hE.1 hE.2 dX1_frame_21 rfl ?_
  refine gM_frames hE hX hown hK hh dX1_frame_22 ?_
  refine zv_iconst hE dX1_frame_25 ?_
  refine zv_iadd hE dX1_frame_26 ?_
  refine pM_frames hE hX hown hK hh dX1_frame_27 (fun H locs hh => ?_)
  refine lv_aload_n hE.1 hE.2 dX1_frame_30 rfl (lv_at hl 0 rfl) ?_
  refine lv_aload_n hE.1 hE.2 dX1_frame_31 rfl (lv_at hl 0 rfl) ?_
  refine zv_iconst hE dX1_frame_32 ?_
  refine lv_iload_n hE.1 hE.2 dX1_frame_33 rfl (lv_at hl 1 rfl) ?_
  refine zv_imul hE dX1_frame_34 ?_
  refine mc_call (rest := [.ref (q 0)]) (As := [.int (zi_ (2 * i))]) hE hml hown hX hA hK hh (kM_find l dC dI q cA mt mq mw ms ml (up_ mf fr i) (up_ mx fr t1) mo mi mg th mn mh ev cu (fr + 1) oo (2 * i) (hw.1.1) (hw.1.2) (fun k x y => ⟨(hw.2.2.2 k x y).1, (hw.2.2.2 k x y).2.1⟩) (by exact ⟨by omega, by omega⟩)) (cwV 1 hX qM_find rfl rfl rfl (by decide +kernel) ⟨Nat.le_of_ble_eq_true rfl, Nat.le_of_ble_eq_true rfl⟩) rfl rfl hl.1 rfl (Nat.le_of_ble_eq_true rfl) dX1_frame_35 ⟨Nat.zero_le _, Nat.zero_le _⟩ rfl (fun z_2 u H locs hq_1 hh => ?_)
  obtain ⟨rfl, hq_1⟩ := hq_1
  obtain rfl := fd_s hw (by omega) (by omega) hq_1
  refine zv_iconst hE dX1_frame_38 ?_
  refine zv_iadd hE dX1_frame_39 ?_
  refine pM_cursor hE hX hown hK hh dX1_frame_40 (fun H locs hh => ?_)
  refine mc_retv (u := (mt, mq, mw, ms, ml, up_ mf fr i, up_ mx fr t1, mo, mi, mg, th, mn, mh, ev, (sa i) + 1, fr + 1, oo)) hE hr hlk hK hh dX1_frame_43 ?_
  rfl
set_option maxHeartbeats 400000 in
set_option maxRecDepth 100000 in
theorem kM_allWeights (l : Launch) (dC : Nat → ClassId) (dI : Nat → Nat → Nat) (q : Nat → Nat) (cA : Nat → ClassId) (mt mq mw ms ml mf mx mo mi mg : Int → Int) (th mn mh ev cu fr oo : Int) (sa : Int → Int) (hb : mt_ mt sa) (hmh : 0 ≤ mh ∧ mh ≤ 1000000000) (hmw : ∀ j : Int, 0 ≤ j → j < 600 → 0 ≤ mw j ∧ mw j ≤ 1000000000) : mc_l l (dC, dI) vwCl (tM_ cA) (wM_ q cA) yX1_allWeights wsX1_allWeights ({ frames := 0, cells := 0, slots := 0, locals := 0 }) (mt, mq, mw, ms, ml, mf, mx, mo, mi, mg, th, mn, mh, ev, cu, fr, oo) [.ref (q 0)] (fun (z : Int) (u : SM_) => u = (mt, mq, mw, ms, ml, mf, mx, mo, mi, mg, th, mn, mh, ev, cu, fr, oo) ∧ z = mh + sg_ (cw_ sa mw) 600) := by
  refine mc_l_of (cc := cX1_allWeights) (maxL := 4) (ret := (some .long)) (by decide) rfl (Nat.le_of_ble_eq_true rfl) ?_
  intro p e s m below meth c A ls hE hml hown hts hr hlk hA hK hh hl
  have hown : s.vm.findClass RX1 = some m.cls := hown
  have hX : ∀ w ∈ wsM_, w.before _ s = true := fun w h => hts w (List.mem_cons_of_mem _ h)
  have hl : lv_has ls 4 [(0, .ref (q 0))] := hl
  have loop_8 : ∀ (n : Nat) (i sm1 : Int), (0 ≤ i) → (i ≤ 600) → (600 - i < (n : Int)) → (sm1 = mh + sg_ (cw_ sa mw) i.toNat) → ∀ (H : Heap) (locs : List Loc), hp_ (dC, dI) vwCl A s.heap (wM_ q cA (mt, mq, mw, ms, ml, mf, mx, mo, mi, mg, th, mn, mh, ev, cu, fr, oo)) H locs → ∀ (ls : Array Slot), lv_has ls 4 [(3, .int (zi_ i)), (1, .long (zl_ sm1)), (0, .ref (q 0))] → W p l e ({ frames := 0, cells := 0, slots := 0, locals := 0 }) s m ([.ref (q 0)] : List Value).toArray below meth c H locs 0 0 (MQ below (mc_Ql (dC, dI) vwCl (tM_ cA) (wM_ q cA) (fun (z : Int) (u : SM_) => u = (mt, mq, mw, ms, ml, mf, mx, mo, mi, mg, th, mn, mh, ev, cu, fr, oo) ∧ z = mh + sg_ (cw_ sa mw) 600) A) ([.ref (q 0)] : List Value).toArray s 0 0 A) (F0 m 8 ls []) := by
    intro n
    induction n with
    | zero => intros; exfalso; omega
    | succ n ih =>
      intro i sm1 h0 h1 hn hsum H locs hh ls hl
      refine lv_iload_n hE.1 hE.2 dX1_allWeights_8 rfl (lv_at hl 0 rfl) ?_
      refine zv_sipush hE dX1_allWeights_9 (by decide) ?_
      refine zv_icmp_ge (tgt := 44) hE dX1_allWeights_12 (by decide) ⟨by omega, by omega⟩ ⟨by omega, by omega⟩ (fun hc_1 => ?_) (fun hc_1 => ?_)
      · refine lv_lload_n hE.1 hE.2 dX1_allWeights_44 rfl (lv_at hl 1 rfl) ?_
        refine mc_retl (u := (mt, mq, mw, ms, ml, mf, mx, mo, mi, mg, th, mn, mh, ev, cu, fr, oo)) hE hr hlk hK hh dX1_allWeights_45 ?_
        exact ⟨rfl, by rw [hsum, show i = 600 by omega]; rfl⟩
      · refine lv_lload_n hE.1 hE.2 dX1_allWeights_15 rfl (lv_at hl 1 rfl) ?_
        refine lv_aload_n hE.1 hE.2 dX1_allWeights_16 rfl (lv_at hl 2 rfl) ?_
        refine gM_there hE hX hown hK hh dX1_allWeights_17 ?_
        refine lv_iload_n hE.1 hE.2 dX1_allWeights_20 rfl (lv_at hl 0 rfl) ?_
        have hb1 := hb i (by omega) (by omega)
        have hw1 := hmw i (by omega) (by omega)
        refine rM_there hE hK hh ⟨by omega, by omega⟩ dX1_allWeights_21 ?_
        refine zv_if_eq (tgt := 35) hE dX1_allWeights_22 (by decide) ⟨by omega, by omega⟩ (fun hc_2 => ?_) (fun hc_2 => ?_)
        · refine lv_lconst (v := zl_ 0) hE.1 hE.2 dX1_allWeights_35 rfl ?_
          refine zv_ladd hE dX1_allWeights_36 ?_
          refine lv_lstore_n (lv' := [(1, .long (zl_ (sm1 + 0))), (3, .int (zi_ i)), (0, .ref (q 0))]) hE.1 hE.2 dX1_allWeights_37 rfl hl (by decide) rfl (fun ls hl => ?_)
          refine zv_iinc (lv' := [(3, .int (zi_ (i + 1))), (1, .long (zl_ (sm1 + 0))), (0, .ref (q 0))]) hE dX1_allWeights_38 hl (k := 1) rfl (by decide) rfl (fun ls hl => ?_)
          refine lv_goto (tgt := 8) hE.1 hE.2 dX1_allWeights_41 (by decide) ?_
          exact ih (i + 1) (sm1 + 0) (by omega) (by omega) (by omega) (by rw [sg_go _ h0, hsum]; unfold cw_; first | (rw [if_pos (by omega)]; omega) | (rw [if_neg (by omega)]; omega)) _ _ hh ls (lv_sub hl [0, 1, 2] rfl)
        · refine lv_aload_n hE.1 hE.2 dX1_allWeights_25 rfl (lv_at hl 2 rfl) ?_
          refine gM_weights hE hX hown hK hh dX1_allWeights_26 ?_
          refine lv_iload_n hE.1 hE.2 dX1_allWeights_29 rfl (lv_at hl 0 rfl) ?_
          refine rM_weights hE hK hh ⟨by omega, by omega⟩ dX1_allWeights_30 ?_
          refine zv_i2l hE ⟨by omega, by omega⟩ dX1_allWeights_31 ?_
          refine lv_goto (tgt := 36) hE.1 hE.2 dX1_allWeights_32 (by decide) ?_
          refine zv_ladd hE dX1_allWeights_36 ?_
          refine lv_lstore_n (lv' := [(1, .long (zl_ (sm1 + (mw i)))), (3, .int (zi_ i)), (0, .ref (q 0))]) hE.1 hE.2 dX1_allWeights_37 rfl hl (by decide) rfl (fun ls hl => ?_)
          refine zv_iinc (lv' := [(3, .int (zi_ (i + 1))), (1, .long (zl_ (sm1 + (mw i)))), (0, .ref (q 0))]) hE dX1_allWeights_38 hl (k := 1) rfl (by decide) rfl (fun ls hl => ?_)
          refine lv_goto (tgt := 8) hE.1 hE.2 dX1_allWeights_41 (by decide) ?_
          exact ih (i + 1) (sm1 + (mw i)) (by omega) (by omega) (by omega) (by rw [sg_go _ h0, hsum]; unfold cw_; first | (rw [if_pos (by omega)]; omega) | (rw [if_neg (by omega)]; omega)) _ _ hh ls (lv_sub hl [0, 1, 2] rfl)
  refine lv_aload_n hE.1 hE.2 dX1_allWeights_0 rfl (lv_at hl 0 rfl) ?_
  refine gM_whole hE hX hown hK hh dX1_allWeights_1 ?_
  refine zv_i2l hE ⟨by omega, by omega⟩ dX1_allWeights_4 ?_
  refine lv_lstore_n (lv' := [(1, .long (zl_ mh)), (0, .ref (q 0))]) hE.1 hE.2 dX1_allWeights_5 rfl hl (by decide) rfl (fun ls hl => ?_)
  refine zv_iconst hE dX1_allWeights_6 ?_
  refine lv_istore_n (lv' := [(3, .int (zi_ 0)), (1, .long (zl_ mh)), (0, .ref (q 0))]) hE.1 hE.2 dX1_allWeights_7 rfl hl (by decide) rfl (fun ls hl => ?_)
  exact loop_8 601 0 mh (by omega) (by omega) (by omega) (by show mh = mh + 0; omega) _ _ hh ls (lv_sub hl [0, 1, 2] rfl)
