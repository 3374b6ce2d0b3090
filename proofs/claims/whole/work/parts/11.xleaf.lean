set_option maxHeartbeats 400000 in
set_option maxRecDepth 100000 in
theorem kX_isStart (l : Launch) (e1 : Int) (h0 : 0 ≤ e1) (h1 : e1 ≤ 2147483647) : mc_s l yX0_isStart wsX0_isStart ({ frames := 0, cells := 0, slots := 0, locals := 0 }) [.int (zi_ e1)] (fun z => (e1 % 2 = 0 → z = 1) ∧ (e1 % 2 = 1 → z = 0)) := by
  refine mc_s_of (cc := cX0_isStart) (maxL := 1) (ret := (some .boolean)) (by decide) rfl (Nat.le_of_ble_eq_true rfl) ?_
  intro p e s m below meth c ls hE hml hown hts hr hlk hl
  have hl : lv_has ls 1 [(0, .int (zi_ e1))] := hl
  refine lv_iload_n hE.1 hE.2 dX0_isStart_0 rfl (lv_at hl 0 rfl) ?_
  refine zv_iconst hE dX0_isStart_1 ?_
  refine zv_rem2 hE ⟨by omega, by omega⟩ dX0_isStart_2 ?_
  refine zv_if_ne (tgt := 10) hE dX0_isStart_3 (by decide) ⟨by omega, by omega⟩ (fun hc_1 => ?_) (fun hc_1 => ?_)
  · refine zv_iconst hE dX0_isStart_10 ?_
    exact mc_rets hE hr hlk dX0_isStart_11 (by first | exact Or.inl rfl | exact Or.inr rfl | assumption) (by omega)
  · refine zv_iconst hE dX0_isStart_6 ?_
    refine lv_goto (tgt := 11) hE.1 hE.2 dX0_isStart_7 (by decide) ?_
    exact mc_rets hE hr hlk dX0_isStart_11 (by first | exact Or.inl rfl | exact Or.inr rfl | assumption) (by omega)
set_option maxHeartbeats 400000 in
set_option maxRecDepth 100000 in
theorem kX_lastInterval (l : Launch) (dC : Nat → ClassId) (dI : Nat → Nat → Nat) (q : Nat → Nat) (cA : Nat → ClassId) (ky wt sa ea sm ln fi fk fo op : Int → Int) (ni ns ev cu wa fr oo : Int) (hf1 : 1 ≤ fr) (hf2 : fr ≤ 64) : mc_i l (dC, dI) vwCl (tX_ cA) (wX_ q cA) yX0_lastInterval wsX0_lastInterval ({ frames := 0, cells := 0, slots := 0, locals := 0 }) (ky, wt, sa, ea, sm, ln, fi, fk, fo, op, ni, ns, ev, cu, wa, fr, oo) [.ref (q 0)] (fun (z : Int) (u : SX_) => u = (ky, wt, sa, ea, sm, ln, fi, fk, fo, op, ni, ns, ev, cu, wa, fr, oo) ∧ z = fi (fr - 1)) := by
  refine mc_i_of (cc := cX0_lastInterval) (maxL := 1) (ret := (some .int)) (by decide) rfl (Nat.le_of_ble_eq_true rfl) ?_
  intro p e s m below meth c A ls hE hml hown hts hr hlk hA hK hh hl
  have hown : s.vm.findClass RX0 = some m.cls := hown
  have hX : ∀ w ∈ wsX_, w.before _ s = true := fun w h => hts w (List.mem_cons_of_mem _ h)
  have hl : lv_has ls 1 [(0, .ref (q 0))] := hl
  refine lv_aload_n hE.1 hE.2 dX0_lastInterval_0 rfl (lv_at hl 0 rfl) ?_
  refine gX_ hE hX hown hK hh 11 (by decide) rfl mX_fl_29 rfl dX0_lastInterval_1 ?_
  refine lv_aload_n hE.1 hE.2 dX0_lastInterval_4 rfl (lv_at hl 0 rfl) ?_
  refine gX_ hE hX hown hK hh 14 (by decide) rfl mX_fl_82 rfl dX0_lastInterval_5 ?_
  refine zv_iconst hE dX0_lastInterval_8 ?_
  refine zv_isub hE dX0_lastInterval_9 ?_
  refine zv_iald hE hK hh 7 6 rfl rfl (by decide) ⟨by omega, by omega⟩ dX0_lastInterval_10 ?_
  refine mc_ret (u := (ky, wt, sa, ea, sm, ln, fi, fk, fo, op, ni, ns, ev, cu, wa, fr, oo)) hE hr hlk hK hh dX0_lastInterval_11 ?_
  exact ⟨rfl, rfl⟩
