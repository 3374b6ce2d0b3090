theorem mc_ret16 {p : Program} {l : Launch} {e : Env} {R : Room} {s : State} {m : MethodId} {args : Array Value} {below : List Frame} {meth : Method} {c : Code} {H : Heap} {locs : List Loc} {cc : ByteArray} {pc : Nat} {ls : Array Slot} {D : va_G} {cl : List vw_C} {A : Nat → Prop} {tys : List (ClassId × FieldType)} {S : Type} {wf : S → va_W} {u : S} {post : Int → S → Prop} {z : Int} (hE : ze_ p c cc) (hr : meth.sig.returnType = some .int) (hlk : meth.locks = false) (hK : va_K D cl tys s) (hh : hp_ D cl A s.heap (wf u) H locs) (hdg : decode cc pc = .ok (.ireturn, 1)) (hq : post z u) : W p l e R s m args below meth c H locs 1 6 (MQ below (mc_Qi D cl tys wf post A) args s 1 6 A) (F0 m pc ls [.int (zi_ z)]) :=
  W.iret (v := zi_ z) hE.1 hE.2 hr (fun t ht hW => ⟨⟨zi_ z, u, rfl, ⟨z, rfl, hq⟩, by rw [ht]; exact hh.1, va_K.moved hW.alike hK, hh.2.1⟩, hh.2.2.F ht⟩) hh.2.2.2.2 hdg hlk
set_option maxHeartbeats 1000000 in
set_option maxRecDepth 100000 in
theorem kX_of (l : Launch) (hst : l.stackTraces = false) (dC : Nat → ClassId) (dI : Nat → Nat → Nat) (q : Nat → Nat) (cA : Nat → ClassId) (ky wt sa ea sm ln fi fk fo op : Int → Int) (ni ns ev cu wa fr oo : Int) (i wh K : Int) (hI : ix_ ky wt sa ea sm ln fi fk fo op ni ns ev cu wa fr oo K) (hk9 : zr_ i) (hk8 : zr_ wh) (a1 a2 sz : Nat) : vx_Met l yX0_of wsXo_ ({ frames := 7, cells := 1, slots := 6, locals := 130 }) (va_Pc [.ref (q 0), .int (zi_ i), .int (zi_ wh)] (fun U => U.heap.size = sz ∧ va_P (dC, dI) vwCl (wX_ q cA (ky, wt, sa, ea, sm, ln, fi, fk, fo, op, ni, ns, ev, cu, wa, fr, oo)) U.heap ∧ va_K (dC, dI) vwCl (tX_ cA) U ∧ va_D (fun _ => True) (wX_ q cA (ky, wt, sa, ea, sm, ln, fi, fk, fo, op, ni, ns, ev, cu, wa, fr, oo)) ∧ vx_Zq Bundle.tN "UNASSIGNED_STACK" Bundle.steD (va_A (wX_ q cA (ky, wt, sa, ea, sm, ln, fi, fk, fo, op, ni, ns, ev, cu, wa, fr, oo)) sz) U U.heap ∧ vx_Zq Bundle.tN "SUPPRESSED_SENTINEL" Bundle.listD (va_A (wX_ q cA (ky, wt, sa, ea, sm, ln, fi, fk, fo, op, ni, ns, ev, cu, wa, fr, oo)) sz) U U.heap ∧ vk_R RX0 111 "no such interval" a1 U ∧ vk_R RX0 125 "no such what" a2 U ∧ ∀ w ∈ xB_, w.before #[] U = true)) (mc_Qi (dC, dI) vwCl (tX_ cA) (wX_ q cA) (fun (z : Int) (u : SX_) => u = (ky, wt, sa, ea, sm, ln, fi, fk, fo, op, ni, ns, ev, cu, wa, fr, oo) ∧ (0 ≤ i ∧ i < 600 ∧ sa i ≠ -1 ∧ 0 ≤ wh ∧ wh ≤ 6) ∧ xo_ ky wt sa ea sm ln ev i wh z) (va_A (wX_ q cA (ky, wt, sa, ea, sm, ln, fi, fk, fo, op, ni, ns, ev, cu, wa, fr, oo)) sz)) (vx_X (fun (_ : Unit) => ¬ (0 ≤ i ∧ i < 600 ∧ sa i ≠ -1 ∧ 0 ≤ wh ∧ wh ≤ 6)) (fun E _ t => E = xE_ ∧ va_P (dC, dI) vwCl (wX_ q cA (ky, wt, sa, ea, sm, ln, fi, fk, fo, op, ni, ns, ev, cu, wa, fr, oo)) t.heap ∧ va_K (dC, dI) vwCl (tX_ cA) t) (va_A (wX_ q cA (ky, wt, sa, ea, sm, ln, fi, fk, fo, op, ni, ns, ev, cu, wa, fr, oo)) sz)) 1 6 (va_A (wX_ q cA (ky, wt, sa, ea, sm, ln, fi, fk, fo, op, ni, ns, ev, cu, wa, fr, oo)) sz) := by
  refine vx_ofW (cc := cX0_of) (maxL := 3) (ret := (some .int)) (by decide) rfl ?_
  intro p e s m args below meth c s₁ B hml hxt hv
  obtain ⟨rfl, hsz, hP, hK, hD0, hzU, hzN, hs1, hs2, hxB⟩ := hv
  have hE : ze_ p c cX0_of := ⟨B.exec, B.bytes⟩
  have hr := B.returns
  have hts := atoms_spec (ws := wsXo_) B.pre
  have hown : s.vm.findClass RX0 = some m.cls := findClass_of_methodNamed B.named
  have hlk := B.notSynchronized
  have hX : ∀ w ∈ wsX_, w.before _ s = true := fun w h => hts w (List.mem_cons_of_mem _ (List.mem_cons_of_mem _ (List.mem_cons_of_mem _ (List.mem_append_right _ h))))
  have hxW := xW_at hts (xB_moved (a' := ([.ref (q 0), .int (zi_ i), .int (zi_ wh)] : List Value).toArray) (Vm.Alike.refl s.vm) hxB)
  subst hsz
  have hD := hD0.self (sz := s.heap.size)
  generalize hAe : va_A (wX_ q cA (ky, wt, sa, ea, sm, ln, fi, fk, fo, op, ni, ns, ev, cu, wa, fr, oo)) s.heap.size = A at hD hzU hzN ⊢
  have hA : ∀ q : Nat, s.heap.size ≤ q → A q := fun q h => by rw [← hAe]; exact Or.inr h
  have hh : hp_ (dC, dI) vwCl A s.heap (wX_ q cA (ky, wt, sa, ea, sm, ln, fi, fk, fo, op, ni, ns, ev, cu, wa, fr, oo)) s.heap [] := ⟨hP, hD, va_S.rf⟩
  have hl := lv_entry ([.ref (q 0), .int (zi_ i), .int (zi_ wh)]) (n := 3) (Nat.le_of_ble_eq_true rfl)
  rw [lg_entry_eq]
  generalize (lg_sl ([.ref (q 0), .int (zi_ i), .int (zi_ wh)]) ++ List.replicate (3 - (lg_sl ([.ref (q 0), .int (zi_ i), .int (zi_ wh)])).length) Slot.unset).toArray = ls at hl ⊢
  have hl : lv_has ls 3 [(0, .ref (q 0)), (1, .int (zi_ i)), (2, .int (zi_ wh))] := hl
  obtain ⟨hf5, hf3, hf8, hc1, hc2, hfe, hkk, hk1, hf6, hwa0, hlst⟩ := ix_f hI
  obtain ⟨hw, hnv, hct, ⟨hf1, hf2, hi0, hk0, ho0⟩, hkd, hfo, hfm, ⟨hc0, hc3, hev, ho1, ho2⟩, hsm, hky, hwt, ⟨hK0, hwa⟩, hse⟩ := hI
  have hf4 : 0 ≤ oo ∧ oo ≤ 600 := ⟨ho1, by omega⟩
  refine lv_aload_n hE.1 hE.2 dX0_of_0 rfl (lv_at hl 0 rfl) ?_
  refine lv_iload_n hE.1 hE.2 dX0_of_1 rfl (lv_at hl 1 rfl) ?_
  refine mc_call (rest := []) (As := [.int (zi_ i)]) hE hml hown hX hA hK hh (kX_isThere l dC dI q cA ky wt sa ea sm ln fi fk fo op ni ns ev cu wa fr oo i (by assumption) (fun a b => pw_zr hw a b)) (cwV 1 hX qX_isThere rfl rfl rfl (by decide +kernel) ⟨Nat.le_of_ble_eq_true rfl, Nat.le_of_ble_eq_true rfl⟩) rfl rfl hl.1 rfl (Nat.le_of_ble_eq_true rfl) dX0_of_2 ⟨Nat.zero_le _, Nat.zero_le _⟩ rfl (fun z_2 u H locs hq_1 hh => ?_)
  obtain ⟨rfl, hq_1a, hq_1b⟩ := hq_1
  have hq_1z : zr_ z_2 := ⟨by omega, by omega⟩
  refine zv_if_ne (tgt := 18) hE dX0_of_5 (by decide) ⟨by omega, by omega⟩ (fun hc_3 => ?_) (fun hc_3 => ?_)
  · have hb0 : 0 ≤ i := by omega
    have hb1 : i < 600 := by omega
    have hb2 : sa i ≠ -1 := by omega
    have hb3 := hw.2.1 i hb0 hb1
    have hb4 := hw.2.2.1 i hb0 hb1 hb2
    refine lv_iload_n hE.1 hE.2 dX0_of_18 rfl (lv_at hl 2 rfl) ?_
    rcases (show wh = 0 ∨ wh = 1 ∨ wh = 2 ∨ wh = 3 ∨ wh = 4 ∨ wh = 5 ∨ wh = 6 ∨ (wh < 0 ∨ 6 < wh) by omega) with hsw | hsw | hsw | hsw | hsw | hsw | hsw | hsw
    · subst hsw
      refine zv_tblIn (tgt := 60) hE dX0_of_19 ⟨by decide, by decide⟩ (by decide) (by decide) rfl (by decide) ?_
      refine lv_aload_n hE.1 hE.2 dX0_of_60 rfl (lv_at hl 0 rfl) ?_
      refine gX_keys hE hX hown hK hh dX0_of_61 ?_
      refine lv_iload_n hE.1 hE.2 dX0_of_64 rfl (lv_at hl 1 rfl) ?_
      refine rX_keys hE hK hh ⟨by omega, by omega⟩ dX0_of_65 ?_
      refine vx_ret ?_
      refine W.widen (k := 1) (n := 6) (by decide) (by decide) ?_
      refine mc_ret16 (u := (ky, wt, sa, ea, sm, ln, fi, fk, fo, op, ni, ns, ev, cu, wa, fr, oo)) hE hr hlk hK hh dX0_of_66 ?_
      refine ⟨rfl, ⟨hb0, hb1, hb2, by omega, by omega⟩, ?_⟩
      exact ⟨fun t => by first | rfl | (exfalso; omega), fun t => by first | rfl | (exfalso; omega), fun t => by first | exact ⟨by omega, by omega⟩ | (exfalso; omega), fun t => by first | rfl | (exfalso; omega), fun t => by first | rfl | (exfalso; omega), fun t => by first | assumption | (exfalso; omega), fun t => by first | assumption | (exfalso; omega)⟩
    · subst hsw
      refine zv_tblIn (tgt := 67) hE dX0_of_19 ⟨by decide, by decide⟩ (by decide) (by decide) rfl (by decide) ?_
      refine lv_aload_n hE.1 hE.2 dX0_of_67 rfl (lv_at hl 0 rfl) ?_
      refine gX_weights hE hX hown hK hh dX0_of_68 ?_
      refine lv_iload_n hE.1 hE.2 dX0_of_71 rfl (lv_at hl 1 rfl) ?_
      refine rX_weights hE hK hh ⟨by omega, by omega⟩ dX0_of_72 ?_
      refine vx_ret ?_
      refine W.widen (k := 1) (n := 6) (by decide) (by decide) ?_
      refine mc_ret16 (u := (ky, wt, sa, ea, sm, ln, fi, fk, fo, op, ni, ns, ev, cu, wa, fr, oo)) hE hr hlk hK hh dX0_of_73 ?_
      refine ⟨rfl, ⟨hb0, hb1, hb2, by omega, by omega⟩, ?_⟩
      exact ⟨fun t => by first | rfl | (exfalso; omega), fun t => by first | rfl | (exfalso; omega), fun t => by first | exact ⟨by omega, by omega⟩ | (exfalso; omega), fun t => by first | rfl | (exfalso; omega), fun t => by first | rfl | (exfalso; omega), fun t => by first | assumption | (exfalso; omega), fun t => by first | assumption | (exfalso; omega)⟩
    · subst hsw
      refine zv_tblIn (tgt := 74) hE dX0_of_19 ⟨by decide, by decide⟩ (by decide) (by decide) rfl (by decide) ?_
      refine lv_aload_n hE.1 hE.2 dX0_of_74 rfl (lv_at hl 0 rfl) ?_
      refine lv_iload_n hE.1 hE.2 dX0_of_75 rfl (lv_at hl 1 rfl) ?_
      refine mc_call (rest := []) (As := [.int (zi_ i)]) hE hml hown hX hA hK hh (kX_stateOf l dC dI q cA ky wt sa ea sm ln fi fk fo op ni ns ev cu wa fr oo i hb0 hb1 (by exact ⟨by omega, by omega⟩) (hsm i hb0 hb1)) (cwV 1 hX qX_stateOf rfl rfl rfl (by decide +kernel) ⟨Nat.le_of_ble_eq_true rfl, Nat.le_of_ble_eq_true rfl⟩) rfl rfl hl.1 rfl (Nat.le_of_ble_eq_true rfl) dX0_of_76 ⟨Nat.zero_le _, Nat.zero_le _⟩ rfl (fun z_5 u H locs hq_4 hh => ?_)
      obtain ⟨rfl, hq_4⟩ := hq_4
      refine vx_ret ?_
      refine W.widen (k := 1) (n := 6) (by decide) (by decide) ?_
      refine mc_ret16 (u := (ky, wt, sa, ea, sm, ln, fi, fk, fo, op, ni, ns, ev, cu, wa, fr, oo)) hE hr hlk hK hh dX0_of_79 ?_
      refine ⟨rfl, ⟨hb0, hb1, hb2, by omega, by omega⟩, ?_⟩
      exact ⟨fun t => by first | rfl | (exfalso; omega), fun t => by first | rfl | (exfalso; omega), fun t => by first | exact ⟨by omega, by omega⟩ | (exfalso; omega), fun t => by first | rfl | (exfalso; omega), fun t => by first | rfl | (exfalso; omega), fun t => by first | assumption | (exfalso; omega), fun t => by first | assumption | (exfalso; omega)⟩
    · subst hsw
      refine zv_tblIn (tgt := 80) hE dX0_of_19 ⟨by decide, by decide⟩ (by decide) (by decide) rfl (by decide) ?_
      refine lv_aload_n hE.1 hE.2 dX0_of_80 rfl (lv_at hl 0 rfl) ?_
      refine gX_startAt hE hX hown hK hh dX0_of_81 ?_
      refine lv_iload_n hE.1 hE.2 dX0_of_84 rfl (lv_at hl 1 rfl) ?_
      refine rX_startAt hE hK hh ⟨by omega, by omega⟩ dX0_of_85 ?_
      refine vx_ret ?_
      refine W.widen (k := 1) (n := 6) (by decide) (by decide) ?_
      refine mc_ret16 (u := (ky, wt, sa, ea, sm, ln, fi, fk, fo, op, ni, ns, ev, cu, wa, fr, oo)) hE hr hlk hK hh dX0_of_86 ?_
      refine ⟨rfl, ⟨hb0, hb1, hb2, by omega, by omega⟩, ?_⟩
      exact ⟨fun t => by first | rfl | (exfalso; omega), fun t => by first | rfl | (exfalso; omega), fun t => by first | exact ⟨by omega, by omega⟩ | (exfalso; omega), fun t => by first | rfl | (exfalso; omega), fun t => by first | rfl | (exfalso; omega), fun t => by first | assumption | (exfalso; omega), fun t => by first | assumption | (exfalso; omega)⟩
    · subst hsw
      refine zv_tblIn (tgt := 87) hE dX0_of_19 ⟨by decide, by decide⟩ (by decide) (by decide) rfl (by decide) ?_
      refine lv_aload_n hE.1 hE.2 dX0_of_87 rfl (lv_at hl 0 rfl) ?_
      refine gX_endAt hE hX hown hK hh dX0_of_88 ?_
      refine lv_iload_n hE.1 hE.2 dX0_of_91 rfl (lv_at hl 1 rfl) ?_
      refine rX_endAt hE hK hh ⟨by omega, by omega⟩ dX0_of_92 ?_
      refine vx_ret ?_
      refine W.widen (k := 1) (n := 6) (by decide) (by decide) ?_
      refine mc_ret16 (u := (ky, wt, sa, ea, sm, ln, fi, fk, fo, op, ni, ns, ev, cu, wa, fr, oo)) hE hr hlk hK hh dX0_of_93 ?_
      refine ⟨rfl, ⟨hb0, hb1, hb2, by omega, by omega⟩, ?_⟩
      exact ⟨fun t => by first | rfl | (exfalso; omega), fun t => by first | rfl | (exfalso; omega), fun t => by first | exact ⟨by omega, by omega⟩ | (exfalso; omega), fun t => by first | rfl | (exfalso; omega), fun t => by first | rfl | (exfalso; omega), fun t => by first | assumption | (exfalso; omega), fun t => by first | assumption | (exfalso; omega)⟩
    · subst hsw
      refine zv_tblIn (tgt := 94) hE dX0_of_19 ⟨by decide, by decide⟩ (by decide) (by decide) rfl (by decide) ?_
      refine lv_aload_n hE.1 hE.2 dX0_of_94 rfl (lv_at hl 0 rfl) ?_
      refine lv_iload_n hE.1 hE.2 dX0_of_95 rfl (lv_at hl 1 rfl) ?_
      refine mc_call (rest := []) (As := [.int (zi_ i)]) hE hml hown hX hA hK hh (kX_innermostAround l dC dI q cA ky wt sa ea sm ln fi fk fo op ni ns ev cu wa fr oo i hw hb0 hb1 hb2) (cwV 1 hX qX_innermostAround rfl rfl rfl (by decide +kernel) ⟨Nat.le_of_ble_eq_true rfl, Nat.le_of_ble_eq_true rfl⟩) rfl rfl hl.1 rfl (Nat.le_of_ble_eq_true rfl) dX0_of_96 ⟨Nat.zero_le _, Nat.zero_le _⟩ rfl (fun z_7 u H locs hq_6 hh => ?_)
      obtain ⟨rfl, hq_6⟩ := hq_6
      refine vx_ret ?_
      refine W.widen (k := 1) (n := 6) (by decide) (by decide) ?_
      refine mc_ret16 (u := (ky, wt, sa, ea, sm, ln, fi, fk, fo, op, ni, ns, ev, cu, wa, fr, oo)) hE hr hlk hK hh dX0_of_99 ?_
      refine ⟨rfl, ⟨hb0, hb1, hb2, by omega, by omega⟩, ?_⟩
      exact ⟨fun t => by first | rfl | (exfalso; omega), fun t => by first | rfl | (exfalso; omega), fun t => by first | exact ⟨by omega, by omega⟩ | (exfalso; omega), fun t => by first | rfl | (exfalso; omega), fun t => by first | rfl | (exfalso; omega), fun t => by first | assumption | (exfalso; omega), fun t => by first | assumption | (exfalso; omega)⟩
    · subst hsw
      refine zv_tblIn (tgt := 100) hE dX0_of_19 ⟨by decide, by decide⟩ (by decide) (by decide) rfl (by decide) ?_
      refine lv_aload_n hE.1 hE.2 dX0_of_100 rfl (lv_at hl 0 rfl) ?_
      refine lv_iload_n hE.1 hE.2 dX0_of_101 rfl (lv_at hl 1 rfl) ?_
      refine mc_call (rest := []) (As := [.int (zi_ i)]) hE hml hown hX hA hK hh (kX_weightWithin l dC dI q cA ky wt sa ea sm ln fi fk fo op ni ns ev cu wa fr oo i hw hb0 hb1 hb2) (cwV 1 hX qX_weightWithin rfl rfl rfl (by decide +kernel) ⟨Nat.le_of_ble_eq_true rfl, Nat.le_of_ble_eq_true rfl⟩) rfl rfl hl.1 rfl (Nat.le_of_ble_eq_true rfl) dX0_of_102 ⟨Nat.zero_le _, Nat.zero_le _⟩ rfl (fun z_9 u H locs hq_8 hh => ?_)
      obtain ⟨rfl, hq_8⟩ := hq_8
      refine vx_ret ?_
      refine W.widen (k := 1) (n := 6) (by decide) (by decide) ?_
      refine mc_ret16 (u := (ky, wt, sa, ea, sm, ln, fi, fk, fo, op, ni, ns, ev, cu, wa, fr, oo)) hE hr hlk hK hh dX0_of_105 ?_
      refine ⟨rfl, ⟨hb0, hb1, hb2, by omega, by omega⟩, ?_⟩
      exact ⟨fun t => by first | rfl | (exfalso; omega), fun t => by first | rfl | (exfalso; omega), fun t => by first | exact ⟨by omega, by omega⟩ | (exfalso; omega), fun t => by first | rfl | (exfalso; omega), fun t => by first | rfl | (exfalso; omega), fun t => by first | assumption | (exfalso; omega), fun t => by first | assumption | (exfalso; omega)⟩
    · refine zv_tblOut (tgt := 106) hE dX0_of_19 ⟨by omega, by omega⟩ hsw (by decide) ?_
      refine vx_throwS (own := RX0) (cls := xE_) (text := "no such what") (names := xN_) (sa := a2) (A := A) hE.1 hE.2 hst hown (by decide +kernel) (by decide +kernel) (hts _ (List.mem_cons_of_mem _ List.mem_cons_self)) (hts _ (List.mem_cons_of_mem _ (List.mem_cons_of_mem _ List.mem_cons_self))) hs2 hxW xW_ot hzU hzN hh.2.2 (by rw [hml]; exact hl.1) dX0_of_106 dX0_of_109 dX0_of_110 dX0_of_112 dX0_of_115 (fun x hx => (hxt x hx).elim) (Nat.le_of_ble_eq_true rfl) (Nat.le_of_ble_eq_true rfl) (Nat.le_of_ble_eq_true rfl) (Nat.le_of_ble_eq_true rfl) hlk (fun t ha hsz9 hk9 => ?_) hh.2.2.2.2 (by decide) (by decide)
      exact ⟨(), by omega, ⟨rfl, hh.1.kept (fun k x hx => hk9 x.1 (hh.1 k x hx).lt), va_K.moved ha hK⟩, Nat.le_trans hh.2.2.1 hsz9, fun q q1 q2 => by rw [hk9 q (Nat.lt_of_lt_of_le q1 hh.2.2.1)]; exact hh.2.2.2.1 q q1 q2⟩
  · refine vx_throwS (own := RX0) (cls := xE_) (text := "no such interval") (names := xN_) (sa := a1) (A := A) hE.1 hE.2 hst hown (by decide +kernel) (by decide +kernel) (hts _ (List.mem_cons_of_mem _ List.mem_cons_self)) (hts _ (List.mem_cons_of_mem _ (List.mem_cons_of_mem _ List.mem_cons_self))) hs1 hxW xW_ot hzU hzN hh.2.2 (by rw [hml]; exact hl.1) dX0_of_8 dX0_of_11 dX0_of_12 dX0_of_14 dX0_of_17 (fun x hx => (hxt x hx).elim) (Nat.le_of_ble_eq_true rfl) (Nat.le_of_ble_eq_true rfl) (Nat.le_of_ble_eq_true rfl) (Nat.le_of_ble_eq_true rfl) hlk (fun t ha hsz9 hk9 => ?_) hh.2.2.2.2 (by decide) (by decide)
    exact ⟨(), by omega, ⟨rfl, hh.1.kept (fun k x hx => hk9 x.1 (hh.1 k x hx).lt), va_K.moved ha hK⟩, Nat.le_trans hh.2.2.1 hsz9, fun q q1 q2 => by rw [hk9 q (Nat.lt_of_lt_of_le q1 hh.2.2.1)]; exact hh.2.2.2.1 q q1 q2⟩
