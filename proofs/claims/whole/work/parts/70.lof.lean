def yL_of : MethodName := ⟨RL, "of", "(LTraceLine;II[J)I"⟩
def wsLo_ : List Cond := .codeWith yL_of cL_of 5 (some .int) [(0, 10, 13, 13)] :: (Cond.classLink RL 13 xE_ :: wsV RL 7 RX0 yX0_of wsXo_)
set_option maxRecDepth 100000 in
theorem gLc_ : GoodIn lw_tbl [Cond.methodLink RL 63 yL_of, Cond.static yL_of, Cond.initialized RL, Cond.codeWith yL_of cL_of 5 (some .int) [(0, 10, 13, 13)], Cond.classLink RL 13 xE_, Cond.methodLink RL 7 yX0_of] := goodIn_of _ (by decide +kernel)
theorem gLt_ : GoodIn lw_tbl (wsV RL 7 RX0 yX0_of wsXo_) := by
  intro w hw
  unfold wsV at hw
  rcases List.mem_append.mp hw with h | h
  · rcases List.mem_cons.mp h with rfl | h
    · exact gLc_ _ (List.mem_cons_of_mem _ (List.mem_cons_of_mem _ (List.mem_cons_of_mem _ (List.mem_cons_of_mem _ (List.mem_cons_of_mem _ List.mem_cons_self)))))
    · rcases List.mem_cons.mp h with rfl | h
      · exact glX_ _ mX_im_of
      · rcases List.mem_cons.mp h with rfl | h
        · exact glX_ _ mX_se_of
        · rcases List.mem_cons.mp h with rfl | h
          · exact glX_ _ mX_in_
          · cases h
  · exact wsXo_good w h
theorem gLo_ : GoodIn (wsV RL 7 RX0 yX0_of wsXo_) (wsV RL 7 RX0 yX0_of wsXo_) := fun w h => ⟨h, (gLt_ w h).2⟩
set_option maxRecDepth 100000 in
theorem xB_cast : Cond.castable xE_ xE_ ∈ xB_ := by decide +kernel
set_option maxHeartbeats 1000000 in
set_option maxRecDepth 100000 in
theorem kL_of (l : Launch) (hst : l.stackTraces = false) (dC : Nat → ClassId) (dI : Nat → Nat → Nat) (q : Nat → Nat) (cA : Nat → ClassId) (ky wt sa ea sm ln fi fk fo op : Int → Int) (ni ns ev cu wa fr oo : Int) (i wh K : Int) (hI : ix_ ky wt sa ea sm ln fi fk fo op ni ns ev cu wa fr oo K) (hk9 : zr_ i) (hk8 : zr_ wh) (a1 a2 ao : Nat) (co : ClassId) (f : Nat → Int64) (sz : Nat) : Met l yL_of wsLo_ ({ frames := 8, cells := 1, slots := 6, locals := 160 }) (va_Pc [.ref (q 0), .int (zi_ i), .int (zi_ wh), .ref ao] (fun U => U.heap.size = sz ∧ va_P (dC, dI) vwCl (wX_ q cA (ky, wt, sa, ea, sm, ln, fi, fk, fo, op, ni, ns, ev, cu, wa, fr, oo) ++ [(ao, .inl (co, 1, .inr (.inl f)))]) U.heap ∧ va_K (dC, dI) vwCl (tX_ cA) U ∧ va_K (dC, dI) vwCl [(co, .long)] U ∧ va_D (fun _ => True) (wX_ q cA (ky, wt, sa, ea, sm, ln, fi, fk, fo, op, ni, ns, ev, cu, wa, fr, oo) ++ [(ao, .inl (co, 1, .inr (.inl f)))]) ∧ vx_Zq Bundle.tN "UNASSIGNED_STACK" Bundle.steD (va_A (wX_ q cA (ky, wt, sa, ea, sm, ln, fi, fk, fo, op, ni, ns, ev, cu, wa, fr, oo) ++ [(ao, .inl (co, 1, .inr (.inl f)))]) sz) U U.heap ∧ vx_Zq Bundle.tN "SUPPRESSED_SENTINEL" Bundle.listD (va_A (wX_ q cA (ky, wt, sa, ea, sm, ln, fi, fk, fo, op, ni, ns, ev, cu, wa, fr, oo) ++ [(ao, .inl (co, 1, .inr (.inl f)))]) sz) U U.heap ∧ vk_R RX0 111 "no such interval" a1 U ∧ vk_R RX0 125 "no such what" a2 U ∧ ∀ w ∈ xB_, w.before #[] U = true)) (va_Qi (fun (r : Int32) (g : Nat → Int64) => (r = zi_ 0 ∧ (0 ≤ i ∧ i < 600 ∧ sa i ≠ -1 ∧ 0 ≤ wh ∧ wh ≤ 6) ∧ ∃ z : Int, g 0 = (zi_ z).toInt64 ∧ xo_ ky wt sa ea sm ln ev i wh z) ∨ (r = zi_ 1 ∧ ¬ (0 ≤ i ∧ i < 600 ∧ sa i ≠ -1 ∧ 0 ≤ wh ∧ wh ≤ 6))) (fun g t => va_P (dC, dI) vwCl (wX_ q cA (ky, wt, sa, ea, sm, ln, fi, fk, fo, op, ni, ns, ev, cu, wa, fr, oo) ++ [(ao, .inl (co, 1, .inr (.inl g)))]) t.heap ∧ va_D (va_A (wX_ q cA (ky, wt, sa, ea, sm, ln, fi, fk, fo, op, ni, ns, ev, cu, wa, fr, oo) ++ [(ao, .inl (co, 1, .inr (.inl f)))]) sz) (wX_ q cA (ky, wt, sa, ea, sm, ln, fi, fk, fo, op, ni, ns, ev, cu, wa, fr, oo) ++ [(ao, .inl (co, 1, .inr (.inl g)))])) (va_A (wX_ q cA (ky, wt, sa, ea, sm, ln, fi, fk, fo, op, ni, ns, ev, cu, wa, fr, oo) ++ [(ao, .inl (co, 1, .inr (.inl f)))]) sz)) 1 6 (va_A (wX_ q cA (ky, wt, sa, ea, sm, ln, fi, fk, fo, op, ni, ns, ev, cu, wa, fr, oo) ++ [(ao, .inl (co, 1, .inr (.inl f)))]) sz) := by
  refine va_MetW (cc := cL_of) (maxL := 5) (ret := (some .int)) (hh := [(0, 10, 13, 13)]) (by decide) rfl ?_
  intro p e s m args below meth c s₁ B hml hv
  obtain ⟨rfl, hsz, hP, hK, hKo, hD0, hzU, hzN, hs1, hs2, hxB⟩ := hv
  have hE : ze_ p c cL_of := ⟨B.exec, B.bytes⟩
  have hr := B.returns
  have hts := atoms_spec (ws := wsLo_) B.pre
  have hlk := B.notSynchronized
  have hown : s.vm.findClass RL = some m.cls := findClass_of_methodNamed B.named
  have htb := vx_table (x := yL_of) B (hts _ List.mem_cons_self)
  have htc : ∀ w ∈ wsV RL 7 RX0 yX0_of wsXo_, w.before _ s = true := fun w h => hts w (List.mem_cons_of_mem _ (List.mem_cons_of_mem _ h))
  subst hsz
  have hD := hD0.self (sz := s.heap.size)
  generalize hAe : va_A (wX_ q cA (ky, wt, sa, ea, sm, ln, fi, fk, fo, op, ni, ns, ev, cu, wa, fr, oo) ++ [(ao, .inl (co, 1, .inr (.inl f)))]) s.heap.size = A at hD hzU hzN ⊢
  have hA : ∀ q : Nat, s.heap.size ≤ q → A q := fun q h => by rw [← hAe]; exact Or.inr h
  have hh : hp_ (dC, dI) vwCl A s.heap ([] ++ (wX_ q cA (ky, wt, sa, ea, sm, ln, fi, fk, fo, op, ni, ns, ev, cu, wa, fr, oo) ++ [(ao, .inl (co, 1, .inr (.inl f)))])) s.heap [] := ⟨hP, hD, va_S.rf⟩
  have hl := lv_entry ([.ref (q 0), .int (zi_ i), .int (zi_ wh), .ref ao]) (n := 5) (Nat.le_of_ble_eq_true rfl)
  rw [lg_entry_eq]
  generalize (lg_sl ([.ref (q 0), .int (zi_ i), .int (zi_ wh), .ref ao]) ++ List.replicate (5 - (lg_sl ([.ref (q 0), .int (zi_ i), .int (zi_ wh), .ref ao])).length) Slot.unset).toArray = ls at hl ⊢
  have hl : lv_has ls 5 [(0, .ref (q 0)), (1, .int (zi_ i)), (2, .int (zi_ wh)), (3, .ref ao)] := hl
  refine lv_aload_n hE.1 hE.2 dL_of_0 rfl (lv_at hl 3 rfl) ?_
  refine zv_iconst hE dL_of_1 ?_
  refine lv_aload_n hE.1 hE.2 dL_of_2 rfl (lv_at hl 0 rfl) ?_
  refine lv_iload_n hE.1 hE.2 dL_of_3 rfl (lv_at hl 1 rfl) ?_
  refine lv_iload_n hE.1 hE.2 dL_of_4 rfl (lv_at hl 2 rfl) ?_
  have h2 := mj_part hh
  have hFc := mc_in (wf := wX_ q cA) hA h2
  refine vx_calli (vx_runV (As := [.int (zi_ i), .int (zi_ wh)]) (rest := [.int (zi_ 0), .ref ao]) (b := q 0) (g := F0 m 5 ls [.int (zi_ wh), .int (zi_ i), .ref (q 0), .int (zi_ 0), .ref ao]) ⟨hE.1, hE.2, hml, hown, htc⟩ (kX_of l hst dC dI q cA ky wt sa ea sm ln fi fk fo op ni ns ev cu wa fr oo i wh K hI hk9 hk8 a1 a2 s.heap.size) (cwV 2 htc gLo_ rfl rfl rfl (by decide +kernel) ⟨Nat.le_of_ble_eq_true rfl, Nat.le_of_ble_eq_true rfl⟩) ⟨fun a U g mk h => ?_, va_recv hK h2.1 (ci := 0) (q0 := 0) rfl rfl, fun U hU hW => ?_⟩ rfl rfl hl.1 rfl (lv_room (Nat.le_of_ble_eq_true rfl)) dL_of_5 ⟨Nat.le_of_ble_eq_true rfl, Nat.le_of_ble_eq_true rfl⟩) hh.2.2 (fun q _ h => hFc q h) hFc (fun q _ h => hFc q h) (fun E ce q9 u t H1 locs1 ht hvm hpx hBX hz hk hS hce hcv hcl => ?_) (fun r u t H1 locs1 ht hvm hw hB hz hk hS => ?_)
  · obtain ⟨b0, b1, bP, bK, bD, bU, bN, bs1, bs2, bB⟩ := h
    exact ⟨b0, b1, bP, va_K.moved (u := U) (U := U.calling g mk a) (Vm.Alike.refl U.vm) bK, bD, vx_Zq.moved (u := U) (U := U.calling g mk a) (Vm.Alike.refl U.vm) bU, vx_Zq.moved (u := U) (U := U.calling g mk a) (Vm.Alike.refl U.vm) bN, vk_R.same rfl bs1, vk_R.same rfl bs2, xB_moved (s := U) (U := U.calling g mk a) (Vm.Alike.refl U.vm) bB⟩
  · exact ⟨rfl, by rw [hU], by rw [hU]; exact h2.1, va_K.moved hW.alike hK, h2.2.1.weaken (fun _ _ _ _ => trivial), by rw [hU]; exact vx_Zq.moved hW.alike (vx_Zq.narrow hzU (fun q h => hFc q h)), by rw [hU]; exact vx_Zq.moved hW.alike (vx_Zq.narrow hzN (fun q h => hFc q h)), vk_R.warm hW hs1, vk_R.warm hW hs2, xB_moved hW.alike hxB⟩
  · obtain ⟨rfl, hP1, -⟩ := hBX
    rw [ht] at hP1
    have hh := mj_back (w2' := wX_ q cA (ky, wt, sa, ea, sm, ln, fi, fk, fo, op, ni, ns, ev, cu, wa, fr, oo)) hA hh hP1 ⟨h2.2.1.1, fun k x hx => va_A.in hx⟩ hk hS
    refine vx_catch (own := RL) (name := xE_) hown [] ⟨0, 10, 13, 13⟩ [] htb (fun z hz => by cases hz) (by decide) (by decide) (hts _ (List.mem_cons_of_mem _ List.mem_cons_self)) (xB_moved (a' := ([.ref (q 0), .int (zi_ i), .int (zi_ wh), .ref ao] : List Value).toArray) (Vm.Alike.refl s.vm) hxB _ xB_cast) hce hcv hcl ?_
    refine lv_astore (lv' := [(4, .ref q9), (0, .ref (q 0)), (1, .int (zi_ i)), (2, .int (zi_ wh)), (3, .ref ao)]) hE.1 hE.2 dL_of_13 hl (by decide) rfl (fun ls hl => ?_)
    refine zv_iconst hE dL_of_15 ?_
    exact W.iret (v := zi_ 1) hE.1 hE.2 hr (fun t ht hW => ⟨⟨zi_ 1, f, rfl, Or.inr ⟨rfl, hpx⟩, by rw [ht]; exact hh.1, hh.2.1⟩, hh.2.2.F ht⟩) hh.2.2.2.2 dL_of_16 hlk
  · obtain ⟨z, rfl, rfl, hth, hxo⟩ := hw
    obtain ⟨hP1, -, hD1⟩ := hB
    rw [ht] at hP1
    have hh := mj_back (w2' := wX_ q cA (ky, wt, sa, ea, sm, ln, fi, fk, fo, op, ni, ns, ev, cu, wa, fr, oo)) hA hh hP1 hD1 hk hS
    refine lv_i2l hE.1 hE.2 dL_of_8 rfl ?_
    refine va_last hE.1 hE.2 hKo hh.1 hh.2.1 hh.2.2 11 0 rfl rfl (zi_in ⟨by omega, by omega⟩ (by decide)) dL_of_9 (fun H locs hP hD hS => ?_)
    have hh : hp_ (dC, dI) vwCl A s.heap (wX_ q cA (ky, wt, sa, ea, sm, ln, fi, fk, fo, op, ni, ns, ev, cu, wa, fr, oo) ++ [(ao, .inl (co, 1, .inr (.inl (vp_updL f (zi_ 0).toNatClampNeg (zi_ z).toInt64))))]) H locs := ⟨hP, hD, hS⟩
    refine lv_goto (tgt := 17) hE.1 hE.2 dL_of_10 (by decide) ?_
    refine zv_iconst hE dL_of_17 ?_
    exact W.iret (v := zi_ 0) hE.1 hE.2 hr (fun t ht hW => ⟨⟨zi_ 0, _, rfl, Or.inl ⟨rfl, hth, z, rfl, hxo⟩, by rw [ht]; exact hh.1, hh.2.1⟩, hh.2.2.F ht⟩) hh.2.2.2.2 dL_of_18 hlk
