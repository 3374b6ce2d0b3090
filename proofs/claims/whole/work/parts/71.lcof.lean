theorem lg_self (a : Int64) : lg_cmp a a = zi_ 0 := by
  unfold lg_cmp
  rw [if_neg (show ¬ a > a from Int64.lt_irrefl), if_pos rfl]
  rfl
theorem hp_nd {A : Nat → Prop} {w : va_W} : va_D A w ↔ (w.map Prod.fst).Nodup ∧ ∀ x ∈ w, A x.1 := by
  unfold List.Nodup
  rw [List.pairwise_iff_getElem]
  refine ⟨fun h => ⟨fun i j hi hj hij e => ?_, fun x hx => ?_⟩, fun h => ⟨fun i j p q hi hj e => ?_, fun k q hk => h.2 q (List.mem_of_getElem? hk)⟩⟩
  · rw [List.length_map] at hi hj
    rw [List.getElem_map, List.getElem_map] at e
    have := h.1 i j _ _ (List.getElem?_eq_getElem hi) (List.getElem?_eq_getElem hj) e
    omega
  · obtain ⟨k, hk⟩ := List.getElem?_of_mem hx
    exact h.2 k x hk
  · obtain ⟨li, ei⟩ := List.getElem?_eq_some_iff.mp hi
    obtain ⟨lj, ej⟩ := List.getElem?_eq_some_iff.mp hj
    rcases Nat.lt_trichotomy i j with t | t | t
    · exact absurd (by rw [List.getElem_map, List.getElem_map, ei, ej]; exact e) (h.1 i j (by rw [List.length_map]; exact li) (by rw [List.length_map]; exact lj) t)
    · exact t
    · exact absurd (by rw [List.getElem_map, List.getElem_map, ei, ej]; exact e.symm) (h.1 j i (by rw [List.length_map]; exact lj) (by rw [List.length_map]; exact li) t)
theorem hp_perm {D : va_G} {cl : List vw_C} {A : Nat → Prop} {H0 H : Heap} {w w' : va_W} {locs : List Loc} (hp : w.Perm w') (hh : hp_ D cl A H0 w H locs) : hp_ D cl A H0 w' H locs := by
  obtain ⟨h1, h2, h3⟩ := hh
  rw [hp_nd] at h2
  refine ⟨fun k q hk => ?_, hp_nd.mpr ⟨(hp.map Prod.fst).nodup_iff.mp h2.1, fun x hx => h2.2 x (hp.mem_iff.mpr hx)⟩, h3⟩
  obtain ⟨j, hj⟩ := List.getElem?_of_mem (hp.mem_iff.mpr (List.mem_of_getElem? hk))
  exact h1 j q hj
theorem hp_out {D : va_G} {cl : List vw_C} {A : Nat → Prop} {H0 H : Heap} {w1 w2 w3 : va_W} {locs : List Loc} (hh : hp_ D cl A H0 (w1 ++ (w2 ++ w3)) H locs) : hp_ D cl A H0 (w2 ++ ((w1 ++ w3) ++ [])) H locs := by
  rw [List.append_nil]
  exact hp_perm (List.perm_append_comm_assoc w1 w2 w3) hh
theorem hp_in {D : va_G} {cl : List vw_C} {A : Nat → Prop} {H0 H : Heap} {w1 w2 w3 : va_W} {locs : List Loc} (hh : hp_ D cl A H0 (w2 ++ ((w1 ++ w3) ++ [])) H locs) : hp_ D cl A H0 (w1 ++ (w2 ++ w3)) H locs := by
  rw [List.append_nil] at hh
  exact hp_perm (List.perm_append_comm_assoc w2 w1 w3) hh
theorem gLs_ : GoodIn lw_tbl (va_wsS RL 63 yL_of wsLo_) := by
  intro w hw
  unfold va_wsS at hw
  rcases List.mem_append.mp hw with h | h
  · rcases List.mem_cons.mp h with rfl | h
    · exact gLc_ _ List.mem_cons_self
    · rcases List.mem_cons.mp h with rfl | h
      · exact gLc_ _ (List.mem_cons_of_mem _ List.mem_cons_self)
      · rcases List.mem_cons.mp h with rfl | h
        · exact gLc_ _ (List.mem_cons_of_mem _ (List.mem_cons_of_mem _ List.mem_cons_self))
        · cases h
  · rcases List.mem_cons.mp h with rfl | h
    · exact gLc_ _ (List.mem_cons_of_mem _ (List.mem_cons_of_mem _ (List.mem_cons_of_mem _ List.mem_cons_self)))
    · rcases List.mem_cons.mp h with rfl | h
      · exact gLc_ _ (List.mem_cons_of_mem _ (List.mem_cons_of_mem _ (List.mem_cons_of_mem _ (List.mem_cons_of_mem _ List.mem_cons_self))))
      · exact gLt_ w h
/-- what of needs of the start -/
def lo_ (a1 a2 : Nat) (s : State) : Prop := vx_Zq Bundle.tN "UNASSIGNED_STACK" Bundle.steD (fun q : Nat => s.heap.size ≤ q) s s.heap ∧ vx_Zq Bundle.tN "SUPPRESSED_SENTINEL" Bundle.listD (fun q : Nat => s.heap.size ≤ q) s s.heap ∧ vk_R RX0 111 "no such interval" a1 s ∧ vk_R RX0 125 "no such what" a2 s ∧ ∀ w ∈ xB_, w.before #[] s = true
set_option maxHeartbeats 1000000 in
set_option maxRecDepth 100000 in
theorem lc_of {p : Program} {l : Launch} {e : Env} {s : State} {m : MethodId} {below : List Frame} {meth : Method} {c : Code} {dC : Nat → ClassId} {dI : Nat → Nat → Nat} {b L : Nat} {xs : Nat → Int32} {qx qm : Nat → Nat} {cX cM : Nat → ClassId} {ao : Nat} {co : ClassId} (hL : L ≤ 1536) (C0 : lw_At p s m meth c b L xs) (hKX : va_K (dC, dI) vwCl (tX_ cX) s) (hKM : va_K (dC, dI) vwCl (tM_ cM) s) (hKo : va_K (dC, dI) vwCl [(co, .long)] s) (hst : l.stackTraces = false) {a1 a2 : Nat} (h0 : lo_ a1 a2 s) {kk : Nat} (hkk : 3 * kk + 3 ≤ L) (hB1 : jB_ p l e s m below meth c dC dI b qx qm cX cM ao co kk) : jC_ p l e s m below meth c dC dI b qx qm cX cM ao co kk 280 := by
  obtain ⟨hx9, hb9, hr, hml, hown, hts, hX, hbl, hlocks, hgv⟩ := id C0
  have hE : ze_ p c cL_law := ⟨hx9, hb9⟩
  have hown : s.vm.findClass RL = some m.cls := hown
  have hA : ∀ q : Nat, s.heap.size ≤ q → (fun q : Nat => s.heap.size ≤ q) q := fun _ h => h
  have hbA : ¬ (fun q : Nat => s.heap.size ≤ q) b := Nat.not_le.mpr hbl
  obtain ⟨hzU, hzN, hs1, hs2, hxB⟩ := h0
  intro ky wt sa ea sm ln fi fk fo op ni ns ev cu wa fr oo mt ml mf mx mi mg th K f H locs ls hcp hh hl
  have hI := hcp.1
  have hM := cp_im hcp (by omega)
  refine lv_aload_n hE.1 hE.2 dL_law_280 rfl (lv_at hl 3 rfl) ?_
  refine lv_aload_n hE.1 hE.2 dL_law_281 rfl (lv_at hl 4 rfl) ?_
  refine lv_iload hE.1 hE.2 dL_law_282 (lv_at hl 0 rfl) ?_
  refine zv_iconst hE dL_law_284 ?_
  refine zv_iadd hE dL_law_285 ?_
  refine zv_sld hE hX hbl hbA hh ⟨by omega, by omega⟩ (by omega) dL_law_286 ?_
  refine lv_aload_n hE.1 hE.2 dL_law_287 rfl (lv_at hl 4 rfl) ?_
  refine lv_iload hE.1 hE.2 dL_law_288 (lv_at hl 0 rfl) ?_
  refine zv_iconst hE dL_law_290 ?_
  refine zv_iadd hE dL_law_291 ?_
  refine zv_sld hE hX hbl hbA hh ⟨by omega, by omega⟩ (by omega) dL_law_292 ?_
  refine lv_aload_n hE.1 hE.2 dL_law_293 rfl (lv_at hl 1 rfl) ?_
  have h9 := hp_out hh
  have h2 := mj_part h9
  have hFc := mc_in (wf := fun _ : Unit => wX_ qx cX (ky, wt, sa, ea, sm, ln, fi, fk, fo, op, ni, ns, ev, cu, wa, fr, oo) ++ [(ao, .inl (co, 1, .inr (.inl f)))]) (x := ()) hA h2
  refine va_calli (vx_runSW (As := [.ref (qx 0), .int (zi_ (vs_ xs (3 * (kk : Int) + 1))), .int (zi_ (vs_ xs (3 * (kk : Int) + 2))), .ref ao]) (rest := []) (g := F0 m 294 ls [.ref ao, .int (zi_ (vs_ xs (3 * (kk : Int) + 2))), .int (zi_ (vs_ xs (3 * (kk : Int) + 1))), .ref (qx 0)]) ⟨hE.1, hE.2, hml, hown, hts⟩ (kL_of l hst dC dI qx cX ky wt sa ea sm ln fi fk fo op ni ns ev cu wa fr oo (vs_ xs (3 * (kk : Int) + 1)) (vs_ xs (3 * (kk : Int) + 2)) K hI (vs_zr _ _) (vs_zr _ _) a1 a2 ao co f H.size) (vx_cwSW 4 hts gLs_ rfl rfl rfl (by decide +kernel) ⟨Nat.le_of_ble_eq_true rfl, Nat.le_of_ble_eq_true rfl⟩) ⟨fun a U g mk h => ?_, fun U hU hW => ?_⟩ rfl rfl hl.1 rfl (lv_room (Nat.le_of_ble_eq_true rfl)) dL_law_294 ⟨(by show 23 + kk + 1 ≤ 1049; omega), (by show 10555 + 6 * kk + 6 ≤ 18759; omega)⟩) hh.2.2 (fun q _ h => hFc q h) hFc (fun r g t H1 locs1 ht hvm hw hB hz hk hS => ?_)
  · obtain ⟨b0, b1, bP, bK, bKo, bD, bU, bN, bs1, bs2, bB⟩ := h
    exact ⟨b0, b1, bP, va_K.moved (u := U) (U := U.calling g mk a) (Vm.Alike.refl U.vm) bK, va_K.moved (u := U) (U := U.calling g mk a) (Vm.Alike.refl U.vm) bKo, bD, vx_Zq.moved (u := U) (U := U.calling g mk a) (Vm.Alike.refl U.vm) bU, vx_Zq.moved (u := U) (U := U.calling g mk a) (Vm.Alike.refl U.vm) bN, vk_R.same rfl bs1, vk_R.same rfl bs2, xB_moved (s := U) (U := U.calling g mk a) (Vm.Alike.refl U.vm) bB⟩
  · exact ⟨rfl, by rw [hU], by rw [hU]; exact h2.1, va_K.moved hW.alike hKX, va_K.moved hW.alike hKo, h2.2.1.weaken (fun _ _ _ _ => trivial), by rw [hU]; exact vx_Zq.moved hW.alike (vx_Zq.narrow (vx_Zq.kept hzU (fun q h1 h2 => hh.2.2.2.1 q h1 h2)) (fun q h => hFc q h)), by rw [hU]; exact vx_Zq.moved hW.alike (vx_Zq.narrow (vx_Zq.kept hzN (fun q h1 h2 => hh.2.2.2.1 q h1 h2)) (fun q h => hFc q h)), vk_R.warm hW hs1, vk_R.warm hW hs2, xB_moved hW.alike hxB⟩
  obtain ⟨hP1, hD1⟩ := hB
  rw [ht] at hP1
  have hh := hp_in (mj_back (w2' := wX_ qx cX (ky, wt, sa, ea, sm, ln, fi, fk, fo, op, ni, ns, ev, cu, wa, fr, oo) ++ [(ao, .inl (co, 1, .inr (.inl g)))]) hA h9 hP1 hD1 hk hS)
  clear h9 h2 hFc hP1 hD1 hk hS hz ht hvm
  generalize H1 = H, locs1 = locs at hh ⊢
  refine lv_istore (lv' := [(5, .int r), (4, .int (zi_ (3 * (kk : Int)))), (3, .ref ao), (2, .ref (qm 0)), (1, .ref (qx 0)), (0, .ref b)]) hE.1 hE.2 dL_law_297 hl (by decide) rfl (fun ls hl => ?_)
  refine lv_aload_n hE.1 hE.2 dL_law_299 rfl (lv_at hl 3 rfl) ?_
  refine lv_aload_n hE.1 hE.2 dL_law_300 rfl (lv_at hl 5 rfl) ?_
  refine lv_iload hE.1 hE.2 dL_law_301 (lv_at hl 1 rfl) ?_
  refine zv_iconst hE dL_law_303 ?_
  refine zv_iadd hE dL_law_304 ?_
  refine zv_sld hE hX hbl hbA hh ⟨by omega, by omega⟩ (by omega) dL_law_305 ?_
  refine lv_aload_n hE.1 hE.2 dL_law_306 rfl (lv_at hl 5 rfl) ?_
  refine lv_iload hE.1 hE.2 dL_law_307 (lv_at hl 1 rfl) ?_
  refine zv_iconst hE dL_law_309 ?_
  refine zv_iadd hE dL_law_310 ?_
  refine zv_sld hE hX hbl hbA hh ⟨by omega, by omega⟩ (by omega) dL_law_311 ?_
  refine mj_call (wl := wX_ qx cX (ky, wt, sa, ea, sm, ln, fi, fk, fo, op, ni, ns, ev, cu, wa, fr, oo)) (wf := wM_ qm cM) (x := (mt, ky, wt, sm, ml, mf, mx, op, mi, mg, th, ni, K, ev, cu, fr, oo)) (wr := [(ao, .inl (co, 1, .inr (.inl g)))]) (rest := []) (As := [.int (zi_ (vs_ xs (3 * (kk : Int) + 1))), .int (zi_ (vs_ xs (3 * (kk : Int) + 2)))]) (b := qm 0) hE hml hown hts hA hKM hh (kM_of l dC dI qm cM mt ky wt sm ml mf mx op mi mg th ni K ev cu fr oo (vs_ xs (3 * (kk : Int) + 1)) (vs_ xs (3 * (kk : Int) + 2)) sa ea hM (vs_zr _ _) (vs_zr _ _)) (cwV 2 hts gL_M_of rfl rfl rfl (by decide +kernel) ⟨Nat.le_of_ble_eq_true rfl, Nat.le_of_ble_eq_true rfl⟩) rfl rfl hl.1 rfl (Nat.le_of_ble_eq_true rfl) dL_law_312 ⟨(by show 23 + kk + 1 ≤ 1049; omega), (by show 10555 + 6 * kk + 6 ≤ 18759; omega)⟩ rfl (fun w v H locs hm hh => ?_)
  refine lv_istore (lv' := [(6, .int (zi_ w)), (5, .int r), (4, .int (zi_ (3 * (kk : Int)))), (3, .ref ao), (2, .ref (qm 0)), (1, .ref (qx 0)), (0, .ref b)]) hE.1 hE.2 dL_law_315 hl (by decide) rfl (fun ls hl => ?_)
  refine lv_aload_n hE.1 hE.2 dL_law_317 rfl (lv_at hl 4 rfl) ?_
  have hlz : lv_has ls 7 [(4, .int (zi_ (3 * (kk : Int)))), (3, .ref ao), (2, .ref (qm 0)), (1, .ref (qx 0)), (0, .ref b)] := lv_sub hl [2, 3, 4, 5, 6] rfl
  rcases hw with ⟨rfl, hth, z, hg0, hxo⟩ | ⟨rfl, hth⟩
  · obtain ⟨hzw, rfl⟩ := op_of (th := th) (n := (kk : Int)) (u := (ky, wt, sa, ea, sm, ln, fi, fk, fo, op, ni, ns, ev, cu, wa, fr, oo)) hcp (by omega) hth hxo hm
    refine mj_call (wl := wX_ qx cX (ky, wt, sa, ea, sm, ln, fi, fk, fo, op, ni, ns, ev, cu, wa, fr, oo)) (wf := wM_ qm cM) (x := (mt, ky, wt, sm, ml, mf, mx, op, mi, mg, 0, ni, K, ev, cu, fr, oo)) (wr := [(ao, .inl (co, 1, .inr (.inl g)))]) (rest := []) (As := []) (b := qm 0) hE hml hown hts hA hKM hh (kM_thrown l dC dI qm cM mt ky wt sm ml mf mx op mi mg 0 ni K ev cu fr oo) (cwV 0 hts gL_M_thrown rfl rfl rfl (by decide +kernel) ⟨Nat.le_of_ble_eq_true rfl, Nat.le_of_ble_eq_true rfl⟩) rfl rfl hl.1 rfl (Nat.le_of_ble_eq_true rfl) dL_law_318 ⟨(by show 23 + kk + 1 ≤ 1049; omega), (by show 10555 + 6 * kk + 6 ≤ 18759; omega)⟩ rfl (fun y u H locs hy hh => ?_)
    obtain ⟨rfl, rfl⟩ := hy
    refine lv_iload hE.1 hE.2 dL_law_321 (lv_at hl 1 rfl) ?_
    refine lv_icmp_eq (tgt := 328) hE.1 hE.2 dL_law_323 (by decide) (fun _ => ?_) (fun hc => absurd rfl hc)
    refine lv_iload hE.1 hE.2 dL_law_328 (lv_at hl 1 rfl) ?_
    refine zv_if_ne (tgt := 345) hE dL_law_330 (by decide) ⟨by decide, by decide⟩ (fun hc => absurd rfl hc) (fun _ => ?_)
    refine lv_aload_n hE.1 hE.2 dL_law_333 rfl (lv_at hl 3 rfl) ?_
    refine zv_iconst hE dL_law_334 ?_
    refine va_lald hE.1 hE.2 hKo hh.1 22 0 rfl rfl (zi_in ⟨by omega, by omega⟩ (by decide)) dL_law_335 ?_
    refine lv_iload hE.1 hE.2 dL_law_336 (lv_at hl 0 rfl) ?_
    refine lv_i2l hE.1 hE.2 dL_law_338 rfl ?_
    rw [show (zi_ 0).toNatClampNeg = 0 from rfl, hg0, hzw]
    refine W.lcmp hE.1 hE.2 dL_law_339 ?_
    rw [lg_self]
    refine zv_if_eq (tgt := 345) hE dL_law_340 (by decide) ⟨by decide, by decide⟩ (fun _ => ?_) (fun hc => absurd rfl hc)
    refine lv_goto (tgt := 398) hE.1 hE.2 dL_law_345 (by decide) ?_
    exact hB1 _ _ _ _ _ _ _ _ _ _ _ _ _ _ _ _ _ _ _ _ _ _ _ _ _ _ _ _ _ (cp_up hcp) hh hlz
  · rcases hm with ⟨-, -, rfl⟩ | ⟨c1, c2, c3, c4, c5, -⟩
    · skip
      refine mj_call (wl := wX_ qx cX (ky, wt, sa, ea, sm, ln, fi, fk, fo, op, ni, ns, ev, cu, wa, fr, oo)) (wf := wM_ qm cM) (x := (mt, ky, wt, sm, ml, mf, mx, op, mi, mg, 1, ni, K, ev, cu, fr, oo)) (wr := [(ao, .inl (co, 1, .inr (.inl g)))]) (rest := []) (As := []) (b := qm 0) hE hml hown hts hA hKM hh (kM_thrown l dC dI qm cM mt ky wt sm ml mf mx op mi mg 1 ni K ev cu fr oo) (cwV 0 hts gL_M_thrown rfl rfl rfl (by decide +kernel) ⟨Nat.le_of_ble_eq_true rfl, Nat.le_of_ble_eq_true rfl⟩) rfl rfl hl.1 rfl (Nat.le_of_ble_eq_true rfl) dL_law_318 ⟨(by show 23 + kk + 1 ≤ 1049; omega), (by show 10555 + 6 * kk + 6 ≤ 18759; omega)⟩ rfl (fun y u H locs hy hh => ?_)
      obtain ⟨rfl, rfl⟩ := hy
      refine lv_iload hE.1 hE.2 dL_law_321 (lv_at hl 1 rfl) ?_
      refine lv_icmp_eq (tgt := 328) hE.1 hE.2 dL_law_323 (by decide) (fun _ => ?_) (fun hc => absurd rfl hc)
      refine lv_iload hE.1 hE.2 dL_law_328 (lv_at hl 1 rfl) ?_
      refine zv_if_ne (tgt := 345) hE dL_law_330 (by decide) ⟨by decide, by decide⟩ (fun _ => ?_) (fun hc => absurd hc (by decide))
      refine lv_goto (tgt := 398) hE.1 hE.2 dL_law_345 (by decide) ?_
      exact hB1 _ _ _ _ _ _ _ _ _ _ _ _ _ _ _ _ _ _ _ _ _ _ _ _ _ _ _ _ _ (cp_up hcp) hh hlz
    · exact absurd ⟨c1, c2, c3, c4, c5⟩ hth
