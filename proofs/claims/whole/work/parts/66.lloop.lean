/-- behind the call of number kk, its own object counted -/
def jB_ (p : Program) (l : Launch) (e : Env) (s : State) (m : MethodId) (below : List Frame) (meth : Method) (c : Code) (dC : Nat → ClassId) (dI : Nat → Nat → Nat) (b : Nat) (qx qm : Nat → Nat) (cX cM : Nat → ClassId) (ao : Nat) (co : ClassId) (kk : Nat) : Prop := ∀ (ky wt sa ea sm ln fi fk fo op : Int → Int) (ni ns ev cu wa fr oo : Int) (mt ml mf mx mi mg : Int → Int) (th K : Int) (f : Nat → Int64) (H : Heap) (locs : List Loc) (ls : Array Slot), cp_ ky wt sa ea sm ln fi fk fo op ni ns ev cu wa fr oo mt ml mf mx mi K ((kk : Int) + 1) → hp_ (dC, dI) vwCl (fun q : Nat => s.heap.size ≤ q) s.heap (wX_ qx cX (ky, wt, sa, ea, sm, ln, fi, fk, fo, op, ni, ns, ev, cu, wa, fr, oo) ++ (wM_ qm cM (mt, ky, wt, sm, ml, mf, mx, op, mi, mg, th, ni, K, ev, cu, fr, oo) ++ [(ao, .inl (co, 1, .inr (.inl f)))])) H locs → lv_has ls 7 [(4, .int (zi_ (3 * (kk : Int)))), (3, .ref ao), (2, .ref (qm 0)), (1, .ref (qx 0)), (0, .ref b)] → W p l e room_1 s m #[Value.ref b] below meth c H locs (23 + (kk + 1)) (10555 + 6 * (kk + 1)) (lw_Z below #[Value.ref b] s) (F0 m 398 ls [])
set_option maxHeartbeats 1000000 in
set_option maxRecDepth 100000 in
theorem lj_next {p : Program} {l : Launch} {e : Env} {s : State} {m : MethodId} {below : List Frame} {meth : Method} {c : Code} {dC : Nat → ClassId} {dI : Nat → Nat → Nat} {b L : Nat} {xs : Nat → Int32} {qx qm : Nat → Nat} {cX cM : Nat → ClassId} {ao : Nat} {co : ClassId} (hL : L ≤ 1536) (C0 : lw_At p s m meth c b L xs) (hKX : va_K (dC, dI) vwCl (tX_ cX) s) (hKM : va_K (dC, dI) vwCl (tM_ cM) s) {kk : Nat} (hn : jC_ p l e s m below meth c dC dI b qx qm cX cM ao co (kk + 1) 23) : jB_ p l e s m below meth c dC dI b qx qm cX cM ao co kk := by
  obtain ⟨hx9, hb9, hr, hml, hown, hts, hX, hbl, hlocks, hgv⟩ := id C0
  have hE : ze_ p c cL_law := ⟨hx9, hb9⟩
  intro ky wt sa ea sm ln fi fk fo op ni ns ev cu wa fr oo mt ml mf mx mi mg th K f H locs ls hcp hh hl
  refine zv_iinc (lv' := [(4, .int (zi_ (3 * (kk : Int) + 3))), (3, .ref ao), (2, .ref (qm 0)), (1, .ref (qx 0)), (0, .ref b)]) hE dL_law_398 hl (k := 0) rfl (by decide) rfl (fun ls hl => ?_)
  refine lv_goto (tgt := 23) hE.1 hE.2 dL_law_401 (by decide) ?_
  refine hn _ _ _ _ _ _ _ _ _ _ _ _ _ _ _ _ _ _ _ _ _ _ _ _ _ _ _ _ _ (by rw [show ((kk + 1 : Nat) : Int) = (kk : Int) + 1 by omega]; exact hcp) hh ?_
  rw [show 3 * ((kk + 1 : Nat) : Int) = 3 * (kk : Int) + 3 by omega]
  exact hl
theorem jB_A {p : Program} {l : Launch} {e : Env} {s : State} {m : MethodId} {below : List Frame} {meth : Method} {c : Code} {dC : Nat → ClassId} {dI : Nat → Nat → Nat} {b : Nat} {qx qm : Nat → Nat} {cX cM : Nat → ClassId} {ao : Nat} {co : ClassId} {kk : Nat} (h : jB_ p l e s m below meth c dC dI b qx qm cX cM ao co kk) : jA_ p l e s m below meth c dC dI b qx qm cX cM ao co kk := fun ky wt sa ea sm ln fi fk fo op ni ns ev cu wa fr oo mt ml mf mx mi mg th K f H locs ls hcp hh hl => W.widen (k := 23 + (kk + 1)) (n := 10555 + 6 * (kk + 1)) (by omega) (by omega) (h ky wt sa ea sm ln fi fk fo op ni ns ev cu wa fr oo mt ml mf mx mi mg th K f H locs ls hcp hh hl)
set_option maxHeartbeats 4000000 in
set_option maxRecDepth 100000 in
theorem law_loop_open {p : Program} {l : Launch} {e : Env} {s : State} {m : MethodId} {below : List Frame} {meth : Method} {c : Code} {dC : Nat → ClassId} {dI : Nat → Nat → Nat} {b L : Nat} {xs : Nat → Int32} {qx qm : Nat → Nat} {cX cM : Nat → ClassId} {ao : Nat} {co : ClassId} (hL : L ≤ 1536) (C0 : lw_At p s m meth c b L xs) (hKX : va_K (dC, dI) vwCl (tX_ cX) s) (hKM : va_K (dC, dI) vwCl (tM_ cM) s) (hof : ∀ kk : Nat, 3 * kk + 3 ≤ L → jB_ p l e s m below meth c dC dI b qx qm cX cM ao co kk → jC_ p l e s m below meth c dC dI b qx qm cX cM ao co kk 280) : ∀ (n kk : Nat), 3 * kk ≤ L → L + 3 ≤ 3 * (kk + n) → jC_ p l e s m below meth c dC dI b qx qm cX cM ao co kk 23 := by
  obtain ⟨hx9, hb9, hr, hml, hown, hts, hX, hbl, hlocks, hgv⟩ := id C0
  have hE : ze_ p c cL_law := ⟨hx9, hb9⟩
  have hbA : ¬ (fun q : Nat => s.heap.size ≤ q) b := Nat.not_le.mpr hbl
  intro n
  induction n with
  | zero => intro kk h1 h2; exfalso; omega
  | succ n ih =>
    intro kk h1 h2 ky wt sa ea sm ln fi fk fo op ni ns ev cu wa fr oo mt ml mf mx mi mg th K f H locs ls hcp hh hl
    refine lv_iload hE.1 hE.2 dL_law_23 (lv_at hl 0 rfl) ?_
    refine lv_aload_n hE.1 hE.2 dL_law_25 rfl (lv_at hl 4 rfl) ?_
    refine zv_slen hE hX hbl hbA hh dL_law_26 ?_
    refine zv_iconst hE dL_law_27 ?_
    refine zv_isub hE dL_law_28 ?_
    refine zv_icmp_gt (tgt := 404) hE dL_law_29 (by decide) ⟨by omega, by omega⟩ ⟨by omega, by omega⟩ (fun hc => ?_) (fun hc => ?_)
    · refine lv_iconst (v := 1) hE.1 hE.2 dL_law_404 (by decide) ?_
      refine va_forget (fun q hq => hh.2.2.2.2 q hq) ?_
      refine W.widen (k := 1049) (n := 18759) (by omega) (by omega) ?_
      exact lw_ret hx9 hb9 hr hlocks dL_law_405
    · have hkk : 3 * kk + 3 ≤ L := by omega
      have hB1 : jB_ p l e s m below meth c dC dI b qx qm cX cM ao co kk := lj_next hL C0 hKX hKM (ih (kk + 1) (by omega) (by omega))
      have hA1 := jB_A hB1
      refine lv_aload_n hE.1 hE.2 dL_law_32 rfl (lv_at hl 4 rfl) ?_
      refine lv_iload hE.1 hE.2 dL_law_33 (lv_at hl 0 rfl) ?_
      refine zv_sld hE hX hbl hbA hh ⟨by omega, by omega⟩ (by omega) dL_law_35 ?_
      refine zv_bipush hE dL_law_36 (by decide) ?_
      refine lv_iand hE.1 hE.2 dL_law_38 ?_
      obtain ⟨j, hj, ej⟩ := pk_andE (zi_ (vs_ xs (3 * (kk : Int)))) (m := zi_ 15) 4 (by decide)
      rw [ej, zi_nI]
      rcases (show j = 0 ∨ j = 1 ∨ j = 2 ∨ j = 3 ∨ j = 4 ∨ j = 5 ∨ j = 6 ∨ j = 7 ∨ j = 8 ∨ j = 9 ∨ j = 10 ∨ j = 11 ∨ j = 12 ∨ 13 ≤ j by omega) with hs | hs | hs | hs | hs | hs | hs | hs | hs | hs | hs | hs | hs | hs
      · subst hs
        refine zv_tblIn (tgt := 104) hE dL_law_39 ⟨by decide, by decide⟩ (by decide) (by decide) rfl (by decide) ?_
        exact lc_begin hL C0 hKX hKM hkk hA1 _ _ _ _ _ _ _ _ _ _ _ _ _ _ _ _ _ _ _ _ _ _ _ _ _ _ _ _ _ hcp hh hl
      · subst hs
        refine zv_tblIn (tgt := 129) hE dL_law_39 ⟨by decide, by decide⟩ (by decide) (by decide) rfl (by decide) ?_
        exact lc_end hL C0 hKX hKM hkk hA1 _ _ _ _ _ _ _ _ _ _ _ _ _ _ _ _ _ _ _ _ _ _ _ _ _ _ _ _ _ hcp hh hl
      · subst hs
        refine zv_tblIn (tgt := 142) hE dL_law_39 ⟨by decide, by decide⟩ (by decide) (by decide) rfl (by decide) ?_
        exact lc_weigh hL C0 hKX hKM hkk hA1 _ _ _ _ _ _ _ _ _ _ _ _ _ _ _ _ _ _ _ _ _ _ _ _ _ _ _ _ _ hcp hh hl
      · subst hs
        refine zv_tblIn (tgt := 167) hE dL_law_39 ⟨by decide, by decide⟩ (by decide) (by decide) rfl (by decide) ?_
        exact lc_stale hL C0 hKX hKM hkk hA1 _ _ _ _ _ _ _ _ _ _ _ _ _ _ _ _ _ _ _ _ _ _ _ _ _ _ _ _ _ hcp hh hl
      · subst hs
        refine zv_tblIn (tgt := 192) hE dL_law_39 ⟨by decide, by decide⟩ (by decide) (by decide) rfl (by decide) ?_
        exact lc_resume hL C0 hKX hKM hkk hA1 _ _ _ _ _ _ _ _ _ _ _ _ _ _ _ _ _ _ _ _ _ _ _ _ _ _ _ _ _ hcp hh hl
      · subst hs
        refine zv_tblIn (tgt := 205) hE dL_law_39 ⟨by decide, by decide⟩ (by decide) (by decide) rfl (by decide) ?_
        exact lc_take hL C0 hKX hKM hkk hA1 _ _ _ _ _ _ _ _ _ _ _ _ _ _ _ _ _ _ _ _ _ _ _ _ _ _ _ _ _ hcp hh hl
      · subst hs
        refine zv_tblIn (tgt := 230) hE dL_law_39 ⟨by decide, by decide⟩ (by decide) (by decide) rfl (by decide) ?_
        exact lc_done hL C0 hKX hKM hkk hA1 _ _ _ _ _ _ _ _ _ _ _ _ _ _ _ _ _ _ _ _ _ _ _ _ _ _ _ _ _ hcp hh hl
      · subst hs
        refine zv_tblIn (tgt := 243) hE dL_law_39 ⟨by decide, by decide⟩ (by decide) (by decide) rfl (by decide) ?_
        exact lc_toEnd hL C0 hKX hKM hkk hA1 _ _ _ _ _ _ _ _ _ _ _ _ _ _ _ _ _ _ _ _ _ _ _ _ _ _ _ _ _ hcp hh hl
      · subst hs
        refine zv_tblIn (tgt := 256) hE dL_law_39 ⟨by decide, by decide⟩ (by decide) (by decide) rfl (by decide) ?_
        exact lc_toBegin hL C0 hKX hKM hkk hA1 _ _ _ _ _ _ _ _ _ _ _ _ _ _ _ _ _ _ _ _ _ _ _ _ _ _ _ _ _ hcp hh hl
      · subst hs
        refine zv_tblIn (tgt := 269) hE dL_law_39 ⟨by decide, by decide⟩ (by decide) (by decide) rfl (by decide) ?_
        exact lc_wipe hL C0 hKX hKM hkk hA1 _ _ _ _ _ _ _ _ _ _ _ _ _ _ _ _ _ _ _ _ _ _ _ _ _ _ _ _ _ hcp hh hl
      · subst hs
        refine zv_tblIn (tgt := 280) hE dL_law_39 ⟨by decide, by decide⟩ (by decide) (by decide) rfl (by decide) ?_
        exact hof kk hkk hB1 _ _ _ _ _ _ _ _ _ _ _ _ _ _ _ _ _ _ _ _ _ _ _ _ _ _ _ _ _ hcp hh hl
      · subst hs
        refine zv_tblIn (tgt := 348) hE dL_law_39 ⟨by decide, by decide⟩ (by decide) (by decide) rfl (by decide) ?_
        exact lc_event hL C0 hKX hKM hkk hA1 _ _ _ _ _ _ _ _ _ _ _ _ _ _ _ _ _ _ _ _ _ _ _ _ _ _ _ _ _ hcp hh hl
      · subst hs
        refine zv_tblIn (tgt := 373) hE dL_law_39 ⟨by decide, by decide⟩ (by decide) (by decide) rfl (by decide) ?_
        exact lc_look hL C0 hKX hKM hkk hA1 _ _ _ _ _ _ _ _ _ _ _ _ _ _ _ _ _ _ _ _ _ _ _ _ _ _ _ _ _ hcp hh hl
      · refine zv_tblOut (tgt := 398) hE dL_law_39 ⟨by omega, by omega⟩ (by omega) (by decide) ?_
        exact hA1 _ _ _ _ _ _ _ _ _ _ _ _ _ _ _ _ _ _ _ _ _ _ _ _ _ _ _ _ _ (cp_up hcp) hh hl
