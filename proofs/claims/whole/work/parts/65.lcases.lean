set_option maxHeartbeats 1000000 in
set_option maxRecDepth 100000 in
theorem lc_begin {p : Program} {l : Launch} {e : Env} {s : State} {m : MethodId} {below : List Frame} {meth : Method} {c : Code} {dC : Nat → ClassId} {dI : Nat → Nat → Nat} {b L : Nat} {xs : Nat → Int32} {qx qm : Nat → Nat} {cX cM : Nat → ClassId} {ao : Nat} {co : ClassId} (hL : L ≤ 1536) (C0 : lw_At p s m meth c b L xs) (hKX : va_K (dC, dI) vwCl (tX_ cX) s) (hKM : va_K (dC, dI) vwCl (tM_ cM) s) {kk : Nat} (hkk : 3 * kk + 3 ≤ L) (hA1 : jA_ p l e s m below meth c dC dI b qx qm cX cM ao co kk) : jC_ p l e s m below meth c dC dI b qx qm cX cM ao co kk 104 := by
  obtain ⟨hx9, hb9, hr, hml, hown, hts, hX, hbl, hlocks, hgv⟩ := id C0
  have hE : ze_ p c cL_law := ⟨hx9, hb9⟩
  have hown : s.vm.findClass RL = some m.cls := hown
  have hA : ∀ q : Nat, s.heap.size ≤ q → (fun q : Nat => s.heap.size ≤ q) q := fun _ h => h
  have hbA : ¬ (fun q : Nat => s.heap.size ≤ q) b := Nat.not_le.mpr hbl
  intro ky wt sa ea sm ln fi fk fo op ni ns ev cu wa fr oo mt ml mf mx mi mg th K f H locs ls hcp hh hl
  have hI := hcp.1
  have hM := cp_im hcp (by omega)
  refine lv_aload_n hE.1 hE.2 dL_law_104 rfl (lv_at hl 3 rfl) ?_
  refine lv_aload_n hE.1 hE.2 dL_law_105 rfl (lv_at hl 4 rfl) ?_
  refine lv_iload hE.1 hE.2 dL_law_106 (lv_at hl 0 rfl) ?_
  refine zv_iconst hE dL_law_108 ?_
  refine zv_iadd hE dL_law_109 ?_
  refine zv_sld hE hX hbl hbA hh ⟨by omega, by omega⟩ (by omega) dL_law_110 ?_
  refine mj_call (wl := []) (wf := wX_ qx cX) (x := (ky, wt, sa, ea, sm, ln, fi, fk, fo, op, ni, ns, ev, cu, wa, fr, oo)) (wr := wM_ qm cM (mt, ky, wt, sm, ml, mf, mx, op, mi, mg, th, ni, K, ev, cu, fr, oo) ++ [(ao, .inl (co, 1, .inr (.inl f)))]) (rest := []) (As := [.int (zi_ (vs_ xs (3 * (kk : Int) + 1)))]) (b := qx 0) hE hml hown hts hA hKX hh (kX_begin l dC dI qx cX ky wt sa ea sm ln fi fk fo op ni ns ev cu wa fr oo (vs_ xs (3 * (kk : Int) + 1)) K hI (vs_zr _ _)) (cwV 1 hts gL_X_begin rfl rfl rfl (by decide +kernel) ⟨Nat.le_of_ble_eq_true rfl, Nat.le_of_ble_eq_true rfl⟩) rfl rfl hl.1 rfl (Nat.le_of_ble_eq_true rfl) dL_law_111 ⟨(by show 23 + kk ≤ 1049; omega), (by show 10555 + 6 * kk ≤ 18759; omega)⟩ rfl (fun z u H locs hx hh => ?_)
  refine lv_aload_n hE.1 hE.2 dL_law_114 rfl (lv_at hl 2 rfl) ?_
  refine lv_aload_n hE.1 hE.2 dL_law_115 rfl (lv_at hl 4 rfl) ?_
  refine lv_iload hE.1 hE.2 dL_law_116 (lv_at hl 0 rfl) ?_
  refine zv_iconst hE dL_law_118 ?_
  refine zv_iadd hE dL_law_119 ?_
  refine zv_sld hE hX hbl hbA hh ⟨by omega, by omega⟩ (by omega) dL_law_120 ?_
  refine mj_call (wl := wX_ qx cX u) (wf := wM_ qm cM) (x := (mt, ky, wt, sm, ml, mf, mx, op, mi, mg, th, ni, K, ev, cu, fr, oo)) (wr := [(ao, .inl (co, 1, .inr (.inl f)))]) (rest := [.int (zi_ z)]) (As := [.int (zi_ (vs_ xs (3 * (kk : Int) + 1)))]) (b := qm 0) hE hml hown hts hA hKM hh (kM_begin l dC dI qm cM mt ky wt sm ml mf mx op mi mg th ni K ev cu fr oo (vs_ xs (3 * (kk : Int) + 1)) sa ea hM (vs_zr _ _)) (cwV 1 hts gL_M_begin rfl rfl rfl (by decide +kernel) ⟨Nat.le_of_ble_eq_true rfl, Nat.le_of_ble_eq_true rfl⟩) rfl rfl hl.1 rfl (Nat.le_of_ble_eq_true rfl) dL_law_121 ⟨(by show 23 + kk ≤ 1049; omega), (by show 10555 + 6 * kk ≤ 18759; omega)⟩ rfl (fun w v H locs hm hh => ?_)
  obtain ⟨hzw, hq⟩ := op_begin (th := th) (n := (kk : Int)) hcp (by omega) (vs_zr _ _) hx hm
  refine lv_icmp_eq (tgt := 398) hE.1 hE.2 dL_law_124 (by decide) (fun _ => ?_) (fun hc => absurd (by rw [hzw]) hc)
  obtain ⟨ky, wt, sa, ea, sm, ln, fi, fk, fo, op, ni, ns, ev, cu, wa, fr, oo, mt, ml, mf, mx, mi, mg, th, K, rfl, rfl, hcp⟩ := hq
  exact hA1 _ _ _ _ _ _ _ _ _ _ _ _ _ _ _ _ _ _ _ _ _ _ _ _ _ _ _ _ _ hcp hh hl
set_option maxHeartbeats 1000000 in
set_option maxRecDepth 100000 in
theorem lc_end {p : Program} {l : Launch} {e : Env} {s : State} {m : MethodId} {below : List Frame} {meth : Method} {c : Code} {dC : Nat → ClassId} {dI : Nat → Nat → Nat} {b L : Nat} {xs : Nat → Int32} {qx qm : Nat → Nat} {cX cM : Nat → ClassId} {ao : Nat} {co : ClassId} (hL : L ≤ 1536) (C0 : lw_At p s m meth c b L xs) (hKX : va_K (dC, dI) vwCl (tX_ cX) s) (hKM : va_K (dC, dI) vwCl (tM_ cM) s) {kk : Nat} (hkk : 3 * kk + 3 ≤ L) (hA1 : jA_ p l e s m below meth c dC dI b qx qm cX cM ao co kk) : jC_ p l e s m below meth c dC dI b qx qm cX cM ao co kk 129 := by
  obtain ⟨hx9, hb9, hr, hml, hown, hts, hX, hbl, hlocks, hgv⟩ := id C0
  have hE : ze_ p c cL_law := ⟨hx9, hb9⟩
  have hown : s.vm.findClass RL = some m.cls := hown
  have hA : ∀ q : Nat, s.heap.size ≤ q → (fun q : Nat => s.heap.size ≤ q) q := fun _ h => h
  have hbA : ¬ (fun q : Nat => s.heap.size ≤ q) b := Nat.not_le.mpr hbl
  intro ky wt sa ea sm ln fi fk fo op ni ns ev cu wa fr oo mt ml mf mx mi mg th K f H locs ls hcp hh hl
  have hI := hcp.1
  have hM := cp_im hcp (by omega)
  refine lv_aload_n hE.1 hE.2 dL_law_129 rfl (lv_at hl 3 rfl) ?_
  refine mj_call (wl := []) (wf := wX_ qx cX) (x := (ky, wt, sa, ea, sm, ln, fi, fk, fo, op, ni, ns, ev, cu, wa, fr, oo)) (wr := wM_ qm cM (mt, ky, wt, sm, ml, mf, mx, op, mi, mg, th, ni, K, ev, cu, fr, oo) ++ [(ao, .inl (co, 1, .inr (.inl f)))]) (rest := []) (As := []) (b := qx 0) hE hml hown hts hA hKX hh (kX_end l dC dI qx cX ky wt sa ea sm ln fi fk fo op ni ns ev cu wa fr oo K hI) (cwV 0 hts gL_X_end rfl rfl rfl (by decide +kernel) ⟨Nat.le_of_ble_eq_true rfl, Nat.le_of_ble_eq_true rfl⟩) rfl rfl hl.1 rfl (Nat.le_of_ble_eq_true rfl) dL_law_130 ⟨(by show 23 + kk ≤ 1049; omega), (by show 10555 + 6 * kk ≤ 18759; omega)⟩ rfl (fun z u H locs hx hh => ?_)
  refine lv_aload_n hE.1 hE.2 dL_law_133 rfl (lv_at hl 2 rfl) ?_
  refine mj_call (wl := wX_ qx cX u) (wf := wM_ qm cM) (x := (mt, ky, wt, sm, ml, mf, mx, op, mi, mg, th, ni, K, ev, cu, fr, oo)) (wr := [(ao, .inl (co, 1, .inr (.inl f)))]) (rest := [.int (zi_ z)]) (As := []) (b := qm 0) hE hml hown hts hA hKM hh (kM_end l dC dI qm cM mt ky wt sm ml mf mx op mi mg th ni K ev cu fr oo sa ea hM) (cwV 0 hts gL_M_end rfl rfl rfl (by decide +kernel) ⟨Nat.le_of_ble_eq_true rfl, Nat.le_of_ble_eq_true rfl⟩) rfl rfl hl.1 rfl (Nat.le_of_ble_eq_true rfl) dL_law_134 ⟨(by show 23 + kk ≤ 1049; omega), (by show 10555 + 6 * kk ≤ 18759; omega)⟩ rfl (fun w v H locs hm hh => ?_)
  obtain ⟨hzw, hq⟩ := op_end (th := th) (n := (kk : Int)) hcp (by omega) hx hm
  refine lv_icmp_eq (tgt := 398) hE.1 hE.2 dL_law_137 (by decide) (fun _ => ?_) (fun hc => absurd (by rw [hzw]) hc)
  obtain ⟨ky, wt, sa, ea, sm, ln, fi, fk, fo, op, ni, ns, ev, cu, wa, fr, oo, mt, ml, mf, mx, mi, mg, th, K, rfl, rfl, hcp⟩ := hq
  exact hA1 _ _ _ _ _ _ _ _ _ _ _ _ _ _ _ _ _ _ _ _ _ _ _ _ _ _ _ _ _ hcp hh hl
set_option maxHeartbeats 1000000 in
set_option maxRecDepth 100000 in
theorem lc_weigh {p : Program} {l : Launch} {e : Env} {s : State} {m : MethodId} {below : List Frame} {meth : Method} {c : Code} {dC : Nat → ClassId} {dI : Nat → Nat → Nat} {b L : Nat} {xs : Nat → Int32} {qx qm : Nat → Nat} {cX cM : Nat → ClassId} {ao : Nat} {co : ClassId} (hL : L ≤ 1536) (C0 : lw_At p s m meth c b L xs) (hKX : va_K (dC, dI) vwCl (tX_ cX) s) (hKM : va_K (dC, dI) vwCl (tM_ cM) s) {kk : Nat} (hkk : 3 * kk + 3 ≤ L) (hA1 : jA_ p l e s m below meth c dC dI b qx qm cX cM ao co kk) : jC_ p l e s m below meth c dC dI b qx qm cX cM ao co kk 142 := by
  obtain ⟨hx9, hb9, hr, hml, hown, hts, hX, hbl, hlocks, hgv⟩ := id C0
  have hE : ze_ p c cL_law := ⟨hx9, hb9⟩
  have hown : s.vm.findClass RL = some m.cls := hown
  have hA : ∀ q : Nat, s.heap.size ≤ q → (fun q : Nat => s.heap.size ≤ q) q := fun _ h => h
  have hbA : ¬ (fun q : Nat => s.heap.size ≤ q) b := Nat.not_le.mpr hbl
  intro ky wt sa ea sm ln fi fk fo op ni ns ev cu wa fr oo mt ml mf mx mi mg th K f H locs ls hcp hh hl
  have hI := hcp.1
  have hM := cp_im hcp (by omega)
  refine lv_aload_n hE.1 hE.2 dL_law_142 rfl (lv_at hl 3 rfl) ?_
  refine lv_aload_n hE.1 hE.2 dL_law_143 rfl (lv_at hl 4 rfl) ?_
  refine lv_iload hE.1 hE.2 dL_law_144 (lv_at hl 0 rfl) ?_
  refine zv_iconst hE dL_law_146 ?_
  refine zv_iadd hE dL_law_147 ?_
  refine zv_sld hE hX hbl hbA hh ⟨by omega, by omega⟩ (by omega) dL_law_148 ?_
  refine mj_call (wl := []) (wf := wX_ qx cX) (x := (ky, wt, sa, ea, sm, ln, fi, fk, fo, op, ni, ns, ev, cu, wa, fr, oo)) (wr := wM_ qm cM (mt, ky, wt, sm, ml, mf, mx, op, mi, mg, th, ni, K, ev, cu, fr, oo) ++ [(ao, .inl (co, 1, .inr (.inl f)))]) (rest := []) (As := [.int (zi_ (vs_ xs (3 * (kk : Int) + 1)))]) (b := qx 0) hE hml hown hts hA hKX hh (kX_weigh l dC dI qx cX ky wt sa ea sm ln fi fk fo op ni ns ev cu wa fr oo (vs_ xs (3 * (kk : Int) + 1)) K hI (vs_zr _ _)) (cwV 1 hts gL_X_weigh rfl rfl rfl (by decide +kernel) ⟨Nat.le_of_ble_eq_true rfl, Nat.le_of_ble_eq_true rfl⟩) rfl rfl hl.1 rfl (Nat.le_of_ble_eq_true rfl) dL_law_149 ⟨(by show 23 + kk ≤ 1049; omega), (by show 10555 + 6 * kk ≤ 18759; omega)⟩ rfl (fun z u H locs hx hh => ?_)
  refine lv_aload_n hE.1 hE.2 dL_law_152 rfl (lv_at hl 2 rfl) ?_
  refine lv_aload_n hE.1 hE.2 dL_law_153 rfl (lv_at hl 4 rfl) ?_
  refine lv_iload hE.1 hE.2 dL_law_154 (lv_at hl 0 rfl) ?_
  refine zv_iconst hE dL_law_156 ?_
  refine zv_iadd hE dL_law_157 ?_
  refine zv_sld hE hX hbl hbA hh ⟨by omega, by omega⟩ (by omega) dL_law_158 ?_
  refine mj_call (wl := wX_ qx cX u) (wf := wM_ qm cM) (x := (mt, ky, wt, sm, ml, mf, mx, op, mi, mg, th, ni, K, ev, cu, fr, oo)) (wr := [(ao, .inl (co, 1, .inr (.inl f)))]) (rest := [.int (zi_ z)]) (As := [.int (zi_ (vs_ xs (3 * (kk : Int) + 1)))]) (b := qm 0) hE hml hown hts hA hKM hh (kM_weigh l dC dI qm cM mt ky wt sm ml mf mx op mi mg th ni K ev cu fr oo (vs_ xs (3 * (kk : Int) + 1)) sa ea hM (vs_zr _ _)) (cwV 1 hts gL_M_weigh rfl rfl rfl (by decide +kernel) ⟨Nat.le_of_ble_eq_true rfl, Nat.le_of_ble_eq_true rfl⟩) rfl rfl hl.1 rfl (Nat.le_of_ble_eq_true rfl) dL_law_159 ⟨(by show 23 + kk ≤ 1049; omega), (by show 10555 + 6 * kk ≤ 18759; omega)⟩ rfl (fun w v H locs hm hh => ?_)
  obtain ⟨hzw, hq⟩ := op_weigh (th := th) (n := (kk : Int)) hcp (by omega) hx hm
  refine lv_icmp_eq (tgt := 398) hE.1 hE.2 dL_law_162 (by decide) (fun _ => ?_) (fun hc => absurd (by rw [hzw]) hc)
  obtain ⟨ky, wt, sa, ea, sm, ln, fi, fk, fo, op, ni, ns, ev, cu, wa, fr, oo, mt, ml, mf, mx, mi, mg, th, K, rfl, rfl, hcp⟩ := hq
  exact hA1 _ _ _ _ _ _ _ _ _ _ _ _ _ _ _ _ _ _ _ _ _ _ _ _ _ _ _ _ _ hcp hh hl
set_option maxHeartbeats 1000000 in
set_option maxRecDepth 100000 in
theorem lc_stale {p : Program} {l : Launch} {e : Env} {s : State} {m : MethodId} {below : List Frame} {meth : Method} {c : Code} {dC : Nat → ClassId} {dI : Nat → Nat → Nat} {b L : Nat} {xs : Nat → Int32} {qx qm : Nat → Nat} {cX cM : Nat → ClassId} {ao : Nat} {co : ClassId} (hL : L ≤ 1536) (C0 : lw_At p s m meth c b L xs) (hKX : va_K (dC, dI) vwCl (tX_ cX) s) (hKM : va_K (dC, dI) vwCl (tM_ cM) s) {kk : Nat} (hkk : 3 * kk + 3 ≤ L) (hA1 : jA_ p l e s m below meth c dC dI b qx qm cX cM ao co kk) : jC_ p l e s m below meth c dC dI b qx qm cX cM ao co kk 167 := by
  obtain ⟨hx9, hb9, hr, hml, hown, hts, hX, hbl, hlocks, hgv⟩ := id C0
  have hE : ze_ p c cL_law := ⟨hx9, hb9⟩
  have hown : s.vm.findClass RL = some m.cls := hown
  have hA : ∀ q : Nat, s.heap.size ≤ q → (fun q : Nat => s.heap.size ≤ q) q := fun _ h => h
  have hbA : ¬ (fun q : Nat => s.heap.size ≤ q) b := Nat.not_le.mpr hbl
  intro ky wt sa ea sm ln fi fk fo op ni ns ev cu wa fr oo mt ml mf mx mi mg th K f H locs ls hcp hh hl
  have hI := hcp.1
  have hM := cp_im hcp (by omega)
  refine lv_aload_n hE.1 hE.2 dL_law_167 rfl (lv_at hl 3 rfl) ?_
  refine lv_aload_n hE.1 hE.2 dL_law_168 rfl (lv_at hl 4 rfl) ?_
  refine lv_iload hE.1 hE.2 dL_law_169 (lv_at hl 0 rfl) ?_
  refine zv_iconst hE dL_law_171 ?_
  refine zv_iadd hE dL_law_172 ?_
  refine zv_sld hE hX hbl hbA hh ⟨by omega, by omega⟩ (by omega) dL_law_173 ?_
  refine mj_call (wl := []) (wf := wX_ qx cX) (x := (ky, wt, sa, ea, sm, ln, fi, fk, fo, op, ni, ns, ev, cu, wa, fr, oo)) (wr := wM_ qm cM (mt, ky, wt, sm, ml, mf, mx, op, mi, mg, th, ni, K, ev, cu, fr, oo) ++ [(ao, .inl (co, 1, .inr (.inl f)))]) (rest := []) (As := [.int (zi_ (vs_ xs (3 * (kk : Int) + 1)))]) (b := qx 0) hE hml hown hts hA hKX hh (kX_stale l dC dI qx cX ky wt sa ea sm ln fi fk fo op ni ns ev cu wa fr oo (vs_ xs (3 * (kk : Int) + 1)) K hI (vs_zr _ _)) (cwV 1 hts gL_X_stale rfl rfl rfl (by decide +kernel) ⟨Nat.le_of_ble_eq_true rfl, Nat.le_of_ble_eq_true rfl⟩) rfl rfl hl.1 rfl (Nat.le_of_ble_eq_true rfl) dL_law_174 ⟨(by show 23 + kk ≤ 1049; omega), (by show 10555 + 6 * kk ≤ 18759; omega)⟩ rfl (fun z u H locs hx hh => ?_)
  refine lv_aload_n hE.1 hE.2 dL_law_177 rfl (lv_at hl 2 rfl) ?_
  refine lv_aload_n hE.1 hE.2 dL_law_178 rfl (lv_at hl 4 rfl) ?_
  refine lv_iload hE.1 hE.2 dL_law_179 (lv_at hl 0 rfl) ?_
  refine zv_iconst hE dL_law_181 ?_
  refine zv_iadd hE dL_law_182 ?_
  refine zv_sld hE hX hbl hbA hh ⟨by omega, by omega⟩ (by omega) dL_law_183 ?_
  refine mj_call (wl := wX_ qx cX u) (wf := wM_ qm cM) (x := (mt, ky, wt, sm, ml, mf, mx, op, mi, mg, th, ni, K, ev, cu, fr, oo)) (wr := [(ao, .inl (co, 1, .inr (.inl f)))]) (rest := [.int (zi_ z)]) (As := [.int (zi_ (vs_ xs (3 * (kk : Int) + 1)))]) (b := qm 0) hE hml hown hts hA hKM hh (kM_stale l dC dI qm cM mt ky wt sm ml mf mx op mi mg th ni K ev cu fr oo (vs_ xs (3 * (kk : Int) + 1)) sa ea hM (vs_zr _ _)) (cwV 1 hts gL_M_stale rfl rfl rfl (by decide +kernel) ⟨Nat.le_of_ble_eq_true rfl, Nat.le_of_ble_eq_true rfl⟩) rfl rfl hl.1 rfl (Nat.le_of_ble_eq_true rfl) dL_law_184 ⟨(by show 23 + kk ≤ 1049; omega), (by show 10555 + 6 * kk ≤ 18759; omega)⟩ rfl (fun w v H locs hm hh => ?_)
  obtain ⟨hzw, hq⟩ := op_stale (th := th) (n := (kk : Int)) hcp (by omega) hx hm
  refine lv_icmp_eq (tgt := 398) hE.1 hE.2 dL_law_187 (by decide) (fun _ => ?_) (fun hc => absurd (by rw [hzw]) hc)
  obtain ⟨ky, wt, sa, ea, sm, ln, fi, fk, fo, op, ni, ns, ev, cu, wa, fr, oo, mt, ml, mf, mx, mi, mg, th, K, rfl, rfl, hcp⟩ := hq
  exact hA1 _ _ _ _ _ _ _ _ _ _ _ _ _ _ _ _ _ _ _ _ _ _ _ _ _ _ _ _ _ hcp hh hl
set_option maxHeartbeats 1000000 in
set_option maxRecDepth 100000 in
theorem lc_resume {p : Program} {l : Launch} {e : Env} {s : State} {m : MethodId} {below : List Frame} {meth : Method} {c : Code} {dC : Nat → ClassId} {dI : Nat → Nat → Nat} {b L : Nat} {xs : Nat → Int32} {qx qm : Nat → Nat} {cX cM : Nat → ClassId} {ao : Nat} {co : ClassId} (hL : L ≤ 1536) (C0 : lw_At p s m meth c b L xs) (hKX : va_K (dC, dI) vwCl (tX_ cX) s) (hKM : va_K (dC, dI) vwCl (tM_ cM) s) {kk : Nat} (hkk : 3 * kk + 3 ≤ L) (hA1 : jA_ p l e s m below meth c dC dI b qx qm cX cM ao co kk) : jC_ p l e s m below meth c dC dI b qx qm cX cM ao co kk 192 := by
  obtain ⟨hx9, hb9, hr, hml, hown, hts, hX, hbl, hlocks, hgv⟩ := id C0
  have hE : ze_ p c cL_law := ⟨hx9, hb9⟩
  have hown : s.vm.findClass RL = some m.cls := hown
  have hA : ∀ q : Nat, s.heap.size ≤ q → (fun q : Nat => s.heap.size ≤ q) q := fun _ h => h
  have hbA : ¬ (fun q : Nat => s.heap.size ≤ q) b := Nat.not_le.mpr hbl
  intro ky wt sa ea sm ln fi fk fo op ni ns ev cu wa fr oo mt ml mf mx mi mg th K f H locs ls hcp hh hl
  have hI := hcp.1
  have hM := cp_im hcp (by omega)
  refine lv_aload_n hE.1 hE.2 dL_law_192 rfl (lv_at hl 3 rfl) ?_
  refine mj_call (wl := []) (wf := wX_ qx cX) (x := (ky, wt, sa, ea, sm, ln, fi, fk, fo, op, ni, ns, ev, cu, wa, fr, oo)) (wr := wM_ qm cM (mt, ky, wt, sm, ml, mf, mx, op, mi, mg, th, ni, K, ev, cu, fr, oo) ++ [(ao, .inl (co, 1, .inr (.inl f)))]) (rest := []) (As := []) (b := qx 0) hE hml hown hts hA hKX hh (kX_resume l dC dI qx cX ky wt sa ea sm ln fi fk fo op ni ns ev cu wa fr oo K hI) (cwV 0 hts gL_X_resume rfl rfl rfl (by decide +kernel) ⟨Nat.le_of_ble_eq_true rfl, Nat.le_of_ble_eq_true rfl⟩) rfl rfl hl.1 rfl (Nat.le_of_ble_eq_true rfl) dL_law_193 ⟨(by show 23 + kk ≤ 1049; omega), (by show 10555 + 6 * kk ≤ 18759; omega)⟩ rfl (fun z u H locs hx hh => ?_)
  refine lv_aload_n hE.1 hE.2 dL_law_196 rfl (lv_at hl 2 rfl) ?_
  refine mj_call (wl := wX_ qx cX u) (wf := wM_ qm cM) (x := (mt, ky, wt, sm, ml, mf, mx, op, mi, mg, th, ni, K, ev, cu, fr, oo)) (wr := [(ao, .inl (co, 1, .inr (.inl f)))]) (rest := [.int (zi_ z)]) (As := []) (b := qm 0) hE hml hown hts hA hKM hh (kM_resume l dC dI qm cM mt ky wt sm ml mf mx op mi mg th ni K ev cu fr oo sa ea hM) (cwV 0 hts gL_M_resume rfl rfl rfl (by decide +kernel) ⟨Nat.le_of_ble_eq_true rfl, Nat.le_of_ble_eq_true rfl⟩) rfl rfl hl.1 rfl (Nat.le_of_ble_eq_true rfl) dL_law_197 ⟨(by show 23 + kk ≤ 1049; omega), (by show 10555 + 6 * kk ≤ 18759; omega)⟩ rfl (fun w v H locs hm hh => ?_)
  obtain ⟨hzw, hq⟩ := op_resume (th := th) (n := (kk : Int)) hcp (by omega) hx hm
  refine lv_icmp_eq (tgt := 398) hE.1 hE.2 dL_law_200 (by decide) (fun _ => ?_) (fun hc => absurd (by rw [hzw]) hc)
  obtain ⟨ky, wt, sa, ea, sm, ln, fi, fk, fo, op, ni, ns, ev, cu, wa, fr, oo, mt, ml, mf, mx, mi, mg, th, K, rfl, rfl, hcp⟩ := hq
  exact hA1 _ _ _ _ _ _ _ _ _ _ _ _ _ _ _ _ _ _ _ _ _ _ _ _ _ _ _ _ _ hcp hh hl
set_option maxHeartbeats 1000000 in
set_option maxRecDepth 100000 in
theorem lc_take {p : Program} {l : Launch} {e : Env} {s : State} {m : MethodId} {below : List Frame} {meth : Method} {c : Code} {dC : Nat → ClassId} {dI : Nat → Nat → Nat} {b L : Nat} {xs : Nat → Int32} {qx qm : Nat → Nat} {cX cM : Nat → ClassId} {ao : Nat} {co : ClassId} (hL : L ≤ 1536) (C0 : lw_At p s m meth c b L xs) (hKX : va_K (dC, dI) vwCl (tX_ cX) s) (hKM : va_K (dC, dI) vwCl (tM_ cM) s) {kk : Nat} (hkk : 3 * kk + 3 ≤ L) (hA1 : jA_ p l e s m below meth c dC dI b qx qm cX cM ao co kk) : jC_ p l e s m below meth c dC dI b qx qm cX cM ao co kk 205 := by
  obtain ⟨hx9, hb9, hr, hml, hown, hts, hX, hbl, hlocks, hgv⟩ := id C0
  have hE : ze_ p c cL_law := ⟨hx9, hb9⟩
  have hown : s.vm.findClass RL = some m.cls := hown
  have hA : ∀ q : Nat, s.heap.size ≤ q → (fun q : Nat => s.heap.size ≤ q) q := fun _ h => h
  have hbA : ¬ (fun q : Nat => s.heap.size ≤ q) b := Nat.not_le.mpr hbl
  intro ky wt sa ea sm ln fi fk fo op ni ns ev cu wa fr oo mt ml mf mx mi mg th K f H locs ls hcp hh hl
  have hI := hcp.1
  have hM := cp_im hcp (by omega)
  refine lv_aload_n hE.1 hE.2 dL_law_205 rfl (lv_at hl 3 rfl) ?_
  refine lv_aload_n hE.1 hE.2 dL_law_206 rfl (lv_at hl 4 rfl) ?_
  refine lv_iload hE.1 hE.2 dL_law_207 (lv_at hl 0 rfl) ?_
  refine zv_iconst hE dL_law_209 ?_
  refine zv_iadd hE dL_law_210 ?_
  refine zv_sld hE hX hbl hbA hh ⟨by omega, by omega⟩ (by omega) dL_law_211 ?_
  refine mj_call (wl := []) (wf := wX_ qx cX) (x := (ky, wt, sa, ea, sm, ln, fi, fk, fo, op, ni, ns, ev, cu, wa, fr, oo)) (wr := wM_ qm cM (mt, ky, wt, sm, ml, mf, mx, op, mi, mg, th, ni, K, ev, cu, fr, oo) ++ [(ao, .inl (co, 1, .inr (.inl f)))]) (rest := []) (As := [.int (zi_ (vs_ xs (3 * (kk : Int) + 1)))]) (b := qx 0) hE hml hown hts hA hKX hh (kX_take l dC dI qx cX ky wt sa ea sm ln fi fk fo op ni ns ev cu wa fr oo (vs_ xs (3 * (kk : Int) + 1)) K hI (vs_zr _ _)) (cwV 1 hts gL_X_take rfl rfl rfl (by decide +kernel) ⟨Nat.le_of_ble_eq_true rfl, Nat.le_of_ble_eq_true rfl⟩) rfl rfl hl.1 rfl (Nat.le_of_ble_eq_true rfl) dL_law_212 ⟨(by show 23 + kk ≤ 1049; omega), (by show 10555 + 6 * kk ≤ 18759; omega)⟩ rfl (fun z u H locs hx hh => ?_)
  refine lv_aload_n hE.1 hE.2 dL_law_215 rfl (lv_at hl 2 rfl) ?_
  refine lv_aload_n hE.1 hE.2 dL_law_216 rfl (lv_at hl 4 rfl) ?_
  refine lv_iload hE.1 hE.2 dL_law_217 (lv_at hl 0 rfl) ?_
  refine zv_iconst hE dL_law_219 ?_
  refine zv_iadd hE dL_law_220 ?_
  refine zv_sld hE hX hbl hbA hh ⟨by omega, by omega⟩ (by omega) dL_law_221 ?_
  refine mj_call (wl := wX_ qx cX u) (wf := wM_ qm cM) (x := (mt, ky, wt, sm, ml, mf, mx, op, mi, mg, th, ni, K, ev, cu, fr, oo)) (wr := [(ao, .inl (co, 1, .inr (.inl f)))]) (rest := [.int (zi_ z)]) (As := [.int (zi_ (vs_ xs (3 * (kk : Int) + 1)))]) (b := qm 0) hE hml hown hts hA hKM hh (kM_take l dC dI qm cM mt ky wt sm ml mf mx op mi mg th ni K ev cu fr oo (vs_ xs (3 * (kk : Int) + 1)) sa ea hM (vs_zr _ _)) (cwV 1 hts gL_M_take rfl rfl rfl (by decide +kernel) ⟨Nat.le_of_ble_eq_true rfl, Nat.le_of_ble_eq_true rfl⟩) rfl rfl hl.1 rfl (Nat.le_of_ble_eq_true rfl) dL_law_222 ⟨(by show 23 + kk ≤ 1049; omega), (by show 10555 + 6 * kk ≤ 18759; omega)⟩ rfl (fun w v H locs hm hh => ?_)
  obtain ⟨hzw, hq⟩ := op_take (th := th) (n := (kk : Int)) hcp (by omega) hx hm
  refine lv_icmp_eq (tgt := 398) hE.1 hE.2 dL_law_225 (by decide) (fun _ => ?_) (fun hc => absurd (by rw [hzw]) hc)
  obtain ⟨ky, wt, sa, ea, sm, ln, fi, fk, fo, op, ni, ns, ev, cu, wa, fr, oo, mt, ml, mf, mx, mi, mg, th, K, rfl, rfl, hcp⟩ := hq
  exact hA1 _ _ _ _ _ _ _ _ _ _ _ _ _ _ _ _ _ _ _ _ _ _ _ _ _ _ _ _ _ hcp hh hl
set_option maxHeartbeats 1000000 in
set_option maxRecDepth 100000 in
theorem lc_done {p : Program} {l : Launch} {e : Env} {s : State} {m : MethodId} {below : List Frame} {meth : Method} {c : Code} {dC : Nat → ClassId} {dI : Nat → Nat → Nat} {b L : Nat} {xs : Nat → Int32} {qx qm : Nat → Nat} {cX cM : Nat → ClassId} {ao : Nat} {co : ClassId} (hL : L ≤ 1536) (C0 : lw_At p s m meth c b L xs) (hKX : va_K (dC, dI) vwCl (tX_ cX) s) (hKM : va_K (dC, dI) vwCl (tM_ cM) s) {kk : Nat} (hkk : 3 * kk + 3 ≤ L) (hA1 : jA_ p l e s m below meth c dC dI b qx qm cX cM ao co kk) : jC_ p l e s m below meth c dC dI b qx qm cX cM ao co kk 230 := by
  obtain ⟨hx9, hb9, hr, hml, hown, hts, hX, hbl, hlocks, hgv⟩ := id C0
  have hE : ze_ p c cL_law := ⟨hx9, hb9⟩
  have hown : s.vm.findClass RL = some m.cls := hown
  have hA : ∀ q : Nat, s.heap.size ≤ q → (fun q : Nat => s.heap.size ≤ q) q := fun _ h => h
  have hbA : ¬ (fun q : Nat => s.heap.size ≤ q) b := Nat.not_le.mpr hbl
  intro ky wt sa ea sm ln fi fk fo op ni ns ev cu wa fr oo mt ml mf mx mi mg th K f H locs ls hcp hh hl
  have hI := hcp.1
  have hM := cp_im hcp (by omega)
  refine lv_aload_n hE.1 hE.2 dL_law_230 rfl (lv_at hl 3 rfl) ?_
  refine mj_call (wl := []) (wf := wX_ qx cX) (x := (ky, wt, sa, ea, sm, ln, fi, fk, fo, op, ni, ns, ev, cu, wa, fr, oo)) (wr := wM_ qm cM (mt, ky, wt, sm, ml, mf, mx, op, mi, mg, th, ni, K, ev, cu, fr, oo) ++ [(ao, .inl (co, 1, .inr (.inl f)))]) (rest := []) (As := []) (b := qx 0) hE hml hown hts hA hKX hh (kX_done l dC dI qx cX ky wt sa ea sm ln fi fk fo op ni ns ev cu wa fr oo K hI) (cwV 0 hts gL_X_done rfl rfl rfl (by decide +kernel) ⟨Nat.le_of_ble_eq_true rfl, Nat.le_of_ble_eq_true rfl⟩) rfl rfl hl.1 rfl (Nat.le_of_ble_eq_true rfl) dL_law_231 ⟨(by show 23 + kk ≤ 1049; omega), (by show 10555 + 6 * kk ≤ 18759; omega)⟩ rfl (fun z u H locs hx hh => ?_)
  refine lv_aload_n hE.1 hE.2 dL_law_234 rfl (lv_at hl 2 rfl) ?_
  refine mj_call (wl := wX_ qx cX u) (wf := wM_ qm cM) (x := (mt, ky, wt, sm, ml, mf, mx, op, mi, mg, th, ni, K, ev, cu, fr, oo)) (wr := [(ao, .inl (co, 1, .inr (.inl f)))]) (rest := [.int (zi_ z)]) (As := []) (b := qm 0) hE hml hown hts hA hKM hh (kM_done l dC dI qm cM mt ky wt sm ml mf mx op mi mg th ni K ev cu fr oo sa ea hM) (cwV 0 hts gL_M_done rfl rfl rfl (by decide +kernel) ⟨Nat.le_of_ble_eq_true rfl, Nat.le_of_ble_eq_true rfl⟩) rfl rfl hl.1 rfl (Nat.le_of_ble_eq_true rfl) dL_law_235 ⟨(by show 23 + kk ≤ 1049; omega), (by show 10555 + 6 * kk ≤ 18759; omega)⟩ rfl (fun w v H locs hm hh => ?_)
  obtain ⟨hzw, hq⟩ := op_done (th := th) (n := (kk : Int)) hcp (by omega) hx hm
  refine lv_icmp_eq (tgt := 398) hE.1 hE.2 dL_law_238 (by decide) (fun _ => ?_) (fun hc => absurd (by rw [hzw]) hc)
  obtain ⟨ky, wt, sa, ea, sm, ln, fi, fk, fo, op, ni, ns, ev, cu, wa, fr, oo, mt, ml, mf, mx, mi, mg, th, K, rfl, rfl, hcp⟩ := hq
  exact hA1 _ _ _ _ _ _ _ _ _ _ _ _ _ _ _ _ _ _ _ _ _ _ _ _ _ _ _ _ _ hcp hh hl
set_option maxHeartbeats 1000000 in
set_option maxRecDepth 100000 in
theorem lc_toEnd {p : Program} {l : Launch} {e : Env} {s : State} {m : MethodId} {below : List Frame} {meth : Method} {c : Code} {dC : Nat → ClassId} {dI : Nat → Nat → Nat} {b L : Nat} {xs : Nat → Int32} {qx qm : Nat → Nat} {cX cM : Nat → ClassId} {ao : Nat} {co : ClassId} (hL : L ≤ 1536) (C0 : lw_At p s m meth c b L xs) (hKX : va_K (dC, dI) vwCl (tX_ cX) s) (hKM : va_K (dC, dI) vwCl (tM_ cM) s) {kk : Nat} (hkk : 3 * kk + 3 ≤ L) (hA1 : jA_ p l e s m below meth c dC dI b qx qm cX cM ao co kk) : jC_ p l e s m below meth c dC dI b qx qm cX cM ao co kk 243 := by
  obtain ⟨hx9, hb9, hr, hml, hown, hts, hX, hbl, hlocks, hgv⟩ := id C0
  have hE : ze_ p c cL_law := ⟨hx9, hb9⟩
  have hown : s.vm.findClass RL = some m.cls := hown
  have hA : ∀ q : Nat, s.heap.size ≤ q → (fun q : Nat => s.heap.size ≤ q) q := fun _ h => h
  have hbA : ¬ (fun q : Nat => s.heap.size ≤ q) b := Nat.not_le.mpr hbl
  intro ky wt sa ea sm ln fi fk fo op ni ns ev cu wa fr oo mt ml mf mx mi mg th K f H locs ls hcp hh hl
  have hI := hcp.1
  have hM := cp_im hcp (by omega)
  refine lv_aload_n hE.1 hE.2 dL_law_243 rfl (lv_at hl 3 rfl) ?_
  refine mj_call (wl := []) (wf := wX_ qx cX) (x := (ky, wt, sa, ea, sm, ln, fi, fk, fo, op, ni, ns, ev, cu, wa, fr, oo)) (wr := wM_ qm cM (mt, ky, wt, sm, ml, mf, mx, op, mi, mg, th, ni, K, ev, cu, fr, oo) ++ [(ao, .inl (co, 1, .inr (.inl f)))]) (rest := []) (As := []) (b := qx 0) hE hml hown hts hA hKX hh (kX_toEnd l dC dI qx cX ky wt sa ea sm ln fi fk fo op ni ns ev cu wa fr oo K hI) (cwV 0 hts gL_X_toEnd rfl rfl rfl (by decide +kernel) ⟨Nat.le_of_ble_eq_true rfl, Nat.le_of_ble_eq_true rfl⟩) rfl rfl hl.1 rfl (Nat.le_of_ble_eq_true rfl) dL_law_244 ⟨(by show 23 + kk ≤ 1049; omega), (by show 10555 + 6 * kk ≤ 18759; omega)⟩ rfl (fun z u H locs hx hh => ?_)
  refine lv_aload_n hE.1 hE.2 dL_law_247 rfl (lv_at hl 2 rfl) ?_
  refine mj_call (wl := wX_ qx cX u) (wf := wM_ qm cM) (x := (mt, ky, wt, sm, ml, mf, mx, op, mi, mg, th, ni, K, ev, cu, fr, oo)) (wr := [(ao, .inl (co, 1, .inr (.inl f)))]) (rest := [.int (zi_ z)]) (As := []) (b := qm 0) hE hml hown hts hA hKM hh (kM_toEnd l dC dI qm cM mt ky wt sm ml mf mx op mi mg th ni K ev cu fr oo sa ea hM) (cwV 0 hts gL_M_toEnd rfl rfl rfl (by decide +kernel) ⟨Nat.le_of_ble_eq_true rfl, Nat.le_of_ble_eq_true rfl⟩) rfl rfl hl.1 rfl (Nat.le_of_ble_eq_true rfl) dL_law_248 ⟨(by show 23 + kk ≤ 1049; omega), (by show 10555 + 6 * kk ≤ 18759; omega)⟩ rfl (fun w v H locs hm hh => ?_)
  obtain ⟨hzw, hq⟩ := op_toEnd (th := th) (n := (kk : Int)) hcp (by omega) hx hm
  refine lv_icmp_eq (tgt := 398) hE.1 hE.2 dL_law_251 (by decide) (fun _ => ?_) (fun hc => absurd (by rw [hzw]) hc)
  obtain ⟨ky, wt, sa, ea, sm, ln, fi, fk, fo, op, ni, ns, ev, cu, wa, fr, oo, mt, ml, mf, mx, mi, mg, th, K, rfl, rfl, hcp⟩ := hq
  exact hA1 _ _ _ _ _ _ _ _ _ _ _ _ _ _ _ _ _ _ _ _ _ _ _ _ _ _ _ _ _ hcp hh hl
set_option maxHeartbeats 1000000 in
set_option maxRecDepth 100000 in
theorem lc_toBegin {p : Program} {l : Launch} {e : Env} {s : State} {m : MethodId} {below : List Frame} {meth : Method} {c : Code} {dC : Nat → ClassId} {dI : Nat → Nat → Nat} {b L : Nat} {xs : Nat → Int32} {qx qm : Nat → Nat} {cX cM : Nat → ClassId} {ao : Nat} {co : ClassId} (hL : L ≤ 1536) (C0 : lw_At p s m meth c b L xs) (hKX : va_K (dC, dI) vwCl (tX_ cX) s) (hKM : va_K (dC, dI) vwCl (tM_ cM) s) {kk : Nat} (hkk : 3 * kk + 3 ≤ L) (hA1 : jA_ p l e s m below meth c dC dI b qx qm cX cM ao co kk) : jC_ p l e s m below meth c dC dI b qx qm cX cM ao co kk 256 := by
  obtain ⟨hx9, hb9, hr, hml, hown, hts, hX, hbl, hlocks, hgv⟩ := id C0
  have hE : ze_ p c cL_law := ⟨hx9, hb9⟩
  have hown : s.vm.findClass RL = some m.cls := hown
  have hA : ∀ q : Nat, s.heap.size ≤ q → (fun q : Nat => s.heap.size ≤ q) q := fun _ h => h
  have hbA : ¬ (fun q : Nat => s.heap.size ≤ q) b := Nat.not_le.mpr hbl
  intro ky wt sa ea sm ln fi fk fo op ni ns ev cu wa fr oo mt ml mf mx mi mg th K f H locs ls hcp hh hl
  have hI := hcp.1
  have hM := cp_im hcp (by omega)
  refine lv_aload_n hE.1 hE.2 dL_law_256 rfl (lv_at hl 3 rfl) ?_
  refine mj_call (wl := []) (wf := wX_ qx cX) (x := (ky, wt, sa, ea, sm, ln, fi, fk, fo, op, ni, ns, ev, cu, wa, fr, oo)) (wr := wM_ qm cM (mt, ky, wt, sm, ml, mf, mx, op, mi, mg, th, ni, K, ev, cu, fr, oo) ++ [(ao, .inl (co, 1, .inr (.inl f)))]) (rest := []) (As := []) (b := qx 0) hE hml hown hts hA hKX hh (kX_toBegin l dC dI qx cX ky wt sa ea sm ln fi fk fo op ni ns ev cu wa fr oo K hI) (cwV 0 hts gL_X_toBegin rfl rfl rfl (by decide +kernel) ⟨Nat.le_of_ble_eq_true rfl, Nat.le_of_ble_eq_true rfl⟩) rfl rfl hl.1 rfl (Nat.le_of_ble_eq_true rfl) dL_law_257 ⟨(by show 23 + kk ≤ 1049; omega), (by show 10555 + 6 * kk ≤ 18759; omega)⟩ rfl (fun z u H locs hx hh => ?_)
  refine lv_aload_n hE.1 hE.2 dL_law_260 rfl (lv_at hl 2 rfl) ?_
  refine mj_call (wl := wX_ qx cX u) (wf := wM_ qm cM) (x := (mt, ky, wt, sm, ml, mf, mx, op, mi, mg, th, ni, K, ev, cu, fr, oo)) (wr := [(ao, .inl (co, 1, .inr (.inl f)))]) (rest := [.int (zi_ z)]) (As := []) (b := qm 0) hE hml hown hts hA hKM hh (kM_toBegin l dC dI qm cM mt ky wt sm ml mf mx op mi mg th ni K ev cu fr oo sa ea hM) (cwV 0 hts gL_M_toBegin rfl rfl rfl (by decide +kernel) ⟨Nat.le_of_ble_eq_true rfl, Nat.le_of_ble_eq_true rfl⟩) rfl rfl hl.1 rfl (Nat.le_of_ble_eq_true rfl) dL_law_261 ⟨(by show 23 + kk ≤ 1049; omega), (by show 10555 + 6 * kk ≤ 18759; omega)⟩ rfl (fun w v H locs hm hh => ?_)
  obtain ⟨hzw, hq⟩ := op_toBegin (th := th) (n := (kk : Int)) hcp (by omega) hx hm
  refine lv_icmp_eq (tgt := 398) hE.1 hE.2 dL_law_264 (by decide) (fun _ => ?_) (fun hc => absurd (by rw [hzw]) hc)
  obtain ⟨ky, wt, sa, ea, sm, ln, fi, fk, fo, op, ni, ns, ev, cu, wa, fr, oo, mt, ml, mf, mx, mi, mg, th, K, rfl, rfl, hcp⟩ := hq
  exact hA1 _ _ _ _ _ _ _ _ _ _ _ _ _ _ _ _ _ _ _ _ _ _ _ _ _ _ _ _ _ hcp hh hl
set_option maxHeartbeats 1000000 in
set_option maxRecDepth 100000 in
theorem lc_wipe {p : Program} {l : Launch} {e : Env} {s : State} {m : MethodId} {below : List Frame} {meth : Method} {c : Code} {dC : Nat → ClassId} {dI : Nat → Nat → Nat} {b L : Nat} {xs : Nat → Int32} {qx qm : Nat → Nat} {cX cM : Nat → ClassId} {ao : Nat} {co : ClassId} (hL : L ≤ 1536) (C0 : lw_At p s m meth c b L xs) (hKX : va_K (dC, dI) vwCl (tX_ cX) s) (hKM : va_K (dC, dI) vwCl (tM_ cM) s) {kk : Nat} (hkk : 3 * kk + 3 ≤ L) (hA1 : jA_ p l e s m below meth c dC dI b qx qm cX cM ao co kk) : jC_ p l e s m below meth c dC dI b qx qm cX cM ao co kk 269 := by
  obtain ⟨hx9, hb9, hr, hml, hown, hts, hX, hbl, hlocks, hgv⟩ := id C0
  have hE : ze_ p c cL_law := ⟨hx9, hb9⟩
  have hown : s.vm.findClass RL = some m.cls := hown
  have hA : ∀ q : Nat, s.heap.size ≤ q → (fun q : Nat => s.heap.size ≤ q) q := fun _ h => h
  have hbA : ¬ (fun q : Nat => s.heap.size ≤ q) b := Nat.not_le.mpr hbl
  intro ky wt sa ea sm ln fi fk fo op ni ns ev cu wa fr oo mt ml mf mx mi mg th K f H locs ls hcp hh hl
  have hI := hcp.1
  have hM := cp_im hcp (by omega)
  refine lv_aload_n hE.1 hE.2 dL_law_269 rfl (lv_at hl 3 rfl) ?_
  refine mj_callv (wl := []) (wf := wX_ qx cX) (x := (ky, wt, sa, ea, sm, ln, fi, fk, fo, op, ni, ns, ev, cu, wa, fr, oo)) (wr := wM_ qm cM (mt, ky, wt, sm, ml, mf, mx, op, mi, mg, th, ni, K, ev, cu, fr, oo) ++ [(ao, .inl (co, 1, .inr (.inl f)))]) (rest := []) (As := []) (b := qx 0) hE hml hown hts hA hKX hh (kX_wipe l dC dI qx cX ky wt sa ea sm ln fi fk fo op ni ns ev cu wa fr oo) (cwV 0 hts gL_X_wipe rfl rfl rfl (by decide +kernel) ⟨Nat.le_of_ble_eq_true rfl, Nat.le_of_ble_eq_true rfl⟩) rfl rfl hl.1 rfl (Nat.le_of_ble_eq_true rfl) dL_law_270 ⟨(by show 23 + kk ≤ 1049; omega), (by show 10555 + 6 * kk ≤ 18759; omega)⟩ rfl (fun u H locs hx hh => ?_)
  refine lv_aload_n hE.1 hE.2 dL_law_273 rfl (lv_at hl 2 rfl) ?_
  refine mj_callv (wl := wX_ qx cX u) (wf := wM_ qm cM) (x := (mt, ky, wt, sm, ml, mf, mx, op, mi, mg, th, ni, K, ev, cu, fr, oo)) (wr := [(ao, .inl (co, 1, .inr (.inl f)))]) (rest := []) (As := []) (b := qm 0) hE hml hown hts hA hKM hh (kM_wipe l dC dI qm cM mt ky wt sm ml mf mx op mi mg th ni K ev cu fr oo) (cwV 0 hts gL_M_wipe rfl rfl rfl (by decide +kernel) ⟨Nat.le_of_ble_eq_true rfl, Nat.le_of_ble_eq_true rfl⟩) rfl rfl hl.1 rfl (Nat.le_of_ble_eq_true rfl) dL_law_274 ⟨(by show 23 + kk ≤ 1049; omega), (by show 10555 + 6 * kk ≤ 18759; omega)⟩ rfl (fun v H locs hm hh => ?_)
  have hq := op_wipe (n := (kk : Int)) hcp (by omega) hx hm
  refine lv_goto (tgt := 398) hE.1 hE.2 dL_law_277 (by decide) ?_
  obtain ⟨ky, wt, sa, ea, sm, ln, fi, fk, fo, op, ni, ns, ev, cu, wa, fr, oo, mt, ml, mf, mx, mi, mg, th, K, rfl, rfl, hcp⟩ := hq
  exact hA1 _ _ _ _ _ _ _ _ _ _ _ _ _ _ _ _ _ _ _ _ _ _ _ _ _ _ _ _ _ hcp hh hl
set_option maxHeartbeats 1000000 in
set_option maxRecDepth 100000 in
theorem lc_event {p : Program} {l : Launch} {e : Env} {s : State} {m : MethodId} {below : List Frame} {meth : Method} {c : Code} {dC : Nat → ClassId} {dI : Nat → Nat → Nat} {b L : Nat} {xs : Nat → Int32} {qx qm : Nat → Nat} {cX cM : Nat → ClassId} {ao : Nat} {co : ClassId} (hL : L ≤ 1536) (C0 : lw_At p s m meth c b L xs) (hKX : va_K (dC, dI) vwCl (tX_ cX) s) (hKM : va_K (dC, dI) vwCl (tM_ cM) s) {kk : Nat} (hkk : 3 * kk + 3 ≤ L) (hA1 : jA_ p l e s m below meth c dC dI b qx qm cX cM ao co kk) : jC_ p l e s m below meth c dC dI b qx qm cX cM ao co kk 348 := by
  obtain ⟨hx9, hb9, hr, hml, hown, hts, hX, hbl, hlocks, hgv⟩ := id C0
  have hE : ze_ p c cL_law := ⟨hx9, hb9⟩
  have hown : s.vm.findClass RL = some m.cls := hown
  have hA : ∀ q : Nat, s.heap.size ≤ q → (fun q : Nat => s.heap.size ≤ q) q := fun _ h => h
  have hbA : ¬ (fun q : Nat => s.heap.size ≤ q) b := Nat.not_le.mpr hbl
  intro ky wt sa ea sm ln fi fk fo op ni ns ev cu wa fr oo mt ml mf mx mi mg th K f H locs ls hcp hh hl
  have hI := hcp.1
  have hM := cp_im hcp (by omega)
  refine lv_aload_n hE.1 hE.2 dL_law_348 rfl (lv_at hl 3 rfl) ?_
  refine lv_aload_n hE.1 hE.2 dL_law_349 rfl (lv_at hl 4 rfl) ?_
  refine lv_iload hE.1 hE.2 dL_law_350 (lv_at hl 0 rfl) ?_
  refine zv_iconst hE dL_law_352 ?_
  refine zv_iadd hE dL_law_353 ?_
  refine zv_sld hE hX hbl hbA hh ⟨by omega, by omega⟩ (by omega) dL_law_354 ?_
  refine mj_call (wl := []) (wf := wX_ qx cX) (x := (ky, wt, sa, ea, sm, ln, fi, fk, fo, op, ni, ns, ev, cu, wa, fr, oo)) (wr := wM_ qm cM (mt, ky, wt, sm, ml, mf, mx, op, mi, mg, th, ni, K, ev, cu, fr, oo) ++ [(ao, .inl (co, 1, .inr (.inl f)))]) (rest := []) (As := [.int (zi_ (vs_ xs (3 * (kk : Int) + 1)))]) (b := qx 0) hE hml hown hts hA hKX hh (kX_event l dC dI qx cX ky wt sa ea sm ln fi fk fo op ni ns ev cu wa fr oo (vs_ xs (3 * (kk : Int) + 1)) K hI (vs_zr _ _)) (cwV 1 hts gL_X_event rfl rfl rfl (by decide +kernel) ⟨Nat.le_of_ble_eq_true rfl, Nat.le_of_ble_eq_true rfl⟩) rfl rfl hl.1 rfl (Nat.le_of_ble_eq_true rfl) dL_law_355 ⟨(by show 23 + kk ≤ 1049; omega), (by show 10555 + 6 * kk ≤ 18759; omega)⟩ rfl (fun z u H locs hx hh => ?_)
  refine lv_aload_n hE.1 hE.2 dL_law_358 rfl (lv_at hl 2 rfl) ?_
  refine lv_aload_n hE.1 hE.2 dL_law_359 rfl (lv_at hl 4 rfl) ?_
  refine lv_iload hE.1 hE.2 dL_law_360 (lv_at hl 0 rfl) ?_
  refine zv_iconst hE dL_law_362 ?_
  refine zv_iadd hE dL_law_363 ?_
  refine zv_sld hE hX hbl hbA hh ⟨by omega, by omega⟩ (by omega) dL_law_364 ?_
  refine mj_call (wl := wX_ qx cX u) (wf := wM_ qm cM) (x := (mt, ky, wt, sm, ml, mf, mx, op, mi, mg, th, ni, K, ev, cu, fr, oo)) (wr := [(ao, .inl (co, 1, .inr (.inl f)))]) (rest := [.int (zi_ z)]) (As := [.int (zi_ (vs_ xs (3 * (kk : Int) + 1)))]) (b := qm 0) hE hml hown hts hA hKM hh (kM_event l dC dI qm cM mt ky wt sm ml mf mx op mi mg th ni K ev cu fr oo (vs_ xs (3 * (kk : Int) + 1)) sa ea hM (vs_zr _ _)) (cwV 1 hts gL_M_event rfl rfl rfl (by decide +kernel) ⟨Nat.le_of_ble_eq_true rfl, Nat.le_of_ble_eq_true rfl⟩) rfl rfl hl.1 rfl (Nat.le_of_ble_eq_true rfl) dL_law_365 ⟨(by show 23 + kk ≤ 1049; omega), (by show 10555 + 6 * kk ≤ 18759; omega)⟩ rfl (fun w v H locs hm hh => ?_)
  obtain ⟨hzw, hq⟩ := op_event (th := th) (n := (kk : Int)) hcp (by omega) hx hm
  refine lv_icmp_eq (tgt := 398) hE.1 hE.2 dL_law_368 (by decide) (fun _ => ?_) (fun hc => absurd (by rw [hzw]) hc)
  obtain ⟨ky, wt, sa, ea, sm, ln, fi, fk, fo, op, ni, ns, ev, cu, wa, fr, oo, mt, ml, mf, mx, mi, mg, th, K, rfl, rfl, hcp⟩ := hq
  exact hA1 _ _ _ _ _ _ _ _ _ _ _ _ _ _ _ _ _ _ _ _ _ _ _ _ _ _ _ _ _ hcp hh hl
set_option maxHeartbeats 1000000 in
set_option maxRecDepth 100000 in
theorem lc_look {p : Program} {l : Launch} {e : Env} {s : State} {m : MethodId} {below : List Frame} {meth : Method} {c : Code} {dC : Nat → ClassId} {dI : Nat → Nat → Nat} {b L : Nat} {xs : Nat → Int32} {qx qm : Nat → Nat} {cX cM : Nat → ClassId} {ao : Nat} {co : ClassId} (hL : L ≤ 1536) (C0 : lw_At p s m meth c b L xs) (hKX : va_K (dC, dI) vwCl (tX_ cX) s) (hKM : va_K (dC, dI) vwCl (tM_ cM) s) {kk : Nat} (hkk : 3 * kk + 3 ≤ L) (hA1 : jA_ p l e s m below meth c dC dI b qx qm cX cM ao co kk) : jC_ p l e s m below meth c dC dI b qx qm cX cM ao co kk 373 := by
  obtain ⟨hx9, hb9, hr, hml, hown, hts, hX, hbl, hlocks, hgv⟩ := id C0
  have hE : ze_ p c cL_law := ⟨hx9, hb9⟩
  have hown : s.vm.findClass RL = some m.cls := hown
  have hA : ∀ q : Nat, s.heap.size ≤ q → (fun q : Nat => s.heap.size ≤ q) q := fun _ h => h
  have hbA : ¬ (fun q : Nat => s.heap.size ≤ q) b := Nat.not_le.mpr hbl
  intro ky wt sa ea sm ln fi fk fo op ni ns ev cu wa fr oo mt ml mf mx mi mg th K f H locs ls hcp hh hl
  have hI := hcp.1
  have hM := cp_im hcp (by omega)
  refine lv_aload_n hE.1 hE.2 dL_law_373 rfl (lv_at hl 3 rfl) ?_
  refine lv_aload_n hE.1 hE.2 dL_law_374 rfl (lv_at hl 4 rfl) ?_
  refine lv_iload hE.1 hE.2 dL_law_375 (lv_at hl 0 rfl) ?_
  refine zv_iconst hE dL_law_377 ?_
  refine zv_iadd hE dL_law_378 ?_
  refine zv_sld hE hX hbl hbA hh ⟨by omega, by omega⟩ (by omega) dL_law_379 ?_
  refine mj_call (wl := []) (wf := wX_ qx cX) (x := (ky, wt, sa, ea, sm, ln, fi, fk, fo, op, ni, ns, ev, cu, wa, fr, oo)) (wr := wM_ qm cM (mt, ky, wt, sm, ml, mf, mx, op, mi, mg, th, ni, K, ev, cu, fr, oo) ++ [(ao, .inl (co, 1, .inr (.inl f)))]) (rest := []) (As := [.int (zi_ (vs_ xs (3 * (kk : Int) + 1)))]) (b := qx 0) hE hml hown hts hA hKX hh (kX_look l dC dI qx cX ky wt sa ea sm ln fi fk fo op ni ns ev cu wa fr oo (vs_ xs (3 * (kk : Int) + 1)) K hI (vs_zr _ _)) (cwV 1 hts gL_X_look rfl rfl rfl (by decide +kernel) ⟨Nat.le_of_ble_eq_true rfl, Nat.le_of_ble_eq_true rfl⟩) rfl rfl hl.1 rfl (Nat.le_of_ble_eq_true rfl) dL_law_380 ⟨(by show 23 + kk ≤ 1049; omega), (by show 10555 + 6 * kk ≤ 18759; omega)⟩ rfl (fun z u H locs hx hh => ?_)
  refine lv_aload_n hE.1 hE.2 dL_law_383 rfl (lv_at hl 2 rfl) ?_
  refine lv_aload_n hE.1 hE.2 dL_law_384 rfl (lv_at hl 4 rfl) ?_
  refine lv_iload hE.1 hE.2 dL_law_385 (lv_at hl 0 rfl) ?_
  refine zv_iconst hE dL_law_387 ?_
  refine zv_iadd hE dL_law_388 ?_
  refine zv_sld hE hX hbl hbA hh ⟨by omega, by omega⟩ (by omega) dL_law_389 ?_
  refine mj_call (wl := wX_ qx cX u) (wf := wM_ qm cM) (x := (mt, ky, wt, sm, ml, mf, mx, op, mi, mg, th, ni, K, ev, cu, fr, oo)) (wr := [(ao, .inl (co, 1, .inr (.inl f)))]) (rest := [.int (zi_ z)]) (As := [.int (zi_ (vs_ xs (3 * (kk : Int) + 1)))]) (b := qm 0) hE hml hown hts hA hKM hh (kM_look l dC dI qm cM mt ky wt sm ml mf mx op mi mg th ni K ev cu fr oo (vs_ xs (3 * (kk : Int) + 1)) sa ea hM (vs_zr _ _)) (cwV 1 hts gL_M_look rfl rfl rfl (by decide +kernel) ⟨Nat.le_of_ble_eq_true rfl, Nat.le_of_ble_eq_true rfl⟩) rfl rfl hl.1 rfl (Nat.le_of_ble_eq_true rfl) dL_law_390 ⟨(by show 23 + kk ≤ 1049; omega), (by show 10555 + 6 * kk ≤ 18759; omega)⟩ rfl (fun w v H locs hm hh => ?_)
  obtain ⟨hzw, hq⟩ := op_look (th := th) (n := (kk : Int)) hcp (by omega) hx hm
  refine lv_icmp_eq (tgt := 398) hE.1 hE.2 dL_law_393 (by decide) (fun _ => ?_) (fun hc => absurd (by rw [hzw]) hc)
  obtain ⟨ky, wt, sa, ea, sm, ln, fi, fk, fo, op, ni, ns, ev, cu, wa, fr, oo, mt, ml, mf, mx, mi, mg, th, K, rfl, rfl, hcp⟩ := hq
  exact hA1 _ _ _ _ _ _ _ _ _ _ _ _ _ _ _ _ _ _ _ _ _ _ _ _ _ _ _ _ _ hcp hh hl
