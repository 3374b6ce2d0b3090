set_option maxRecDepth 100000 in
theorem lm_iX : Cond.instantiable RX0 17 ∈ lw_tbl := ((goodIn_r [Cond.instantiable RX0 17] [43] (by decide +kernel) (by decide +kernel)) _ List.mem_cons_self).1
set_option maxRecDepth 100000 in
theorem lm_iM : Cond.instantiable RX1 17 ∈ lw_tbl := ((goodIn_r [Cond.instantiable RX1 17] [308] (by decide +kernel) (by decide +kernel)) _ List.mem_cons_self).1
set_option maxRecDepth 100000 in
theorem lm_cX : Cond.classLink RL 8 RX0 ∈ lw_tbl := ((goodIn_r [Cond.classLink RL 8 RX0] [42] (by decide +kernel) (by decide +kernel)) _ List.mem_cons_self).1
set_option maxRecDepth 100000 in
theorem lm_cM : Cond.classLink RL 16 RX1 ∈ lw_tbl := ((goodIn_r [Cond.classLink RL 16 RX1] [307] (by decide +kernel) (by decide +kernel)) _ List.mem_cons_self).1
set_option maxRecDepth 100000 in
theorem lm_mX : Cond.methodLink RL 15 yX0_init ∈ lw_tbl := ((goodIn_r [Cond.methodLink RL 15 yX0_init] [44] (by decide +kernel) (by decide +kernel)) _ List.mem_cons_self).1
set_option maxRecDepth 100000 in
theorem lm_mM : Cond.methodLink RL 18 yX1_init ∈ lw_tbl := ((goodIn_r [Cond.methodLink RL 18 yX1_init] [309] (by decide +kernel) (by decide +kernel)) _ List.mem_cons_self).1
set_option maxRecDepth 100000 in
theorem lm_al : Cond.arrayClass .long ∈ lw_tbl := ((goodIn_r [Cond.arrayClass .long] [482] (by decide +kernel) (by decide +kernel)) _ List.mem_cons_self).1
theorem gi_cons {T L : List Cond} {cd : Cond} (hL : GoodIn T L) (h : cd ∈ L) : GoodIn T (cd :: L) := fun w hw => (List.mem_cons.mp hw).elim (fun e => by rw [e]; exact hL _ h) (hL w)
set_option maxHeartbeats 1000000 in
set_option maxRecDepth 100000 in
theorem whole_start_open {p : Program} {e : Env} {s : State} {m : MethodId} {below : List Frame} {meth : Method} {c : Code} (l : Launch) {b L : Nat} {xs : Nat → Int32} (hL : L ≤ 1536) (C0 : lw_At p s m meth c b L xs) (hof : ∀ (dC : Nat → ClassId) (dI : Nat → Nat → Nat) (qx qm : Nat → Nat) (cX cM : Nat → ClassId) (ao : Nat) (co : ClassId), va_K (dC, dI) vwCl (tX_ cX) s → va_K (dC, dI) vwCl (tM_ cM) s → va_K (dC, dI) vwCl [(co, .long)] s → ∀ kk : Nat, 3 * kk + 3 ≤ L → jB_ p l e s m below meth c dC dI b qx qm cX cM ao co kk → jC_ p l e s m below meth c dC dI b qx qm cX cM ao co kk 280) : W p l e room_1 s m #[Value.ref b] below meth c s.heap [] 0 0 (lw_Z below #[Value.ref b] s) (entryFrame m ([Value.ref b] : List Value).toArray 7) := by
  obtain ⟨hx, hb, hr, hml, hown, hts, hX, hbl, hlocks, hgv⟩ := id C0
  have hE : ze_ p c cL_law := ⟨hx, hb⟩
  have hown : s.vm.findClass RL = some m.cls := hown
  have hA : ∀ q : Nat, s.heap.size ≤ q → (fun q : Nat => s.heap.size ≤ q) q := fun _ h => h
  have inX : ∀ w ∈ wsX00, w ∈ lw_tbl := fun w h => (glX_ w (inwX_ w h)).1
  have inM : ∀ w ∈ wsX10, w ∈ lw_tbl := fun w h => (glM_ w (inwM_ w h)).1
  obtain ⟨c0, iS0, hKn0⟩ := u_known (C := RX0) (T := TX0) (N := 17) (n := 17) hts inX (hts _ lm_iX)
  obtain ⟨c1, iS1, hKn1⟩ := u_known (C := RX1) (T := TX1) (N := 17) (n := 17) hts inM (hts _ lm_iM)
  obtain ⟨dC, dI, hKc⟩ : ∃ (dC : Nat → ClassId) (dI : Nat → Nat → Nat), ∀ (k : Nat) (q : vw_C), vwCl[k]? = some q → u_Kn s q.1 q.2.1 q.2.2 (dC k) (dI k) := by
    refine ⟨fun k => if k = 0 then c0 else c1, fun k => if k = 0 then iS0 else iS1, ?_⟩
    intro k q hq
    match k, hq with
    | 0, hq => cases hq; exact hKn0
    | 1, hq => cases hq; exact hKn1
    | k + 2, hq => simp [vwCl] at hq
  have hK : va_K (dC, dI) vwCl [] s := ⟨hKc, fun k q h => by simp at h⟩
  have hh : hp_ (dC, dI) vwCl (fun q : Nat => s.heap.size ≤ q) s.heap [] s.heap [] := ⟨fun k q h => by simp at h, ⟨fun i j p q h => by simp at h, fun k q h => by simp at h⟩, va_S.rf⟩
  have hl := lv_entry ([.ref b]) (n := 7) (Nat.le_of_ble_eq_true rfl)
  rw [lg_entry_eq]
  generalize (lg_sl ([.ref b]) ++ List.replicate (7 - (lg_sl ([.ref b])).length) Slot.unset).toArray = ls at hl ⊢
  have hl : lv_has ls 7 [(0, .ref b)] := hl
  refine va_new (ci := 0) (fs := [.null, .null, .null, .null, .null, .int (zi_ 0), .int (zi_ 0), .null, .int (zi_ 0), .int (zi_ 0), .int (zi_ 0), .null, .null, .null, .int (zi_ 0), .null, .int (zi_ 0)]) (C := RX0) (T := TX0) (N := 17) hx hb hts inX tyX0 tyX0_ok hown (hts _ lm_cX) (hts _ lm_iX) (hts _ (glX_ _ mX_in_).1) hK hh.1 hh.2.1 hh.2.2 hA rfl (fun j hj => by rcases (show j = 0 ∨ j = 1 ∨ j = 2 ∨ j = 3 ∨ j = 4 ∨ j = 5 ∨ j = 6 ∨ j = 7 ∨ j = 8 ∨ j = 9 ∨ j = 10 ∨ j = 11 ∨ j = 12 ∨ j = 13 ∨ j = 14 ∨ j = 15 ∨ j = 16 by omega) with rfl | rfl | rfl | rfl | rfl | rfl | rfl | rfl | rfl | rfl | rfl | rfl | rfl | rfl | rfl | rfl | rfl <;> rfl) (Nat.le_of_ble_eq_true rfl) (Nat.le_of_ble_eq_true rfl) dL_law_0 (fun x0 H hP hD hS => ?_)
  have hh : hp_ (dC, dI) vwCl (fun q : Nat => s.heap.size ≤ q) s.heap [(x0, .inr (0, [.null, .null, .null, .null, .null, .int (zi_ 0), .int (zi_ 0), .null, .int (zi_ 0), .int (zi_ 0), .int (zi_ 0), .null, .null, .null, .int (zi_ 0), .null, .int (zi_ 0)]))] H _ := ⟨hP, hD, hS⟩
  have h2 := hh
  refine W.widen (k := 1) (n := 17) (by omega) (by omega) ?_
  refine lv_dup hx hb dL_law_3 rfl ?_
  have hFc := mc_in (wf := fun _ : Unit => [(x0, .inr (0, [.null, .null, .null, .null, .null, .int (zi_ 0), .int (zi_ 0), .null, .int (zi_ 0), .int (zi_ 0), .int (zi_ 0), .null, .null, .null, .int (zi_ 0), .null, .int (zi_ 0)]))]) (x := ()) hA h2
  refine va_callv (va_runI (As := []) (rest := [.ref x0]) (b := x0) (g := F0 m 4 ls [.ref x0, .ref x0]) ⟨hx, hb, hml, hown, hts⟩ (kX_init l dC dI x0 H.size) (cwI 0 hts (gi_cons glX_ mX_co_init) rfl rfl rfl (hts _ (glX_ _ mX_in_).1) (hts _ lm_mX) (hts _ (glX_ _ mX_im_init).1) rfl (by decide +kernel) ⟨Nat.le_of_ble_eq_true rfl, Nat.le_of_ble_eq_true rfl⟩) ⟨fun a U g mk q => by obtain ⟨q0, q1, qP, qK, qD⟩ := q; exact ⟨q0, q1, qP, va_K.moved (u := U) (U := U.calling g mk a) (Vm.Alike.refl U.vm) qK, qD⟩, fun U hU hW => ⟨rfl, by rw [hU], by rw [hU]; exact h2.1, va_K.moved hW.alike hK, h2.2.1.weaken (fun _ _ _ _ => trivial)⟩⟩ rfl rfl hl.1 rfl (lv_room (Nat.le_of_ble_eq_true rfl)) dL_law_4 ⟨Nat.le_of_ble_eq_true rfl, Nat.le_of_ble_eq_true rfl⟩) hh.2.2 (fun q _ h => hFc q h) hFc (fun u t H1 locs ht hvm hw hB hz1 hk1 hS => ?_)
  obtain ⟨qx, cX, xt⟩ := u
  obtain ⟨hP1, hK1, hD1⟩ := hB
  rw [ht] at hP1
  have hKX : va_K (dC, dI) vwCl (tX_ cX) s := va_K.moved hvm.symm hK1
  obtain ⟨hq0, sa1, hsa1, hxt⟩ := hw
  have hq0 : qx 0 = x0 := hq0
  have hxt : xt = _ := hxt
  subst hxt
  subst hq0
  have hh : hp_ (dC, dI) vwCl (fun q : Nat => s.heap.size ≤ q) s.heap (wX_ qx cX _) H1 locs := ⟨hP1, hD1.weaken (fun _ q _ h => hFc q.1 h), hS⟩
  refine W.widen (k := 11) (n := 5009) (by omega) (by omega) ?_
  generalize H1 = H at hh ⊢
  refine lv_astore_n (lv' := [(1, .ref (qx 0)), (0, .ref b)]) hx hb dL_law_7 rfl hl (by decide) rfl (fun ls hl => ?_)
  refine va_new (ci := 1) (fs := [.int (zi_ 0), .null, .null, .null, .null, .int (zi_ 0), .int (zi_ 0), .null, .int (zi_ 0), .int (zi_ 0), .int (zi_ 0), .null, .null, .int (zi_ 0), .null, .null, .null]) (C := RX1) (T := TX1) (N := 17) hx hb hts inM tyX1 tyX1_ok hown (hts _ lm_cM) (hts _ lm_iM) (hts _ (glM_ _ mM_in_).1) hK hh.1 hh.2.1 hh.2.2 hA rfl (fun j hj => by rcases (show j = 0 ∨ j = 1 ∨ j = 2 ∨ j = 3 ∨ j = 4 ∨ j = 5 ∨ j = 6 ∨ j = 7 ∨ j = 8 ∨ j = 9 ∨ j = 10 ∨ j = 11 ∨ j = 12 ∨ j = 13 ∨ j = 14 ∨ j = 15 ∨ j = 16 by omega) with rfl | rfl | rfl | rfl | rfl | rfl | rfl | rfl | rfl | rfl | rfl | rfl | rfl | rfl | rfl | rfl | rfl <;> rfl) (Nat.le_of_ble_eq_true rfl) (Nat.le_of_ble_eq_true rfl) dL_law_8 (fun y0 H hP hD hS => ?_)
  have hh : hp_ (dC, dI) vwCl (fun q : Nat => s.heap.size ≤ q) s.heap (wX_ qx cX _ ++ ([(y0, .inr (1, [.int (zi_ 0), .null, .null, .null, .null, .int (zi_ 0), .int (zi_ 0), .null, .int (zi_ 0), .int (zi_ 0), .int (zi_ 0), .null, .null, .int (zi_ 0), .null, .null, .null]))] ++ [])) H _ := ⟨hP, hD, hS⟩
  have h2 := mj_part hh
  refine W.widen (k := 12) (n := 5026) (by omega) (by omega) ?_
  refine lv_dup hx hb dL_law_11 rfl ?_
  have hFc := mc_in (wf := fun _ : Unit => [(y0, .inr (1, [.int (zi_ 0), .null, .null, .null, .null, .int (zi_ 0), .int (zi_ 0), .null, .int (zi_ 0), .int (zi_ 0), .int (zi_ 0), .null, .null, .int (zi_ 0), .null, .null, .null]))]) (x := ()) hA h2
  refine va_callv (va_runI (As := []) (rest := [.ref y0]) (b := y0) (g := F0 m 12 ls [.ref y0, .ref y0]) ⟨hx, hb, hml, hown, hts⟩ (kM_init l dC dI y0 H.size) (cwI 0 hts (gi_cons glM_ mM_co_init) rfl rfl rfl (hts _ (glM_ _ mM_in_).1) (hts _ lm_mM) (hts _ (glM_ _ mM_im_init).1) rfl (by decide +kernel) ⟨Nat.le_of_ble_eq_true rfl, Nat.le_of_ble_eq_true rfl⟩) ⟨fun a U g mk q => by obtain ⟨q0, q1, qP, qK, qD⟩ := q; exact ⟨q0, q1, qP, va_K.moved (u := U) (U := U.calling g mk a) (Vm.Alike.refl U.vm) qK, qD⟩, fun U hU hW => ⟨rfl, by rw [hU], by rw [hU]; exact h2.1, va_K.moved hW.alike hK, h2.2.1.weaken (fun _ _ _ _ => trivial)⟩⟩ rfl rfl hl.1 rfl (lv_room (Nat.le_of_ble_eq_true rfl)) dL_law_12 ⟨Nat.le_of_ble_eq_true rfl, Nat.le_of_ble_eq_true rfl⟩) hh.2.2 (fun q _ h => hFc q h) hFc (fun u t H1 locs ht hvm hw hB hz1 hk1 hS => ?_)
  obtain ⟨qm, cM, yt⟩ := u
  obtain ⟨hP1, hK1, hD1⟩ := hB
  rw [ht] at hP1
  have hKM : va_K (dC, dI) vwCl (tM_ cM) s := va_K.moved hvm.symm hK1
  obtain ⟨hq0, hyt⟩ := hw
  have hq0 : qm 0 = y0 := hq0
  have hyt : yt = _ := hyt
  subst hyt
  subst hq0
  have hh := mj_back (w2' := wM_ qm cM _) hA hh hP1 hD1 hk1 hS
  refine W.widen (k := 22) (n := 10554) (by omega) (by omega) ?_
  generalize H1 = H at hh ⊢
  refine lv_astore_n (lv' := [(2, .ref (qm 0)), (1, .ref (qx 0)), (0, .ref b)]) hx hb dL_law_15 rfl hl (by decide) rfl (fun ls hl => ?_)
  refine lv_iconst (v := 1) hx hb dL_law_16 (by decide) ?_
  refine va_newa (atype := .long) (ty := .long) (N' := 1) (a0 := (1, .inr (.inl (fun _ => 0)))) hx hb (hts _ lm_al) rfl hK hh.1 hh.2.1 hh.2.2 hA (fun _ => rfl) (by decide) (by decide) (by decide) (Nat.le_of_ble_eq_true rfl) (Nat.le_of_ble_eq_true rfl) dL_law_17 (fun ao co H hKo hP hD hS => ?_)
  have hKo : va_K (dC, dI) vwCl [(co, .long)] s := hKo
  rw [List.append_nil, List.append_assoc] at hP hD
  refine W.widen (k := 23) (n := 10555) (by omega) (by omega) ?_
  refine lv_astore_n (lv' := [(3, .ref ao), (2, .ref (qm 0)), (1, .ref (qx 0)), (0, .ref b)]) hx hb dL_law_19 rfl hl (by decide) rfl (fun ls hl => ?_)
  refine zv_iconst hE dL_law_20 ?_
  refine lv_istore (lv' := [(4, .int (zi_ 0)), (3, .ref ao), (2, .ref (qm 0)), (1, .ref (qx 0)), (0, .ref b)]) hx hb dL_law_21 hl (by decide) rfl (fun ls hl => ?_)
  exact law_loop_open hL C0 hKX hKM (hof dC dI qx qm cX cM ao co hKX hKM hKo) (L + 3) 0 (by omega) (by omega) _ _ _ _ _ _ _ _ _ _ _ _ _ _ _ _ _ _ _ _ _ _ _ _ _ _ _ _ _ (cp_empty hsa1 (fun _ _ _ => rfl) (up_s _ _ _) (up_s _ _ _) (up_s _ _ _) (up_s _ _ _) rfl (by decide) (fun _ _ _ => Or.inl rfl) (fun _ _ _ => ⟨by decide, by decide⟩) (fun _ _ _ => ⟨by decide, by decide⟩)) ⟨hP, hD, hS⟩ hl
