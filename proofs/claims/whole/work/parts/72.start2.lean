theorem nt_of {l : Launch} (h : l.flags = flags0) : l.stackTraces = false := by
  unfold Launch.stackTraces
  rw [h]
  decide +kernel
set_option maxRecDepth 100000 in
theorem lo_tbl : ∀ w ∈ [Cond.laysStatic Bundle.tN "UNASSIGNED_STACK" Bundle.steD, Cond.laysStatic Bundle.tN "SUPPRESSED_SENTINEL" Bundle.listD, Cond.initialized Bundle.tN, Cond.stringRef RX0 111 "no such interval", Cond.stringRef RX0 125 "no such what"], w ∈ lw_tbl := by decide +kernel
set_option maxRecDepth 100000 in
theorem lo_at {p : Program} {s : State} {m : MethodId} {meth : Method} {c : Code} {b L : Nat} {xs : Nat → Int32} (C0 : lw_At p s m meth c b L xs) : ∃ a1 a2 : Nat, lo_ a1 a2 s := by
  obtain ⟨-, -, -, -, -, hts, -, -, -, hgv⟩ := C0
  have hg := flat_of_before _ hgv
  have g1 : (Cond.isRef (.static Bundle.tN "UNASSIGNED_STACK" Bundle.steD)).before #[Value.ref b] s = true := hg _ (by decide +kernel)
  have g2 : (Cond.isRef (.static Bundle.tN "SUPPRESSED_SENTINEL" Bundle.listD)).before #[Value.ref b] s = true := hg _ (by decide +kernel)
  have g3 : (Cond.exactly (.string RX0 111) "java/lang/String").before #[Value.ref b] s = true := hg _ (by decide +kernel)
  have g4 : (Cond.exactly (.string RX0 125) "java/lang/String").before #[Value.ref b] s = true := hg _ (by decide +kernel)
  obtain ⟨a1, -, -, -, e1, -⟩ := Cond.exactly_spec (show (Cond.exactly (.string RX0 111) "java/lang/String").holds #[Value.ref b] s none s [] = true from g3)
  obtain ⟨a2, -, -, -, e2, -⟩ := Cond.exactly_spec (show (Cond.exactly (.string RX0 125) "java/lang/String").holds #[Value.ref b] s none s [] = true from g4)
  have t1 := hts _ (lo_tbl _ List.mem_cons_self)
  have t2 := hts _ (lo_tbl _ (List.mem_cons_of_mem _ List.mem_cons_self))
  have t3 := hts _ (lo_tbl _ (List.mem_cons_of_mem _ (List.mem_cons_of_mem _ List.mem_cons_self)))
  have t4 := hts _ (lo_tbl _ (List.mem_cons_of_mem _ (List.mem_cons_of_mem _ (List.mem_cons_of_mem _ List.mem_cons_self))))
  have t5 := hts _ (lo_tbl _ (List.mem_cons_of_mem _ (List.mem_cons_of_mem _ (List.mem_cons_of_mem _ (List.mem_cons_of_mem _ List.mem_cons_self)))))
  have hA : ∀ a : Nat, a < s.heap.size → ¬ (fun q : Nat => s.heap.size ≤ q) a := fun a h => Nat.not_le.mpr h
  exact ⟨a1, a2, vx_Zqof t1 t3 g1 hA, vx_Zqof t2 t3 g2 hA, vk_R.of t4 e1, vk_R.of t5 e2, xB_moved (a := #[Value.ref b]) (Vm.Alike.refl s.vm) (fun w h => hts w (xW_tbl w (List.mem_filter.mp h).1))⟩
theorem whole_start {p : Program} {e : Env} {s : State} {m : MethodId} {below : List Frame} {meth : Method} {c : Code} (l : Launch) (hfl : l.flags = flags0) {b L : Nat} {xs : Nat → Int32} (hL : L ≤ 1536) (C0 : lw_At p s m meth c b L xs) : W p l e room_1 s m #[Value.ref b] below meth c s.heap [] 0 0 (lw_Z below #[Value.ref b] s) (entryFrame m ([Value.ref b] : List Value).toArray 7) := by
  obtain ⟨a1, a2, h0⟩ := lo_at C0
  exact whole_start_open l hL C0 (fun dC dI qx qm cX cM ao co hKX hKM hKo kk hkk hB1 => lc_of hL C0 hKX hKM hKo (nt_of hfl) h0 hkk hB1)
