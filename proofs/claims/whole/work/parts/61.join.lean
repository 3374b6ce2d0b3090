section MJ
variable {p : Program} {l : Launch} {e : Env} {R : Room} {s : State} {m : MethodId} {args : Array Value} {below : List Frame} {meth : Method} {c : Code} {H : Heap} {locs : List Loc} {cells slots : Nat} {Q : State → Prop}
variable {cc : ByteArray} {pc : Nat} {ls : Array Slot} {rest : List Value} {D : va_G} {cl : List vw_C} {A : Nat → Prop} {b : Nat} {tys : List (ClassId × FieldType)} {H0 : Heap} {S : Type} {wf : S → va_W} {x u : S} {wl wr : va_W}
variable {y : MethodName} {bytes : ByteArray} {maxL nL n index ci : Nat} {ret : Option FieldType} {ws ws' : List Cond} {rm : Room} {Ts : List Cond} {own C : String} {As : List Value}
theorem mj_get {w1 w2 w3 : va_W} {k : Nat} {q : Nat × va_E} (h : w2[k]? = some q) : (w1 ++ (w2 ++ w3))[w1.length + k]? = some q := by
  rw [List.getElem?_append_right (by omega), Nat.add_sub_cancel_left, List.getElem?_append_left (List.getElem?_eq_some_iff.mp h).1]
  exact h
theorem mj_mem {w1 w2 w3 : va_W} {q : Nat × va_E} (h : q ∈ w2) : q ∈ w1 ++ (w2 ++ w3) := List.mem_append_right _ (List.mem_append_left _ h)
/-- the callee's part of a world -/
theorem mj_part {w2 : va_W} (hh : hp_ D cl A H0 (wl ++ (w2 ++ wr)) H locs) : hp_ D cl A H0 w2 H locs := by
  refine ⟨fun k q hk => hh.1 _ q (mj_get hk), ⟨fun i j p q hi hj e => ?_, fun k q hk => hh.2.1.2 _ q (mj_get hk)⟩, hh.2.2⟩
  have := hh.2.1.1 _ _ p q (mj_get hi) (mj_get hj) e
  omega
/-- the world behind a call of that part: the rest is as it was -/
theorem mj_back {w2 w2' : va_W} {H1 : Heap} {locs1 : List Loc} (hA : ∀ q, H0.size ≤ q → A q) (hh : hp_ D cl A H0 (wl ++ (w2 ++ wr)) H locs) (hP : va_P D cl w2' H1) (hD : va_D (va_A w2 H.size) w2') (hk : ∀ q : Nat, q < H.size → ¬ va_A w2 H.size q → H1[q]? = H[q]?) (hS : va_S A H0 H1 locs1) : hp_ D cl A H0 (wl ++ (w2' ++ wr)) H1 locs1 := by
  have h2 := mj_part hh
  have hin : ∀ q, va_A w2 H.size q → A q := fun q h => by
    rcases h with ⟨k, e, hk⟩ | h
    · exact h2.2.1.2 k _ hk
    · exact hA q (Nat.le_trans hh.2.2.1 h)
  -- a cell outside the part: its address is none of the callee's
  have hout : ∀ (i : Nat) (q : Nat × va_E), (wl ++ (w2 ++ wr))[i]? = some q → (i < wl.length ∨ wl.length + w2.length ≤ i) → q.1 < H.size ∧ ¬ va_A w2 H.size q.1 := fun i q hi ho => by
    have hlt := (hh.1 i q hi).lt
    refine ⟨hlt, fun z => ?_⟩
    rcases z with ⟨k, e, hk2⟩ | z
    · have h9 := hh.2.1.1 i _ q (q.1, e) hi (mj_get hk2) rfl
      have := (List.getElem?_eq_some_iff.mp hk2).1
      omega
    · omega
  have hlen : ∀ {w9 : va_W} {i : Nat} {q : Nat × va_E}, (wl ++ (w9 ++ wr))[i]? = some q → (i < wl.length ∧ wl[i]? = some q) ∨ (wl.length ≤ i ∧ i < wl.length + w9.length ∧ w9[i - wl.length]? = some q) ∨ (wl.length + w9.length ≤ i ∧ wr[i - wl.length - w9.length]? = some q) := fun {w9 i q} hi => by
    by_cases h1 : i < wl.length
    · rw [List.getElem?_append_left h1] at hi
      exact Or.inl ⟨h1, hi⟩
    · rw [List.getElem?_append_right (by omega)] at hi
      by_cases h3 : i - wl.length < w9.length
      · rw [List.getElem?_append_left h3] at hi
        exact Or.inr (Or.inl ⟨by omega, by omega, hi⟩)
      · rw [List.getElem?_append_right (by omega)] at hi
        exact Or.inr (Or.inr ⟨by omega, hi⟩)
  have hl1 : ∀ {i : Nat} {q : Nat × va_E}, wl[i]? = some q → (wl ++ (w2 ++ wr))[i]? = some q ∧ i < wl.length := fun {i q} h => by
    have := (List.getElem?_eq_some_iff.mp h).1
    exact ⟨by rw [List.getElem?_append_left this]; exact h, this⟩
  have hr1 : ∀ {i : Nat} {q : Nat × va_E}, wr[i]? = some q → (wl ++ (w2 ++ wr))[wl.length + w2.length + i]? = some q := fun {i q} h => by
    rw [List.getElem?_append_right (by omega), List.getElem?_append_right (by omega), show wl.length + w2.length + i - wl.length - w2.length = i by omega]
    exact h
  refine ⟨fun i q hi => ?_, ⟨fun i j p q hi hj e => ?_, fun i q hi => ?_⟩, hS⟩
  · rcases hlen hi with ⟨h1, h3⟩ | ⟨h1, h3, h4⟩ | ⟨h1, h3⟩
    · have t := hout i q (hl1 h3).1 (Or.inl h1)
      exact (hh.1 i q (hl1 h3).1).kept (hk q.1 t.1 t.2)
    · exact hP _ q h4
    · have t := hout _ q (hr1 h3) (Or.inr (by omega))
      exact (hh.1 _ q (hr1 h3)).kept (hk q.1 t.1 t.2)
  · have mid : ∀ {k : Nat} {q : Nat × va_E}, w2'[k]? = some q → va_A w2 H.size q.1 := fun {k q} h => hD.2 k q h
    rcases hlen hi with ⟨a1, a2⟩ | ⟨a1, a2, a3⟩ | ⟨a1, a2⟩
    · have ti := hout i p (hl1 a2).1 (Or.inl a1)
      rcases hlen hj with ⟨b1, b2⟩ | ⟨b1, b2, b3⟩ | ⟨b1, b2⟩
      · exact hh.2.1.1 i j p q (hl1 a2).1 (hl1 b2).1 e
      · exact absurd (mid b3) (by rw [← e]; exact ti.2)
      · have := hh.2.1.1 i _ p q (hl1 a2).1 (hr1 b2) e
        omega
    · rcases hlen hj with ⟨b1, b2⟩ | ⟨b1, b2, b3⟩ | ⟨b1, b2⟩
      · have tj := hout j q (hl1 b2).1 (Or.inl b1)
        exact absurd (mid a3) (by rw [e]; exact tj.2)
      · have := hD.1 _ _ p q a3 b3 e
        omega
      · have tj := hout _ q (hr1 b2) (Or.inr (by omega))
        exact absurd (mid a3) (by rw [e]; exact tj.2)
    · have ti := hout _ p (hr1 a2) (Or.inr (by omega))
      rcases hlen hj with ⟨b1, b2⟩ | ⟨b1, b2, b3⟩ | ⟨b1, b2⟩
      · have := hh.2.1.1 _ j p q (hr1 a2) (hl1 b2).1 e
        omega
      · exact absurd (mid b3) (by rw [← e]; exact ti.2)
      · have := hh.2.1.1 _ _ p q (hr1 a2) (hr1 b2) e
        omega
  · rcases hlen hi with ⟨h1, h3⟩ | ⟨h1, h3, h4⟩ | ⟨h1, h3⟩
    · exact hh.2.1.2 i q (hl1 h3).1
    · exact hin q.1 (hD.2 _ q h4)
    · exact hh.2.1.2 _ q (hr1 h3)
theorem mj_call {post : Int → S → Prop} (hE : ze_ p c cc) (hml : c.maxLocals = nL) (hown : s.vm.findClass own = some m.cls) (hts : ∀ w ∈ Ts, w.before args s = true) (hA : ∀ q, H0.size ≤ q → A q) (hK : va_K D cl tys s) (hh : hp_ D cl A H0 (wl ++ (wf x ++ wr)) H locs) (hM : mc_i l D cl tys wf y ws rm x (.ref b :: As) post) (cw : CallW R s args own C index y bytes maxL ret ws rm 0 0 n) {T : u_T} {N : Nat} {fs : List Value} (hb : (wf x)[0]? = some (b, .inr (ci, fs))) (hc : cl[ci]? = some (C, T, N)) (hl : ls.size = nL) (hn : As.length = n) (hst : (rest.map fun v => v.category).sum ≤ 8) (hdg : decode cc pc = .ok (.invokevirtual index, 3)) (hroom : cells ≤ R.cells ∧ slots ≤ R.slots) {st : List Value} (hstk : st = As.reverse ++ .ref b :: rest)
    (kk : ∀ (z : Int) (u : S) (H : Heap) (locs : List Loc), post z u → hp_ D cl A H0 (wl ++ (wf u ++ wr)) H locs → W p l e R s m args below meth c H locs cells slots Q (F0 m (pc + 3) ls (.int (zi_ z) :: rest))) : W p l e R s m args below meth c H locs cells slots Q (F0 m pc ls st) := by
  subst hstk
  have h2 := mj_part hh
  have hFc := mc_in hA h2
  refine va_calli (va_runV (As := As) (rest := rest) (b := b) (g := F0 m pc ls (As.reverse ++ .ref b :: rest)) ⟨hE.1, hE.2, hml, hown, hts⟩ (hM H.size) cw (mc_pre hK h2 hb hc) rfl hn hl rfl (lv_room hst) hdg hroom) hh.2.2 (fun q _ h => hFc q h) hFc (fun r u t H1 locs1 ht hvm hw hB hz hk hS => ?_)
  obtain ⟨z, rfl, hw⟩ := hw
  obtain ⟨h1, -, h3⟩ := hB
  rw [ht] at h1
  exact kk z u H1 locs1 hw (mj_back hA hh h1 h3 hk hS)
theorem mj_callv {post : S → Prop} (hE : ze_ p c cc) (hml : c.maxLocals = nL) (hown : s.vm.findClass own = some m.cls) (hts : ∀ w ∈ Ts, w.before args s = true) (hA : ∀ q, H0.size ≤ q → A q) (hK : va_K D cl tys s) (hh : hp_ D cl A H0 (wl ++ (wf x ++ wr)) H locs) (hM : mc_v l D cl tys wf y ws rm x (.ref b :: As) post) (cw : CallW R s args own C index y bytes maxL ret ws rm 0 0 n) {T : u_T} {N : Nat} {fs : List Value} (hb : (wf x)[0]? = some (b, .inr (ci, fs))) (hc : cl[ci]? = some (C, T, N)) (hl : ls.size = nL) (hn : As.length = n) (hst : (rest.map fun v => v.category).sum ≤ 8) (hdg : decode cc pc = .ok (.invokevirtual index, 3)) (hroom : cells ≤ R.cells ∧ slots ≤ R.slots) {st : List Value} (hstk : st = As.reverse ++ .ref b :: rest)
    (kk : ∀ (u : S) (H : Heap) (locs : List Loc), post u → hp_ D cl A H0 (wl ++ (wf u ++ wr)) H locs → W p l e R s m args below meth c H locs cells slots Q (F0 m (pc + 3) ls rest)) : W p l e R s m args below meth c H locs cells slots Q (F0 m pc ls st) := by
  subst hstk
  have h2 := mj_part hh
  have hFc := mc_in hA h2
  refine va_callv (va_runV (As := As) (rest := rest) (b := b) (g := F0 m pc ls (As.reverse ++ .ref b :: rest)) ⟨hE.1, hE.2, hml, hown, hts⟩ (hM H.size) cw (mc_pre hK h2 hb hc) rfl hn hl rfl (lv_room hst) hdg hroom) hh.2.2 (fun q _ h => hFc q h) hFc (fun u t H1 locs1 ht hvm hw hB hz hk hS => ?_)
  obtain ⟨h1, -, h3⟩ := hB
  rw [ht] at h1
  exact kk u H1 locs1 hw (mj_back hA hh h1 h3 hk hS)
end MJ
