section MC
variable {p : Program} {l : Launch} {e : Env} {R : Room} {s : State} {m : MethodId} {args : Array Value} {below : List Frame} {meth : Method} {c : Code} {H : Heap} {locs : List Loc} {cells slots : Nat} {Q : State → Prop}
variable {cc : ByteArray} {pc : Nat} {ls : Array Slot} {rest : List Value} {D : va_G} {cl : List vw_C} {A : Nat → Prop} {b : Nat} {tys : List (ClassId × FieldType)} {H0 : Heap} {S : Type} {wf : S → va_W} {x u : S}
variable {y : MethodName} {bytes : ByteArray} {maxL nL n index ci : Nat} {ret : Option FieldType} {ws ws' : List Cond} {rm : Room} {Ts : List Cond} {own C : String} {As : List Value}
abbrev mc_P (D : va_G) (cl : List vw_C) (tys : List (ClassId × FieldType)) (w0 : va_W) (As : List Value) (sz : Nat) : Array Value → State → Prop := va_Pc As (fun U => U.heap.size = sz ∧ va_P D cl w0 U.heap ∧ va_K D cl tys U ∧ va_D (fun _ => True) w0)
abbrev mc_B {S : Type} (D : va_G) (cl : List vw_C) (tys : List (ClassId × FieldType)) (wf : S → va_W) (A : Nat → Prop) (u : S) (t : State) : Prop := va_P D cl (wf u) t.heap ∧ va_K D cl tys t ∧ va_D A (wf u)
abbrev mc_Qi {S : Type} (D : va_G) (cl : List vw_C) (tys : List (ClassId × FieldType)) (wf : S → va_W) (post : Int → S → Prop) (A : Nat → Prop) : Array Value → State → Outcome → State → Prop := va_Qi (fun (r : Int32) (u : S) => ∃ z : Int, r = zi_ z ∧ post z u) (mc_B D cl tys wf A) A
abbrev mc_Ql {S : Type} (D : va_G) (cl : List vw_C) (tys : List (ClassId × FieldType)) (wf : S → va_W) (post : Int → S → Prop) (A : Nat → Prop) : Array Value → State → Outcome → State → Prop := va_Ql (fun (r : Int64) (u : S) => ∃ z : Int, r = zl_ z ∧ post z u) (mc_B D cl tys wf A) A
abbrev mc_Qv {S : Type} (D : va_G) (cl : List vw_C) (tys : List (ClassId × FieldType)) (wf : S → va_W) (post : S → Prop) (A : Nat → Prop) : Array Value → State → Outcome → State → Prop := va_Qv post (mc_B D cl tys wf A) A
/-- a method that answers an int (or a boolean), in one object's world -/
def mc_i (l : Launch) (D : va_G) (cl : List vw_C) (tys : List (ClassId × FieldType)) (wf : S → va_W) (y : MethodName) (ws : List Cond) (rm : Room) (x : S) (As : List Value) (post : Int → S → Prop) : Prop :=
  ∀ sz : Nat, Met l y ws rm (mc_P D cl tys (wf x) As sz) (mc_Qi D cl tys wf post (va_A (wf x) sz)) 0 0 (va_A (wf x) sz)
def mc_l (l : Launch) (D : va_G) (cl : List vw_C) (tys : List (ClassId × FieldType)) (wf : S → va_W) (y : MethodName) (ws : List Cond) (rm : Room) (x : S) (As : List Value) (post : Int → S → Prop) : Prop :=
  ∀ sz : Nat, Met l y ws rm (mc_P D cl tys (wf x) As sz) (mc_Ql D cl tys wf post (va_A (wf x) sz)) 0 0 (va_A (wf x) sz)
def mc_v (l : Launch) (D : va_G) (cl : List vw_C) (tys : List (ClassId × FieldType)) (wf : S → va_W) (y : MethodName) (ws : List Cond) (rm : Room) (x : S) (As : List Value) (post : S → Prop) : Prop :=
  ∀ sz : Nat, Met l y ws rm (mc_P D cl tys (wf x) As sz) (mc_Qv D cl tys wf post (va_A (wf x) sz)) 0 0 (va_A (wf x) sz)
/-- a static method of numbers alone -/
def mc_s (l : Launch) (y : MethodName) (ws : List Cond) (rm : Room) (As : List Value) (post : Int → Prop) : Prop :=
  ∀ sz : Nat, Met l y ws rm (va_Pc As (fun U => U.heap.size = sz)) (va_Qi (fun (r : Int32) (_ : Unit) => ∃ z : Int, r = zi_ z ∧ post z) (fun _ _ => True) (fun q => sz ≤ q)) 0 0 (fun q => sz ≤ q)
theorem mc_i_of {post : Int → S → Prop} (hy : plainName y.cls = true) (hw : ws = Cond.code y cc maxL ret :: ws') (hn : (lg_sl As).length ≤ maxL)
    (body : ∀ (p : Program) (e : Env) (s : State) (m : MethodId) (below : List Frame) (meth : Method) (c : Code) (A : Nat → Prop) (ls : Array Slot), ze_ p c cc → c.maxLocals = maxL → s.vm.findClass y.cls = some m.cls → (∀ w ∈ ws, w.before As.toArray s = true) → meth.sig.returnType = ret → meth.locks = false → (∀ q, s.heap.size ≤ q → A q) → va_K D cl tys s → hp_ D cl A s.heap (wf x) s.heap [] → lv_has ls maxL (lv_args 0 As) → W p l e rm s m As.toArray below meth c s.heap [] 0 0 (MQ below (mc_Qi D cl tys wf post A) As.toArray s 0 0 A) (F0 m 0 ls [])) : mc_i l D cl tys wf y ws rm x As post := by
  intro sz
  refine Met.ofW (cc := cc) (maxL := maxL) (ret := ret) hy hw ?_
  intro p e s m args below meth c s₁ B hml hv
  obtain ⟨rfl, hsz, hP, hK, hD0⟩ := hv
  subst hsz
  have hl := lv_entry As (n := maxL) hn
  rw [lg_entry_eq]
  exact body p e s m below meth c (va_A (wf x) s.heap.size) _ ⟨B.exec, B.bytes⟩ hml (findClass_of_methodNamed B.named) (atoms_spec (ws := ws) B.pre) B.returns B.notSynchronized (fun q h => Or.inr h) hK ⟨hP, hD0.self, va_S.rf⟩ hl
theorem mc_l_of {post : Int → S → Prop} (hy : plainName y.cls = true) (hw : ws = Cond.code y cc maxL ret :: ws') (hn : (lg_sl As).length ≤ maxL)
    (body : ∀ (p : Program) (e : Env) (s : State) (m : MethodId) (below : List Frame) (meth : Method) (c : Code) (A : Nat → Prop) (ls : Array Slot), ze_ p c cc → c.maxLocals = maxL → s.vm.findClass y.cls = some m.cls → (∀ w ∈ ws, w.before As.toArray s = true) → meth.sig.returnType = ret → meth.locks = false → (∀ q, s.heap.size ≤ q → A q) → va_K D cl tys s → hp_ D cl A s.heap (wf x) s.heap [] → lv_has ls maxL (lv_args 0 As) → W p l e rm s m As.toArray below meth c s.heap [] 0 0 (MQ below (mc_Ql D cl tys wf post A) As.toArray s 0 0 A) (F0 m 0 ls [])) : mc_l l D cl tys wf y ws rm x As post := by
  intro sz
  refine Met.ofW (cc := cc) (maxL := maxL) (ret := ret) hy hw ?_
  intro p e s m args below meth c s₁ B hml hv
  obtain ⟨rfl, hsz, hP, hK, hD0⟩ := hv
  subst hsz
  have hl := lv_entry As (n := maxL) hn
  rw [lg_entry_eq]
  exact body p e s m below meth c (va_A (wf x) s.heap.size) _ ⟨B.exec, B.bytes⟩ hml (findClass_of_methodNamed B.named) (atoms_spec (ws := ws) B.pre) B.returns B.notSynchronized (fun q h => Or.inr h) hK ⟨hP, hD0.self, va_S.rf⟩ hl
theorem mc_v_of {post : S → Prop} (hy : plainName y.cls = true) (hw : ws = Cond.code y cc maxL ret :: ws') (hn : (lg_sl As).length ≤ maxL)
    (body : ∀ (p : Program) (e : Env) (s : State) (m : MethodId) (below : List Frame) (meth : Method) (c : Code) (A : Nat → Prop) (ls : Array Slot), ze_ p c cc → c.maxLocals = maxL → s.vm.findClass y.cls = some m.cls → (∀ w ∈ ws, w.before As.toArray s = true) → meth.sig.returnType = ret → meth.locks = false → (∀ q, s.heap.size ≤ q → A q) → va_K D cl tys s → hp_ D cl A s.heap (wf x) s.heap [] → lv_has ls maxL (lv_args 0 As) → W p l e rm s m As.toArray below meth c s.heap [] 0 0 (MQ below (mc_Qv D cl tys wf post A) As.toArray s 0 0 A) (F0 m 0 ls [])) : mc_v l D cl tys wf y ws rm x As post := by
  intro sz
  refine Met.ofW (cc := cc) (maxL := maxL) (ret := ret) hy hw ?_
  intro p e s m args below meth c s₁ B hml hv
  obtain ⟨rfl, hsz, hP, hK, hD0⟩ := hv
  subst hsz
  have hl := lv_entry As (n := maxL) hn
  rw [lg_entry_eq]
  exact body p e s m below meth c (va_A (wf x) s.heap.size) _ ⟨B.exec, B.bytes⟩ hml (findClass_of_methodNamed B.named) (atoms_spec (ws := ws) B.pre) B.returns B.notSynchronized (fun q h => Or.inr h) hK ⟨hP, hD0.self, va_S.rf⟩ hl
theorem mc_s_of {post : Int → Prop} (hy : plainName y.cls = true) (hw : ws = Cond.code y cc maxL ret :: ws') (hn : (lg_sl As).length ≤ maxL)
    (body : ∀ (p : Program) (e : Env) (s : State) (m : MethodId) (below : List Frame) (meth : Method) (c : Code) (ls : Array Slot), ze_ p c cc → c.maxLocals = maxL → s.vm.findClass y.cls = some m.cls → (∀ w ∈ ws, w.before As.toArray s = true) → meth.sig.returnType = ret → meth.locks = false → lv_has ls maxL (lv_args 0 As) → W p l e rm s m As.toArray below meth c s.heap [] 0 0 (MQ below (va_Qi (fun (r : Int32) (_ : Unit) => ∃ z : Int, r = zi_ z ∧ post z) (fun _ _ => True) (fun q => s.heap.size ≤ q)) As.toArray s 0 0 (fun q => s.heap.size ≤ q)) (F0 m 0 ls [])) : mc_s l y ws rm As post := by
  intro sz
  refine Met.ofW (cc := cc) (maxL := maxL) (ret := ret) hy hw ?_
  intro p e s m args below meth c s₁ B hml hv
  obtain ⟨rfl, hsz⟩ := hv
  subst hsz
  have hl := lv_entry As (n := maxL) hn
  rw [lg_entry_eq]
  exact body p e s m below meth c _ ⟨B.exec, B.bytes⟩ hml (findClass_of_methodNamed B.named) (atoms_spec (ws := ws) B.pre) B.returns B.notSynchronized hl
theorem mc_ret {post : Int → S → Prop} {z : Int} (hE : ze_ p c cc) (hr : meth.sig.returnType = some .int) (hlk : meth.locks = false) (hK : va_K D cl tys s) (hh : hp_ D cl A s.heap (wf u) H locs) (hdg : decode cc pc = .ok (.ireturn, 1)) (hq : post z u) : W p l e R s m args below meth c H locs 0 0 (MQ below (mc_Qi D cl tys wf post A) args s 0 0 A) (F0 m pc ls [.int (zi_ z)]) :=
  W.iret (v := zi_ z) hE.1 hE.2 hr (fun t ht hW => ⟨⟨zi_ z, u, rfl, ⟨z, rfl, hq⟩, by rw [ht]; exact hh.1, va_K.moved hW.alike hK, hh.2.1⟩, hh.2.2.F ht⟩) hh.2.2.2.2 hdg hlk
theorem mc_retz {post : Int → S → Prop} {z : Int} (hE : ze_ p c cc) (hr : meth.sig.returnType = some .boolean) (hlk : meth.locks = false) (hK : va_K D cl tys s) (hh : hp_ D cl A s.heap (wf u) H locs) (hdg : decode cc pc = .ok (.ireturn, 1)) (hz : zb_ z) (hq : post z u) : W p l e R s m args below meth c H locs 0 0 (MQ below (mc_Qi D cl tys wf post A) args s 0 0 A) (F0 m pc ls [.int (zi_ z)]) :=
  W.zret (v := zi_ z) hE.1 hE.2 hr (zb_ret hz) (fun t ht hW => ⟨⟨zi_ z, u, rfl, ⟨z, rfl, hq⟩, by rw [ht]; exact hh.1, va_K.moved hW.alike hK, hh.2.1⟩, hh.2.2.F ht⟩) hh.2.2.2.2 hdg hlk
theorem mc_retl {post : Int → S → Prop} {z : Int} (hE : ze_ p c cc) (hr : meth.sig.returnType = some .long) (hlk : meth.locks = false) (hK : va_K D cl tys s) (hh : hp_ D cl A s.heap (wf u) H locs) (hdg : decode cc pc = .ok (.lreturn, 1)) (hq : post z u) : W p l e R s m args below meth c H locs 0 0 (MQ below (mc_Ql D cl tys wf post A) args s 0 0 A) (F0 m pc ls [.long (zl_ z)]) :=
  W.lret (v := zl_ z) hE.1 hE.2 hr (fun t ht hW => ⟨⟨zl_ z, u, rfl, ⟨z, rfl, hq⟩, by rw [ht]; exact hh.1, va_K.moved hW.alike hK, hh.2.1⟩, hh.2.2.F ht⟩) hh.2.2.2.2 hdg hlk
theorem mc_retv {post : S → Prop} (hE : ze_ p c cc) (hr : meth.sig.returnType = none) (hlk : meth.locks = false) (hK : va_K D cl tys s) (hh : hp_ D cl A s.heap (wf u) H locs) (hdg : decode cc pc = .ok (.return_, 1)) (hq : post u) : W p l e R s m args below meth c H locs 0 0 (MQ below (mc_Qv D cl tys wf post A) args s 0 0 A) (F0 m pc ls []) :=
  W.vret hE.1 hE.2 hr (fun t ht hW => ⟨⟨u, rfl, hq, by rw [ht]; exact hh.1, va_K.moved hW.alike hK, hh.2.1⟩, hh.2.2.F ht⟩) hh.2.2.2.2 hdg hlk
theorem mc_rets {post : Int → Prop} {z : Int} (hE : ze_ p c cc) (hr : meth.sig.returnType = some .boolean) (hlk : meth.locks = false) (hdg : decode cc pc = .ok (.ireturn, 1)) (hz : zb_ z) (hq : post z) : W p l e R s m args below meth c s.heap [] 0 0 (MQ below (va_Qi (fun (r : Int32) (_ : Unit) => ∃ z : Int, r = zi_ z ∧ post z) (fun _ _ => True) (fun q => s.heap.size ≤ q)) args s 0 0 (fun q => s.heap.size ≤ q)) (F0 m pc ls [.int (zi_ z)]) :=
  W.zret (v := zi_ z) hE.1 hE.2 hr (zb_ret hz) (fun t ht hW => ⟨⟨zi_ z, (), rfl, ⟨z, rfl, hq⟩, trivial⟩, by rw [ht]; exact Nat.le_refl _, fun q _ _ => by rw [ht]⟩) (fun q hq => by cases hq) hdg hlk
theorem mc_in (hA : ∀ q, H0.size ≤ q → A q) (hh : hp_ D cl A H0 (wf x) H locs) : ∀ q, va_A (wf x) H.size q → A q := fun q h => by
  rcases h with ⟨k, e, hk⟩ | h
  · exact hh.2.1.2 k _ hk
  · exact hA q (Nat.le_trans hh.2.2.1 h)
theorem mc_pre (hK : va_K D cl tys s) (hh : hp_ D cl A H0 (wf x) H locs) {T : u_T} {N : Nat} {fs : List Value} (hb : (wf x)[0]? = some (b, .inr (ci, fs))) (hc : cl[ci]? = some (C, T, N)) : PreV s H C b (mc_P D cl tys (wf x) (.ref b :: As) H.size) As :=
  ⟨fun a U g mk q => by obtain ⟨q0, q1, qP, qK, qD⟩ := q; exact ⟨q0, q1, qP, va_K.moved (u := U) (U := U.calling g mk a) (Vm.Alike.refl U.vm) qK, qD⟩, va_recv hK hh.1 hc hb, fun U hU hW => ⟨rfl, by rw [hU], by rw [hU]; exact hh.1, va_K.moved hW.alike hK, hh.2.1.weaken (fun _ _ _ _ => trivial)⟩⟩
theorem mc_call {post : Int → S → Prop} (hE : ze_ p c cc) (hml : c.maxLocals = nL) (hown : s.vm.findClass own = some m.cls) (hts : ∀ w ∈ Ts, w.before args s = true) (hA : ∀ q, H0.size ≤ q → A q) (hK : va_K D cl tys s) (hh : hp_ D cl A H0 (wf x) H locs) (hM : mc_i l D cl tys wf y ws rm x (.ref b :: As) post) (cw : CallW R s args own C index y bytes maxL ret ws rm 0 0 n) {T : u_T} {N : Nat} {fs : List Value} (hb : (wf x)[0]? = some (b, .inr (ci, fs))) (hc : cl[ci]? = some (C, T, N)) (hl : ls.size = nL) (hn : As.length = n) (hst : (rest.map fun v => v.category).sum ≤ 8) (hdg : decode cc pc = .ok (.invokevirtual index, 3)) (hroom : cells ≤ R.cells ∧ slots ≤ R.slots) {st : List Value} (hstk : st = As.reverse ++ .ref b :: rest)
    (kk : ∀ (z : Int) (u : S) (H : Heap) (locs : List Loc), post z u → hp_ D cl A H0 (wf u) H locs → W p l e R s m args below meth c H locs cells slots Q (F0 m (pc + 3) ls (.int (zi_ z) :: rest))) : W p l e R s m args below meth c H locs cells slots Q (F0 m pc ls st) := by
  subst hstk
  have hFc := mc_in hA hh
  refine va_calli (va_runV (As := As) (rest := rest) (b := b) (g := F0 m pc ls (As.reverse ++ .ref b :: rest)) ⟨hE.1, hE.2, hml, hown, hts⟩ (hM H.size) cw (mc_pre hK hh hb hc) rfl hn hl rfl (lv_room hst) hdg hroom) hh.2.2 (fun q _ h => hFc q h) hFc (fun r u t H1 locs1 ht hvm hw hB hz hk hS => ?_)
  obtain ⟨z, rfl, hw⟩ := hw
  obtain ⟨h1, h2, h3⟩ := hB
  rw [ht] at h1
  exact kk z u H1 locs1 hw ⟨h1, h3.weaken (fun _ q _ h => hFc q.1 h), hS⟩
theorem mc_calll {post : Int → S → Prop} (hE : ze_ p c cc) (hml : c.maxLocals = nL) (hown : s.vm.findClass own = some m.cls) (hts : ∀ w ∈ Ts, w.before args s = true) (hA : ∀ q, H0.size ≤ q → A q) (hK : va_K D cl tys s) (hh : hp_ D cl A H0 (wf x) H locs) (hM : mc_l l D cl tys wf y ws rm x (.ref b :: As) post) (cw : CallW R s args own C index y bytes maxL ret ws rm 0 0 n) {T : u_T} {N : Nat} {fs : List Value} (hb : (wf x)[0]? = some (b, .inr (ci, fs))) (hc : cl[ci]? = some (C, T, N)) (hl : ls.size = nL) (hn : As.length = n) (hst : (rest.map fun v => v.category).sum ≤ 8) (hdg : decode cc pc = .ok (.invokevirtual index, 3)) (hroom : cells ≤ R.cells ∧ slots ≤ R.slots) {st : List Value} (hstk : st = As.reverse ++ .ref b :: rest)
    (kk : ∀ (z : Int) (u : S) (H : Heap) (locs : List Loc), post z u → hp_ D cl A H0 (wf u) H locs → W p l e R s m args below meth c H locs cells slots Q (F0 m (pc + 3) ls (.long (zl_ z) :: rest))) : W p l e R s m args below meth c H locs cells slots Q (F0 m pc ls st) := by
  subst hstk
  have hFc := mc_in hA hh
  refine va_calll (va_runV (As := As) (rest := rest) (b := b) (g := F0 m pc ls (As.reverse ++ .ref b :: rest)) ⟨hE.1, hE.2, hml, hown, hts⟩ (hM H.size) cw (mc_pre hK hh hb hc) rfl hn hl rfl (lv_room hst) hdg hroom) hh.2.2 (fun q _ h => hFc q h) hFc (fun r u t H1 locs1 ht hvm hw hB hz hk hS => ?_)
  obtain ⟨z, rfl, hw⟩ := hw
  obtain ⟨h1, h2, h3⟩ := hB
  rw [ht] at h1
  exact kk z u H1 locs1 hw ⟨h1, h3.weaken (fun _ q _ h => hFc q.1 h), hS⟩
theorem mc_callv {post : S → Prop} (hE : ze_ p c cc) (hml : c.maxLocals = nL) (hown : s.vm.findClass own = some m.cls) (hts : ∀ w ∈ Ts, w.before args s = true) (hA : ∀ q, H0.size ≤ q → A q) (hK : va_K D cl tys s) (hh : hp_ D cl A H0 (wf x) H locs) (hM : mc_v l D cl tys wf y ws rm x (.ref b :: As) post) (cw : CallW R s args own C index y bytes maxL ret ws rm 0 0 n) {T : u_T} {N : Nat} {fs : List Value} (hb : (wf x)[0]? = some (b, .inr (ci, fs))) (hc : cl[ci]? = some (C, T, N)) (hl : ls.size = nL) (hn : As.length = n) (hst : (rest.map fun v => v.category).sum ≤ 8) (hdg : decode cc pc = .ok (.invokevirtual index, 3)) (hroom : cells ≤ R.cells ∧ slots ≤ R.slots) {st : List Value} (hstk : st = As.reverse ++ .ref b :: rest)
    (kk : ∀ (u : S) (H : Heap) (locs : List Loc), post u → hp_ D cl A H0 (wf u) H locs → W p l e R s m args below meth c H locs cells slots Q (F0 m (pc + 3) ls rest)) : W p l e R s m args below meth c H locs cells slots Q (F0 m pc ls st) := by
  subst hstk
  have hFc := mc_in hA hh
  refine va_callv (va_runV (As := As) (rest := rest) (b := b) (g := F0 m pc ls (As.reverse ++ .ref b :: rest)) ⟨hE.1, hE.2, hml, hown, hts⟩ (hM H.size) cw (mc_pre hK hh hb hc) rfl hn hl rfl (lv_room hst) hdg hroom) hh.2.2 (fun q _ h => hFc q h) hFc (fun u t H1 locs1 ht hvm hw hB hz hk hS => ?_)
  obtain ⟨h1, h2, h3⟩ := hB
  rw [ht] at h1
  exact kk u H1 locs1 hw ⟨h1, h3.weaken (fun _ q _ h => hFc q.1 h), hS⟩
theorem mc_calls {ws9 : va_W} {post : Int → Prop} (hE : ze_ p c cc) (hml : c.maxLocals = nL) (hown : s.vm.findClass own = some m.cls) (hts : ∀ w ∈ Ts, w.before args s = true) (hA : ∀ q, H0.size ≤ q → A q) (hh : hp_ D cl A H0 ws9 H locs) (hM : mc_s l y ws rm As post) (cw : CallB R s args own index y bytes maxL ret ws rm 0 0 n ∧ (Cond.static y).before args s = true) (hl : ls.size = nL) (hn : As.length = n) (hst : (rest.map fun v => v.category).sum ≤ 8) (hdg : decode cc pc = .ok (.invokestatic index, 3)) (hroom : cells ≤ R.cells ∧ slots ≤ R.slots) {st : List Value} (hstk : st = As.reverse ++ rest)
    (kk : ∀ (z : Int) (H : Heap) (locs : List Loc), post z → hp_ D cl A H0 ws9 H locs → W p l e R s m args below meth c H locs cells slots Q (F0 m (pc + 3) ls (.int (zi_ z) :: rest))) : W p l e R s m args below meth c H locs cells slots Q (F0 m pc ls st) := by
  subst hstk
  have hFc : ∀ q, H.size ≤ q → A q := fun q h => hA q (Nat.le_trans hh.2.2.1 h)
  refine va_calli (va_runS (As := As) (rest := rest) (g := F0 m pc ls (As.reverse ++ rest)) ⟨hE.1, hE.2, hml, hown, hts⟩ (hM H.size) cw ⟨fun a U g mk q => ⟨q.1, q.2⟩, fun U hU hW => ⟨rfl, by show U.heap.size = H.size; rw [hU]⟩⟩ rfl hn hl rfl (lv_room hst) hdg hroom) hh.2.2 (fun q _ h => hFc q h) hFc (fun r u t H1 locs1 ht hvm hw hB hz hk hS => ?_)
  obtain ⟨z, rfl, hw⟩ := hw
  exact kk z H1 locs1 hw ⟨hh.1.kept (fun k q hq => hk q.1 (hh.1 k q hq).lt (Nat.not_le.mpr (hh.1 k q hq).lt)), hh.2.1, hS⟩
end MC
